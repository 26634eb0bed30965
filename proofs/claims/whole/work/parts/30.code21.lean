def f_X8_askOf (h : Hp) (a1 : Int32) : Option (Hp × Int32) :=
  bnd (f_X8_polesOf h a1) fun h1 x2 =>
  fx2 FU (fun s1 (x3 : Int32) (x4 : Int32) =>
    if (24 : Int32) ≤ x4 then (
      some (h1, x3))
    else (
      bdr (f_X8_alike h1 x2 x4) fun x5 =>
      bdr (f_X8_alike h1 x2 x3) fun x6 =>
      lt1 (fun (x7 : Int32) =>
        nm (x4 + (1 : Int32)) fun x8 =>
        s1 x7 x8) fun k2 =>
      if x6 ≤ x5 then (
        k2 x3)
      else (
        k2 x4))) (0 : Int32) (1 : Int32)
theorem dX8_askOf_0 : decode cX8_askOf 0 = .ok (.aload_n 0, 1) := by decide +kernel
theorem dX8_askOf_1 : decode cX8_askOf 1 = .ok (.iload_n 1, 1) := by decide +kernel
theorem dX8_askOf_2 : decode cX8_askOf 2 = .ok (.invokevirtual 277, 3) := by decide +kernel
theorem dX8_askOf_5 : decode cX8_askOf 5 = .ok (.istore_n 2, 1) := by decide +kernel
theorem dX8_askOf_6 : decode cX8_askOf 6 = .ok (.iconst 0, 1) := by decide +kernel
theorem dX8_askOf_7 : decode cX8_askOf 7 = .ok (.istore_n 3, 1) := by decide +kernel
theorem dX8_askOf_8 : decode cX8_askOf 8 = .ok (.iconst 1, 1) := by decide +kernel
theorem dX8_askOf_9 : decode cX8_askOf 9 = .ok (.istore 4, 2) := by decide +kernel
theorem dX8_askOf_11 : decode cX8_askOf 11 = .ok (.iload 4, 2) := by decide +kernel
theorem dX8_askOf_13 : decode cX8_askOf 13 = .ok (.bipush 24, 2) := by decide +kernel
theorem dX8_askOf_15 : decode cX8_askOf 15 = .ok (.if_icmp .ge 32, 3) := by decide +kernel
theorem dX8_askOf_18 : decode cX8_askOf 18 = .ok (.aload_n 0, 1) := by decide +kernel
theorem dX8_askOf_19 : decode cX8_askOf 19 = .ok (.iload_n 2, 1) := by decide +kernel
theorem dX8_askOf_20 : decode cX8_askOf 20 = .ok (.iload 4, 2) := by decide +kernel
theorem dX8_askOf_22 : decode cX8_askOf 22 = .ok (.invokevirtual 286, 3) := by decide +kernel
theorem dX8_askOf_25 : decode cX8_askOf 25 = .ok (.aload_n 0, 1) := by decide +kernel
theorem dX8_askOf_26 : decode cX8_askOf 26 = .ok (.iload_n 2, 1) := by decide +kernel
theorem dX8_askOf_27 : decode cX8_askOf 27 = .ok (.iload_n 3, 1) := by decide +kernel
theorem dX8_askOf_28 : decode cX8_askOf 28 = .ok (.invokevirtual 286, 3) := by decide +kernel
theorem dX8_askOf_31 : decode cX8_askOf 31 = .ok (.if_icmp .ge 8, 3) := by decide +kernel
theorem dX8_askOf_34 : decode cX8_askOf 34 = .ok (.iload 4, 2) := by decide +kernel
theorem dX8_askOf_36 : decode cX8_askOf 36 = .ok (.goto 4, 3) := by decide +kernel
theorem dX8_askOf_39 : decode cX8_askOf 39 = .ok (.iload_n 3, 1) := by decide +kernel
theorem dX8_askOf_40 : decode cX8_askOf 40 = .ok (.istore_n 3, 1) := by decide +kernel
theorem dX8_askOf_41 : decode cX8_askOf 41 = .ok (.iinc 4 1, 3) := by decide +kernel
theorem dX8_askOf_44 : decode cX8_askOf 44 = .ok (.goto (-33), 3) := by decide +kernel
theorem dX8_askOf_47 : decode cX8_askOf 47 = .ok (.iload_n 3, 1) := by decide +kernel
theorem dX8_askOf_48 : decode cX8_askOf 48 = .ok (.ireturn, 1) := by decide +kernel
set_option maxRecDepth 20000 in
theorem m_X8_askOf {h : Hp} {a1 : Int32}  {u : (Hp × Int32)} (hu : f_X8_askOf h a1 = some u) : Ct yX8_askOf cX8_askOf 5 (some .int) 8 [.ref 68, .int a1] h (eI u) := by
  refine ct_of eI hu (by decide) (Nat.le_of_ble_eq_true rfl) (fun κ hn C E => ?_)
  have n2 : 2 < kn κ := by rw [hn]; decide
  have n3 : 3 < kn κ := by rw [hn]; decide
  have n4 : 4 < kn κ := by rw [hn]; decide
  unfold f_X8_askOf
  show Xz κ _ 0 [(0, .ref 68), (1, .int a1)] [] h
  refine x_aload_n 1 C dX8_askOf_0 0 rfl rfl rfl ?_
  refine x_iload_n 2 C dX8_askOf_1 1 rfl rfl rfl ?_
  refine x_cvI 5 [.int a1] [] C 7 dX8_askOf_2 v_X8_277 (fun u hu => m_X8_polesOf hu) rfl sk_68 rfl (Nat.le_of_ble_eq_true rfl) (Nat.le_of_ble_eq_true rfl) rfl (fun h1 x2 => ?_)
  refine x_istore_n 6 [(2, .int x2), (0, .ref 68), (1, .int a1)] C dX8_askOf_5 n2 rfl rfl rfl ?_
  refine x_iconst 7 C dX8_askOf_6 ci_0 rfl ?_
  refine x_istore_n 8 [(3, .int (0 : Int32)), (2, .int x2), (0, .ref 68), (1, .int a1)] C dX8_askOf_7 n3 rfl rfl rfl ?_
  refine x_iconst 9 C dX8_askOf_8 ci_1 rfl ?_
  refine x_istore 11 [(4, .int (1 : Int32)), (3, .int (0 : Int32)), (2, .int x2), (0, .ref 68), (1, .int a1)] C dX8_askOf_9 n4 rfl rfl ?_
  refine x_ls [3, 2, 1, 0] rfl (x_fx2 (ls := fun x3 x4 => [(0, .ref 68), (2, .int x2), (3, .int x3), (4, .int x4)]) (st := fun x3 x4 => []) (hh := fun x3 x4 => h1) (fun s1 J1 x3 x4 => ?_))
  refine x_iload 13 C dX8_askOf_11 3 rfl rfl ?_
  refine x_bipush 15 C dX8_askOf_13 cb_24 rfl ?_
  refine x_icmp_ge 18 47 C dX8_askOf_15 (by decide) rfl (fun _ => ?_) (fun _ => ?_)
  · refine x_iload_n 48 C dX8_askOf_47 2 rfl rfl rfl ?_
    exact x_iret C E dX8_askOf_48 rfl
  · refine x_aload_n 19 C dX8_askOf_18 0 rfl rfl rfl ?_
    refine x_iload_n 20 C dX8_askOf_19 1 rfl rfl rfl ?_
    refine x_iload 22 C dX8_askOf_20 3 rfl rfl ?_
    refine x_cvi 25 [.int x2, .int x4] [] C 1 dX8_askOf_22 v_X8_286 (fun u hu => m_X8_alike hu) rfl sk_68 rfl (Nat.le_of_ble_eq_true rfl) (Nat.le_of_ble_eq_true rfl) rfl (fun x5 => ?_)
    refine x_aload_n 26 C dX8_askOf_25 0 rfl rfl rfl ?_
    refine x_iload_n 27 C dX8_askOf_26 1 rfl rfl rfl ?_
    refine x_iload_n 28 C dX8_askOf_27 2 rfl rfl rfl ?_
    refine x_cvi 31 [.int x2, .int x3] [.int x5] C 1 dX8_askOf_28 v_X8_286 (fun u hu => m_X8_alike hu) rfl sk_68 rfl (Nat.le_of_ble_eq_true rfl) (Nat.le_of_ble_eq_true rfl) rfl (fun x6 => ?_)
    refine x_lt1 (q := 40) (ls := fun x7 => [(0, .ref 68), (2, .int x2), (4, .int x4)]) (st := fun x7 => [.int x7]) (hh := fun x7 => h1) (fun x7 => ?_) (fun k2 J2 => ?_)
    · refine x_istore_n 41 [(3, .int x7), (0, .ref 68), (2, .int x2), (4, .int x4)] C dX8_askOf_40 n3 rfl rfl rfl ?_
      refine x_iinc 44 (fun x8 => [(4, .int x8), (3, .int x7), (0, .ref 68), (2, .int x2)]) C dX8_askOf_41 3 rfl ci_1 n4 (fun _ => rfl) rfl (fun x8 => ?_)
      refine x_goto 11 C dX8_askOf_44 (by decide) ?_
      exact x_ls [2, 3, 1, 0] rfl (J1 x7 x8)
    refine x_icmp_ge 34 39 C dX8_askOf_31 (by decide) rfl (fun _ => ?_) (fun _ => ?_)
    · refine x_iload_n 40 C dX8_askOf_39 2 rfl rfl rfl ?_
      exact x_ls [0, 1, 3] rfl (J2 x3)
    · refine x_iload 36 C dX8_askOf_34 3 rfl rfl ?_
      refine x_goto 40 C dX8_askOf_36 (by decide) ?_
      exact x_ls [0, 1, 3] rfl (J2 x4)

def f_X8_ask (h : Hp) (a1 : Int32) : Option (Hp × Int32) :=
  bdv (f_X8_find h) fun h1 =>
  bdr (f_X8_isWalker h1 a1) fun x2 =>
  if x2 = 0 then (
    some (h1, (-2 : Int32)))
  else (
    bnd (f_X8_askOf h1 a1) fun h3 x4 =>
    some (h3, x4))
theorem dX8_ask_0 : decode cX8_ask 0 = .ok (.aload_n 0, 1) := by decide +kernel
theorem dX8_ask_1 : decode cX8_ask 1 = .ok (.invokevirtual 220, 3) := by decide +kernel
theorem dX8_ask_4 : decode cX8_ask 4 = .ok (.aload_n 0, 1) := by decide +kernel
theorem dX8_ask_5 : decode cX8_ask 5 = .ok (.iload_n 1, 1) := by decide +kernel
theorem dX8_ask_6 : decode cX8_ask 6 = .ok (.invokevirtual 151, 3) := by decide +kernel
theorem dX8_ask_9 : decode cX8_ask 9 = .ok (.ifCond .eq 11, 3) := by decide +kernel
theorem dX8_ask_12 : decode cX8_ask 12 = .ok (.aload_n 0, 1) := by decide +kernel
theorem dX8_ask_13 : decode cX8_ask 13 = .ok (.iload_n 1, 1) := by decide +kernel
theorem dX8_ask_14 : decode cX8_ask 14 = .ok (.invokevirtual 289, 3) := by decide +kernel
theorem dX8_ask_17 : decode cX8_ask 17 = .ok (.goto 5, 3) := by decide +kernel
theorem dX8_ask_20 : decode cX8_ask 20 = .ok (.bipush (-2), 2) := by decide +kernel
theorem dX8_ask_22 : decode cX8_ask 22 = .ok (.ireturn, 1) := by decide +kernel
set_option maxRecDepth 20000 in
theorem m_X8_ask {h : Hp} {a1 : Int32}  {u : (Hp × Int32)} (hu : f_X8_ask h a1 = some u) : Ct yX8_ask cX8_ask 2 (some .int) 9 [.ref 68, .int a1] h (eI u) := by
  refine ct_of eI hu (by decide) (Nat.le_of_ble_eq_true rfl) (fun κ hn C E => ?_)
  unfold f_X8_ask
  show Xz κ _ 0 [(0, .ref 68), (1, .int a1)] [] h
  refine x_aload_n 1 C dX8_ask_0 0 rfl rfl rfl ?_
  refine x_cvV 4 [] [] C 6 dX8_ask_1 v_X8_220 (fun u hu => m_X8_find hu) rfl sk_68 rfl (Nat.le_of_ble_eq_true rfl) (Nat.le_of_ble_eq_true rfl) rfl (fun h1 => ?_)
  refine x_aload_n 5 C dX8_ask_4 0 rfl rfl rfl ?_
  refine x_iload_n 6 C dX8_ask_5 1 rfl rfl rfl ?_
  refine x_cvi 9 [.int a1] [] C 1 dX8_ask_6 v_X8_151 (fun u hu => m_X8_isWalker hu) rfl sk_68 rfl (Nat.le_of_ble_eq_true rfl) (Nat.le_of_ble_eq_true rfl) rfl (fun x2 => ?_)
  refine x_if_eq 12 20 C dX8_ask_9 (by decide) rfl (fun _ => ?_) (fun _ => ?_)
  · refine x_bipush 22 C dX8_ask_20 cb_m2 rfl ?_
    exact x_iret C E dX8_ask_22 rfl
  · refine x_aload_n 13 C dX8_ask_12 0 rfl rfl rfl ?_
    refine x_iload_n 14 C dX8_ask_13 1 rfl rfl rfl ?_
    refine x_cvI 17 [.int a1] [] C 8 dX8_ask_14 v_X8_289 (fun u hu => m_X8_askOf hu) rfl sk_68 rfl (Nat.le_of_ble_eq_true rfl) (Nat.le_of_ble_eq_true rfl) rfl (fun h3 x4 => ?_)
    refine x_goto 22 C dX8_ask_17 (by decide) ?_
    exact x_iret C E dX8_ask_22 rfl

def f_X8_chanceOf (h : Hp) (a1 : Int32) (a2 : Int32) (a3 : Int32) : Option (Hp × Int64) :=
  lt2 (fun (h1 : Hp) (l2 : Int64) =>
    nm (uf h1 68 14 (0 : Int32)) fun h3 =>
    bdr (f_X8_part l2 ((1 : Int64) <<< (((4 : Int32) * (h3.1 68 12)).toInt64 &&& 63)) a3) fun l4 =>
    some (h3, l4)) fun k1 =>
  fx3 FU (fun s2 (h5 : Hp) (l6 : Int64) (x7 : Int32) =>
    if ((1 : Int32) <<< ((h5.1 68 12) &&& 31)) ≤ x7 then (
      k1 h5 l6)
    else (
      nm (uf h5 68 14 x7) fun h8 =>
      bdv (f_X8_lives h8) fun h9 =>
      ck a2 6 (
        lt1 (fun (l10 : Int64) =>
          lt1 (fun (l11 : Int64) =>
            nm (l6 + l11) fun l12 =>
            nm (x7 + (1 : Int32)) fun x13 =>
            s2 h9 l12 x13) fun k4 =>
          fx2 FU (fun s5 (l14 : Int64) (x15 : Int32) =>
            if (h9.1 68 12) ≤ x15 then (
              k4 l14)
            else (
              bdr (f_X8_isIn x7 x15) fun x16 =>
              lt1 (fun (l17 : Int64) =>
                nm (l14 * l17) fun l18 =>
                nm (x15 + (1 : Int32)) fun x19 =>
                s5 l18 x19) fun k6 =>
              if x16 = 0 then (
                k6 (a1.toInt64))
              else (
                k6 (((16 : Int32) - a1).toInt64)))) l10 (0 : Int32)) fun k3 =>
        if (ia h9 79 a2) = (2 : Int32) then (
          k3 (1 : Int64))
        else (
          k3 (0 : Int64))))) h (0 : Int64) (0 : Int32)
theorem dX8_chanceOf_0 : decode cX8_chanceOf 0 = .ok (.lconst 0, 1) := by decide +kernel
theorem dX8_chanceOf_1 : decode cX8_chanceOf 1 = .ok (.lstore 4, 2) := by decide +kernel
theorem dX8_chanceOf_3 : decode cX8_chanceOf 3 = .ok (.iconst 0, 1) := by decide +kernel
theorem dX8_chanceOf_4 : decode cX8_chanceOf 4 = .ok (.istore 6, 2) := by decide +kernel
theorem dX8_chanceOf_6 : decode cX8_chanceOf 6 = .ok (.iload 6, 2) := by decide +kernel
theorem dX8_chanceOf_8 : decode cX8_chanceOf 8 = .ok (.iconst 1, 1) := by decide +kernel
theorem dX8_chanceOf_9 : decode cX8_chanceOf 9 = .ok (.aload_n 0, 1) := by decide +kernel
theorem dX8_chanceOf_10 : decode cX8_chanceOf 10 = .ok (.getfield 169, 3) := by decide +kernel
theorem dX8_chanceOf_13 : decode cX8_chanceOf 13 = .ok (.ishl, 1) := by decide +kernel
theorem dX8_chanceOf_14 : decode cX8_chanceOf 14 = .ok (.if_icmp .ge 86, 3) := by decide +kernel
theorem dX8_chanceOf_17 : decode cX8_chanceOf 17 = .ok (.aload_n 0, 1) := by decide +kernel
theorem dX8_chanceOf_18 : decode cX8_chanceOf 18 = .ok (.iload 6, 2) := by decide +kernel
theorem dX8_chanceOf_20 : decode cX8_chanceOf 20 = .ok (.putfield 178, 3) := by decide +kernel
theorem dX8_chanceOf_23 : decode cX8_chanceOf 23 = .ok (.aload_n 0, 1) := by decide +kernel
theorem dX8_chanceOf_24 : decode cX8_chanceOf 24 = .ok (.invokevirtual 217, 3) := by decide +kernel
theorem dX8_chanceOf_27 : decode cX8_chanceOf 27 = .ok (.aload_n 0, 1) := by decide +kernel
theorem dX8_chanceOf_28 : decode cX8_chanceOf 28 = .ok (.getfield 40, 3) := by decide +kernel
theorem dX8_chanceOf_31 : decode cX8_chanceOf 31 = .ok (.iload_n 2, 1) := by decide +kernel
theorem dX8_chanceOf_32 : decode cX8_chanceOf 32 = .ok (.iaload, 1) := by decide +kernel
theorem dX8_chanceOf_33 : decode cX8_chanceOf 33 = .ok (.iconst 2, 1) := by decide +kernel
theorem dX8_chanceOf_34 : decode cX8_chanceOf 34 = .ok (.if_icmp .ne 7, 3) := by decide +kernel
theorem dX8_chanceOf_37 : decode cX8_chanceOf 37 = .ok (.lconst 1, 1) := by decide +kernel
theorem dX8_chanceOf_38 : decode cX8_chanceOf 38 = .ok (.goto 4, 3) := by decide +kernel
theorem dX8_chanceOf_41 : decode cX8_chanceOf 41 = .ok (.lconst 0, 1) := by decide +kernel
theorem dX8_chanceOf_42 : decode cX8_chanceOf 42 = .ok (.lstore 7, 2) := by decide +kernel
theorem dX8_chanceOf_44 : decode cX8_chanceOf 44 = .ok (.iconst 0, 1) := by decide +kernel
theorem dX8_chanceOf_45 : decode cX8_chanceOf 45 = .ok (.istore 9, 2) := by decide +kernel
theorem dX8_chanceOf_47 : decode cX8_chanceOf 47 = .ok (.iload 9, 2) := by decide +kernel
theorem dX8_chanceOf_49 : decode cX8_chanceOf 49 = .ok (.aload_n 0, 1) := by decide +kernel
theorem dX8_chanceOf_50 : decode cX8_chanceOf 50 = .ok (.getfield 169, 3) := by decide +kernel
theorem dX8_chanceOf_53 : decode cX8_chanceOf 53 = .ok (.if_icmp .ge 34, 3) := by decide +kernel
theorem dX8_chanceOf_56 : decode cX8_chanceOf 56 = .ok (.lload 7, 2) := by decide +kernel
theorem dX8_chanceOf_58 : decode cX8_chanceOf 58 = .ok (.iload 6, 2) := by decide +kernel
theorem dX8_chanceOf_60 : decode cX8_chanceOf 60 = .ok (.iload 9, 2) := by decide +kernel
theorem dX8_chanceOf_62 : decode cX8_chanceOf 62 = .ok (.invokestatic 181, 3) := by decide +kernel
theorem dX8_chanceOf_65 : decode cX8_chanceOf 65 = .ok (.ifCond .eq 11, 3) := by decide +kernel
theorem dX8_chanceOf_68 : decode cX8_chanceOf 68 = .ok (.bipush 16, 2) := by decide +kernel
theorem dX8_chanceOf_70 : decode cX8_chanceOf 70 = .ok (.iload_n 1, 1) := by decide +kernel
theorem dX8_chanceOf_71 : decode cX8_chanceOf 71 = .ok (.isub, 1) := by decide +kernel
theorem dX8_chanceOf_72 : decode cX8_chanceOf 72 = .ok (.i2l, 1) := by decide +kernel
theorem dX8_chanceOf_73 : decode cX8_chanceOf 73 = .ok (.goto 5, 3) := by decide +kernel
theorem dX8_chanceOf_76 : decode cX8_chanceOf 76 = .ok (.iload_n 1, 1) := by decide +kernel
theorem dX8_chanceOf_77 : decode cX8_chanceOf 77 = .ok (.i2l, 1) := by decide +kernel
theorem dX8_chanceOf_78 : decode cX8_chanceOf 78 = .ok (.lmul, 1) := by decide +kernel
theorem dX8_chanceOf_79 : decode cX8_chanceOf 79 = .ok (.lstore 7, 2) := by decide +kernel
theorem dX8_chanceOf_81 : decode cX8_chanceOf 81 = .ok (.iinc 9 1, 3) := by decide +kernel
theorem dX8_chanceOf_84 : decode cX8_chanceOf 84 = .ok (.goto (-37), 3) := by decide +kernel
theorem dX8_chanceOf_87 : decode cX8_chanceOf 87 = .ok (.lload 4, 2) := by decide +kernel
theorem dX8_chanceOf_89 : decode cX8_chanceOf 89 = .ok (.lload 7, 2) := by decide +kernel
theorem dX8_chanceOf_91 : decode cX8_chanceOf 91 = .ok (.ladd, 1) := by decide +kernel
theorem dX8_chanceOf_92 : decode cX8_chanceOf 92 = .ok (.lstore 4, 2) := by decide +kernel
theorem dX8_chanceOf_94 : decode cX8_chanceOf 94 = .ok (.iinc 6 1, 3) := by decide +kernel
theorem dX8_chanceOf_97 : decode cX8_chanceOf 97 = .ok (.goto (-91), 3) := by decide +kernel
theorem dX8_chanceOf_100 : decode cX8_chanceOf 100 = .ok (.aload_n 0, 1) := by decide +kernel
theorem dX8_chanceOf_101 : decode cX8_chanceOf 101 = .ok (.iconst 0, 1) := by decide +kernel
theorem dX8_chanceOf_102 : decode cX8_chanceOf 102 = .ok (.putfield 178, 3) := by decide +kernel
theorem dX8_chanceOf_105 : decode cX8_chanceOf 105 = .ok (.lload 4, 2) := by decide +kernel
theorem dX8_chanceOf_107 : decode cX8_chanceOf 107 = .ok (.lconst 1, 1) := by decide +kernel
theorem dX8_chanceOf_108 : decode cX8_chanceOf 108 = .ok (.iconst 4, 1) := by decide +kernel
theorem dX8_chanceOf_109 : decode cX8_chanceOf 109 = .ok (.aload_n 0, 1) := by decide +kernel
theorem dX8_chanceOf_110 : decode cX8_chanceOf 110 = .ok (.getfield 169, 3) := by decide +kernel
theorem dX8_chanceOf_113 : decode cX8_chanceOf 113 = .ok (.imul, 1) := by decide +kernel
theorem dX8_chanceOf_114 : decode cX8_chanceOf 114 = .ok (.lshl, 1) := by decide +kernel
theorem dX8_chanceOf_115 : decode cX8_chanceOf 115 = .ok (.iload_n 3, 1) := by decide +kernel
theorem dX8_chanceOf_116 : decode cX8_chanceOf 116 = .ok (.invokestatic 292, 3) := by decide +kernel
theorem dX8_chanceOf_119 : decode cX8_chanceOf 119 = .ok (.lreturn, 1) := by decide +kernel
set_option maxRecDepth 20000 in
theorem m_X8_chanceOf {h : Hp} {a1 : Int32} {a2 : Int32} {a3 : Int32}  {u : (Hp × Int64)} (hu : f_X8_chanceOf h a1 a2 a3 = some u) : Ct yX8_chanceOf cX8_chanceOf 10 (some .long) 6 [.ref 68, .int a1, .int a2, .int a3] h (eL u) := by
  refine ct_of eL hu (by decide) (Nat.le_of_ble_eq_true rfl) (fun κ hn C E => ?_)
  have n5 : 5 < kn κ := by rw [hn]; decide
  have n6 : 6 < kn κ := by rw [hn]; decide
  have n8 : 8 < kn κ := by rw [hn]; decide
  have n9 : 9 < kn κ := by rw [hn]; decide
  unfold f_X8_chanceOf
  show Xz κ _ 0 [(0, .ref 68), (1, .int a1), (2, .int a2), (3, .int a3)] [] h
  refine x_lconst 1 C dX8_chanceOf_0 cl_0 rfl ?_
  refine x_lstore 3 [(4, .long (0 : Int64)), (0, .ref 68), (1, .int a1), (2, .int a2), (3, .int a3)] C dX8_chanceOf_1 n5 rfl rfl ?_
  refine x_iconst 4 C dX8_chanceOf_3 ci_0 rfl ?_
  refine x_istore 6 [(6, .int (0 : Int32)), (4, .long (0 : Int64)), (0, .ref 68), (1, .int a1), (2, .int a2), (3, .int a3)] C dX8_chanceOf_4 n6 rfl rfl ?_
  refine x_lt2 (q := 100) (ls := fun h1 l2 => [(0, .ref 68), (3, .int a3), (4, .long l2)]) (st := fun h1 l2 => []) (hh := fun h1 l2 => h1) (fun h1 l2 => ?_) (fun k1 J1 => ?_)
  · refine x_aload_n 101 C dX8_chanceOf_100 0 rfl rfl rfl ?_
    refine x_iconst 102 C dX8_chanceOf_101 ci_0 rfl ?_
    refine x_put 105 C dX8_chanceOf_102 fp_X8_178 sk_68 rfl rfl rfl rfl (fun h3 => ?_)
    refine x_lload 107 C dX8_chanceOf_105 2 rfl rfl ?_
    refine x_lconst 108 C dX8_chanceOf_107 cl_1 rfl ?_
    refine x_iconst 109 C dX8_chanceOf_108 ci_4 rfl ?_
    refine x_aload_n 110 C dX8_chanceOf_109 0 rfl rfl rfl ?_
    refine x_getI 113 C dX8_chanceOf_110 fl_X8_169 sk_68 rfl rfl ?_
    refine x_imul 114 C dX8_chanceOf_113 rfl ?_
    refine x_lshl 115 C dX8_chanceOf_114 rfl ?_
    refine x_iload_n 116 C dX8_chanceOf_115 1 rfl rfl rfl ?_
    refine x_csl 119 [.long l2, .long ((1 : Int64) <<< (((4 : Int32) * (h3.1 68 12)).toInt64 &&& 63)), .int a3] [] C 0 dX8_chanceOf_116 s_X8_292 (fun u hu => m_X8_part hu) rfl rfl (Nat.le_of_ble_eq_true rfl) (Nat.le_of_ble_eq_true rfl) rfl (fun l4 => ?_)
    exact x_lret C E dX8_chanceOf_119 rfl
  refine x_ls [2, 3, 4, 5, 1, 0] rfl (x_fx3 (ls := fun h5 l6 x7 => [(0, .ref 68), (1, .int a1), (2, .int a2), (3, .int a3), (4, .long l6), (6, .int x7)]) (st := fun h5 l6 x7 => []) (hh := fun h5 l6 x7 => h5) (fun s2 J2 h5 l6 x7 => ?_))
  refine x_iload 8 C dX8_chanceOf_6 5 rfl rfl ?_
  refine x_iconst 9 C dX8_chanceOf_8 ci_1 rfl ?_
  refine x_aload_n 10 C dX8_chanceOf_9 0 rfl rfl rfl ?_
  refine x_getI 13 C dX8_chanceOf_10 fl_X8_169 sk_68 rfl rfl ?_
  refine x_ishl 14 C dX8_chanceOf_13 rfl ?_
  refine x_icmp_ge 17 100 C dX8_chanceOf_14 (by decide) rfl (fun _ => ?_) (fun _ => ?_)
  · exact x_ls [0, 3, 4] rfl (J1 h5 l6)
  · refine x_aload_n 18 C dX8_chanceOf_17 0 rfl rfl rfl ?_
    refine x_iload 20 C dX8_chanceOf_18 5 rfl rfl ?_
    refine x_put 23 C dX8_chanceOf_20 fp_X8_178 sk_68 rfl rfl rfl rfl (fun h8 => ?_)
    refine x_aload_n 24 C dX8_chanceOf_23 0 rfl rfl rfl ?_
    refine x_cvV 27 [] [] C 5 dX8_chanceOf_24 v_X8_217 (fun u hu => m_X8_lives hu) rfl sk_68 rfl (Nat.le_of_ble_eq_true rfl) (Nat.le_of_ble_eq_true rfl) rfl (fun h9 => ?_)
    refine x_aload_n 28 C dX8_chanceOf_27 0 rfl rfl rfl ?_
    refine x_getR (c := 79) 31 C dX8_chanceOf_28 fl_X8_40 sk_68 rfl sr_68_15 rfl ?_
    refine x_iload_n 32 C dX8_chanceOf_31 2 rfl rfl rfl ?_
    refine x_iald 33 C dX8_chanceOf_32 sk_79 sl_79 rfl ?_
    refine x_iconst 34 C dX8_chanceOf_33 ci_2 rfl ?_
    refine x_lt1 (q := 42) (ls := fun l10 => [(0, .ref 68), (1, .int a1), (2, .int a2), (3, .int a3), (4, .long l6), (6, .int x7)]) (st := fun l10 => [.long l10]) (hh := fun l10 => h9) (fun l10 => ?_) (fun k3 J3 => ?_)
    · refine x_lstore 44 [(7, .long l10), (0, .ref 68), (1, .int a1), (2, .int a2), (3, .int a3), (4, .long l6), (6, .int x7)] C dX8_chanceOf_42 n8 rfl rfl ?_
      refine x_iconst 45 C dX8_chanceOf_44 ci_0 rfl ?_
      refine x_istore 47 [(9, .int (0 : Int32)), (7, .long l10), (0, .ref 68), (1, .int a1), (2, .int a2), (3, .int a3), (4, .long l6), (6, .int x7)] C dX8_chanceOf_45 n9 rfl rfl ?_
      refine x_lt1 (q := 87) (ls := fun l11 => [(0, .ref 68), (1, .int a1), (2, .int a2), (3, .int a3), (4, .long l6), (6, .int x7), (7, .long l11)]) (st := fun l11 => []) (hh := fun l11 => h9) (fun l11 => ?_) (fun k4 J4 => ?_)
      · refine x_lload 89 C dX8_chanceOf_87 4 rfl rfl ?_
        refine x_lload 91 C dX8_chanceOf_89 6 rfl rfl ?_
        refine x_ladd 92 C dX8_chanceOf_91 rfl ?_
        refine x_nl (fun l12 => ?_)
        refine x_lstore 94 [(4, .long l12), (0, .ref 68), (1, .int a1), (2, .int a2), (3, .int a3), (6, .int x7), (7, .long l11)] C dX8_chanceOf_92 n5 rfl rfl ?_
        refine x_iinc 97 (fun x13 => [(6, .int x13), (4, .long l12), (0, .ref 68), (1, .int a1), (2, .int a2), (3, .int a3), (7, .long l11)]) C dX8_chanceOf_94 5 rfl ci_1 n6 (fun _ => rfl) rfl (fun x13 => ?_)
        refine x_goto 6 C dX8_chanceOf_97 (by decide) ?_
        exact x_ls [2, 3, 4, 5, 1, 0] rfl (J2 h9 l12 x13)
      refine x_ls [2, 3, 4, 5, 6, 7, 1, 0] rfl (x_fx2 (ls := fun l14 x15 => [(0, .ref 68), (1, .int a1), (2, .int a2), (3, .int a3), (4, .long l6), (6, .int x7), (7, .long l14), (9, .int x15)]) (st := fun l14 x15 => []) (hh := fun l14 x15 => h9) (fun s5 J5 l14 x15 => ?_))
      refine x_iload 49 C dX8_chanceOf_47 7 rfl rfl ?_
      refine x_aload_n 50 C dX8_chanceOf_49 0 rfl rfl rfl ?_
      refine x_getI 53 C dX8_chanceOf_50 fl_X8_169 sk_68 rfl rfl ?_
      refine x_icmp_ge 56 87 C dX8_chanceOf_53 (by decide) rfl (fun _ => ?_) (fun _ => ?_)
      · exact x_ls [0, 1, 2, 3, 4, 5, 6] rfl (J4 l14)
      · refine x_lload 58 C dX8_chanceOf_56 6 rfl rfl ?_
        refine x_iload 60 C dX8_chanceOf_58 5 rfl rfl ?_
        refine x_iload 62 C dX8_chanceOf_60 7 rfl rfl ?_
        refine x_csi 65 [.int x7, .int x15] [.long l14] C 0 dX8_chanceOf_62 s_X8_181 (fun u hu => m_X8_isIn hu) rfl rfl (Nat.le_of_ble_eq_true rfl) (Nat.le_of_ble_eq_true rfl) rfl (fun x16 => ?_)
        refine x_lt1 (q := 78) (ls := fun l17 => [(0, .ref 68), (1, .int a1), (2, .int a2), (3, .int a3), (4, .long l6), (6, .int x7), (9, .int x15)]) (st := fun l17 => [.long l17, .long l14]) (hh := fun l17 => h9) (fun l17 => ?_) (fun k6 J6 => ?_)
        · refine x_lmul 79 C dX8_chanceOf_78 rfl ?_
          refine x_nl (fun l18 => ?_)
          refine x_lstore 81 [(7, .long l18), (0, .ref 68), (1, .int a1), (2, .int a2), (3, .int a3), (4, .long l6), (6, .int x7), (9, .int x15)] C dX8_chanceOf_79 n8 rfl rfl ?_
          refine x_iinc 84 (fun x19 => [(9, .int x19), (7, .long l18), (0, .ref 68), (1, .int a1), (2, .int a2), (3, .int a3), (4, .long l6), (6, .int x7)]) C dX8_chanceOf_81 7 rfl ci_1 n9 (fun _ => rfl) rfl (fun x19 => ?_)
          refine x_goto 47 C dX8_chanceOf_84 (by decide) ?_
          exact x_ls [2, 3, 4, 5, 6, 7, 1, 0] rfl (J5 l18 x19)
        refine x_if_eq 68 76 C dX8_chanceOf_65 (by decide) rfl (fun _ => ?_) (fun _ => ?_)
        · refine x_iload_n 77 C dX8_chanceOf_76 1 rfl rfl rfl ?_
          refine x_i2l 78 C dX8_chanceOf_77 rfl ?_
          exact x_ls [0, 1, 2, 3, 4, 5, 7] rfl (J6 (a1.toInt64))
        · refine x_bipush 70 C dX8_chanceOf_68 cb_16 rfl ?_
          refine x_iload_n 71 C dX8_chanceOf_70 1 rfl rfl rfl ?_
          refine x_isub 72 C dX8_chanceOf_71 rfl ?_
          refine x_i2l 73 C dX8_chanceOf_72 rfl ?_
          refine x_goto 78 C dX8_chanceOf_73 (by decide) ?_
          exact x_ls [0, 1, 2, 3, 4, 5, 7] rfl (J6 (((16 : Int32) - a1).toInt64))
    refine x_icmp_ne 37 41 C dX8_chanceOf_34 (by decide) rfl (fun _ => ?_) (fun _ => ?_)
    · refine x_lconst 42 C dX8_chanceOf_41 cl_0 rfl ?_
      exact x_ls [0, 1, 2, 3, 4, 5] rfl (J3 (0 : Int64))
    · refine x_lconst 38 C dX8_chanceOf_37 cl_1 rfl ?_
      refine x_goto 42 C dX8_chanceOf_38 (by decide) ?_
      exact x_ls [0, 1, 2, 3, 4, 5] rfl (J3 (1 : Int64))

def f_X8_chance (h : Hp) (a1 : Int32) (a2 : Int32) (a3 : Int32) : Option (Hp × Int64) :=
  bdv (f_X8_find h) fun h1 =>
  bdr (f_X8_in (a1.toInt64) (0 : Int64) (16 : Int64)) fun x2 =>
  lt1 (fun (u3 : Int32) =>
    bdr (f_X8_no (-2 : Int32)) fun l4 =>
    some (h1, l4)) fun k1 =>
  if x2 = 0 then (
    k1 (0 : Int32))
  else (
    bdr (f_X8_isWalker h1 a2) fun x5 =>
    if x5 = 0 then (
      k1 (0 : Int32))
    else (
      bdr (f_X8_isTwo a3) fun x6 =>
      if x6 = 0 then (
        k1 (0 : Int32))
      else (
        bnd (f_X8_chanceOf h1 a1 a2 a3) fun h7 l8 =>
        some (h7, l8))))
theorem dX8_chance_0 : decode cX8_chance 0 = .ok (.aload_n 0, 1) := by decide +kernel
theorem dX8_chance_1 : decode cX8_chance 1 = .ok (.invokevirtual 220, 3) := by decide +kernel
theorem dX8_chance_4 : decode cX8_chance 4 = .ok (.iload_n 1, 1) := by decide +kernel
theorem dX8_chance_5 : decode cX8_chance 5 = .ok (.i2l, 1) := by decide +kernel
theorem dX8_chance_6 : decode cX8_chance 6 = .ok (.lconst 0, 1) := by decide +kernel
theorem dX8_chance_7 : decode cX8_chance 7 = .ok (.ldc2_w 296, 3) := by decide +kernel
theorem dX8_chance_10 : decode cX8_chance 10 = .ok (.invokestatic 85, 3) := by decide +kernel
theorem dX8_chance_13 : decode cX8_chance 13 = .ok (.ifCond .eq 28, 3) := by decide +kernel
theorem dX8_chance_16 : decode cX8_chance 16 = .ok (.aload_n 0, 1) := by decide +kernel
theorem dX8_chance_17 : decode cX8_chance 17 = .ok (.iload_n 2, 1) := by decide +kernel
theorem dX8_chance_18 : decode cX8_chance 18 = .ok (.invokevirtual 151, 3) := by decide +kernel
theorem dX8_chance_21 : decode cX8_chance 21 = .ok (.ifCond .eq 20, 3) := by decide +kernel
theorem dX8_chance_24 : decode cX8_chance 24 = .ok (.iload_n 3, 1) := by decide +kernel
theorem dX8_chance_25 : decode cX8_chance 25 = .ok (.invokestatic 114, 3) := by decide +kernel
theorem dX8_chance_28 : decode cX8_chance 28 = .ok (.ifCond .eq 13, 3) := by decide +kernel
theorem dX8_chance_31 : decode cX8_chance 31 = .ok (.aload_n 0, 1) := by decide +kernel
theorem dX8_chance_32 : decode cX8_chance 32 = .ok (.iload_n 1, 1) := by decide +kernel
theorem dX8_chance_33 : decode cX8_chance 33 = .ok (.iload_n 2, 1) := by decide +kernel
theorem dX8_chance_34 : decode cX8_chance 34 = .ok (.iload_n 3, 1) := by decide +kernel
theorem dX8_chance_35 : decode cX8_chance 35 = .ok (.invokevirtual 298, 3) := by decide +kernel
theorem dX8_chance_38 : decode cX8_chance 38 = .ok (.goto 8, 3) := by decide +kernel
theorem dX8_chance_41 : decode cX8_chance 41 = .ok (.bipush (-2), 2) := by decide +kernel
theorem dX8_chance_43 : decode cX8_chance 43 = .ok (.invokestatic 302, 3) := by decide +kernel
theorem dX8_chance_46 : decode cX8_chance 46 = .ok (.lreturn, 1) := by decide +kernel
set_option maxRecDepth 20000 in
theorem m_X8_chance {h : Hp} {a1 : Int32} {a2 : Int32} {a3 : Int32}  {u : (Hp × Int64)} (hu : f_X8_chance h a1 a2 a3 = some u) : Ct yX8_chance cX8_chance 4 (some .long) 7 [.ref 68, .int a1, .int a2, .int a3] h (eL u) := by
  refine ct_of eL hu (by decide) (Nat.le_of_ble_eq_true rfl) (fun κ hn C E => ?_)
  unfold f_X8_chance
  show Xz κ _ 0 [(0, .ref 68), (1, .int a1), (2, .int a2), (3, .int a3)] [] h
  refine x_aload_n 1 C dX8_chance_0 0 rfl rfl rfl ?_
  refine x_cvV 4 [] [] C 6 dX8_chance_1 v_X8_220 (fun u hu => m_X8_find hu) rfl sk_68 rfl (Nat.le_of_ble_eq_true rfl) (Nat.le_of_ble_eq_true rfl) rfl (fun h1 => ?_)
  refine x_iload_n 5 C dX8_chance_4 1 rfl rfl rfl ?_
  refine x_i2l 6 C dX8_chance_5 rfl ?_
  refine x_lconst 7 C dX8_chance_6 cl_0 rfl ?_
  refine x_ldc2 10 C dX8_chance_7 kw_X8_296 rfl ?_
  refine x_csi 13 [.long (a1.toInt64), .long (0 : Int64), .long (16 : Int64)] [] C 0 dX8_chance_10 s_X8_85 (fun u hu => m_X8_in hu) rfl rfl (Nat.le_of_ble_eq_true rfl) (Nat.le_of_ble_eq_true rfl) rfl (fun x2 => ?_)
  refine x_lt1 (q := 41) (ls := fun u3 => []) (st := fun u3 => []) (hh := fun u3 => h1) (fun u3 => ?_) (fun k1 J1 => ?_)
  · refine x_bipush 43 C dX8_chance_41 cb_m2 rfl ?_
    refine x_csl 46 [.int (-2 : Int32)] [] C 0 dX8_chance_43 s_X8_302 (fun u hu => m_X8_no hu) rfl rfl (Nat.le_of_ble_eq_true rfl) (Nat.le_of_ble_eq_true rfl) rfl (fun l4 => ?_)
    exact x_lret C E dX8_chance_46 rfl
  refine x_if_eq 16 41 C dX8_chance_13 (by decide) rfl (fun _ => ?_) (fun _ => ?_)
  · exact x_ls [] rfl (J1 (0 : Int32))
  · refine x_aload_n 17 C dX8_chance_16 0 rfl rfl rfl ?_
    refine x_iload_n 18 C dX8_chance_17 2 rfl rfl rfl ?_
    refine x_cvi 21 [.int a2] [] C 1 dX8_chance_18 v_X8_151 (fun u hu => m_X8_isWalker hu) rfl sk_68 rfl (Nat.le_of_ble_eq_true rfl) (Nat.le_of_ble_eq_true rfl) rfl (fun x5 => ?_)
    refine x_if_eq 24 41 C dX8_chance_21 (by decide) rfl (fun _ => ?_) (fun _ => ?_)
    · exact x_ls [] rfl (J1 (0 : Int32))
    · refine x_iload_n 25 C dX8_chance_24 3 rfl rfl rfl ?_
      refine x_csi 28 [.int a3] [] C 1 dX8_chance_25 s_X8_114 (fun u hu => m_X8_isTwo hu) rfl rfl (Nat.le_of_ble_eq_true rfl) (Nat.le_of_ble_eq_true rfl) rfl (fun x6 => ?_)
      refine x_if_eq 31 41 C dX8_chance_28 (by decide) rfl (fun _ => ?_) (fun _ => ?_)
      · exact x_ls [] rfl (J1 (0 : Int32))
      · refine x_aload_n 32 C dX8_chance_31 0 rfl rfl rfl ?_
        refine x_iload_n 33 C dX8_chance_32 1 rfl rfl rfl ?_
        refine x_iload_n 34 C dX8_chance_33 2 rfl rfl rfl ?_
        refine x_iload_n 35 C dX8_chance_34 3 rfl rfl rfl ?_
        refine x_cvL 38 [.int a1, .int a2, .int a3] [] C 6 dX8_chance_35 v_X8_298 (fun u hu => m_X8_chanceOf hu) rfl sk_68 rfl (Nat.le_of_ble_eq_true rfl) (Nat.le_of_ble_eq_true rfl) rfl (fun h7 l8 => ?_)
        refine x_goto 46 C dX8_chance_38 (by decide) ?_
        exact x_lret C E dX8_chance_46 rfl

def f_X8_lot (h : Hp) (a1 : Int32) : Option (Hp × Int32) :=
  nm (uf h 68 32 (((1103515245 : Int32) * (h.1 68 32)) + (12345 : Int32))) fun h1 =>
  cn (a1 = 0) (
    some (h1, ((((h1.1 68 32).toUInt32 >>> ((16 : Int32).toUInt32 &&& Int32.toUInt32 31)).toInt32) - (((h1.1 68 32).toUInt32 >>> ((16 : Int32).toUInt32 &&& Int32.toUInt32 31)).toInt32) / a1 * a1)))
theorem dX8_lot_0 : decode cX8_lot 0 = .ok (.aload_n 0, 1) := by decide +kernel
theorem dX8_lot_1 : decode cX8_lot 1 = .ok (.ldc_w 305, 3) := by decide +kernel
theorem dX8_lot_4 : decode cX8_lot 4 = .ok (.aload_n 0, 1) := by decide +kernel
theorem dX8_lot_5 : decode cX8_lot 5 = .ok (.getfield 306, 3) := by decide +kernel
theorem dX8_lot_8 : decode cX8_lot 8 = .ok (.imul, 1) := by decide +kernel
theorem dX8_lot_9 : decode cX8_lot 9 = .ok (.sipush 12345, 3) := by decide +kernel
theorem dX8_lot_12 : decode cX8_lot 12 = .ok (.iadd, 1) := by decide +kernel
theorem dX8_lot_13 : decode cX8_lot 13 = .ok (.putfield 306, 3) := by decide +kernel
theorem dX8_lot_16 : decode cX8_lot 16 = .ok (.aload_n 0, 1) := by decide +kernel
theorem dX8_lot_17 : decode cX8_lot 17 = .ok (.getfield 306, 3) := by decide +kernel
theorem dX8_lot_20 : decode cX8_lot 20 = .ok (.bipush 16, 2) := by decide +kernel
theorem dX8_lot_22 : decode cX8_lot 22 = .ok (.iushr, 1) := by decide +kernel
theorem dX8_lot_23 : decode cX8_lot 23 = .ok (.iload_n 1, 1) := by decide +kernel
theorem dX8_lot_24 : decode cX8_lot 24 = .ok (.irem, 1) := by decide +kernel
theorem dX8_lot_25 : decode cX8_lot 25 = .ok (.ireturn, 1) := by decide +kernel
set_option maxRecDepth 20000 in
theorem m_X8_lot {h : Hp} {a1 : Int32}  {u : (Hp × Int32)} (hu : f_X8_lot h a1 = some u) : Ct yX8_lot cX8_lot 2 (some .int) 0 [.ref 68, .int a1] h (eI u) := by
  refine ct_of eI hu (by decide) (Nat.le_of_ble_eq_true rfl) (fun κ hn C E => ?_)
  unfold f_X8_lot
  show Xz κ _ 0 [(0, .ref 68), (1, .int a1)] [] h
  refine x_aload_n 1 C dX8_lot_0 0 rfl rfl rfl ?_
  refine x_ldcw 4 C dX8_lot_1 kw_X8_305 rfl ?_
  refine x_aload_n 5 C dX8_lot_4 0 rfl rfl rfl ?_
  refine x_getI 8 C dX8_lot_5 fl_X8_306 sk_68 rfl rfl ?_
  refine x_imul 9 C dX8_lot_8 rfl ?_
  refine x_sipush 12 C dX8_lot_9 cs_12345 rfl ?_
  refine x_iadd 13 C dX8_lot_12 rfl ?_
  refine x_put 16 C dX8_lot_13 fp_X8_306 sk_68 rfl rfl rfl rfl (fun h1 => ?_)
  refine x_aload_n 17 C dX8_lot_16 0 rfl rfl rfl ?_
  refine x_getI 20 C dX8_lot_17 fl_X8_306 sk_68 rfl rfl ?_
  refine x_bipush 22 C dX8_lot_20 cb_16 rfl ?_
  refine x_iushr 23 C dX8_lot_22 rfl ?_
  refine x_iload_n 24 C dX8_lot_23 1 rfl rfl rfl ?_
  refine x_cn (fun hz => x_irem 25 C dX8_lot_24 hz rfl ?_)
  exact x_iret C E dX8_lot_25 rfl

def f_X8_showsOf (h : Hp) (a1 : Int32) (a2 : Int32) (a3 : Int32) : Option (Hp × Int32) :=
  nm (uf h 68 32 a1) fun h1 =>
  lt1 (fun (h2 : Hp) =>
    bdv (f_X8_lives h2) fun h3 =>
    lt1 (fun (x4 : Int32) =>
      bnd (f_X8_readsRoutine h3) fun h5 x6 =>
      some (h5, x4)) fun k2 =>
    if a3 = 0 then (
      bdr (f_X8_many h3 (2 : Int32)) fun x7 =>
      k2 x7)
    else (
      k2 (h3.1 68 27))) fun k1 =>
  fx2 FU (fun s3 (h8 : Hp) (x9 : Int32) =>
    if (24 : Int32) ≤ x9 then (
      k1 h8)
    else (
      lt2 (fun (h10 : Hp) (x11 : Int32) =>
        ck x9 24 (nm (ux h10 76 x9 x11) fun h12 =>
        nm (x9 + (1 : Int32)) fun x13 =>
        s3 h12 x13)) fun k4 =>
      if a2 ≤ x9 then (
        k4 h8 (0 : Int32))
      else (
        bnd (f_X8_lot h8 (4 : Int32)) fun h14 x15 =>
        k4 h14 x15))) h1 (0 : Int32)
theorem dX8_showsOf_0 : decode cX8_showsOf 0 = .ok (.aload_n 0, 1) := by decide +kernel
theorem dX8_showsOf_1 : decode cX8_showsOf 1 = .ok (.iload_n 1, 1) := by decide +kernel
theorem dX8_showsOf_2 : decode cX8_showsOf 2 = .ok (.putfield 306, 3) := by decide +kernel
theorem dX8_showsOf_5 : decode cX8_showsOf 5 = .ok (.iconst 0, 1) := by decide +kernel
theorem dX8_showsOf_6 : decode cX8_showsOf 6 = .ok (.istore 4, 2) := by decide +kernel
theorem dX8_showsOf_8 : decode cX8_showsOf 8 = .ok (.iload 4, 2) := by decide +kernel
theorem dX8_showsOf_10 : decode cX8_showsOf 10 = .ok (.bipush 24, 2) := by decide +kernel
theorem dX8_showsOf_12 : decode cX8_showsOf 12 = .ok (.if_icmp .ge 31, 3) := by decide +kernel
theorem dX8_showsOf_15 : decode cX8_showsOf 15 = .ok (.aload_n 0, 1) := by decide +kernel
theorem dX8_showsOf_16 : decode cX8_showsOf 16 = .ok (.getfield 31, 3) := by decide +kernel
theorem dX8_showsOf_19 : decode cX8_showsOf 19 = .ok (.iload 4, 2) := by decide +kernel
theorem dX8_showsOf_21 : decode cX8_showsOf 21 = .ok (.iload 4, 2) := by decide +kernel
theorem dX8_showsOf_23 : decode cX8_showsOf 23 = .ok (.iload_n 2, 1) := by decide +kernel
theorem dX8_showsOf_24 : decode cX8_showsOf 24 = .ok (.if_icmp .ge 11, 3) := by decide +kernel
theorem dX8_showsOf_27 : decode cX8_showsOf 27 = .ok (.aload_n 0, 1) := by decide +kernel
theorem dX8_showsOf_28 : decode cX8_showsOf 28 = .ok (.iconst 4, 1) := by decide +kernel
theorem dX8_showsOf_29 : decode cX8_showsOf 29 = .ok (.invokevirtual 309, 3) := by decide +kernel
theorem dX8_showsOf_32 : decode cX8_showsOf 32 = .ok (.goto 4, 3) := by decide +kernel
theorem dX8_showsOf_35 : decode cX8_showsOf 35 = .ok (.iconst 0, 1) := by decide +kernel
theorem dX8_showsOf_36 : decode cX8_showsOf 36 = .ok (.iastore, 1) := by decide +kernel
theorem dX8_showsOf_37 : decode cX8_showsOf 37 = .ok (.iinc 4 1, 3) := by decide +kernel
theorem dX8_showsOf_40 : decode cX8_showsOf 40 = .ok (.goto (-32), 3) := by decide +kernel
theorem dX8_showsOf_43 : decode cX8_showsOf 43 = .ok (.aload_n 0, 1) := by decide +kernel
theorem dX8_showsOf_44 : decode cX8_showsOf 44 = .ok (.invokevirtual 217, 3) := by decide +kernel
theorem dX8_showsOf_47 : decode cX8_showsOf 47 = .ok (.iload_n 3, 1) := by decide +kernel
theorem dX8_showsOf_48 : decode cX8_showsOf 48 = .ok (.ifCond .ne 11, 3) := by decide +kernel
theorem dX8_showsOf_51 : decode cX8_showsOf 51 = .ok (.aload_n 0, 1) := by decide +kernel
theorem dX8_showsOf_52 : decode cX8_showsOf 52 = .ok (.iconst 2, 1) := by decide +kernel
theorem dX8_showsOf_53 : decode cX8_showsOf 53 = .ok (.invokevirtual 229, 3) := by decide +kernel
theorem dX8_showsOf_56 : decode cX8_showsOf 56 = .ok (.goto 7, 3) := by decide +kernel
theorem dX8_showsOf_59 : decode cX8_showsOf 59 = .ok (.aload_n 0, 1) := by decide +kernel
theorem dX8_showsOf_60 : decode cX8_showsOf 60 = .ok (.getfield 191, 3) := by decide +kernel
theorem dX8_showsOf_63 : decode cX8_showsOf 63 = .ok (.istore 4, 2) := by decide +kernel
theorem dX8_showsOf_65 : decode cX8_showsOf 65 = .ok (.aload_n 0, 1) := by decide +kernel
theorem dX8_showsOf_66 : decode cX8_showsOf 66 = .ok (.invokevirtual 143, 3) := by decide +kernel
theorem dX8_showsOf_69 : decode cX8_showsOf 69 = .ok (.pop, 1) := by decide +kernel
theorem dX8_showsOf_70 : decode cX8_showsOf 70 = .ok (.iload 4, 2) := by decide +kernel
theorem dX8_showsOf_72 : decode cX8_showsOf 72 = .ok (.ireturn, 1) := by decide +kernel
set_option maxRecDepth 20000 in
theorem m_X8_showsOf {h : Hp} {a1 : Int32} {a2 : Int32} {a3 : Int32}  {u : (Hp × Int32)} (hu : f_X8_showsOf h a1 a2 a3 = some u) : Ct yX8_showsOf cX8_showsOf 5 (some .int) 6 [.ref 68, .int a1, .int a2, .int a3] h (eI u) := by
  refine ct_of eI hu (by decide) (Nat.le_of_ble_eq_true rfl) (fun κ hn C E => ?_)
  have n4 : 4 < kn κ := by rw [hn]; decide
  unfold f_X8_showsOf
  show Xz κ _ 0 [(0, .ref 68), (1, .int a1), (2, .int a2), (3, .int a3)] [] h
  refine x_aload_n 1 C dX8_showsOf_0 0 rfl rfl rfl ?_
  refine x_iload_n 2 C dX8_showsOf_1 1 rfl rfl rfl ?_
  refine x_put 5 C dX8_showsOf_2 fp_X8_306 sk_68 rfl rfl rfl rfl (fun h1 => ?_)
  refine x_iconst 6 C dX8_showsOf_5 ci_0 rfl ?_
  refine x_istore 8 [(4, .int (0 : Int32)), (0, .ref 68), (1, .int a1), (2, .int a2), (3, .int a3)] C dX8_showsOf_6 n4 rfl rfl ?_
  refine x_lt1 (q := 43) (ls := fun h2 => [(0, .ref 68), (3, .int a3)]) (st := fun h2 => []) (hh := fun h2 => h2) (fun h2 => ?_) (fun k1 J1 => ?_)
  · refine x_aload_n 44 C dX8_showsOf_43 0 rfl rfl rfl ?_
    refine x_cvV 47 [] [] C 5 dX8_showsOf_44 v_X8_217 (fun u hu => m_X8_lives hu) rfl sk_68 rfl (Nat.le_of_ble_eq_true rfl) (Nat.le_of_ble_eq_true rfl) rfl (fun h3 => ?_)
    refine x_iload_n 48 C dX8_showsOf_47 1 rfl rfl rfl ?_
    refine x_lt1 (q := 63) (ls := fun x4 => [(0, .ref 68)]) (st := fun x4 => [.int x4]) (hh := fun x4 => h3) (fun x4 => ?_) (fun k2 J2 => ?_)
    · refine x_istore 65 [(4, .int x4), (0, .ref 68)] C dX8_showsOf_63 n4 rfl rfl ?_
      refine x_aload_n 66 C dX8_showsOf_65 1 rfl rfl rfl ?_
      refine x_cvI 69 [] [] C 1 dX8_showsOf_66 v_X8_143 (fun u hu => m_X8_readsRoutine hu) rfl sk_68 rfl (Nat.le_of_ble_eq_true rfl) (Nat.le_of_ble_eq_true rfl) rfl (fun h5 x6 => ?_)
      refine x_pop 70 C dX8_showsOf_69 rfl rfl ?_
      refine x_iload 72 C dX8_showsOf_70 0 rfl rfl ?_
      exact x_iret C E dX8_showsOf_72 rfl
    refine x_if_ne 51 59 C dX8_showsOf_48 (by decide) rfl (fun _ => ?_) (fun _ => ?_)
    · refine x_aload_n 60 C dX8_showsOf_59 0 rfl rfl rfl ?_
      refine x_getI 63 C dX8_showsOf_60 fl_X8_191 sk_68 rfl rfl ?_
      exact x_ls [0] rfl (J2 (h3.1 68 27))
    · refine x_aload_n 52 C dX8_showsOf_51 0 rfl rfl rfl ?_
      refine x_iconst 53 C dX8_showsOf_52 ci_2 rfl ?_
      refine x_cvi 56 [.int (2 : Int32)] [] C 0 dX8_showsOf_53 v_X8_229 (fun u hu => m_X8_many hu) rfl sk_68 rfl (Nat.le_of_ble_eq_true rfl) (Nat.le_of_ble_eq_true rfl) rfl (fun x7 => ?_)
      refine x_goto 63 C dX8_showsOf_56 (by decide) ?_
      exact x_ls [0] rfl (J2 x7)
  refine x_ls [1, 3, 4, 0] rfl (x_fx2 (ls := fun h8 x9 => [(0, .ref 68), (2, .int a2), (3, .int a3), (4, .int x9)]) (st := fun h8 x9 => []) (hh := fun h8 x9 => h8) (fun s3 J3 h8 x9 => ?_))
  refine x_iload 10 C dX8_showsOf_8 3 rfl rfl ?_
  refine x_bipush 12 C dX8_showsOf_10 cb_24 rfl ?_
  refine x_icmp_ge 15 43 C dX8_showsOf_12 (by decide) rfl (fun _ => ?_) (fun _ => ?_)
  · exact x_ls [0, 2] rfl (J1 h8)
  · refine x_aload_n 16 C dX8_showsOf_15 0 rfl rfl rfl ?_
    refine x_getR (c := 76) 19 C dX8_showsOf_16 fl_X8_31 sk_68 rfl sr_68_10 rfl ?_
    refine x_iload 21 C dX8_showsOf_19 3 rfl rfl ?_
    refine x_iload 23 C dX8_showsOf_21 3 rfl rfl ?_
    refine x_iload_n 24 C dX8_showsOf_23 1 rfl rfl rfl ?_
    refine x_lt2 (q := 36) (ls := fun h10 x11 => [(0, .ref 68), (2, .int a2), (3, .int a3), (4, .int x9)]) (st := fun h10 x11 => [.int x11, .int x9, .ref 76]) (hh := fun h10 x11 => h10) (fun h10 x11 => ?_) (fun k4 J4 => ?_)
    · refine x_iast 37 C dX8_showsOf_36 sk_76 sl_76 rfl (fun h12 => ?_)
      refine x_iinc 40 (fun x13 => [(4, .int x13), (0, .ref 68), (2, .int a2), (3, .int a3)]) C dX8_showsOf_37 3 rfl ci_1 n4 (fun _ => rfl) rfl (fun x13 => ?_)
      refine x_goto 8 C dX8_showsOf_40 (by decide) ?_
      exact x_ls [1, 2, 3, 0] rfl (J3 h12 x13)
    refine x_icmp_ge 27 35 C dX8_showsOf_24 (by decide) rfl (fun _ => ?_) (fun _ => ?_)
    · refine x_iconst 36 C dX8_showsOf_35 ci_0 rfl ?_
      exact x_ls [0, 1, 2, 3] rfl (J4 h8 (0 : Int32))
    · refine x_aload_n 28 C dX8_showsOf_27 0 rfl rfl rfl ?_
      refine x_iconst 29 C dX8_showsOf_28 ci_4 rfl ?_
      refine x_cvI 32 [.int (4 : Int32)] [.int x9, .ref 76] C 0 dX8_showsOf_29 v_X8_309 (fun u hu => m_X8_lot hu) rfl sk_68 rfl (Nat.le_of_ble_eq_true rfl) (Nat.le_of_ble_eq_true rfl) rfl (fun h14 x15 => ?_)
      refine x_goto 36 C dX8_showsOf_32 (by decide) ?_
      exact x_ls [0, 1, 2, 3] rfl (J4 h14 x15)

def f_X8_shows (h : Hp) (a1 : Int32) (a2 : Int32) (a3 : Int32) : Option (Hp × Int32) :=
  bdv (f_X8_find h) fun h1 =>
  bdr (f_X8_in (a2.toInt64) (0 : Int64) (24 : Int64)) fun x2 =>
  if x2 = 0 then (
    some (h1, (-2 : Int32)))
  else (
    bdr (f_X8_isTwo a3) fun x3 =>
    if x3 = 0 then (
      some (h1, (-2 : Int32)))
    else (
      bnd (f_X8_showsOf h1 a1 a2 a3) fun h4 x5 =>
      some (h4, x5)))
theorem dX8_shows_0 : decode cX8_shows 0 = .ok (.aload_n 0, 1) := by decide +kernel
theorem dX8_shows_1 : decode cX8_shows 1 = .ok (.invokevirtual 220, 3) := by decide +kernel
theorem dX8_shows_4 : decode cX8_shows 4 = .ok (.iload_n 2, 1) := by decide +kernel
theorem dX8_shows_5 : decode cX8_shows 5 = .ok (.i2l, 1) := by decide +kernel
theorem dX8_shows_6 : decode cX8_shows 6 = .ok (.lconst 0, 1) := by decide +kernel
theorem dX8_shows_7 : decode cX8_shows 7 = .ok (.ldc2_w 312, 3) := by decide +kernel
theorem dX8_shows_10 : decode cX8_shows 10 = .ok (.invokestatic 85, 3) := by decide +kernel
theorem dX8_shows_13 : decode cX8_shows 13 = .ok (.ifCond .eq 20, 3) := by decide +kernel
theorem dX8_shows_16 : decode cX8_shows 16 = .ok (.iload_n 3, 1) := by decide +kernel
theorem dX8_shows_17 : decode cX8_shows 17 = .ok (.invokestatic 114, 3) := by decide +kernel
theorem dX8_shows_20 : decode cX8_shows 20 = .ok (.ifCond .eq 13, 3) := by decide +kernel
theorem dX8_shows_23 : decode cX8_shows 23 = .ok (.aload_n 0, 1) := by decide +kernel
theorem dX8_shows_24 : decode cX8_shows 24 = .ok (.iload_n 1, 1) := by decide +kernel
theorem dX8_shows_25 : decode cX8_shows 25 = .ok (.iload_n 2, 1) := by decide +kernel
theorem dX8_shows_26 : decode cX8_shows 26 = .ok (.iload_n 3, 1) := by decide +kernel
theorem dX8_shows_27 : decode cX8_shows 27 = .ok (.invokevirtual 314, 3) := by decide +kernel
theorem dX8_shows_30 : decode cX8_shows 30 = .ok (.goto 5, 3) := by decide +kernel
theorem dX8_shows_33 : decode cX8_shows 33 = .ok (.bipush (-2), 2) := by decide +kernel
theorem dX8_shows_35 : decode cX8_shows 35 = .ok (.ireturn, 1) := by decide +kernel
set_option maxRecDepth 20000 in
theorem m_X8_shows {h : Hp} {a1 : Int32} {a2 : Int32} {a3 : Int32}  {u : (Hp × Int32)} (hu : f_X8_shows h a1 a2 a3 = some u) : Ct yX8_shows cX8_shows 4 (some .int) 7 [.ref 68, .int a1, .int a2, .int a3] h (eI u) := by
  refine ct_of eI hu (by decide) (Nat.le_of_ble_eq_true rfl) (fun κ hn C E => ?_)
  unfold f_X8_shows
  show Xz κ _ 0 [(0, .ref 68), (1, .int a1), (2, .int a2), (3, .int a3)] [] h
  refine x_aload_n 1 C dX8_shows_0 0 rfl rfl rfl ?_
  refine x_cvV 4 [] [] C 6 dX8_shows_1 v_X8_220 (fun u hu => m_X8_find hu) rfl sk_68 rfl (Nat.le_of_ble_eq_true rfl) (Nat.le_of_ble_eq_true rfl) rfl (fun h1 => ?_)
  refine x_iload_n 5 C dX8_shows_4 2 rfl rfl rfl ?_
  refine x_i2l 6 C dX8_shows_5 rfl ?_
  refine x_lconst 7 C dX8_shows_6 cl_0 rfl ?_
  refine x_ldc2 10 C dX8_shows_7 kw_X8_312 rfl ?_
  refine x_csi 13 [.long (a2.toInt64), .long (0 : Int64), .long (24 : Int64)] [] C 0 dX8_shows_10 s_X8_85 (fun u hu => m_X8_in hu) rfl rfl (Nat.le_of_ble_eq_true rfl) (Nat.le_of_ble_eq_true rfl) rfl (fun x2 => ?_)
  refine x_if_eq 16 33 C dX8_shows_13 (by decide) rfl (fun _ => ?_) (fun _ => ?_)
  · refine x_bipush 35 C dX8_shows_33 cb_m2 rfl ?_
    exact x_iret C E dX8_shows_35 rfl
  · refine x_iload_n 17 C dX8_shows_16 3 rfl rfl rfl ?_
    refine x_csi 20 [.int a3] [] C 1 dX8_shows_17 s_X8_114 (fun u hu => m_X8_isTwo hu) rfl rfl (Nat.le_of_ble_eq_true rfl) (Nat.le_of_ble_eq_true rfl) rfl (fun x3 => ?_)
    refine x_if_eq 23 33 C dX8_shows_20 (by decide) rfl (fun _ => ?_) (fun _ => ?_)
    · refine x_bipush 35 C dX8_shows_33 cb_m2 rfl ?_
      exact x_iret C E dX8_shows_35 rfl
    · refine x_aload_n 24 C dX8_shows_23 0 rfl rfl rfl ?_
      refine x_iload_n 25 C dX8_shows_24 1 rfl rfl rfl ?_
      refine x_iload_n 26 C dX8_shows_25 2 rfl rfl rfl ?_
      refine x_iload_n 27 C dX8_shows_26 3 rfl rfl rfl ?_
      refine x_cvI 30 [.int a1, .int a2, .int a3] [] C 6 dX8_shows_27 v_X8_314 (fun u hu => m_X8_showsOf hu) rfl sk_68 rfl (Nat.le_of_ble_eq_true rfl) (Nat.le_of_ble_eq_true rfl) rfl (fun h4 x5 => ?_)
      refine x_goto 35 C dX8_shows_30 (by decide) ?_
      exact x_iret C E dX8_shows_35 rfl

def f_X8_write (h : Hp) (a1 : Int32) (a2 : Int32) : Option (Hp × Int32) :=
  bdv (f_X8_find h) fun h1 =>
  bdr (f_X8_isWalker h1 a1) fun x2 =>
  if x2 = 0 then (
    some (h1, (-2 : Int32)))
  else (
    bdr (f_X8_isSheet a2) fun x3 =>
    if x3 = 0 then (
      some (h1, (-2 : Int32)))
    else (
      ck a2 4 (
        if 0 ≤ (ia h1 69 a2) then (
          ck a2 4 (
            bdr (f_X8_lesser (ia h1 70 a2) (24 : Int32)) fun x4 =>
            fx2 FU (fun s1 (h5 : Hp) (x6 : Int32) =>
              if x4 ≤ x6 then (
                some (h5, x4))
              else (
                ck a2 4 (
                  ck (((6 : Int32) * x6) + a1) 144 (
                    bdr (f_X8_cut (ia h5 69 a2) (ia h5 89 (((6 : Int32) * x6) + a1))) fun x7 =>
                    ck (((60 : Int32) * a2) + x6) 240 (nm (ux h5 71 (((60 : Int32) * a2) + x6) x7) fun h8 =>
                    nm (x6 + (1 : Int32)) fun x9 =>
                    s1 h8 x9))))) h1 (0 : Int32)))
        else (
          bnd (f_X8_finds h1 (1 : Int32)) fun h10 x11 =>
          some (h10, x11)))))
theorem dX8_write_0 : decode cX8_write 0 = .ok (.aload_n 0, 1) := by decide +kernel
theorem dX8_write_1 : decode cX8_write 1 = .ok (.invokevirtual 220, 3) := by decide +kernel
theorem dX8_write_4 : decode cX8_write 4 = .ok (.aload_n 0, 1) := by decide +kernel
theorem dX8_write_5 : decode cX8_write 5 = .ok (.iload_n 1, 1) := by decide +kernel
theorem dX8_write_6 : decode cX8_write 6 = .ok (.invokevirtual 151, 3) := by decide +kernel
theorem dX8_write_9 : decode cX8_write 9 = .ok (.ifCond .eq 10, 3) := by decide +kernel
theorem dX8_write_12 : decode cX8_write 12 = .ok (.iload_n 2, 1) := by decide +kernel
theorem dX8_write_13 : decode cX8_write 13 = .ok (.invokestatic 95, 3) := by decide +kernel
theorem dX8_write_16 : decode cX8_write 16 = .ok (.ifCond .ne 6, 3) := by decide +kernel
theorem dX8_write_19 : decode cX8_write 19 = .ok (.bipush (-2), 2) := by decide +kernel
theorem dX8_write_21 : decode cX8_write 21 = .ok (.ireturn, 1) := by decide +kernel
theorem dX8_write_22 : decode cX8_write 22 = .ok (.aload_n 0, 1) := by decide +kernel
theorem dX8_write_23 : decode cX8_write 23 = .ok (.getfield 7, 3) := by decide +kernel
theorem dX8_write_26 : decode cX8_write 26 = .ok (.iload_n 2, 1) := by decide +kernel
theorem dX8_write_27 : decode cX8_write 27 = .ok (.iaload, 1) := by decide +kernel
theorem dX8_write_28 : decode cX8_write 28 = .ok (.ifCond .ge 9, 3) := by decide +kernel
theorem dX8_write_31 : decode cX8_write 31 = .ok (.aload_n 0, 1) := by decide +kernel
theorem dX8_write_32 : decode cX8_write 32 = .ok (.iconst 1, 1) := by decide +kernel
theorem dX8_write_33 : decode cX8_write 33 = .ok (.invokevirtual 101, 3) := by decide +kernel
theorem dX8_write_36 : decode cX8_write 36 = .ok (.ireturn, 1) := by decide +kernel
theorem dX8_write_37 : decode cX8_write 37 = .ok (.aload_n 0, 1) := by decide +kernel
theorem dX8_write_38 : decode cX8_write 38 = .ok (.getfield 13, 3) := by decide +kernel
theorem dX8_write_41 : decode cX8_write 41 = .ok (.iload_n 2, 1) := by decide +kernel
theorem dX8_write_42 : decode cX8_write 42 = .ok (.iaload, 1) := by decide +kernel
theorem dX8_write_43 : decode cX8_write 43 = .ok (.bipush 24, 2) := by decide +kernel
theorem dX8_write_45 : decode cX8_write 45 = .ok (.invokestatic 317, 3) := by decide +kernel
theorem dX8_write_48 : decode cX8_write 48 = .ok (.istore_n 3, 1) := by decide +kernel
theorem dX8_write_49 : decode cX8_write 49 = .ok (.iconst 0, 1) := by decide +kernel
theorem dX8_write_50 : decode cX8_write 50 = .ok (.istore 4, 2) := by decide +kernel
theorem dX8_write_52 : decode cX8_write 52 = .ok (.iload 4, 2) := by decide +kernel
theorem dX8_write_54 : decode cX8_write 54 = .ok (.iload_n 3, 1) := by decide +kernel
theorem dX8_write_55 : decode cX8_write 55 = .ok (.if_icmp .ge 42, 3) := by decide +kernel
theorem dX8_write_58 : decode cX8_write 58 = .ok (.aload_n 0, 1) := by decide +kernel
theorem dX8_write_59 : decode cX8_write 59 = .ok (.getfield 16, 3) := by decide +kernel
theorem dX8_write_62 : decode cX8_write 62 = .ok (.bipush 60, 2) := by decide +kernel
theorem dX8_write_64 : decode cX8_write 64 = .ok (.iload_n 2, 1) := by decide +kernel
theorem dX8_write_65 : decode cX8_write 65 = .ok (.imul, 1) := by decide +kernel
theorem dX8_write_66 : decode cX8_write 66 = .ok (.iload 4, 2) := by decide +kernel
theorem dX8_write_68 : decode cX8_write 68 = .ok (.iadd, 1) := by decide +kernel
theorem dX8_write_69 : decode cX8_write 69 = .ok (.aload_n 0, 1) := by decide +kernel
theorem dX8_write_70 : decode cX8_write 70 = .ok (.getfield 7, 3) := by decide +kernel
theorem dX8_write_73 : decode cX8_write 73 = .ok (.iload_n 2, 1) := by decide +kernel
theorem dX8_write_74 : decode cX8_write 74 = .ok (.iaload, 1) := by decide +kernel
theorem dX8_write_75 : decode cX8_write 75 = .ok (.aload_n 0, 1) := by decide +kernel
theorem dX8_write_76 : decode cX8_write 76 = .ok (.getfield 70, 3) := by decide +kernel
theorem dX8_write_79 : decode cX8_write 79 = .ok (.bipush 6, 2) := by decide +kernel
theorem dX8_write_81 : decode cX8_write 81 = .ok (.iload 4, 2) := by decide +kernel
theorem dX8_write_83 : decode cX8_write 83 = .ok (.imul, 1) := by decide +kernel
theorem dX8_write_84 : decode cX8_write 84 = .ok (.iload_n 1, 1) := by decide +kernel
theorem dX8_write_85 : decode cX8_write 85 = .ok (.iadd, 1) := by decide +kernel
theorem dX8_write_86 : decode cX8_write 86 = .ok (.iaload, 1) := by decide +kernel
theorem dX8_write_87 : decode cX8_write 87 = .ok (.invokestatic 109, 3) := by decide +kernel
theorem dX8_write_90 : decode cX8_write 90 = .ok (.iastore, 1) := by decide +kernel
theorem dX8_write_91 : decode cX8_write 91 = .ok (.iinc 4 1, 3) := by decide +kernel
theorem dX8_write_94 : decode cX8_write 94 = .ok (.goto (-42), 3) := by decide +kernel
theorem dX8_write_97 : decode cX8_write 97 = .ok (.iload_n 3, 1) := by decide +kernel
theorem dX8_write_98 : decode cX8_write 98 = .ok (.ireturn, 1) := by decide +kernel
set_option maxRecDepth 20000 in
theorem m_X8_write {h : Hp} {a1 : Int32} {a2 : Int32}  {u : (Hp × Int32)} (hu : f_X8_write h a1 a2 = some u) : Ct yX8_write cX8_write 5 (some .int) 7 [.ref 68, .int a1, .int a2] h (eI u) := by
  refine ct_of eI hu (by decide) (Nat.le_of_ble_eq_true rfl) (fun κ hn C E => ?_)
  have n3 : 3 < kn κ := by rw [hn]; decide
  have n4 : 4 < kn κ := by rw [hn]; decide
  unfold f_X8_write
  show Xz κ _ 0 [(0, .ref 68), (1, .int a1), (2, .int a2)] [] h
  refine x_aload_n 1 C dX8_write_0 0 rfl rfl rfl ?_
  refine x_cvV 4 [] [] C 6 dX8_write_1 v_X8_220 (fun u hu => m_X8_find hu) rfl sk_68 rfl (Nat.le_of_ble_eq_true rfl) (Nat.le_of_ble_eq_true rfl) rfl (fun h1 => ?_)
  refine x_aload_n 5 C dX8_write_4 0 rfl rfl rfl ?_
  refine x_iload_n 6 C dX8_write_5 1 rfl rfl rfl ?_
  refine x_cvi 9 [.int a1] [] C 1 dX8_write_6 v_X8_151 (fun u hu => m_X8_isWalker hu) rfl sk_68 rfl (Nat.le_of_ble_eq_true rfl) (Nat.le_of_ble_eq_true rfl) rfl (fun x2 => ?_)
  refine x_if_eq 12 19 C dX8_write_9 (by decide) rfl (fun _ => ?_) (fun _ => ?_)
  · refine x_bipush 21 C dX8_write_19 cb_m2 rfl ?_
    exact x_iret C E dX8_write_21 rfl
  · refine x_iload_n 13 C dX8_write_12 2 rfl rfl rfl ?_
    refine x_csi 16 [.int a2] [] C 1 dX8_write_13 s_X8_95 (fun u hu => m_X8_isSheet hu) rfl rfl (Nat.le_of_ble_eq_true rfl) (Nat.le_of_ble_eq_true rfl) rfl (fun x3 => ?_)
    refine x_if_ne 19 22 C dX8_write_16 (by decide) rfl (fun _ => ?_) (fun _ => ?_)
    · refine x_aload_n 23 C dX8_write_22 0 rfl rfl rfl ?_
      refine x_getR (c := 69) 26 C dX8_write_23 fl_X8_7 sk_68 rfl sr_68_0 rfl ?_
      refine x_iload_n 27 C dX8_write_26 2 rfl rfl rfl ?_
      refine x_iald 28 C dX8_write_27 sk_69 sl_69 rfl ?_
      refine x_if_ge 31 37 C dX8_write_28 (by decide) rfl (fun _ => ?_) (fun _ => ?_)
      · refine x_aload_n 38 C dX8_write_37 0 rfl rfl rfl ?_
        refine x_getR (c := 70) 41 C dX8_write_38 fl_X8_13 sk_68 rfl sr_68_1 rfl ?_
        refine x_iload_n 42 C dX8_write_41 2 rfl rfl rfl ?_
        refine x_iald 43 C dX8_write_42 sk_70 sl_70 rfl ?_
        refine x_bipush 45 C dX8_write_43 cb_24 rfl ?_
        refine x_csi 48 [.int (ia h1 70 a2), .int (24 : Int32)] [] C 0 dX8_write_45 s_X8_317 (fun u hu => m_X8_lesser hu) rfl rfl (Nat.le_of_ble_eq_true rfl) (Nat.le_of_ble_eq_true rfl) rfl (fun x4 => ?_)
        refine x_istore_n 49 [(3, .int x4), (0, .ref 68), (1, .int a1), (2, .int a2)] C dX8_write_48 n3 rfl rfl rfl ?_
        refine x_iconst 50 C dX8_write_49 ci_0 rfl ?_
        refine x_istore 52 [(4, .int (0 : Int32)), (3, .int x4), (0, .ref 68), (1, .int a1), (2, .int a2)] C dX8_write_50 n4 rfl rfl ?_
        refine x_ls [2, 3, 4, 1, 0] rfl (x_fx2 (ls := fun h5 x6 => [(0, .ref 68), (1, .int a1), (2, .int a2), (3, .int x4), (4, .int x6)]) (st := fun h5 x6 => []) (hh := fun h5 x6 => h5) (fun s1 J1 h5 x6 => ?_))
        refine x_iload 54 C dX8_write_52 4 rfl rfl ?_
        refine x_iload_n 55 C dX8_write_54 3 rfl rfl rfl ?_
        refine x_icmp_ge 58 97 C dX8_write_55 (by decide) rfl (fun _ => ?_) (fun _ => ?_)
        · refine x_iload_n 98 C dX8_write_97 3 rfl rfl rfl ?_
          exact x_iret C E dX8_write_98 rfl
        · refine x_aload_n 59 C dX8_write_58 0 rfl rfl rfl ?_
          refine x_getR (c := 71) 62 C dX8_write_59 fl_X8_16 sk_68 rfl sr_68_2 rfl ?_
          refine x_bipush 64 C dX8_write_62 cb_60 rfl ?_
          refine x_iload_n 65 C dX8_write_64 2 rfl rfl rfl ?_
          refine x_imul 66 C dX8_write_65 rfl ?_
          refine x_iload 68 C dX8_write_66 4 rfl rfl ?_
          refine x_iadd 69 C dX8_write_68 rfl ?_
          refine x_aload_n 70 C dX8_write_69 0 rfl rfl rfl ?_
          refine x_getR (c := 69) 73 C dX8_write_70 fl_X8_7 sk_68 rfl sr_68_0 rfl ?_
          refine x_iload_n 74 C dX8_write_73 2 rfl rfl rfl ?_
          refine x_iald 75 C dX8_write_74 sk_69 sl_69 rfl ?_
          refine x_aload_n 76 C dX8_write_75 0 rfl rfl rfl ?_
          refine x_getR (c := 89) 79 C dX8_write_76 fl_X8_70 sk_68 rfl sr_68_25 rfl ?_
          refine x_bipush 81 C dX8_write_79 cb_6 rfl ?_
          refine x_iload 83 C dX8_write_81 4 rfl rfl ?_
          refine x_imul 84 C dX8_write_83 rfl ?_
          refine x_iload_n 85 C dX8_write_84 1 rfl rfl rfl ?_
          refine x_iadd 86 C dX8_write_85 rfl ?_
          refine x_iald 87 C dX8_write_86 sk_89 sl_89 rfl ?_
          refine x_csi 90 [.int (ia h5 69 a2), .int (ia h5 89 (((6 : Int32) * x6) + a1))] [.int (((60 : Int32) * a2) + x6), .ref 71] C 0 dX8_write_87 s_X8_109 (fun u hu => m_X8_cut hu) rfl rfl (Nat.le_of_ble_eq_true rfl) (Nat.le_of_ble_eq_true rfl) rfl (fun x7 => ?_)
          refine x_iast 91 C dX8_write_90 sk_71 sl_71 rfl (fun h8 => ?_)
          refine x_iinc 94 (fun x9 => [(4, .int x9), (0, .ref 68), (1, .int a1), (2, .int a2), (3, .int x4)]) C dX8_write_91 4 rfl ci_1 n4 (fun _ => rfl) rfl (fun x9 => ?_)
          refine x_goto 52 C dX8_write_94 (by decide) ?_
          exact x_ls [1, 2, 3, 4, 0] rfl (J1 h8 x9)
      · refine x_aload_n 32 C dX8_write_31 0 rfl rfl rfl ?_
        refine x_iconst 33 C dX8_write_32 ci_1 rfl ?_
        refine x_cvI 36 [.int (1 : Int32)] [] C 0 dX8_write_33 v_X8_101 (fun u hu => m_X8_finds hu) rfl sk_68 rfl (Nat.le_of_ble_eq_true rfl) (Nat.le_of_ble_eq_true rfl) rfl (fun h10 x11 => ?_)
        exact x_iret C E dX8_write_36 rfl
    · refine x_bipush 21 C dX8_write_19 cb_m2 rfl ?_
      exact x_iret C E dX8_write_21 rfl

def f_X8_count (h : Hp) (a1 : Int32) : Option (Hp × Int32) :=
  bdv (f_X8_find h) fun h1 =>
  if a1 = (0 : Int32) then (
    some (h1, (h1.1 68 7)))
  else (
    if a1 = (1 : Int32) then (
      some (h1, (h1.1 68 9)))
    else (
      if a1 = (2 : Int32) then (
        some (h1, ((h1.1 74 0) + (h1.1 74 1))))
      else (
        if a1 = (3 : Int32) then (
          some (h1, (h1.1 68 12)))
        else (
          if a1 = (4 : Int32) then (
            ck (a1 - (4 : Int32)) 3 (
              some (h1, (ia h1 77 (a1 - (4 : Int32))))))
          else (
            if a1 = (5 : Int32) then (
              ck (a1 - (4 : Int32)) 3 (
                some (h1, (ia h1 77 (a1 - (4 : Int32))))))
            else (
              if a1 = (6 : Int32) then (
                ck (a1 - (4 : Int32)) 3 (
                  some (h1, (ia h1 77 (a1 - (4 : Int32))))))
              else (
                if a1 = (7 : Int32) then (
                  some (h1, (h1.1 68 29)))
                else (
                  if a1 = (8 : Int32) then (
                    some (h1, (h1.1 68 4)))
                  else (
                    some (h1, (-2 : Int32)))))))))))
theorem dX8_count_0 : decode cX8_count 0 = .ok (.aload_n 0, 1) := by decide +kernel
theorem dX8_count_1 : decode cX8_count 1 = .ok (.invokevirtual 220, 3) := by decide +kernel
theorem dX8_count_4 : decode cX8_count 4 = .ok (.iload_n 1, 1) := by decide +kernel
theorem dX8_count_5 : decode cX8_count 5 = .ok (.tableswitch 99 0 8 #[51, 56, 61, 75, 80, 80, 80, 89, 94], 51) := by decide +kernel
theorem dX8_count_56 : decode cX8_count 56 = .ok (.aload_n 0, 1) := by decide +kernel
theorem dX8_count_57 : decode cX8_count 57 = .ok (.getfield 127, 3) := by decide +kernel
theorem dX8_count_60 : decode cX8_count 60 = .ok (.ireturn, 1) := by decide +kernel
theorem dX8_count_61 : decode cX8_count 61 = .ok (.aload_n 0, 1) := by decide +kernel
theorem dX8_count_62 : decode cX8_count 62 = .ok (.getfield 133, 3) := by decide +kernel
theorem dX8_count_65 : decode cX8_count 65 = .ok (.ireturn, 1) := by decide +kernel
theorem dX8_count_66 : decode cX8_count 66 = .ok (.aload_n 0, 1) := by decide +kernel
theorem dX8_count_67 : decode cX8_count 67 = .ok (.getfield 25, 3) := by decide +kernel
theorem dX8_count_70 : decode cX8_count 70 = .ok (.iconst 0, 1) := by decide +kernel
theorem dX8_count_71 : decode cX8_count 71 = .ok (.iaload, 1) := by decide +kernel
theorem dX8_count_72 : decode cX8_count 72 = .ok (.aload_n 0, 1) := by decide +kernel
theorem dX8_count_73 : decode cX8_count 73 = .ok (.getfield 25, 3) := by decide +kernel
theorem dX8_count_76 : decode cX8_count 76 = .ok (.iconst 1, 1) := by decide +kernel
theorem dX8_count_77 : decode cX8_count 77 = .ok (.iaload, 1) := by decide +kernel
theorem dX8_count_78 : decode cX8_count 78 = .ok (.iadd, 1) := by decide +kernel
theorem dX8_count_79 : decode cX8_count 79 = .ok (.ireturn, 1) := by decide +kernel
theorem dX8_count_80 : decode cX8_count 80 = .ok (.aload_n 0, 1) := by decide +kernel
theorem dX8_count_81 : decode cX8_count 81 = .ok (.getfield 169, 3) := by decide +kernel
theorem dX8_count_84 : decode cX8_count 84 = .ok (.ireturn, 1) := by decide +kernel
theorem dX8_count_85 : decode cX8_count 85 = .ok (.aload_n 0, 1) := by decide +kernel
theorem dX8_count_86 : decode cX8_count 86 = .ok (.getfield 34, 3) := by decide +kernel
theorem dX8_count_89 : decode cX8_count 89 = .ok (.iload_n 1, 1) := by decide +kernel
theorem dX8_count_90 : decode cX8_count 90 = .ok (.iconst 4, 1) := by decide +kernel
theorem dX8_count_91 : decode cX8_count 91 = .ok (.isub, 1) := by decide +kernel
theorem dX8_count_92 : decode cX8_count 92 = .ok (.iaload, 1) := by decide +kernel
theorem dX8_count_93 : decode cX8_count 93 = .ok (.ireturn, 1) := by decide +kernel
theorem dX8_count_94 : decode cX8_count 94 = .ok (.aload_n 0, 1) := by decide +kernel
theorem dX8_count_95 : decode cX8_count 95 = .ok (.getfield 261, 3) := by decide +kernel
theorem dX8_count_98 : decode cX8_count 98 = .ok (.ireturn, 1) := by decide +kernel
theorem dX8_count_99 : decode cX8_count 99 = .ok (.aload_n 0, 1) := by decide +kernel
theorem dX8_count_100 : decode cX8_count 100 = .ok (.getfield 89, 3) := by decide +kernel
theorem dX8_count_103 : decode cX8_count 103 = .ok (.ireturn, 1) := by decide +kernel
theorem dX8_count_104 : decode cX8_count 104 = .ok (.bipush (-2), 2) := by decide +kernel
theorem dX8_count_106 : decode cX8_count 106 = .ok (.ireturn, 1) := by decide +kernel
set_option maxRecDepth 20000 in
theorem m_X8_count {h : Hp} {a1 : Int32}  {u : (Hp × Int32)} (hu : f_X8_count h a1 = some u) : Ct yX8_count cX8_count 2 (some .int) 7 [.ref 68, .int a1] h (eI u) := by
  refine ct_of eI hu (by decide) (Nat.le_of_ble_eq_true rfl) (fun κ hn C E => ?_)
  unfold f_X8_count
  show Xz κ _ 0 [(0, .ref 68), (1, .int a1)] [] h
  refine x_aload_n 1 C dX8_count_0 0 rfl rfl rfl ?_
  refine x_cvV 4 [] [] C 6 dX8_count_1 v_X8_220 (fun u hu => m_X8_find hu) rfl sk_68 rfl (Nat.le_of_ble_eq_true rfl) (Nat.le_of_ble_eq_true rfl) rfl (fun h1 => ?_)
  refine x_iload_n 5 C dX8_count_4 1 rfl rfl rfl ?_
  refine x_ite (fun e0 => ?_) (fun e0 => ?_)
  · refine x_tabI (off := 51) 56 C dX8_count_5 e0 (by decide) (by decide) (by decide) (by decide) ?_
    refine x_aload_n 57 C dX8_count_56 0 rfl rfl rfl ?_
    refine x_getI 60 C dX8_count_57 fl_X8_127 sk_68 rfl rfl ?_
    exact x_iret C E dX8_count_60 rfl
  refine x_ite (fun e1 => ?_) (fun e1 => ?_)
  · refine x_tabI (off := 56) 61 C dX8_count_5 e1 (by decide) (by decide) (by decide) (by decide) ?_
    refine x_aload_n 62 C dX8_count_61 0 rfl rfl rfl ?_
    refine x_getI 65 C dX8_count_62 fl_X8_133 sk_68 rfl rfl ?_
    exact x_iret C E dX8_count_65 rfl
  refine x_ite (fun e2 => ?_) (fun e2 => ?_)
  · refine x_tabI (off := 61) 66 C dX8_count_5 e2 (by decide) (by decide) (by decide) (by decide) ?_
    refine x_aload_n 67 C dX8_count_66 0 rfl rfl rfl ?_
    refine x_getR (c := 74) 70 C dX8_count_67 fl_X8_25 sk_68 rfl sr_68_6 rfl ?_
    refine x_iconst 71 C dX8_count_70 ci_0 rfl ?_
    refine x_ialc 72 C dX8_count_71 sk_74 sl_74 vi_0_2 vj_0 rfl ?_
    refine x_aload_n 73 C dX8_count_72 0 rfl rfl rfl ?_
    refine x_getR (c := 74) 76 C dX8_count_73 fl_X8_25 sk_68 rfl sr_68_6 rfl ?_
    refine x_iconst 77 C dX8_count_76 ci_1 rfl ?_
    refine x_ialc 78 C dX8_count_77 sk_74 sl_74 vi_1_2 vj_1 rfl ?_
    refine x_iadd 79 C dX8_count_78 rfl ?_
    exact x_iret C E dX8_count_79 rfl
  refine x_ite (fun e3 => ?_) (fun e3 => ?_)
  · refine x_tabI (off := 75) 80 C dX8_count_5 e3 (by decide) (by decide) (by decide) (by decide) ?_
    refine x_aload_n 81 C dX8_count_80 0 rfl rfl rfl ?_
    refine x_getI 84 C dX8_count_81 fl_X8_169 sk_68 rfl rfl ?_
    exact x_iret C E dX8_count_84 rfl
  refine x_ite (fun e4 => ?_) (fun e4 => ?_)
  · refine x_tabI (off := 80) 85 C dX8_count_5 e4 (by decide) (by decide) (by decide) (by decide) ?_
    refine x_aload_n 86 C dX8_count_85 0 rfl rfl rfl ?_
    refine x_getR (c := 77) 89 C dX8_count_86 fl_X8_34 sk_68 rfl sr_68_11 rfl ?_
    refine x_iload_n 90 C dX8_count_89 1 rfl rfl rfl ?_
    refine x_iconst 91 C dX8_count_90 ci_4 rfl ?_
    refine x_isub 92 C dX8_count_91 rfl ?_
    refine x_iald 93 C dX8_count_92 sk_77 sl_77 rfl ?_
    exact x_iret C E dX8_count_93 rfl
  refine x_ite (fun e5 => ?_) (fun e5 => ?_)
  · refine x_tabI (off := 80) 85 C dX8_count_5 e5 (by decide) (by decide) (by decide) (by decide) ?_
    refine x_aload_n 86 C dX8_count_85 0 rfl rfl rfl ?_
    refine x_getR (c := 77) 89 C dX8_count_86 fl_X8_34 sk_68 rfl sr_68_11 rfl ?_
    refine x_iload_n 90 C dX8_count_89 1 rfl rfl rfl ?_
    refine x_iconst 91 C dX8_count_90 ci_4 rfl ?_
    refine x_isub 92 C dX8_count_91 rfl ?_
    refine x_iald 93 C dX8_count_92 sk_77 sl_77 rfl ?_
    exact x_iret C E dX8_count_93 rfl
  refine x_ite (fun e6 => ?_) (fun e6 => ?_)
  · refine x_tabI (off := 80) 85 C dX8_count_5 e6 (by decide) (by decide) (by decide) (by decide) ?_
    refine x_aload_n 86 C dX8_count_85 0 rfl rfl rfl ?_
    refine x_getR (c := 77) 89 C dX8_count_86 fl_X8_34 sk_68 rfl sr_68_11 rfl ?_
    refine x_iload_n 90 C dX8_count_89 1 rfl rfl rfl ?_
    refine x_iconst 91 C dX8_count_90 ci_4 rfl ?_
    refine x_isub 92 C dX8_count_91 rfl ?_
    refine x_iald 93 C dX8_count_92 sk_77 sl_77 rfl ?_
    exact x_iret C E dX8_count_93 rfl
  refine x_ite (fun e7 => ?_) (fun e7 => ?_)
  · refine x_tabI (off := 89) 94 C dX8_count_5 e7 (by decide) (by decide) (by decide) (by decide) ?_
    refine x_aload_n 95 C dX8_count_94 0 rfl rfl rfl ?_
    refine x_getI 98 C dX8_count_95 fl_X8_261 sk_68 rfl rfl ?_
    exact x_iret C E dX8_count_98 rfl
  refine x_ite (fun e8 => ?_) (fun e8 => ?_)
  · refine x_tabI (off := 94) 99 C dX8_count_5 e8 (by decide) (by decide) (by decide) (by decide) ?_
    refine x_aload_n 100 C dX8_count_99 0 rfl rfl rfl ?_
    refine x_getI 103 C dX8_count_100 fl_X8_89 sk_68 rfl rfl ?_
    exact x_iret C E dX8_count_103 rfl
  refine x_tabO 104 C dX8_count_5 (by have := lv_neT e0 (show (0 : Int32).toInt = 0 by decide); have := lv_neT e1 (show (1 : Int32).toInt = 1 by decide); have := lv_neT e2 (show (2 : Int32).toInt = 2 by decide); have := lv_neT e3 (show (3 : Int32).toInt = 3 by decide); have := lv_neT e4 (show (4 : Int32).toInt = 4 by decide); have := lv_neT e5 (show (5 : Int32).toInt = 5 by decide); have := lv_neT e6 (show (6 : Int32).toInt = 6 by decide); have := lv_neT e7 (show (7 : Int32).toInt = 7 by decide); have := lv_neT e8 (show (8 : Int32).toInt = 8 by decide); omega) (by decide) ?_
  refine x_bipush 106 C dX8_count_104 cb_m2 rfl ?_
  exact x_iret C E dX8_count_106 rfl
