def f_X4_faultOfRoutine (h : Hp) (S : Nat) : Option Int32 :=
  fx1 FU (fun s1 (x1 : Int32) =>
    if (h.1 S 1) ≤ x1 then (
      some (-1 : Int32))
    else (
      bdr (f_X4_byteAt h S x1) fun x2 =>
      bdr (f_X4_moveOf x2) fun x3 =>
      if x3 = (-1 : Int32) then (
        some x1)
      else (
        nm (x1 + (1 : Int32)) fun x4 =>
        s1 x4))) (0 : Int32)
theorem dX4_faultOfRoutine_0 : decode cX4_faultOfRoutine 0 = .ok (.iconst 0, 1) := by decide +kernel
theorem dX4_faultOfRoutine_1 : decode cX4_faultOfRoutine 1 = .ok (.istore_n 1, 1) := by decide +kernel
theorem dX4_faultOfRoutine_2 : decode cX4_faultOfRoutine 2 = .ok (.iload_n 1, 1) := by decide +kernel
theorem dX4_faultOfRoutine_3 : decode cX4_faultOfRoutine 3 = .ok (.aload_n 0, 1) := by decide +kernel
theorem dX4_faultOfRoutine_4 : decode cX4_faultOfRoutine 4 = .ok (.getfield 9, 3) := by decide +kernel
theorem dX4_faultOfRoutine_7 : decode cX4_faultOfRoutine 7 = .ok (.if_icmp .ge 23, 3) := by decide +kernel
theorem dX4_faultOfRoutine_10 : decode cX4_faultOfRoutine 10 = .ok (.aload_n 0, 1) := by decide +kernel
theorem dX4_faultOfRoutine_11 : decode cX4_faultOfRoutine 11 = .ok (.iload_n 1, 1) := by decide +kernel
theorem dX4_faultOfRoutine_12 : decode cX4_faultOfRoutine 12 = .ok (.invokevirtual 25, 3) := by decide +kernel
theorem dX4_faultOfRoutine_15 : decode cX4_faultOfRoutine 15 = .ok (.invokestatic 33, 3) := by decide +kernel
theorem dX4_faultOfRoutine_18 : decode cX4_faultOfRoutine 18 = .ok (.iconst (-1), 1) := by decide +kernel
theorem dX4_faultOfRoutine_19 : decode cX4_faultOfRoutine 19 = .ok (.if_icmp .ne 5, 3) := by decide +kernel
theorem dX4_faultOfRoutine_22 : decode cX4_faultOfRoutine 22 = .ok (.iload_n 1, 1) := by decide +kernel
theorem dX4_faultOfRoutine_23 : decode cX4_faultOfRoutine 23 = .ok (.ireturn, 1) := by decide +kernel
theorem dX4_faultOfRoutine_24 : decode cX4_faultOfRoutine 24 = .ok (.iinc 1 1, 3) := by decide +kernel
theorem dX4_faultOfRoutine_27 : decode cX4_faultOfRoutine 27 = .ok (.goto (-25), 3) := by decide +kernel
theorem dX4_faultOfRoutine_30 : decode cX4_faultOfRoutine 30 = .ok (.iconst (-1), 1) := by decide +kernel
theorem dX4_faultOfRoutine_31 : decode cX4_faultOfRoutine 31 = .ok (.ireturn, 1) := by decide +kernel
set_option maxRecDepth 20000 in
theorem m_X4_faultOfRoutine {h : Hp} {S : Nat} (hS : sk S = 4) {u : Int32} (hu : f_X4_faultOfRoutine h S = some u) : Ct yX4_faultOfRoutine cX4_faultOfRoutine 2 (some .int) 1 [.ref S] h ((rI h) u) := by
  refine ct_of (rI h) hu (by decide) (Nat.le_of_ble_eq_true rfl) (fun κ hn C E => ?_)
  have n1 : 1 < kn κ := by rw [hn]; decide
  unfold f_X4_faultOfRoutine
  show Xz κ _ 0 [(0, .ref S)] [] h
  refine x_iconst 1 C dX4_faultOfRoutine_0 ci_0 rfl ?_
  refine x_istore_n 2 [(1, .int (0 : Int32)), (0, .ref S)] C dX4_faultOfRoutine_1 n1 rfl rfl rfl ?_
  refine x_ls [1, 0] rfl (x_fx1 (ls := fun x1 => [(0, .ref S), (1, .int x1)]) (st := fun x1 => []) (hh := fun x1 => h) (fun s1 J1 x1 => ?_))
  refine x_iload_n 3 C dX4_faultOfRoutine_2 1 rfl rfl rfl ?_
  refine x_aload_n 4 C dX4_faultOfRoutine_3 0 rfl rfl rfl ?_
  refine x_getI 7 C dX4_faultOfRoutine_4 fl_X4_9 hS rfl rfl ?_
  refine x_icmp_ge 10 30 C dX4_faultOfRoutine_7 (by decide) rfl (fun _ => ?_) (fun _ => ?_)
  · refine x_iconst 31 C dX4_faultOfRoutine_30 ci_m1 rfl ?_
    exact x_iret C E dX4_faultOfRoutine_31 rfl
  · refine x_aload_n 11 C dX4_faultOfRoutine_10 0 rfl rfl rfl ?_
    refine x_iload_n 12 C dX4_faultOfRoutine_11 1 rfl rfl rfl ?_
    refine x_cvi 15 [.int x1] [] C 0 dX4_faultOfRoutine_12 v_X4_25 (fun u hu => m_X4_byteAt hS hu) rfl hS rfl (Nat.le_of_ble_eq_true rfl) (Nat.le_of_ble_eq_true rfl) rfl (fun x2 => ?_)
    refine x_csi 18 [.int x2] [] C 0 dX4_faultOfRoutine_15 s_X4_33 (fun u hu => m_X4_moveOf hu) rfl rfl (Nat.le_of_ble_eq_true rfl) (Nat.le_of_ble_eq_true rfl) rfl (fun x3 => ?_)
    refine x_iconst 19 C dX4_faultOfRoutine_18 ci_m1 rfl ?_
    refine x_icmp_ne 22 24 C dX4_faultOfRoutine_19 (by decide) rfl (fun _ => ?_) (fun _ => ?_)
    · refine x_iinc 27 (fun x4 => [(1, .int x4), (0, .ref S)]) C dX4_faultOfRoutine_24 1 rfl ci_1 n1 (fun _ => rfl) rfl (fun x4 => ?_)
      refine x_goto 2 C dX4_faultOfRoutine_27 (by decide) ?_
      exact x_ls [1, 0] rfl (J1 x4)
    · refine x_iload_n 23 C dX4_faultOfRoutine_22 1 rfl rfl rfl ?_
      exact x_iret C E dX4_faultOfRoutine_23 rfl

def f_X5_takeWalkers (h : Hp) : Option Hp :=
  bdr (f_X4_faultOfWalkers h 1) fun x1 =>
  lt1 (fun (x2 : Int32) =>
    lt1 (fun (x3 : Int32) =>
      nm (uf h 5 7 x3) fun h4 =>
      fx2 FU (fun s3 (h5 : Hp) (x6 : Int32) =>
        if (h5.1 5 7) ≤ x6 then (
          some h5)
        else (
          bdr (f_X4_byteAt h5 1 ((4 : Int32) * x6)) fun x7 =>
          ck x6 6 (nm (ux h5 6 x6 (x7 - (97 : Int32))) fun h8 =>
          bdr (f_X4_byteAt h8 1 (((4 : Int32) * x6) + (1 : Int32))) fun x9 =>
          bdr (f_X4_sortOf x9) fun x10 =>
          ck x6 6 (nm (ux h8 7 x6 x10) fun h11 =>
          bdr (f_X4_byteAt h11 1 (((4 : Int32) * x6) + (2 : Int32))) fun x12 =>
          ck x6 6 (nm (ux h11 8 x6 (x12 - (48 : Int32))) fun h13 =>
          nm (x6 + (1 : Int32)) fun x14 =>
          s3 h13 x14))))) h4 (0 : Int32)) fun k2 =>
    if x2 = 0 then (
      k2 (0 : Int32))
    else (
      k2 (jmin (((h.1 1 1) + (1 : Int32)) / (4 : Int32)) (6 : Int32)))) fun k1 =>
  if x1 = (-1 : Int32) then (
    k1 (1 : Int32))
  else (
    k1 (0 : Int32))
theorem dX5_takeWalkers_0 : decode cX5_takeWalkers 0 = .ok (.aload_n 1, 1) := by decide +kernel
theorem dX5_takeWalkers_1 : decode cX5_takeWalkers 1 = .ok (.invokevirtual 49, 3) := by decide +kernel
theorem dX5_takeWalkers_4 : decode cX5_takeWalkers 4 = .ok (.iconst (-1), 1) := by decide +kernel
theorem dX5_takeWalkers_5 : decode cX5_takeWalkers 5 = .ok (.if_icmp .ne 7, 3) := by decide +kernel
theorem dX5_takeWalkers_8 : decode cX5_takeWalkers 8 = .ok (.iconst 1, 1) := by decide +kernel
theorem dX5_takeWalkers_9 : decode cX5_takeWalkers 9 = .ok (.goto 4, 3) := by decide +kernel
theorem dX5_takeWalkers_12 : decode cX5_takeWalkers 12 = .ok (.iconst 0, 1) := by decide +kernel
theorem dX5_takeWalkers_13 : decode cX5_takeWalkers 13 = .ok (.istore_n 2, 1) := by decide +kernel
theorem dX5_takeWalkers_14 : decode cX5_takeWalkers 14 = .ok (.aload_n 0, 1) := by decide +kernel
theorem dX5_takeWalkers_15 : decode cX5_takeWalkers 15 = .ok (.iload_n 2, 1) := by decide +kernel
theorem dX5_takeWalkers_16 : decode cX5_takeWalkers 16 = .ok (.ifCond .eq 19, 3) := by decide +kernel
theorem dX5_takeWalkers_19 : decode cX5_takeWalkers 19 = .ok (.aload_n 1, 1) := by decide +kernel
theorem dX5_takeWalkers_20 : decode cX5_takeWalkers 20 = .ok (.getfield 55, 3) := by decide +kernel
theorem dX5_takeWalkers_23 : decode cX5_takeWalkers 23 = .ok (.iconst 1, 1) := by decide +kernel
theorem dX5_takeWalkers_24 : decode cX5_takeWalkers 24 = .ok (.iadd, 1) := by decide +kernel
theorem dX5_takeWalkers_25 : decode cX5_takeWalkers 25 = .ok (.iconst 4, 1) := by decide +kernel
theorem dX5_takeWalkers_26 : decode cX5_takeWalkers 26 = .ok (.idiv, 1) := by decide +kernel
theorem dX5_takeWalkers_27 : decode cX5_takeWalkers 27 = .ok (.bipush 6, 2) := by decide +kernel
theorem dX5_takeWalkers_29 : decode cX5_takeWalkers 29 = .ok (.invokestatic 58, 3) := by decide +kernel
theorem dX5_takeWalkers_32 : decode cX5_takeWalkers 32 = .ok (.goto 4, 3) := by decide +kernel
theorem dX5_takeWalkers_35 : decode cX5_takeWalkers 35 = .ok (.iconst 0, 1) := by decide +kernel
theorem dX5_takeWalkers_36 : decode cX5_takeWalkers 36 = .ok (.putfield 33, 3) := by decide +kernel
theorem dX5_takeWalkers_39 : decode cX5_takeWalkers 39 = .ok (.iconst 0, 1) := by decide +kernel
theorem dX5_takeWalkers_40 : decode cX5_takeWalkers 40 = .ok (.istore_n 3, 1) := by decide +kernel
theorem dX5_takeWalkers_41 : decode cX5_takeWalkers 41 = .ok (.iload_n 3, 1) := by decide +kernel
theorem dX5_takeWalkers_42 : decode cX5_takeWalkers 42 = .ok (.aload_n 0, 1) := by decide +kernel
theorem dX5_takeWalkers_43 : decode cX5_takeWalkers 43 = .ok (.getfield 33, 3) := by decide +kernel
theorem dX5_takeWalkers_46 : decode cX5_takeWalkers 46 = .ok (.if_icmp .ge 61, 3) := by decide +kernel
theorem dX5_takeWalkers_49 : decode cX5_takeWalkers 49 = .ok (.aload_n 0, 1) := by decide +kernel
theorem dX5_takeWalkers_50 : decode cX5_takeWalkers 50 = .ok (.getfield 9, 3) := by decide +kernel
theorem dX5_takeWalkers_53 : decode cX5_takeWalkers 53 = .ok (.iload_n 3, 1) := by decide +kernel
theorem dX5_takeWalkers_54 : decode cX5_takeWalkers 54 = .ok (.aload_n 1, 1) := by decide +kernel
theorem dX5_takeWalkers_55 : decode cX5_takeWalkers 55 = .ok (.iconst 4, 1) := by decide +kernel
theorem dX5_takeWalkers_56 : decode cX5_takeWalkers 56 = .ok (.iload_n 3, 1) := by decide +kernel
theorem dX5_takeWalkers_57 : decode cX5_takeWalkers 57 = .ok (.imul, 1) := by decide +kernel
theorem dX5_takeWalkers_58 : decode cX5_takeWalkers 58 = .ok (.invokevirtual 64, 3) := by decide +kernel
theorem dX5_takeWalkers_61 : decode cX5_takeWalkers 61 = .ok (.bipush 97, 2) := by decide +kernel
theorem dX5_takeWalkers_63 : decode cX5_takeWalkers 63 = .ok (.isub, 1) := by decide +kernel
theorem dX5_takeWalkers_64 : decode cX5_takeWalkers 64 = .ok (.iastore, 1) := by decide +kernel
theorem dX5_takeWalkers_65 : decode cX5_takeWalkers 65 = .ok (.aload_n 0, 1) := by decide +kernel
theorem dX5_takeWalkers_66 : decode cX5_takeWalkers 66 = .ok (.getfield 15, 3) := by decide +kernel
theorem dX5_takeWalkers_69 : decode cX5_takeWalkers 69 = .ok (.iload_n 3, 1) := by decide +kernel
theorem dX5_takeWalkers_70 : decode cX5_takeWalkers 70 = .ok (.aload_n 1, 1) := by decide +kernel
theorem dX5_takeWalkers_71 : decode cX5_takeWalkers 71 = .ok (.iconst 4, 1) := by decide +kernel
theorem dX5_takeWalkers_72 : decode cX5_takeWalkers 72 = .ok (.iload_n 3, 1) := by decide +kernel
theorem dX5_takeWalkers_73 : decode cX5_takeWalkers 73 = .ok (.imul, 1) := by decide +kernel
theorem dX5_takeWalkers_74 : decode cX5_takeWalkers 74 = .ok (.iconst 1, 1) := by decide +kernel
theorem dX5_takeWalkers_75 : decode cX5_takeWalkers 75 = .ok (.iadd, 1) := by decide +kernel
theorem dX5_takeWalkers_76 : decode cX5_takeWalkers 76 = .ok (.invokevirtual 64, 3) := by decide +kernel
theorem dX5_takeWalkers_79 : decode cX5_takeWalkers 79 = .ok (.invokestatic 68, 3) := by decide +kernel
theorem dX5_takeWalkers_82 : decode cX5_takeWalkers 82 = .ok (.iastore, 1) := by decide +kernel
theorem dX5_takeWalkers_83 : decode cX5_takeWalkers 83 = .ok (.aload_n 0, 1) := by decide +kernel
theorem dX5_takeWalkers_84 : decode cX5_takeWalkers 84 = .ok (.getfield 18, 3) := by decide +kernel
theorem dX5_takeWalkers_87 : decode cX5_takeWalkers 87 = .ok (.iload_n 3, 1) := by decide +kernel
theorem dX5_takeWalkers_88 : decode cX5_takeWalkers 88 = .ok (.aload_n 1, 1) := by decide +kernel
theorem dX5_takeWalkers_89 : decode cX5_takeWalkers 89 = .ok (.iconst 4, 1) := by decide +kernel
theorem dX5_takeWalkers_90 : decode cX5_takeWalkers 90 = .ok (.iload_n 3, 1) := by decide +kernel
theorem dX5_takeWalkers_91 : decode cX5_takeWalkers 91 = .ok (.imul, 1) := by decide +kernel
theorem dX5_takeWalkers_92 : decode cX5_takeWalkers 92 = .ok (.iconst 2, 1) := by decide +kernel
theorem dX5_takeWalkers_93 : decode cX5_takeWalkers 93 = .ok (.iadd, 1) := by decide +kernel
theorem dX5_takeWalkers_94 : decode cX5_takeWalkers 94 = .ok (.invokevirtual 64, 3) := by decide +kernel
theorem dX5_takeWalkers_97 : decode cX5_takeWalkers 97 = .ok (.bipush 48, 2) := by decide +kernel
theorem dX5_takeWalkers_99 : decode cX5_takeWalkers 99 = .ok (.isub, 1) := by decide +kernel
theorem dX5_takeWalkers_100 : decode cX5_takeWalkers 100 = .ok (.iastore, 1) := by decide +kernel
theorem dX5_takeWalkers_101 : decode cX5_takeWalkers 101 = .ok (.iinc 3 1, 3) := by decide +kernel
theorem dX5_takeWalkers_104 : decode cX5_takeWalkers 104 = .ok (.goto (-63), 3) := by decide +kernel
theorem dX5_takeWalkers_107 : decode cX5_takeWalkers 107 = .ok (.return_, 1) := by decide +kernel
set_option maxRecDepth 20000 in
theorem m_X5_takeWalkers {h : Hp}  {u : Hp} (hu : f_X5_takeWalkers h = some u) : Ct yX5_takeWalkers cX5_takeWalkers 4 none 3 [.ref 5, .ref 1] h (eV u) := by
  refine ct_of eV hu (by decide) (Nat.le_of_ble_eq_true rfl) (fun κ hn C E => ?_)
  have n2 : 2 < kn κ := by rw [hn]; decide
  have n3 : 3 < kn κ := by rw [hn]; decide
  unfold f_X5_takeWalkers
  show Xz κ _ 0 [(0, .ref 5), (1, .ref 1)] [] h
  refine x_aload_n 1 C dX5_takeWalkers_0 1 rfl rfl rfl ?_
  refine x_cvi 4 [] [] C 2 dX5_takeWalkers_1 v_X5_49 (fun u hu => m_X4_faultOfWalkers sk_1 hu) rfl sk_1 rfl (Nat.le_of_ble_eq_true rfl) (Nat.le_of_ble_eq_true rfl) rfl (fun x1 => ?_)
  refine x_iconst 5 C dX5_takeWalkers_4 ci_m1 rfl ?_
  refine x_lt1 (q := 13) (ls := fun x2 => [(0, .ref 5), (1, .ref 1)]) (st := fun x2 => [.int x2]) (hh := fun x2 => h) (fun x2 => ?_) (fun k1 J1 => ?_)
  · refine x_istore_n 14 [(2, .int x2), (0, .ref 5), (1, .ref 1)] C dX5_takeWalkers_13 n2 rfl rfl rfl ?_
    refine x_aload_n 15 C dX5_takeWalkers_14 1 rfl rfl rfl ?_
    refine x_iload_n 16 C dX5_takeWalkers_15 0 rfl rfl rfl ?_
    refine x_lt1 (q := 36) (ls := fun x3 => [(0, .ref 5), (1, .ref 1)]) (st := fun x3 => [.int x3, .ref 5]) (hh := fun x3 => h) (fun x3 => ?_) (fun k2 J2 => ?_)
    · refine x_put 39 C dX5_takeWalkers_36 fp_X5_33 sk_5 rfl rfl rfl rfl (fun h4 => ?_)
      refine x_iconst 40 C dX5_takeWalkers_39 ci_0 rfl ?_
      refine x_istore_n 41 [(3, .int (0 : Int32)), (0, .ref 5), (1, .ref 1)] C dX5_takeWalkers_40 n3 rfl rfl rfl ?_
      refine x_ls [1, 2, 0] rfl (x_fx2 (ls := fun h5 x6 => [(0, .ref 5), (1, .ref 1), (3, .int x6)]) (st := fun h5 x6 => []) (hh := fun h5 x6 => h5) (fun s3 J3 h5 x6 => ?_))
      refine x_iload_n 42 C dX5_takeWalkers_41 2 rfl rfl rfl ?_
      refine x_aload_n 43 C dX5_takeWalkers_42 0 rfl rfl rfl ?_
      refine x_getI 46 C dX5_takeWalkers_43 fl_X5_33 sk_5 rfl rfl ?_
      refine x_icmp_ge 49 107 C dX5_takeWalkers_46 (by decide) rfl (fun _ => ?_) (fun _ => ?_)
      · exact x_vret C E dX5_takeWalkers_107 rfl
      · refine x_aload_n 50 C dX5_takeWalkers_49 0 rfl rfl rfl ?_
        refine x_getR (c := 6) 53 C dX5_takeWalkers_50 fl_X5_9 sk_5 rfl sr_5_0 rfl ?_
        refine x_iload_n 54 C dX5_takeWalkers_53 2 rfl rfl rfl ?_
        refine x_aload_n 55 C dX5_takeWalkers_54 1 rfl rfl rfl ?_
        refine x_iconst 56 C dX5_takeWalkers_55 ci_4 rfl ?_
        refine x_iload_n 57 C dX5_takeWalkers_56 2 rfl rfl rfl ?_
        refine x_imul 58 C dX5_takeWalkers_57 rfl ?_
        refine x_cvi 61 [.int ((4 : Int32) * x6)] [.int x6, .ref 6] C 0 dX5_takeWalkers_58 v_X5_64 (fun u hu => m_X4_byteAt sk_1 hu) rfl sk_1 rfl (Nat.le_of_ble_eq_true rfl) (Nat.le_of_ble_eq_true rfl) rfl (fun x7 => ?_)
        refine x_bipush 63 C dX5_takeWalkers_61 cb_97 rfl ?_
        refine x_isub 64 C dX5_takeWalkers_63 rfl ?_
        refine x_iast 65 C dX5_takeWalkers_64 sk_6 sl_6 rfl (fun h8 => ?_)
        refine x_aload_n 66 C dX5_takeWalkers_65 0 rfl rfl rfl ?_
        refine x_getR (c := 7) 69 C dX5_takeWalkers_66 fl_X5_15 sk_5 rfl sr_5_1 rfl ?_
        refine x_iload_n 70 C dX5_takeWalkers_69 2 rfl rfl rfl ?_
        refine x_aload_n 71 C dX5_takeWalkers_70 1 rfl rfl rfl ?_
        refine x_iconst 72 C dX5_takeWalkers_71 ci_4 rfl ?_
        refine x_iload_n 73 C dX5_takeWalkers_72 2 rfl rfl rfl ?_
        refine x_imul 74 C dX5_takeWalkers_73 rfl ?_
        refine x_iconst 75 C dX5_takeWalkers_74 ci_1 rfl ?_
        refine x_iadd 76 C dX5_takeWalkers_75 rfl ?_
        refine x_cvi 79 [.int (((4 : Int32) * x6) + (1 : Int32))] [.int x6, .ref 7] C 0 dX5_takeWalkers_76 v_X5_64 (fun u hu => m_X4_byteAt sk_1 hu) rfl sk_1 rfl (Nat.le_of_ble_eq_true rfl) (Nat.le_of_ble_eq_true rfl) rfl (fun x9 => ?_)
        refine x_csi 82 [.int x9] [.int x6, .ref 7] C 0 dX5_takeWalkers_79 s_X5_68 (fun u hu => m_X4_sortOf hu) rfl rfl (Nat.le_of_ble_eq_true rfl) (Nat.le_of_ble_eq_true rfl) rfl (fun x10 => ?_)
        refine x_iast 83 C dX5_takeWalkers_82 sk_7 sl_7 rfl (fun h11 => ?_)
        refine x_aload_n 84 C dX5_takeWalkers_83 0 rfl rfl rfl ?_
        refine x_getR (c := 8) 87 C dX5_takeWalkers_84 fl_X5_18 sk_5 rfl sr_5_2 rfl ?_
        refine x_iload_n 88 C dX5_takeWalkers_87 2 rfl rfl rfl ?_
        refine x_aload_n 89 C dX5_takeWalkers_88 1 rfl rfl rfl ?_
        refine x_iconst 90 C dX5_takeWalkers_89 ci_4 rfl ?_
        refine x_iload_n 91 C dX5_takeWalkers_90 2 rfl rfl rfl ?_
        refine x_imul 92 C dX5_takeWalkers_91 rfl ?_
        refine x_iconst 93 C dX5_takeWalkers_92 ci_2 rfl ?_
        refine x_iadd 94 C dX5_takeWalkers_93 rfl ?_
        refine x_cvi 97 [.int (((4 : Int32) * x6) + (2 : Int32))] [.int x6, .ref 8] C 0 dX5_takeWalkers_94 v_X5_64 (fun u hu => m_X4_byteAt sk_1 hu) rfl sk_1 rfl (Nat.le_of_ble_eq_true rfl) (Nat.le_of_ble_eq_true rfl) rfl (fun x12 => ?_)
        refine x_bipush 99 C dX5_takeWalkers_97 cb_48 rfl ?_
        refine x_isub 100 C dX5_takeWalkers_99 rfl ?_
        refine x_iast 101 C dX5_takeWalkers_100 sk_8 sl_8 rfl (fun h13 => ?_)
        refine x_iinc 104 (fun x14 => [(3, .int x14), (0, .ref 5), (1, .ref 1)]) C dX5_takeWalkers_101 2 rfl ci_1 n3 (fun _ => rfl) rfl (fun x14 => ?_)
        refine x_goto 41 C dX5_takeWalkers_104 (by decide) ?_
        exact x_ls [1, 2, 0] rfl (J3 h13 x14)
    refine x_if_eq 19 35 C dX5_takeWalkers_16 (by decide) rfl (fun _ => ?_) (fun _ => ?_)
    · refine x_iconst 36 C dX5_takeWalkers_35 ci_0 rfl ?_
      exact x_ls [1, 2] rfl (J2 (0 : Int32))
    · refine x_aload_n 20 C dX5_takeWalkers_19 2 rfl rfl rfl ?_
      refine x_getI 23 C dX5_takeWalkers_20 fl_X5_55 sk_1 rfl rfl ?_
      refine x_iconst 24 C dX5_takeWalkers_23 ci_1 rfl ?_
      refine x_iadd 25 C dX5_takeWalkers_24 rfl ?_
      refine x_iconst 26 C dX5_takeWalkers_25 ci_4 rfl ?_
      refine x_idiv 27 C dX5_takeWalkers_26 nz_4 rfl ?_
      refine x_bipush 29 C dX5_takeWalkers_27 cb_6 rfl ?_
      refine x_mmin 32 C dX5_takeWalkers_29 mw_X5_58 w_st_min w_in_Math w_co_min (Nat.le_of_ble_eq_true rfl) (Nat.le_of_ble_eq_true rfl) rfl ?_
      refine x_goto 36 C dX5_takeWalkers_32 (by decide) ?_
      exact x_ls [1, 2] rfl (J2 (jmin (((h.1 1 1) + (1 : Int32)) / (4 : Int32)) (6 : Int32)))
  refine x_icmp_ne 8 12 C dX5_takeWalkers_5 (by decide) rfl (fun _ => ?_) (fun _ => ?_)
  · refine x_iconst 13 C dX5_takeWalkers_12 ci_0 rfl ?_
    exact x_ls [0, 1] rfl (J1 (0 : Int32))
  · refine x_iconst 9 C dX5_takeWalkers_8 ci_1 rfl ?_
    refine x_goto 13 C dX5_takeWalkers_9 (by decide) ?_
    exact x_ls [0, 1] rfl (J1 (1 : Int32))

def f_X5_takeRoutine (h : Hp) : Option Hp :=
  bdr (f_X4_faultOfRoutine h 3) fun x1 =>
  lt1 (fun (x2 : Int32) =>
    fx2 FU (fun s2 (h3 : Hp) (x4 : Int32) =>
      if (24 : Int32) ≤ x4 then (
        some h3)
      else (
        lt1 (fun (x5 : Int32) =>
          ck x4 24 (nm (ux h3 9 x4 x5) fun h6 =>
          nm (x4 + (1 : Int32)) fun x7 =>
          s2 h6 x7)) fun k3 =>
        lt1 (fun (u8 : Int32) =>
          k3 (0 : Int32)) fun k4 =>
        if x2 = 0 then (
          k4 (0 : Int32))
        else (
          if (h3.1 3 1) ≤ x4 then (
            k4 (0 : Int32))
          else (
            bdr (f_X4_byteAt h3 3 x4) fun x9 =>
            bdr (f_X4_moveOf x9) fun x10 =>
            k3 x10)))) h (0 : Int32)) fun k1 =>
  if x1 = (-1 : Int32) then (
    k1 (1 : Int32))
  else (
    k1 (0 : Int32))
theorem dX5_takeRoutine_0 : decode cX5_takeRoutine 0 = .ok (.aload_n 1, 1) := by decide +kernel
theorem dX5_takeRoutine_1 : decode cX5_takeRoutine 1 = .ok (.invokevirtual 71, 3) := by decide +kernel
theorem dX5_takeRoutine_4 : decode cX5_takeRoutine 4 = .ok (.iconst (-1), 1) := by decide +kernel
theorem dX5_takeRoutine_5 : decode cX5_takeRoutine 5 = .ok (.if_icmp .ne 7, 3) := by decide +kernel
theorem dX5_takeRoutine_8 : decode cX5_takeRoutine 8 = .ok (.iconst 1, 1) := by decide +kernel
theorem dX5_takeRoutine_9 : decode cX5_takeRoutine 9 = .ok (.goto 4, 3) := by decide +kernel
theorem dX5_takeRoutine_12 : decode cX5_takeRoutine 12 = .ok (.iconst 0, 1) := by decide +kernel
theorem dX5_takeRoutine_13 : decode cX5_takeRoutine 13 = .ok (.istore_n 2, 1) := by decide +kernel
theorem dX5_takeRoutine_14 : decode cX5_takeRoutine 14 = .ok (.iconst 0, 1) := by decide +kernel
theorem dX5_takeRoutine_15 : decode cX5_takeRoutine 15 = .ok (.istore_n 3, 1) := by decide +kernel
theorem dX5_takeRoutine_16 : decode cX5_takeRoutine 16 = .ok (.iload_n 3, 1) := by decide +kernel
theorem dX5_takeRoutine_17 : decode cX5_takeRoutine 17 = .ok (.bipush 24, 2) := by decide +kernel
theorem dX5_takeRoutine_19 : decode cX5_takeRoutine 19 = .ok (.if_icmp .ge 39, 3) := by decide +kernel
theorem dX5_takeRoutine_22 : decode cX5_takeRoutine 22 = .ok (.aload_n 0, 1) := by decide +kernel
theorem dX5_takeRoutine_23 : decode cX5_takeRoutine 23 = .ok (.getfield 21, 3) := by decide +kernel
theorem dX5_takeRoutine_26 : decode cX5_takeRoutine 26 = .ok (.iload_n 3, 1) := by decide +kernel
theorem dX5_takeRoutine_27 : decode cX5_takeRoutine 27 = .ok (.iload_n 2, 1) := by decide +kernel
theorem dX5_takeRoutine_28 : decode cX5_takeRoutine 28 = .ok (.ifCond .eq 22, 3) := by decide +kernel
theorem dX5_takeRoutine_31 : decode cX5_takeRoutine 31 = .ok (.iload_n 3, 1) := by decide +kernel
theorem dX5_takeRoutine_32 : decode cX5_takeRoutine 32 = .ok (.aload_n 1, 1) := by decide +kernel
theorem dX5_takeRoutine_33 : decode cX5_takeRoutine 33 = .ok (.getfield 55, 3) := by decide +kernel
theorem dX5_takeRoutine_36 : decode cX5_takeRoutine 36 = .ok (.if_icmp .ge 14, 3) := by decide +kernel
theorem dX5_takeRoutine_39 : decode cX5_takeRoutine 39 = .ok (.aload_n 1, 1) := by decide +kernel
theorem dX5_takeRoutine_40 : decode cX5_takeRoutine 40 = .ok (.iload_n 3, 1) := by decide +kernel
theorem dX5_takeRoutine_41 : decode cX5_takeRoutine 41 = .ok (.invokevirtual 64, 3) := by decide +kernel
theorem dX5_takeRoutine_44 : decode cX5_takeRoutine 44 = .ok (.invokestatic 74, 3) := by decide +kernel
theorem dX5_takeRoutine_47 : decode cX5_takeRoutine 47 = .ok (.goto 4, 3) := by decide +kernel
theorem dX5_takeRoutine_50 : decode cX5_takeRoutine 50 = .ok (.iconst 0, 1) := by decide +kernel
theorem dX5_takeRoutine_51 : decode cX5_takeRoutine 51 = .ok (.iastore, 1) := by decide +kernel
theorem dX5_takeRoutine_52 : decode cX5_takeRoutine 52 = .ok (.iinc 3 1, 3) := by decide +kernel
theorem dX5_takeRoutine_55 : decode cX5_takeRoutine 55 = .ok (.goto (-39), 3) := by decide +kernel
theorem dX5_takeRoutine_58 : decode cX5_takeRoutine 58 = .ok (.return_, 1) := by decide +kernel
set_option maxRecDepth 20000 in
theorem m_X5_takeRoutine {h : Hp}  {u : Hp} (hu : f_X5_takeRoutine h = some u) : Ct yX5_takeRoutine cX5_takeRoutine 4 none 2 [.ref 5, .ref 3] h (eV u) := by
  refine ct_of eV hu (by decide) (Nat.le_of_ble_eq_true rfl) (fun κ hn C E => ?_)
  have n2 : 2 < kn κ := by rw [hn]; decide
  have n3 : 3 < kn κ := by rw [hn]; decide
  unfold f_X5_takeRoutine
  show Xz κ _ 0 [(0, .ref 5), (1, .ref 3)] [] h
  refine x_aload_n 1 C dX5_takeRoutine_0 1 rfl rfl rfl ?_
  refine x_cvi 4 [] [] C 1 dX5_takeRoutine_1 v_X5_71 (fun u hu => m_X4_faultOfRoutine sk_3 hu) rfl sk_3 rfl (Nat.le_of_ble_eq_true rfl) (Nat.le_of_ble_eq_true rfl) rfl (fun x1 => ?_)
  refine x_iconst 5 C dX5_takeRoutine_4 ci_m1 rfl ?_
  refine x_lt1 (q := 13) (ls := fun x2 => [(0, .ref 5), (1, .ref 3)]) (st := fun x2 => [.int x2]) (hh := fun x2 => h) (fun x2 => ?_) (fun k1 J1 => ?_)
  · refine x_istore_n 14 [(2, .int x2), (0, .ref 5), (1, .ref 3)] C dX5_takeRoutine_13 n2 rfl rfl rfl ?_
    refine x_iconst 15 C dX5_takeRoutine_14 ci_0 rfl ?_
    refine x_istore_n 16 [(3, .int (0 : Int32)), (2, .int x2), (0, .ref 5), (1, .ref 3)] C dX5_takeRoutine_15 n3 rfl rfl rfl ?_
    refine x_ls [2, 3, 1, 0] rfl (x_fx2 (ls := fun h3 x4 => [(0, .ref 5), (1, .ref 3), (2, .int x2), (3, .int x4)]) (st := fun h3 x4 => []) (hh := fun h3 x4 => h3) (fun s2 J2 h3 x4 => ?_))
    refine x_iload_n 17 C dX5_takeRoutine_16 3 rfl rfl rfl ?_
    refine x_bipush 19 C dX5_takeRoutine_17 cb_24 rfl ?_
    refine x_icmp_ge 22 58 C dX5_takeRoutine_19 (by decide) rfl (fun _ => ?_) (fun _ => ?_)
    · exact x_vret C E dX5_takeRoutine_58 rfl
    · refine x_aload_n 23 C dX5_takeRoutine_22 0 rfl rfl rfl ?_
      refine x_getR (c := 9) 26 C dX5_takeRoutine_23 fl_X5_21 sk_5 rfl sr_5_3 rfl ?_
      refine x_iload_n 27 C dX5_takeRoutine_26 3 rfl rfl rfl ?_
      refine x_iload_n 28 C dX5_takeRoutine_27 2 rfl rfl rfl ?_
      refine x_lt1 (q := 51) (ls := fun x5 => [(0, .ref 5), (1, .ref 3), (2, .int x2), (3, .int x4)]) (st := fun x5 => [.int x5, .int x4, .ref 9]) (hh := fun x5 => h3) (fun x5 => ?_) (fun k3 J3 => ?_)
      · refine x_iast 52 C dX5_takeRoutine_51 sk_9 sl_9 rfl (fun h6 => ?_)
        refine x_iinc 55 (fun x7 => [(3, .int x7), (0, .ref 5), (1, .ref 3), (2, .int x2)]) C dX5_takeRoutine_52 3 rfl ci_1 n3 (fun _ => rfl) rfl (fun x7 => ?_)
        refine x_goto 16 C dX5_takeRoutine_55 (by decide) ?_
        exact x_ls [1, 2, 3, 0] rfl (J2 h6 x7)
      refine x_lt1 (q := 50) (ls := fun u8 => [(0, .ref 5), (1, .ref 3), (2, .int x2), (3, .int x4)]) (st := fun u8 => [.int x4, .ref 9]) (hh := fun u8 => h3) (fun u8 => ?_) (fun k4 J4 => ?_)
      · refine x_iconst 51 C dX5_takeRoutine_50 ci_0 rfl ?_
        exact x_ls [0, 1, 2, 3] rfl (J3 (0 : Int32))
      refine x_if_eq 31 50 C dX5_takeRoutine_28 (by decide) rfl (fun _ => ?_) (fun _ => ?_)
      · exact x_ls [0, 1, 2, 3] rfl (J4 (0 : Int32))
      · refine x_iload_n 32 C dX5_takeRoutine_31 3 rfl rfl rfl ?_
        refine x_aload_n 33 C dX5_takeRoutine_32 1 rfl rfl rfl ?_
        refine x_getI 36 C dX5_takeRoutine_33 fl_X5_55 sk_3 rfl rfl ?_
        refine x_icmp_ge 39 50 C dX5_takeRoutine_36 (by decide) rfl (fun _ => ?_) (fun _ => ?_)
        · exact x_ls [0, 1, 2, 3] rfl (J4 (0 : Int32))
        · refine x_aload_n 40 C dX5_takeRoutine_39 1 rfl rfl rfl ?_
          refine x_iload_n 41 C dX5_takeRoutine_40 3 rfl rfl rfl ?_
          refine x_cvi 44 [.int x4] [.int x4, .ref 9] C 0 dX5_takeRoutine_41 v_X5_64 (fun u hu => m_X4_byteAt sk_3 hu) rfl sk_3 rfl (Nat.le_of_ble_eq_true rfl) (Nat.le_of_ble_eq_true rfl) rfl (fun x9 => ?_)
          refine x_csi 47 [.int x9] [.int x4, .ref 9] C 0 dX5_takeRoutine_44 s_X5_74 (fun u hu => m_X4_moveOf hu) rfl rfl (Nat.le_of_ble_eq_true rfl) (Nat.le_of_ble_eq_true rfl) rfl (fun x10 => ?_)
          refine x_goto 51 C dX5_takeRoutine_47 (by decide) ?_
          exact x_ls [0, 1, 2, 3] rfl (J3 x10)
  refine x_icmp_ne 8 12 C dX5_takeRoutine_5 (by decide) rfl (fun _ => ?_) (fun _ => ?_)
  · refine x_iconst 13 C dX5_takeRoutine_12 ci_0 rfl ?_
    exact x_ls [0, 1] rfl (J1 (0 : Int32))
  · refine x_iconst 9 C dX5_takeRoutine_8 ci_1 rfl ?_
    refine x_goto 13 C dX5_takeRoutine_9 (by decide) ?_
    exact x_ls [0, 1] rfl (J1 (1 : Int32))

def f_X7_isBeat (a1 : Int32) : Option Int32 :=
  bdr (f_X7_within a1 (0 : Int32) (23 : Int32)) fun x1 =>
  cy (x1 = 0 ∨ x1 = 1) (some x1)
theorem dX7_isBeat_0 : decode cX7_isBeat 0 = .ok (.iload_n 0, 1) := by decide +kernel
theorem dX7_isBeat_1 : decode cX7_isBeat 1 = .ok (.iconst 0, 1) := by decide +kernel
theorem dX7_isBeat_2 : decode cX7_isBeat 2 = .ok (.bipush 23, 2) := by decide +kernel
theorem dX7_isBeat_4 : decode cX7_isBeat 4 = .ok (.invokestatic 85, 3) := by decide +kernel
theorem dX7_isBeat_7 : decode cX7_isBeat 7 = .ok (.ireturn, 1) := by decide +kernel
set_option maxRecDepth 20000 in
theorem m_X7_isBeat {h : Hp} {a1 : Int32}  {u : Int32} (hu : f_X7_isBeat a1 = some u) : Ct yX7_isBeat cX7_isBeat 1 (some .boolean) 1 [.int a1] h ((rI h) u) := by
  refine ct_of (rI h) hu (by decide) (Nat.le_of_ble_eq_true rfl) (fun κ hn C E => ?_)
  unfold f_X7_isBeat
  show Xz κ _ 0 [(0, .int a1)] [] h
  refine x_iload_n 1 C dX7_isBeat_0 0 rfl rfl rfl ?_
  refine x_iconst 2 C dX7_isBeat_1 ci_0 rfl ?_
  refine x_bipush 4 C dX7_isBeat_2 cb_23 rfl ?_
  refine x_csi 7 [.int a1, .int (0 : Int32), .int (23 : Int32)] [] C 0 dX7_isBeat_4 s_X7_85 (fun u hu => m_X7_within hu) rfl rfl (Nat.le_of_ble_eq_true rfl) (Nat.le_of_ble_eq_true rfl) rfl (fun x1 => ?_)
  exact x_zrc C E dX7_isBeat_7 rfl

def f_X5_mayBeEvent (a1 : Int32) (a2 : Int32) (a3 : Int32) : Option Int32 :=
  bdr (f_X7_within a1 (0 : Int32) (2 : Int32)) fun x1 =>
  if x1 = 0 then (
    some (0 : Int32))
  else (
    bdr (f_X7_isBeat a2) fun x2 =>
    if x2 = 0 then (
      some (0 : Int32))
    else (
      bdr (f_X7_within a3 (0 : Int32) (5 : Int32)) fun x3 =>
      if x3 = 0 then (
        some (0 : Int32))
      else (
        some (1 : Int32))))
theorem dX5_mayBeEvent_0 : decode cX5_mayBeEvent 0 = .ok (.iload_n 0, 1) := by decide +kernel
theorem dX5_mayBeEvent_1 : decode cX5_mayBeEvent 1 = .ok (.iconst 0, 1) := by decide +kernel
theorem dX5_mayBeEvent_2 : decode cX5_mayBeEvent 2 = .ok (.iconst 2, 1) := by decide +kernel
theorem dX5_mayBeEvent_3 : decode cX5_mayBeEvent 3 = .ok (.invokestatic 77, 3) := by decide +kernel
theorem dX5_mayBeEvent_6 : decode cX5_mayBeEvent 6 = .ok (.ifCond .eq 23, 3) := by decide +kernel
theorem dX5_mayBeEvent_9 : decode cX5_mayBeEvent 9 = .ok (.iload_n 1, 1) := by decide +kernel
theorem dX5_mayBeEvent_10 : decode cX5_mayBeEvent 10 = .ok (.invokestatic 81, 3) := by decide +kernel
theorem dX5_mayBeEvent_13 : decode cX5_mayBeEvent 13 = .ok (.ifCond .eq 16, 3) := by decide +kernel
theorem dX5_mayBeEvent_16 : decode cX5_mayBeEvent 16 = .ok (.iload_n 2, 1) := by decide +kernel
theorem dX5_mayBeEvent_17 : decode cX5_mayBeEvent 17 = .ok (.iconst 0, 1) := by decide +kernel
theorem dX5_mayBeEvent_18 : decode cX5_mayBeEvent 18 = .ok (.iconst 5, 1) := by decide +kernel
theorem dX5_mayBeEvent_19 : decode cX5_mayBeEvent 19 = .ok (.invokestatic 77, 3) := by decide +kernel
theorem dX5_mayBeEvent_22 : decode cX5_mayBeEvent 22 = .ok (.ifCond .eq 7, 3) := by decide +kernel
theorem dX5_mayBeEvent_25 : decode cX5_mayBeEvent 25 = .ok (.iconst 1, 1) := by decide +kernel
theorem dX5_mayBeEvent_26 : decode cX5_mayBeEvent 26 = .ok (.goto 4, 3) := by decide +kernel
theorem dX5_mayBeEvent_29 : decode cX5_mayBeEvent 29 = .ok (.iconst 0, 1) := by decide +kernel
theorem dX5_mayBeEvent_30 : decode cX5_mayBeEvent 30 = .ok (.ireturn, 1) := by decide +kernel
set_option maxRecDepth 20000 in
theorem m_X5_mayBeEvent {h : Hp} {a1 : Int32} {a2 : Int32} {a3 : Int32}  {u : Int32} (hu : f_X5_mayBeEvent a1 a2 a3 = some u) : Ct yX5_mayBeEvent cX5_mayBeEvent 3 (some .boolean) 2 [.int a1, .int a2, .int a3] h ((rI h) u) := by
  refine ct_of (rI h) hu (by decide) (Nat.le_of_ble_eq_true rfl) (fun κ hn C E => ?_)
  unfold f_X5_mayBeEvent
  show Xz κ _ 0 [(0, .int a1), (1, .int a2), (2, .int a3)] [] h
  refine x_iload_n 1 C dX5_mayBeEvent_0 0 rfl rfl rfl ?_
  refine x_iconst 2 C dX5_mayBeEvent_1 ci_0 rfl ?_
  refine x_iconst 3 C dX5_mayBeEvent_2 ci_2 rfl ?_
  refine x_csi 6 [.int a1, .int (0 : Int32), .int (2 : Int32)] [] C 0 dX5_mayBeEvent_3 s_X5_77 (fun u hu => m_X7_within hu) rfl rfl (Nat.le_of_ble_eq_true rfl) (Nat.le_of_ble_eq_true rfl) rfl (fun x1 => ?_)
  refine x_if_eq 9 29 C dX5_mayBeEvent_6 (by decide) rfl (fun _ => ?_) (fun _ => ?_)
  · refine x_iconst 30 C dX5_mayBeEvent_29 ci_0 rfl ?_
    exact x_zret C E dX5_mayBeEvent_30 (Or.inl rfl) rfl
  · refine x_iload_n 10 C dX5_mayBeEvent_9 1 rfl rfl rfl ?_
    refine x_csi 13 [.int a2] [] C 1 dX5_mayBeEvent_10 s_X5_81 (fun u hu => m_X7_isBeat hu) rfl rfl (Nat.le_of_ble_eq_true rfl) (Nat.le_of_ble_eq_true rfl) rfl (fun x2 => ?_)
    refine x_if_eq 16 29 C dX5_mayBeEvent_13 (by decide) rfl (fun _ => ?_) (fun _ => ?_)
    · refine x_iconst 30 C dX5_mayBeEvent_29 ci_0 rfl ?_
      exact x_zret C E dX5_mayBeEvent_30 (Or.inl rfl) rfl
    · refine x_iload_n 17 C dX5_mayBeEvent_16 2 rfl rfl rfl ?_
      refine x_iconst 18 C dX5_mayBeEvent_17 ci_0 rfl ?_
      refine x_iconst 19 C dX5_mayBeEvent_18 ci_5 rfl ?_
      refine x_csi 22 [.int a3, .int (0 : Int32), .int (5 : Int32)] [] C 0 dX5_mayBeEvent_19 s_X5_77 (fun u hu => m_X7_within hu) rfl rfl (Nat.le_of_ble_eq_true rfl) (Nat.le_of_ble_eq_true rfl) rfl (fun x3 => ?_)
      refine x_if_eq 25 29 C dX5_mayBeEvent_22 (by decide) rfl (fun _ => ?_) (fun _ => ?_)
      · refine x_iconst 30 C dX5_mayBeEvent_29 ci_0 rfl ?_
        exact x_zret C E dX5_mayBeEvent_30 (Or.inl rfl) rfl
      · refine x_iconst 26 C dX5_mayBeEvent_25 ci_1 rfl ?_
        refine x_goto 30 C dX5_mayBeEvent_26 (by decide) ?_
        exact x_zret C E dX5_mayBeEvent_30 (Or.inr rfl) rfl

def f_X5_hasRoomForEvent (h : Hp) : Option Int32 :=
  if (8 : Int32) ≤ (h.1 5 8) then (
    some (0 : Int32))
  else (
    some (1 : Int32))
theorem dX5_hasRoomForEvent_0 : decode cX5_hasRoomForEvent 0 = .ok (.aload_n 0, 1) := by decide +kernel
theorem dX5_hasRoomForEvent_1 : decode cX5_hasRoomForEvent 1 = .ok (.getfield 37, 3) := by decide +kernel
theorem dX5_hasRoomForEvent_4 : decode cX5_hasRoomForEvent 4 = .ok (.bipush 8, 2) := by decide +kernel
theorem dX5_hasRoomForEvent_6 : decode cX5_hasRoomForEvent 6 = .ok (.if_icmp .ge 7, 3) := by decide +kernel
theorem dX5_hasRoomForEvent_9 : decode cX5_hasRoomForEvent 9 = .ok (.iconst 1, 1) := by decide +kernel
theorem dX5_hasRoomForEvent_10 : decode cX5_hasRoomForEvent 10 = .ok (.goto 4, 3) := by decide +kernel
theorem dX5_hasRoomForEvent_13 : decode cX5_hasRoomForEvent 13 = .ok (.iconst 0, 1) := by decide +kernel
theorem dX5_hasRoomForEvent_14 : decode cX5_hasRoomForEvent 14 = .ok (.ireturn, 1) := by decide +kernel
set_option maxRecDepth 20000 in
theorem m_X5_hasRoomForEvent {h : Hp}  {u : Int32} (hu : f_X5_hasRoomForEvent h = some u) : Ct yX5_hasRoomForEvent cX5_hasRoomForEvent 1 (some .boolean) 0 [.ref 5] h ((rI h) u) := by
  refine ct_of (rI h) hu (by decide) (Nat.le_of_ble_eq_true rfl) (fun κ hn C E => ?_)
  unfold f_X5_hasRoomForEvent
  show Xz κ _ 0 [(0, .ref 5)] [] h
  refine x_aload_n 1 C dX5_hasRoomForEvent_0 0 rfl rfl rfl ?_
  refine x_getI 4 C dX5_hasRoomForEvent_1 fl_X5_37 sk_5 rfl rfl ?_
  refine x_bipush 6 C dX5_hasRoomForEvent_4 cb_8 rfl ?_
  refine x_icmp_ge 9 13 C dX5_hasRoomForEvent_6 (by decide) rfl (fun _ => ?_) (fun _ => ?_)
  · refine x_iconst 14 C dX5_hasRoomForEvent_13 ci_0 rfl ?_
    exact x_zret C E dX5_hasRoomForEvent_14 (Or.inl rfl) rfl
  · refine x_iconst 10 C dX5_hasRoomForEvent_9 ci_1 rfl ?_
    refine x_goto 14 C dX5_hasRoomForEvent_10 (by decide) ?_
    exact x_zret C E dX5_hasRoomForEvent_14 (Or.inr rfl) rfl

def f_X5_addEvent (h : Hp) (a1 : Int32) (a2 : Int32) (a3 : Int32) : Option Hp :=
  if (h.1 5 8) < 0 then (
    some h)
  else (
    if (8 : Int32) ≤ (h.1 5 8) then (
      some h)
    else (
      ck (h.1 5 8) 8 (nm (ux h 10 (h.1 5 8) a1) fun h1 =>
      ck (h1.1 5 8) 8 (nm (ux h1 11 (h1.1 5 8) a2) fun h2 =>
      ck (h2.1 5 8) 8 (nm (ux h2 12 (h2.1 5 8) a3) fun h3 =>
      nm (uf h3 5 8 ((h3.1 5 8) + (1 : Int32))) fun h4 =>
      some h4)))))
theorem dX5_addEvent_0 : decode cX5_addEvent 0 = .ok (.aload_n 0, 1) := by decide +kernel
theorem dX5_addEvent_1 : decode cX5_addEvent 1 = .ok (.getfield 37, 3) := by decide +kernel
theorem dX5_addEvent_4 : decode cX5_addEvent 4 = .ok (.ifCond .lt 52, 3) := by decide +kernel
theorem dX5_addEvent_7 : decode cX5_addEvent 7 = .ok (.aload_n 0, 1) := by decide +kernel
theorem dX5_addEvent_8 : decode cX5_addEvent 8 = .ok (.getfield 37, 3) := by decide +kernel
theorem dX5_addEvent_11 : decode cX5_addEvent 11 = .ok (.bipush 8, 2) := by decide +kernel
theorem dX5_addEvent_13 : decode cX5_addEvent 13 = .ok (.if_icmp .ge 43, 3) := by decide +kernel
theorem dX5_addEvent_16 : decode cX5_addEvent 16 = .ok (.aload_n 0, 1) := by decide +kernel
theorem dX5_addEvent_17 : decode cX5_addEvent 17 = .ok (.getfield 24, 3) := by decide +kernel
theorem dX5_addEvent_20 : decode cX5_addEvent 20 = .ok (.aload_n 0, 1) := by decide +kernel
theorem dX5_addEvent_21 : decode cX5_addEvent 21 = .ok (.getfield 37, 3) := by decide +kernel
theorem dX5_addEvent_24 : decode cX5_addEvent 24 = .ok (.iload_n 1, 1) := by decide +kernel
theorem dX5_addEvent_25 : decode cX5_addEvent 25 = .ok (.iastore, 1) := by decide +kernel
theorem dX5_addEvent_26 : decode cX5_addEvent 26 = .ok (.aload_n 0, 1) := by decide +kernel
theorem dX5_addEvent_27 : decode cX5_addEvent 27 = .ok (.getfield 27, 3) := by decide +kernel
theorem dX5_addEvent_30 : decode cX5_addEvent 30 = .ok (.aload_n 0, 1) := by decide +kernel
theorem dX5_addEvent_31 : decode cX5_addEvent 31 = .ok (.getfield 37, 3) := by decide +kernel
theorem dX5_addEvent_34 : decode cX5_addEvent 34 = .ok (.iload_n 2, 1) := by decide +kernel
theorem dX5_addEvent_35 : decode cX5_addEvent 35 = .ok (.iastore, 1) := by decide +kernel
theorem dX5_addEvent_36 : decode cX5_addEvent 36 = .ok (.aload_n 0, 1) := by decide +kernel
theorem dX5_addEvent_37 : decode cX5_addEvent 37 = .ok (.getfield 30, 3) := by decide +kernel
theorem dX5_addEvent_40 : decode cX5_addEvent 40 = .ok (.aload_n 0, 1) := by decide +kernel
theorem dX5_addEvent_41 : decode cX5_addEvent 41 = .ok (.getfield 37, 3) := by decide +kernel
theorem dX5_addEvent_44 : decode cX5_addEvent 44 = .ok (.iload_n 3, 1) := by decide +kernel
theorem dX5_addEvent_45 : decode cX5_addEvent 45 = .ok (.iastore, 1) := by decide +kernel
theorem dX5_addEvent_46 : decode cX5_addEvent 46 = .ok (.aload_n 0, 1) := by decide +kernel
theorem dX5_addEvent_47 : decode cX5_addEvent 47 = .ok (.dup, 1) := by decide +kernel
theorem dX5_addEvent_48 : decode cX5_addEvent 48 = .ok (.getfield 37, 3) := by decide +kernel
theorem dX5_addEvent_51 : decode cX5_addEvent 51 = .ok (.iconst 1, 1) := by decide +kernel
theorem dX5_addEvent_52 : decode cX5_addEvent 52 = .ok (.iadd, 1) := by decide +kernel
theorem dX5_addEvent_53 : decode cX5_addEvent 53 = .ok (.putfield 37, 3) := by decide +kernel
theorem dX5_addEvent_56 : decode cX5_addEvent 56 = .ok (.return_, 1) := by decide +kernel
set_option maxRecDepth 20000 in
theorem m_X5_addEvent {h : Hp} {a1 : Int32} {a2 : Int32} {a3 : Int32}  {u : Hp} (hu : f_X5_addEvent h a1 a2 a3 = some u) : Ct yX5_addEvent cX5_addEvent 4 none 0 [.ref 5, .int a1, .int a2, .int a3] h (eV u) := by
  refine ct_of eV hu (by decide) (Nat.le_of_ble_eq_true rfl) (fun κ hn C E => ?_)
  unfold f_X5_addEvent
  show Xz κ _ 0 [(0, .ref 5), (1, .int a1), (2, .int a2), (3, .int a3)] [] h
  refine x_aload_n 1 C dX5_addEvent_0 0 rfl rfl rfl ?_
  refine x_getI 4 C dX5_addEvent_1 fl_X5_37 sk_5 rfl rfl ?_
  refine x_if_lt 7 56 C dX5_addEvent_4 (by decide) rfl (fun _ => ?_) (fun _ => ?_)
  · exact x_vret C E dX5_addEvent_56 rfl
  · refine x_aload_n 8 C dX5_addEvent_7 0 rfl rfl rfl ?_
    refine x_getI 11 C dX5_addEvent_8 fl_X5_37 sk_5 rfl rfl ?_
    refine x_bipush 13 C dX5_addEvent_11 cb_8 rfl ?_
    refine x_icmp_ge 16 56 C dX5_addEvent_13 (by decide) rfl (fun _ => ?_) (fun _ => ?_)
    · exact x_vret C E dX5_addEvent_56 rfl
    · refine x_aload_n 17 C dX5_addEvent_16 0 rfl rfl rfl ?_
      refine x_getR (c := 10) 20 C dX5_addEvent_17 fl_X5_24 sk_5 rfl sr_5_4 rfl ?_
      refine x_aload_n 21 C dX5_addEvent_20 0 rfl rfl rfl ?_
      refine x_getI 24 C dX5_addEvent_21 fl_X5_37 sk_5 rfl rfl ?_
      refine x_iload_n 25 C dX5_addEvent_24 1 rfl rfl rfl ?_
      refine x_iast 26 C dX5_addEvent_25 sk_10 sl_10 rfl (fun h1 => ?_)
      refine x_aload_n 27 C dX5_addEvent_26 0 rfl rfl rfl ?_
      refine x_getR (c := 11) 30 C dX5_addEvent_27 fl_X5_27 sk_5 rfl sr_5_5 rfl ?_
      refine x_aload_n 31 C dX5_addEvent_30 0 rfl rfl rfl ?_
      refine x_getI 34 C dX5_addEvent_31 fl_X5_37 sk_5 rfl rfl ?_
      refine x_iload_n 35 C dX5_addEvent_34 2 rfl rfl rfl ?_
      refine x_iast 36 C dX5_addEvent_35 sk_11 sl_11 rfl (fun h2 => ?_)
      refine x_aload_n 37 C dX5_addEvent_36 0 rfl rfl rfl ?_
      refine x_getR (c := 12) 40 C dX5_addEvent_37 fl_X5_30 sk_5 rfl sr_5_6 rfl ?_
      refine x_aload_n 41 C dX5_addEvent_40 0 rfl rfl rfl ?_
      refine x_getI 44 C dX5_addEvent_41 fl_X5_37 sk_5 rfl rfl ?_
      refine x_iload_n 45 C dX5_addEvent_44 3 rfl rfl rfl ?_
      refine x_iast 46 C dX5_addEvent_45 sk_12 sl_12 rfl (fun h3 => ?_)
      refine x_aload_n 47 C dX5_addEvent_46 0 rfl rfl rfl ?_
      refine x_dup 48 C dX5_addEvent_47 rfl rfl ?_
      refine x_getI 51 C dX5_addEvent_48 fl_X5_37 sk_5 rfl rfl ?_
      refine x_iconst 52 C dX5_addEvent_51 ci_1 rfl ?_
      refine x_iadd 53 C dX5_addEvent_52 rfl ?_
      refine x_put 56 C dX5_addEvent_53 fp_X5_37 sk_5 rfl rfl rfl rfl (fun h4 => ?_)
      exact x_vret C E dX5_addEvent_56 rfl

def f_X7_forgetShows (h : Hp) : Option Hp :=
  nm (uf h 0 11 (0 : Int32)) fun h1 =>
  nm (uf h1 0 12 (0 : Int32)) fun h2 =>
  some h2
theorem dX7_forgetShows_0 : decode cX7_forgetShows 0 = .ok (.aload_n 0, 1) := by decide +kernel
theorem dX7_forgetShows_1 : decode cX7_forgetShows 1 = .ok (.iconst 0, 1) := by decide +kernel
theorem dX7_forgetShows_2 : decode cX7_forgetShows 2 = .ok (.putfield 67, 3) := by decide +kernel
theorem dX7_forgetShows_5 : decode cX7_forgetShows 5 = .ok (.aload_n 0, 1) := by decide +kernel
theorem dX7_forgetShows_6 : decode cX7_forgetShows 6 = .ok (.iconst 0, 1) := by decide +kernel
theorem dX7_forgetShows_7 : decode cX7_forgetShows 7 = .ok (.putfield 71, 3) := by decide +kernel
theorem dX7_forgetShows_10 : decode cX7_forgetShows 10 = .ok (.return_, 1) := by decide +kernel
set_option maxRecDepth 20000 in
theorem m_X7_forgetShows {h : Hp}  {u : Hp} (hu : f_X7_forgetShows h = some u) : Ct yX7_forgetShows cX7_forgetShows 1 none 0 [.ref 0] h (eV u) := by
  refine ct_of eV hu (by decide) (Nat.le_of_ble_eq_true rfl) (fun κ hn C E => ?_)
  unfold f_X7_forgetShows
  show Xz κ _ 0 [(0, .ref 0)] [] h
  refine x_aload_n 1 C dX7_forgetShows_0 0 rfl rfl rfl ?_
  refine x_iconst 2 C dX7_forgetShows_1 ci_0 rfl ?_
  refine x_put 5 C dX7_forgetShows_2 fp_X7_67 sk_0 rfl rfl rfl rfl (fun h1 => ?_)
  refine x_aload_n 6 C dX7_forgetShows_5 0 rfl rfl rfl ?_
  refine x_iconst 7 C dX7_forgetShows_6 ci_0 rfl ?_
  refine x_put 10 C dX7_forgetShows_7 fp_X7_71 sk_0 rfl rfl rfl rfl (fun h2 => ?_)
  exact x_vret C E dX7_forgetShows_10 rfl

def f_X7_takeTexts (h : Hp) : Option Hp :=
  bdv (f_X5_takeWalkers h) fun h1 =>
  bdv (f_X5_takeRoutine h1) fun h2 =>
  bdv (f_X7_forgetShows h2) fun h3 =>
  some h3
theorem dX7_takeTexts_0 : decode cX7_takeTexts 0 = .ok (.aload_n 0, 1) := by decide +kernel
theorem dX7_takeTexts_1 : decode cX7_takeTexts 1 = .ok (.getfield 26, 3) := by decide +kernel
theorem dX7_takeTexts_4 : decode cX7_takeTexts 4 = .ok (.aload_n 0, 1) := by decide +kernel
theorem dX7_takeTexts_5 : decode cX7_takeTexts 5 = .ok (.getfield 16, 3) := by decide +kernel
theorem dX7_takeTexts_8 : decode cX7_takeTexts 8 = .ok (.invokevirtual 404, 3) := by decide +kernel
theorem dX7_takeTexts_11 : decode cX7_takeTexts 11 = .ok (.aload_n 0, 1) := by decide +kernel
theorem dX7_takeTexts_12 : decode cX7_takeTexts 12 = .ok (.getfield 26, 3) := by decide +kernel
theorem dX7_takeTexts_15 : decode cX7_takeTexts 15 = .ok (.aload_n 0, 1) := by decide +kernel
theorem dX7_takeTexts_16 : decode cX7_takeTexts 16 = .ok (.getfield 20, 3) := by decide +kernel
theorem dX7_takeTexts_19 : decode cX7_takeTexts 19 = .ok (.invokevirtual 408, 3) := by decide +kernel
theorem dX7_takeTexts_22 : decode cX7_takeTexts 22 = .ok (.aload_n 0, 1) := by decide +kernel
theorem dX7_takeTexts_23 : decode cX7_takeTexts 23 = .ok (.invokevirtual 135, 3) := by decide +kernel
theorem dX7_takeTexts_26 : decode cX7_takeTexts 26 = .ok (.return_, 1) := by decide +kernel
set_option maxRecDepth 20000 in
theorem m_X7_takeTexts {h : Hp}  {u : Hp} (hu : f_X7_takeTexts h = some u) : Ct yX7_takeTexts cX7_takeTexts 1 none 4 [.ref 0] h (eV u) := by
  refine ct_of eV hu (by decide) (Nat.le_of_ble_eq_true rfl) (fun κ hn C E => ?_)
  unfold f_X7_takeTexts
  show Xz κ _ 0 [(0, .ref 0)] [] h
  refine x_aload_n 1 C dX7_takeTexts_0 0 rfl rfl rfl ?_
  refine x_getR (c := 5) 4 C dX7_takeTexts_1 fl_X7_26 sk_0 rfl sr_0_2 rfl ?_
  refine x_aload_n 5 C dX7_takeTexts_4 0 rfl rfl rfl ?_
  refine x_getR (c := 1) 8 C dX7_takeTexts_5 fl_X7_16 sk_0 rfl sr_0_0 rfl ?_
  refine x_cvV 11 [.ref 1] [] C 3 dX7_takeTexts_8 v_X7_404 (fun u hu => m_X5_takeWalkers hu) rfl sk_5 rfl (Nat.le_of_ble_eq_true rfl) (Nat.le_of_ble_eq_true rfl) rfl (fun h1 => ?_)
  refine x_aload_n 12 C dX7_takeTexts_11 0 rfl rfl rfl ?_
  refine x_getR (c := 5) 15 C dX7_takeTexts_12 fl_X7_26 sk_0 rfl sr_0_2 rfl ?_
  refine x_aload_n 16 C dX7_takeTexts_15 0 rfl rfl rfl ?_
  refine x_getR (c := 3) 19 C dX7_takeTexts_16 fl_X7_20 sk_0 rfl sr_0_1 rfl ?_
  refine x_cvV 22 [.ref 3] [] C 2 dX7_takeTexts_19 v_X7_408 (fun u hu => m_X5_takeRoutine hu) rfl sk_5 rfl (Nat.le_of_ble_eq_true rfl) (Nat.le_of_ble_eq_true rfl) rfl (fun h2 => ?_)
  refine x_aload_n 23 C dX7_takeTexts_22 0 rfl rfl rfl ?_
  refine x_cvV 26 [] [] C 0 dX7_takeTexts_23 v_X7_135 (fun u hu => m_X7_forgetShows hu) rfl sk_0 rfl (Nat.le_of_ble_eq_true rfl) (Nat.le_of_ble_eq_true rfl) rfl (fun h3 => ?_)
  exact x_vret C E dX7_takeTexts_26 rfl

def f_X7_textOf (h : Hp) (a1 : Int32) : Option Nat :=
  if a1 = 0 then (
    some 1)
  else (
    some 3)
theorem dX7_textOf_0 : decode cX7_textOf 0 = .ok (.iload_n 1, 1) := by decide +kernel
theorem dX7_textOf_1 : decode cX7_textOf 1 = .ok (.ifCond .ne 10, 3) := by decide +kernel
theorem dX7_textOf_4 : decode cX7_textOf 4 = .ok (.aload_n 0, 1) := by decide +kernel
theorem dX7_textOf_5 : decode cX7_textOf 5 = .ok (.getfield 16, 3) := by decide +kernel
theorem dX7_textOf_8 : decode cX7_textOf 8 = .ok (.goto 7, 3) := by decide +kernel
theorem dX7_textOf_11 : decode cX7_textOf 11 = .ok (.aload_n 0, 1) := by decide +kernel
theorem dX7_textOf_12 : decode cX7_textOf 12 = .ok (.getfield 20, 3) := by decide +kernel
theorem dX7_textOf_15 : decode cX7_textOf 15 = .ok (.areturn, 1) := by decide +kernel
set_option maxRecDepth 20000 in
theorem m_X7_textOf {h : Hp} {a1 : Int32}  {u : Nat} (hu : f_X7_textOf h a1 = some u) : Ct yX7_textOf cX7_textOf 2 (some (.object "WireWalkers$Text")) 0 [.ref 0, .int a1] h ((rR h) u) := by
  refine ct_of (rR h) hu (by decide) (Nat.le_of_ble_eq_true rfl) (fun κ hn C E => ?_)
  unfold f_X7_textOf
  show Xz κ _ 0 [(0, .ref 0), (1, .int a1)] [] h
  refine x_iload_n 1 C dX7_textOf_0 1 rfl rfl rfl ?_
  refine x_if_ne 4 11 C dX7_textOf_1 (by decide) rfl (fun _ => ?_) (fun _ => ?_)
  · refine x_aload_n 12 C dX7_textOf_11 0 rfl rfl rfl ?_
    refine x_getR (c := 3) 15 C dX7_textOf_12 fl_X7_20 sk_0 rfl sr_0_1 rfl ?_
    exact x_aret C E dX7_textOf_15 rfl
  · refine x_aload_n 5 C dX7_textOf_4 0 rfl rfl rfl ?_
    refine x_getR (c := 1) 8 C dX7_textOf_5 fl_X7_16 sk_0 rfl sr_0_0 rfl ?_
    refine x_goto 15 C dX7_textOf_8 (by decide) ?_
    exact x_aret C E dX7_textOf_15 rfl

def f_X7_type (h : Hp) (a1 : Int32) (a2 : Int32) : Option (Hp × Int32) :=
  bdr (f_X7_within a1 (0 : Int32) (1 : Int32)) fun x1 =>
  if x1 = 0 then (
    some (h, (-2 : Int32)))
  else (
    bdr (f_X7_within a2 (0 : Int32) (255 : Int32)) fun x2 =>
    if x2 = 0 then (
      some (h, (-2 : Int32)))
    else (
      bdr (f_X7_textOf h a1) fun c3 =>
      cy (sk c3 = 4) (
        bdr (f_X4_hasRoom h c3) fun x5 =>
        if x5 = 0 then (
          some (h, (-4 : Int32)))
        else (
          bdv (f_X4_add h c3 a2) fun h6 =>
          bdv (f_X7_takeTexts h6) fun h7 =>
          some (h7, (h7.1 c3 1))))))
theorem dX7_type_0 : decode cX7_type 0 = .ok (.iload_n 1, 1) := by decide +kernel
theorem dX7_type_1 : decode cX7_type 1 = .ok (.iconst 0, 1) := by decide +kernel
theorem dX7_type_2 : decode cX7_type 2 = .ok (.iconst 1, 1) := by decide +kernel
theorem dX7_type_3 : decode cX7_type 3 = .ok (.invokestatic 85, 3) := by decide +kernel
theorem dX7_type_6 : decode cX7_type 6 = .ok (.ifCond .eq 14, 3) := by decide +kernel
theorem dX7_type_9 : decode cX7_type 9 = .ok (.iload_n 2, 1) := by decide +kernel
theorem dX7_type_10 : decode cX7_type 10 = .ok (.iconst 0, 1) := by decide +kernel
theorem dX7_type_11 : decode cX7_type 11 = .ok (.sipush 255, 3) := by decide +kernel
theorem dX7_type_14 : decode cX7_type 14 = .ok (.invokestatic 85, 3) := by decide +kernel
theorem dX7_type_17 : decode cX7_type 17 = .ok (.ifCond .ne 6, 3) := by decide +kernel
theorem dX7_type_20 : decode cX7_type 20 = .ok (.bipush (-2), 2) := by decide +kernel
theorem dX7_type_22 : decode cX7_type 22 = .ok (.ireturn, 1) := by decide +kernel
theorem dX7_type_23 : decode cX7_type 23 = .ok (.aload_n 0, 1) := by decide +kernel
theorem dX7_type_24 : decode cX7_type 24 = .ok (.iload_n 1, 1) := by decide +kernel
theorem dX7_type_25 : decode cX7_type 25 = .ok (.invokevirtual 89, 3) := by decide +kernel
theorem dX7_type_28 : decode cX7_type 28 = .ok (.astore_n 3, 1) := by decide +kernel
theorem dX7_type_29 : decode cX7_type 29 = .ok (.aload_n 3, 1) := by decide +kernel
theorem dX7_type_30 : decode cX7_type 30 = .ok (.invokevirtual 93, 3) := by decide +kernel
theorem dX7_type_33 : decode cX7_type 33 = .ok (.ifCond .ne 6, 3) := by decide +kernel
theorem dX7_type_36 : decode cX7_type 36 = .ok (.bipush (-4), 2) := by decide +kernel
theorem dX7_type_38 : decode cX7_type 38 = .ok (.ireturn, 1) := by decide +kernel
theorem dX7_type_39 : decode cX7_type 39 = .ok (.aload_n 3, 1) := by decide +kernel
theorem dX7_type_40 : decode cX7_type 40 = .ok (.iload_n 2, 1) := by decide +kernel
theorem dX7_type_41 : decode cX7_type 41 = .ok (.invokevirtual 97, 3) := by decide +kernel
theorem dX7_type_44 : decode cX7_type 44 = .ok (.aload_n 0, 1) := by decide +kernel
theorem dX7_type_45 : decode cX7_type 45 = .ok (.invokevirtual 100, 3) := by decide +kernel
theorem dX7_type_48 : decode cX7_type 48 = .ok (.aload_n 3, 1) := by decide +kernel
theorem dX7_type_49 : decode cX7_type 49 = .ok (.getfield 103, 3) := by decide +kernel
theorem dX7_type_52 : decode cX7_type 52 = .ok (.ireturn, 1) := by decide +kernel
set_option maxRecDepth 20000 in
theorem m_X7_type {h : Hp} {a1 : Int32} {a2 : Int32}  {u : (Hp × Int32)} (hu : f_X7_type h a1 a2 = some u) : Ct yX7_type cX7_type 4 (some .int) 5 [.ref 0, .int a1, .int a2] h (eI u) := by
  refine ct_of eI hu (by decide) (Nat.le_of_ble_eq_true rfl) (fun κ hn C E => ?_)
  have n3 : 3 < kn κ := by rw [hn]; decide
  unfold f_X7_type
  show Xz κ _ 0 [(0, .ref 0), (1, .int a1), (2, .int a2)] [] h
  refine x_iload_n 1 C dX7_type_0 1 rfl rfl rfl ?_
  refine x_iconst 2 C dX7_type_1 ci_0 rfl ?_
  refine x_iconst 3 C dX7_type_2 ci_1 rfl ?_
  refine x_csi 6 [.int a1, .int (0 : Int32), .int (1 : Int32)] [] C 0 dX7_type_3 s_X7_85 (fun u hu => m_X7_within hu) rfl rfl (Nat.le_of_ble_eq_true rfl) (Nat.le_of_ble_eq_true rfl) rfl (fun x1 => ?_)
  refine x_if_eq 9 20 C dX7_type_6 (by decide) rfl (fun _ => ?_) (fun _ => ?_)
  · refine x_bipush 22 C dX7_type_20 cb_m2 rfl ?_
    exact x_iret C E dX7_type_22 rfl
  · refine x_iload_n 10 C dX7_type_9 2 rfl rfl rfl ?_
    refine x_iconst 11 C dX7_type_10 ci_0 rfl ?_
    refine x_sipush 14 C dX7_type_11 cs_255 rfl ?_
    refine x_csi 17 [.int a2, .int (0 : Int32), .int (255 : Int32)] [] C 0 dX7_type_14 s_X7_85 (fun u hu => m_X7_within hu) rfl rfl (Nat.le_of_ble_eq_true rfl) (Nat.le_of_ble_eq_true rfl) rfl (fun x2 => ?_)
    refine x_if_ne 20 23 C dX7_type_17 (by decide) rfl (fun _ => ?_) (fun _ => ?_)
    · refine x_aload_n 24 C dX7_type_23 0 rfl rfl rfl ?_
      refine x_iload_n 25 C dX7_type_24 1 rfl rfl rfl ?_
      refine x_cvr 28 [.int a1] [] C 0 dX7_type_25 v_X7_89 (fun u hu => m_X7_textOf hu) rfl sk_0 rfl (Nat.le_of_ble_eq_true rfl) (Nat.le_of_ble_eq_true rfl) rfl (fun c3 => ?_)
      refine x_cy (fun hr4 => ?_)
      refine x_astore_n 29 [(3, .ref c3), (0, .ref 0), (1, .int a1), (2, .int a2)] C dX7_type_28 n3 rfl rfl rfl ?_
      refine x_aload_n 30 C dX7_type_29 0 rfl rfl rfl ?_
      refine x_cvi 33 [] [] C 0 dX7_type_30 v_X7_93 (fun u hu => m_X4_hasRoom hr4 hu) rfl hr4 rfl (Nat.le_of_ble_eq_true rfl) (Nat.le_of_ble_eq_true rfl) rfl (fun x5 => ?_)
      refine x_if_ne 36 39 C dX7_type_33 (by decide) rfl (fun _ => ?_) (fun _ => ?_)
      · refine x_aload_n 40 C dX7_type_39 0 rfl rfl rfl ?_
        refine x_iload_n 41 C dX7_type_40 3 rfl rfl rfl ?_
        refine x_cvV 44 [.int a2] [] C 0 dX7_type_41 v_X7_97 (fun u hu => m_X4_add hr4 hu) rfl hr4 rfl (Nat.le_of_ble_eq_true rfl) (Nat.le_of_ble_eq_true rfl) rfl (fun h6 => ?_)
        refine x_aload_n 45 C dX7_type_44 1 rfl rfl rfl ?_
        refine x_cvV 48 [] [] C 4 dX7_type_45 v_X7_100 (fun u hu => m_X7_takeTexts hu) rfl sk_0 rfl (Nat.le_of_ble_eq_true rfl) (Nat.le_of_ble_eq_true rfl) rfl (fun h7 => ?_)
        refine x_aload_n 49 C dX7_type_48 0 rfl rfl rfl ?_
        refine x_getI 52 C dX7_type_49 fl_X7_103 hr4 rfl rfl ?_
        exact x_iret C E dX7_type_52 rfl
      · refine x_bipush 38 C dX7_type_36 cb_m4 rfl ?_
        exact x_iret C E dX7_type_38 rfl
    · refine x_bipush 22 C dX7_type_20 cb_m2 rfl ?_
      exact x_iret C E dX7_type_22 rfl

def f_X7_wipe (h : Hp) (a1 : Int32) : Option (Hp × Int32) :=
  bdr (f_X7_within a1 (0 : Int32) (1 : Int32)) fun x1 =>
  if x1 = 0 then (
    some (h, (-2 : Int32)))
  else (
    bdr (f_X7_textOf h a1) fun c2 =>
    cy (sk c2 = 4) (
      nm (h.1 c2 1) fun x4 =>
      nm (uf h c2 1 (0 : Int32)) fun h5 =>
      bdv (f_X7_takeTexts h5) fun h6 =>
      some (h6, x4)))
theorem dX7_wipe_0 : decode cX7_wipe 0 = .ok (.iload_n 1, 1) := by decide +kernel
theorem dX7_wipe_1 : decode cX7_wipe 1 = .ok (.iconst 0, 1) := by decide +kernel
theorem dX7_wipe_2 : decode cX7_wipe 2 = .ok (.iconst 1, 1) := by decide +kernel
theorem dX7_wipe_3 : decode cX7_wipe 3 = .ok (.invokestatic 85, 3) := by decide +kernel
theorem dX7_wipe_6 : decode cX7_wipe 6 = .ok (.ifCond .ne 6, 3) := by decide +kernel
theorem dX7_wipe_9 : decode cX7_wipe 9 = .ok (.bipush (-2), 2) := by decide +kernel
theorem dX7_wipe_11 : decode cX7_wipe 11 = .ok (.ireturn, 1) := by decide +kernel
theorem dX7_wipe_12 : decode cX7_wipe 12 = .ok (.aload_n 0, 1) := by decide +kernel
theorem dX7_wipe_13 : decode cX7_wipe 13 = .ok (.iload_n 1, 1) := by decide +kernel
theorem dX7_wipe_14 : decode cX7_wipe 14 = .ok (.invokevirtual 89, 3) := by decide +kernel
theorem dX7_wipe_17 : decode cX7_wipe 17 = .ok (.astore_n 2, 1) := by decide +kernel
theorem dX7_wipe_18 : decode cX7_wipe 18 = .ok (.aload_n 2, 1) := by decide +kernel
theorem dX7_wipe_19 : decode cX7_wipe 19 = .ok (.getfield 103, 3) := by decide +kernel
theorem dX7_wipe_22 : decode cX7_wipe 22 = .ok (.istore_n 3, 1) := by decide +kernel
theorem dX7_wipe_23 : decode cX7_wipe 23 = .ok (.aload_n 2, 1) := by decide +kernel
theorem dX7_wipe_24 : decode cX7_wipe 24 = .ok (.iconst 0, 1) := by decide +kernel
theorem dX7_wipe_25 : decode cX7_wipe 25 = .ok (.putfield 103, 3) := by decide +kernel
theorem dX7_wipe_28 : decode cX7_wipe 28 = .ok (.aload_n 0, 1) := by decide +kernel
theorem dX7_wipe_29 : decode cX7_wipe 29 = .ok (.invokevirtual 100, 3) := by decide +kernel
theorem dX7_wipe_32 : decode cX7_wipe 32 = .ok (.iload_n 3, 1) := by decide +kernel
theorem dX7_wipe_33 : decode cX7_wipe 33 = .ok (.ireturn, 1) := by decide +kernel
set_option maxRecDepth 20000 in
theorem m_X7_wipe {h : Hp} {a1 : Int32}  {u : (Hp × Int32)} (hu : f_X7_wipe h a1 = some u) : Ct yX7_wipe cX7_wipe 4 (some .int) 5 [.ref 0, .int a1] h (eI u) := by
  refine ct_of eI hu (by decide) (Nat.le_of_ble_eq_true rfl) (fun κ hn C E => ?_)
  have n2 : 2 < kn κ := by rw [hn]; decide
  have n3 : 3 < kn κ := by rw [hn]; decide
  unfold f_X7_wipe
  show Xz κ _ 0 [(0, .ref 0), (1, .int a1)] [] h
  refine x_iload_n 1 C dX7_wipe_0 1 rfl rfl rfl ?_
  refine x_iconst 2 C dX7_wipe_1 ci_0 rfl ?_
  refine x_iconst 3 C dX7_wipe_2 ci_1 rfl ?_
  refine x_csi 6 [.int a1, .int (0 : Int32), .int (1 : Int32)] [] C 0 dX7_wipe_3 s_X7_85 (fun u hu => m_X7_within hu) rfl rfl (Nat.le_of_ble_eq_true rfl) (Nat.le_of_ble_eq_true rfl) rfl (fun x1 => ?_)
  refine x_if_ne 9 12 C dX7_wipe_6 (by decide) rfl (fun _ => ?_) (fun _ => ?_)
  · refine x_aload_n 13 C dX7_wipe_12 0 rfl rfl rfl ?_
    refine x_iload_n 14 C dX7_wipe_13 1 rfl rfl rfl ?_
    refine x_cvr 17 [.int a1] [] C 0 dX7_wipe_14 v_X7_89 (fun u hu => m_X7_textOf hu) rfl sk_0 rfl (Nat.le_of_ble_eq_true rfl) (Nat.le_of_ble_eq_true rfl) rfl (fun c2 => ?_)
    refine x_cy (fun hr3 => ?_)
    refine x_astore_n 18 [(2, .ref c2), (0, .ref 0), (1, .int a1)] C dX7_wipe_17 n2 rfl rfl rfl ?_
    refine x_aload_n 19 C dX7_wipe_18 0 rfl rfl rfl ?_
    refine x_getI 22 C dX7_wipe_19 fl_X7_103 hr3 rfl rfl ?_
    refine x_ni (fun x4 => ?_)
    refine x_istore_n 23 [(3, .int x4), (2, .ref c2), (0, .ref 0), (1, .int a1)] C dX7_wipe_22 n3 rfl rfl rfl ?_
    refine x_aload_n 24 C dX7_wipe_23 1 rfl rfl rfl ?_
    refine x_iconst 25 C dX7_wipe_24 ci_0 rfl ?_
    refine x_put 28 C dX7_wipe_25 fp_X7_103 hr3 rfl rfl rfl rfl (fun h5 => ?_)
    refine x_aload_n 29 C dX7_wipe_28 2 rfl rfl rfl ?_
    refine x_cvV 32 [] [] C 4 dX7_wipe_29 v_X7_100 (fun u hu => m_X7_takeTexts hu) rfl sk_0 rfl (Nat.le_of_ble_eq_true rfl) (Nat.le_of_ble_eq_true rfl) rfl (fun h6 => ?_)
    refine x_iload_n 33 C dX7_wipe_32 0 rfl rfl rfl ?_
    exact x_iret C E dX7_wipe_33 rfl
  · refine x_bipush 11 C dX7_wipe_9 cb_m2 rfl ?_
    exact x_iret C E dX7_wipe_11 rfl

def f_X7_undo (h : Hp) (a1 : Int32) : Option (Hp × Int32) :=
  bdr (f_X7_within a1 (0 : Int32) (1 : Int32)) fun x1 =>
  if x1 = 0 then (
    some (h, (-2 : Int32)))
  else (
    bdr (f_X7_textOf h a1) fun c2 =>
    cy (sk c2 = 4) (
      if 0 < (h.1 c2 1) then (
        nm (uf h c2 1 ((h.1 c2 1) - (1 : Int32))) fun h4 =>
        bdv (f_X7_takeTexts h4) fun h5 =>
        some (h5, (h5.1 c2 1)))
      else (
        some (h, (-3 : Int32)))))
theorem dX7_undo_0 : decode cX7_undo 0 = .ok (.iload_n 1, 1) := by decide +kernel
theorem dX7_undo_1 : decode cX7_undo 1 = .ok (.iconst 0, 1) := by decide +kernel
theorem dX7_undo_2 : decode cX7_undo 2 = .ok (.iconst 1, 1) := by decide +kernel
theorem dX7_undo_3 : decode cX7_undo 3 = .ok (.invokestatic 85, 3) := by decide +kernel
theorem dX7_undo_6 : decode cX7_undo 6 = .ok (.ifCond .ne 6, 3) := by decide +kernel
theorem dX7_undo_9 : decode cX7_undo 9 = .ok (.bipush (-2), 2) := by decide +kernel
theorem dX7_undo_11 : decode cX7_undo 11 = .ok (.ireturn, 1) := by decide +kernel
theorem dX7_undo_12 : decode cX7_undo 12 = .ok (.aload_n 0, 1) := by decide +kernel
theorem dX7_undo_13 : decode cX7_undo 13 = .ok (.iload_n 1, 1) := by decide +kernel
theorem dX7_undo_14 : decode cX7_undo 14 = .ok (.invokevirtual 89, 3) := by decide +kernel
theorem dX7_undo_17 : decode cX7_undo 17 = .ok (.astore_n 2, 1) := by decide +kernel
theorem dX7_undo_18 : decode cX7_undo 18 = .ok (.aload_n 2, 1) := by decide +kernel
theorem dX7_undo_19 : decode cX7_undo 19 = .ok (.getfield 103, 3) := by decide +kernel
theorem dX7_undo_22 : decode cX7_undo 22 = .ok (.ifCond .gt 6, 3) := by decide +kernel
theorem dX7_undo_25 : decode cX7_undo 25 = .ok (.bipush (-3), 2) := by decide +kernel
theorem dX7_undo_27 : decode cX7_undo 27 = .ok (.ireturn, 1) := by decide +kernel
theorem dX7_undo_28 : decode cX7_undo 28 = .ok (.aload_n 2, 1) := by decide +kernel
theorem dX7_undo_29 : decode cX7_undo 29 = .ok (.dup, 1) := by decide +kernel
theorem dX7_undo_30 : decode cX7_undo 30 = .ok (.getfield 103, 3) := by decide +kernel
theorem dX7_undo_33 : decode cX7_undo 33 = .ok (.iconst 1, 1) := by decide +kernel
theorem dX7_undo_34 : decode cX7_undo 34 = .ok (.isub, 1) := by decide +kernel
theorem dX7_undo_35 : decode cX7_undo 35 = .ok (.putfield 103, 3) := by decide +kernel
theorem dX7_undo_38 : decode cX7_undo 38 = .ok (.aload_n 0, 1) := by decide +kernel
theorem dX7_undo_39 : decode cX7_undo 39 = .ok (.invokevirtual 100, 3) := by decide +kernel
theorem dX7_undo_42 : decode cX7_undo 42 = .ok (.aload_n 2, 1) := by decide +kernel
theorem dX7_undo_43 : decode cX7_undo 43 = .ok (.getfield 103, 3) := by decide +kernel
theorem dX7_undo_46 : decode cX7_undo 46 = .ok (.ireturn, 1) := by decide +kernel
set_option maxRecDepth 20000 in
theorem m_X7_undo {h : Hp} {a1 : Int32}  {u : (Hp × Int32)} (hu : f_X7_undo h a1 = some u) : Ct yX7_undo cX7_undo 3 (some .int) 5 [.ref 0, .int a1] h (eI u) := by
  refine ct_of eI hu (by decide) (Nat.le_of_ble_eq_true rfl) (fun κ hn C E => ?_)
  have n2 : 2 < kn κ := by rw [hn]; decide
  unfold f_X7_undo
  show Xz κ _ 0 [(0, .ref 0), (1, .int a1)] [] h
  refine x_iload_n 1 C dX7_undo_0 1 rfl rfl rfl ?_
  refine x_iconst 2 C dX7_undo_1 ci_0 rfl ?_
  refine x_iconst 3 C dX7_undo_2 ci_1 rfl ?_
  refine x_csi 6 [.int a1, .int (0 : Int32), .int (1 : Int32)] [] C 0 dX7_undo_3 s_X7_85 (fun u hu => m_X7_within hu) rfl rfl (Nat.le_of_ble_eq_true rfl) (Nat.le_of_ble_eq_true rfl) rfl (fun x1 => ?_)
  refine x_if_ne 9 12 C dX7_undo_6 (by decide) rfl (fun _ => ?_) (fun _ => ?_)
  · refine x_aload_n 13 C dX7_undo_12 0 rfl rfl rfl ?_
    refine x_iload_n 14 C dX7_undo_13 1 rfl rfl rfl ?_
    refine x_cvr 17 [.int a1] [] C 0 dX7_undo_14 v_X7_89 (fun u hu => m_X7_textOf hu) rfl sk_0 rfl (Nat.le_of_ble_eq_true rfl) (Nat.le_of_ble_eq_true rfl) rfl (fun c2 => ?_)
    refine x_cy (fun hr3 => ?_)
    refine x_astore_n 18 [(2, .ref c2), (0, .ref 0), (1, .int a1)] C dX7_undo_17 n2 rfl rfl rfl ?_
    refine x_aload_n 19 C dX7_undo_18 0 rfl rfl rfl ?_
    refine x_getI 22 C dX7_undo_19 fl_X7_103 hr3 rfl rfl ?_
    refine x_if_gt 25 28 C dX7_undo_22 (by decide) rfl (fun _ => ?_) (fun _ => ?_)
    · refine x_aload_n 29 C dX7_undo_28 0 rfl rfl rfl ?_
      refine x_dup 30 C dX7_undo_29 rfl rfl ?_
      refine x_getI 33 C dX7_undo_30 fl_X7_103 hr3 rfl rfl ?_
      refine x_iconst 34 C dX7_undo_33 ci_1 rfl ?_
      refine x_isub 35 C dX7_undo_34 rfl ?_
      refine x_put 38 C dX7_undo_35 fp_X7_103 hr3 rfl rfl rfl rfl (fun h4 => ?_)
      refine x_aload_n 39 C dX7_undo_38 1 rfl rfl rfl ?_
      refine x_cvV 42 [] [] C 4 dX7_undo_39 v_X7_100 (fun u hu => m_X7_takeTexts hu) rfl sk_0 rfl (Nat.le_of_ble_eq_true rfl) (Nat.le_of_ble_eq_true rfl) rfl (fun h5 => ?_)
      refine x_aload_n 43 C dX7_undo_42 0 rfl rfl rfl ?_
      refine x_getI 46 C dX7_undo_43 fl_X7_103 hr3 rfl rfl ?_
      exact x_iret C E dX7_undo_46 rfl
    · refine x_bipush 27 C dX7_undo_25 cb_m3 rfl ?_
      exact x_iret C E dX7_undo_27 rfl
  · refine x_bipush 11 C dX7_undo_9 cb_m2 rfl ?_
    exact x_iret C E dX7_undo_11 rfl

def f_X7_fault (h : Hp) (a1 : Int32) : Option Int32 :=
  bdr (f_X7_within a1 (0 : Int32) (1 : Int32)) fun x1 =>
  if x1 = 0 then (
    some (-2 : Int32))
  else (
    if a1 = 0 then (
      bdr (f_X4_faultOfWalkers h 1) fun x3 =>
      some x3)
    else (
      bdr (f_X4_faultOfRoutine h 3) fun x2 =>
      some x2))
theorem dX7_fault_0 : decode cX7_fault 0 = .ok (.iload_n 1, 1) := by decide +kernel
theorem dX7_fault_1 : decode cX7_fault 1 = .ok (.iconst 0, 1) := by decide +kernel
theorem dX7_fault_2 : decode cX7_fault 2 = .ok (.iconst 1, 1) := by decide +kernel
theorem dX7_fault_3 : decode cX7_fault 3 = .ok (.invokestatic 85, 3) := by decide +kernel
theorem dX7_fault_6 : decode cX7_fault 6 = .ok (.ifCond .ne 6, 3) := by decide +kernel
theorem dX7_fault_9 : decode cX7_fault 9 = .ok (.bipush (-2), 2) := by decide +kernel
theorem dX7_fault_11 : decode cX7_fault 11 = .ok (.ireturn, 1) := by decide +kernel
theorem dX7_fault_12 : decode cX7_fault 12 = .ok (.iload_n 1, 1) := by decide +kernel
theorem dX7_fault_13 : decode cX7_fault 13 = .ok (.ifCond .ne 13, 3) := by decide +kernel
theorem dX7_fault_16 : decode cX7_fault 16 = .ok (.aload_n 0, 1) := by decide +kernel
theorem dX7_fault_17 : decode cX7_fault 17 = .ok (.getfield 16, 3) := by decide +kernel
theorem dX7_fault_20 : decode cX7_fault 20 = .ok (.invokevirtual 106, 3) := by decide +kernel
theorem dX7_fault_23 : decode cX7_fault 23 = .ok (.goto 10, 3) := by decide +kernel
theorem dX7_fault_26 : decode cX7_fault 26 = .ok (.aload_n 0, 1) := by decide +kernel
theorem dX7_fault_27 : decode cX7_fault 27 = .ok (.getfield 20, 3) := by decide +kernel
theorem dX7_fault_30 : decode cX7_fault 30 = .ok (.invokevirtual 110, 3) := by decide +kernel
theorem dX7_fault_33 : decode cX7_fault 33 = .ok (.ireturn, 1) := by decide +kernel
set_option maxRecDepth 20000 in
theorem m_X7_fault {h : Hp} {a1 : Int32}  {u : Int32} (hu : f_X7_fault h a1 = some u) : Ct yX7_fault cX7_fault 2 (some .int) 3 [.ref 0, .int a1] h ((rI h) u) := by
  refine ct_of (rI h) hu (by decide) (Nat.le_of_ble_eq_true rfl) (fun κ hn C E => ?_)
  unfold f_X7_fault
  show Xz κ _ 0 [(0, .ref 0), (1, .int a1)] [] h
  refine x_iload_n 1 C dX7_fault_0 1 rfl rfl rfl ?_
  refine x_iconst 2 C dX7_fault_1 ci_0 rfl ?_
  refine x_iconst 3 C dX7_fault_2 ci_1 rfl ?_
  refine x_csi 6 [.int a1, .int (0 : Int32), .int (1 : Int32)] [] C 0 dX7_fault_3 s_X7_85 (fun u hu => m_X7_within hu) rfl rfl (Nat.le_of_ble_eq_true rfl) (Nat.le_of_ble_eq_true rfl) rfl (fun x1 => ?_)
  refine x_if_ne 9 12 C dX7_fault_6 (by decide) rfl (fun _ => ?_) (fun _ => ?_)
  · refine x_iload_n 13 C dX7_fault_12 1 rfl rfl rfl ?_
    refine x_if_ne 16 26 C dX7_fault_13 (by decide) rfl (fun _ => ?_) (fun _ => ?_)
    · refine x_aload_n 27 C dX7_fault_26 0 rfl rfl rfl ?_
      refine x_getR (c := 3) 30 C dX7_fault_27 fl_X7_20 sk_0 rfl sr_0_1 rfl ?_
      refine x_cvi 33 [] [] C 1 dX7_fault_30 v_X7_110 (fun u hu => m_X4_faultOfRoutine sk_3 hu) rfl sk_3 rfl (Nat.le_of_ble_eq_true rfl) (Nat.le_of_ble_eq_true rfl) rfl (fun x2 => ?_)
      exact x_iret C E dX7_fault_33 rfl
    · refine x_aload_n 17 C dX7_fault_16 0 rfl rfl rfl ?_
      refine x_getR (c := 1) 20 C dX7_fault_17 fl_X7_16 sk_0 rfl sr_0_0 rfl ?_
      refine x_cvi 23 [] [] C 2 dX7_fault_20 v_X7_106 (fun u hu => m_X4_faultOfWalkers sk_1 hu) rfl sk_1 rfl (Nat.le_of_ble_eq_true rfl) (Nat.le_of_ble_eq_true rfl) rfl (fun x3 => ?_)
      refine x_goto 33 C dX7_fault_23 (by decide) ?_
      exact x_iret C E dX7_fault_33 rfl
  · refine x_bipush 11 C dX7_fault_9 cb_m2 rfl ?_
    exact x_iret C E dX7_fault_11 rfl

def f_X7_isWalker (h : Hp) (a1 : Int32) : Option Int32 :=
  bdr (f_X7_within a1 (0 : Int32) ((h.1 5 7) - (1 : Int32))) fun x1 =>
  if x1 = 0 then (
    some (0 : Int32))
  else (
    if (6 : Int32) ≤ a1 then (
      some (0 : Int32))
    else (
      some (1 : Int32)))
theorem dX7_isWalker_0 : decode cX7_isWalker 0 = .ok (.iload_n 1, 1) := by decide +kernel
theorem dX7_isWalker_1 : decode cX7_isWalker 1 = .ok (.iconst 0, 1) := by decide +kernel
theorem dX7_isWalker_2 : decode cX7_isWalker 2 = .ok (.aload_n 0, 1) := by decide +kernel
theorem dX7_isWalker_3 : decode cX7_isWalker 3 = .ok (.getfield 26, 3) := by decide +kernel
theorem dX7_isWalker_6 : decode cX7_isWalker 6 = .ok (.getfield 192, 3) := by decide +kernel
theorem dX7_isWalker_9 : decode cX7_isWalker 9 = .ok (.iconst 1, 1) := by decide +kernel
theorem dX7_isWalker_10 : decode cX7_isWalker 10 = .ok (.isub, 1) := by decide +kernel
theorem dX7_isWalker_11 : decode cX7_isWalker 11 = .ok (.invokestatic 85, 3) := by decide +kernel
theorem dX7_isWalker_14 : decode cX7_isWalker 14 = .ok (.ifCond .eq 13, 3) := by decide +kernel
theorem dX7_isWalker_17 : decode cX7_isWalker 17 = .ok (.iload_n 1, 1) := by decide +kernel
theorem dX7_isWalker_18 : decode cX7_isWalker 18 = .ok (.bipush 6, 2) := by decide +kernel
theorem dX7_isWalker_20 : decode cX7_isWalker 20 = .ok (.if_icmp .ge 7, 3) := by decide +kernel
theorem dX7_isWalker_23 : decode cX7_isWalker 23 = .ok (.iconst 1, 1) := by decide +kernel
theorem dX7_isWalker_24 : decode cX7_isWalker 24 = .ok (.goto 4, 3) := by decide +kernel
theorem dX7_isWalker_27 : decode cX7_isWalker 27 = .ok (.iconst 0, 1) := by decide +kernel
theorem dX7_isWalker_28 : decode cX7_isWalker 28 = .ok (.ireturn, 1) := by decide +kernel
set_option maxRecDepth 20000 in
theorem m_X7_isWalker {h : Hp} {a1 : Int32}  {u : Int32} (hu : f_X7_isWalker h a1 = some u) : Ct yX7_isWalker cX7_isWalker 2 (some .boolean) 1 [.ref 0, .int a1] h ((rI h) u) := by
  refine ct_of (rI h) hu (by decide) (Nat.le_of_ble_eq_true rfl) (fun κ hn C E => ?_)
  unfold f_X7_isWalker
  show Xz κ _ 0 [(0, .ref 0), (1, .int a1)] [] h
  refine x_iload_n 1 C dX7_isWalker_0 1 rfl rfl rfl ?_
  refine x_iconst 2 C dX7_isWalker_1 ci_0 rfl ?_
  refine x_aload_n 3 C dX7_isWalker_2 0 rfl rfl rfl ?_
  refine x_getR (c := 5) 6 C dX7_isWalker_3 fl_X7_26 sk_0 rfl sr_0_2 rfl ?_
  refine x_getI 9 C dX7_isWalker_6 fl_X7_192 sk_5 rfl rfl ?_
  refine x_iconst 10 C dX7_isWalker_9 ci_1 rfl ?_
  refine x_isub 11 C dX7_isWalker_10 rfl ?_
  refine x_csi 14 [.int a1, .int (0 : Int32), .int ((h.1 5 7) - (1 : Int32))] [] C 0 dX7_isWalker_11 s_X7_85 (fun u hu => m_X7_within hu) rfl rfl (Nat.le_of_ble_eq_true rfl) (Nat.le_of_ble_eq_true rfl) rfl (fun x1 => ?_)
  refine x_if_eq 17 27 C dX7_isWalker_14 (by decide) rfl (fun _ => ?_) (fun _ => ?_)
  · refine x_iconst 28 C dX7_isWalker_27 ci_0 rfl ?_
    exact x_zret C E dX7_isWalker_28 (Or.inl rfl) rfl
  · refine x_iload_n 18 C dX7_isWalker_17 1 rfl rfl rfl ?_
    refine x_bipush 20 C dX7_isWalker_18 cb_6 rfl ?_
    refine x_icmp_ge 23 27 C dX7_isWalker_20 (by decide) rfl (fun _ => ?_) (fun _ => ?_)
    · refine x_iconst 28 C dX7_isWalker_27 ci_0 rfl ?_
      exact x_zret C E dX7_isWalker_28 (Or.inl rfl) rfl
    · refine x_iconst 24 C dX7_isWalker_23 ci_1 rfl ?_
      refine x_goto 28 C dX7_isWalker_24 (by decide) ?_
      exact x_zret C E dX7_isWalker_28 (Or.inr rfl) rfl
