def f_X8_isSeen (h : Hp) : Option (Hp × Int32) :=
  bdv (f_X8_lives h) fun h1 =>
  fx2 FU (fun s1 (x2 : Int32) (x3 : Int32) =>
    if (h1.1 68 29) ≤ x3 then (
      cy (x2 = 0 ∨ x2 = 1) (some (h1, x2)))
    else (
      ck (((3 : Int32) * x3) + (1 : Int32)) 24 (
        nm (ia h1 91 (((3 : Int32) * x3) + (1 : Int32))) fun x4 =>
        lt1 (fun (x5 : Int32) =>
          nm (x3 + (1 : Int32)) fun x6 =>
          s1 x5 x6) fun k2 =>
        lt1 (fun (u7 : Int32) =>
          k2 (0 : Int32)) fun k3 =>
        if x2 = 0 then (
          k3 (0 : Int32))
        else (
          bdr (f_X8_isWalker h1 x4) fun x8 =>
          if x8 = 0 then (
            k3 (0 : Int32))
          else (
            ck ((3 : Int32) * x3) 24 (
              ck (((6 : Int32) * (ia h1 91 ((3 : Int32) * x3))) + x4) 144 (
                ck (((3 : Int32) * x3) + (2 : Int32)) 24 (
                  if (ia h1 87 (((6 : Int32) * (ia h1 91 ((3 : Int32) * x3))) + x4)) = (ia h1 91 (((3 : Int32) * x3) + (2 : Int32))) then (
                    k2 (1 : Int32))
                  else (
                    k3 (0 : Int32)))))))))) (1 : Int32) (0 : Int32)
theorem dX8_isSeen_0 : decode cX8_isSeen 0 = .ok (.aload_n 0, 1) := by decide +kernel
theorem dX8_isSeen_1 : decode cX8_isSeen 1 = .ok (.invokevirtual 217, 3) := by decide +kernel
theorem dX8_isSeen_4 : decode cX8_isSeen 4 = .ok (.iconst 1, 1) := by decide +kernel
theorem dX8_isSeen_5 : decode cX8_isSeen 5 = .ok (.istore_n 1, 1) := by decide +kernel
theorem dX8_isSeen_6 : decode cX8_isSeen 6 = .ok (.iconst 0, 1) := by decide +kernel
theorem dX8_isSeen_7 : decode cX8_isSeen 7 = .ok (.istore_n 2, 1) := by decide +kernel
theorem dX8_isSeen_8 : decode cX8_isSeen 8 = .ok (.iload_n 2, 1) := by decide +kernel
theorem dX8_isSeen_9 : decode cX8_isSeen 9 = .ok (.aload_n 0, 1) := by decide +kernel
theorem dX8_isSeen_10 : decode cX8_isSeen 10 = .ok (.getfield 261, 3) := by decide +kernel
theorem dX8_isSeen_13 : decode cX8_isSeen 13 = .ok (.if_icmp .ge 69, 3) := by decide +kernel
theorem dX8_isSeen_16 : decode cX8_isSeen 16 = .ok (.aload_n 0, 1) := by decide +kernel
theorem dX8_isSeen_17 : decode cX8_isSeen 17 = .ok (.getfield 76, 3) := by decide +kernel
theorem dX8_isSeen_20 : decode cX8_isSeen 20 = .ok (.iconst 3, 1) := by decide +kernel
theorem dX8_isSeen_21 : decode cX8_isSeen 21 = .ok (.iload_n 2, 1) := by decide +kernel
theorem dX8_isSeen_22 : decode cX8_isSeen 22 = .ok (.imul, 1) := by decide +kernel
theorem dX8_isSeen_23 : decode cX8_isSeen 23 = .ok (.iconst 1, 1) := by decide +kernel
theorem dX8_isSeen_24 : decode cX8_isSeen 24 = .ok (.iadd, 1) := by decide +kernel
theorem dX8_isSeen_25 : decode cX8_isSeen 25 = .ok (.iaload, 1) := by decide +kernel
theorem dX8_isSeen_26 : decode cX8_isSeen 26 = .ok (.istore_n 3, 1) := by decide +kernel
theorem dX8_isSeen_27 : decode cX8_isSeen 27 = .ok (.iload_n 1, 1) := by decide +kernel
theorem dX8_isSeen_28 : decode cX8_isSeen 28 = .ok (.ifCond .eq 46, 3) := by decide +kernel
theorem dX8_isSeen_31 : decode cX8_isSeen 31 = .ok (.aload_n 0, 1) := by decide +kernel
theorem dX8_isSeen_32 : decode cX8_isSeen 32 = .ok (.iload_n 3, 1) := by decide +kernel
theorem dX8_isSeen_33 : decode cX8_isSeen 33 = .ok (.invokevirtual 151, 3) := by decide +kernel
theorem dX8_isSeen_36 : decode cX8_isSeen 36 = .ok (.ifCond .eq 38, 3) := by decide +kernel
theorem dX8_isSeen_39 : decode cX8_isSeen 39 = .ok (.aload_n 0, 1) := by decide +kernel
theorem dX8_isSeen_40 : decode cX8_isSeen 40 = .ok (.getfield 64, 3) := by decide +kernel
theorem dX8_isSeen_43 : decode cX8_isSeen 43 = .ok (.bipush 6, 2) := by decide +kernel
theorem dX8_isSeen_45 : decode cX8_isSeen 45 = .ok (.aload_n 0, 1) := by decide +kernel
theorem dX8_isSeen_46 : decode cX8_isSeen 46 = .ok (.getfield 76, 3) := by decide +kernel
theorem dX8_isSeen_49 : decode cX8_isSeen 49 = .ok (.iconst 3, 1) := by decide +kernel
theorem dX8_isSeen_50 : decode cX8_isSeen 50 = .ok (.iload_n 2, 1) := by decide +kernel
theorem dX8_isSeen_51 : decode cX8_isSeen 51 = .ok (.imul, 1) := by decide +kernel
theorem dX8_isSeen_52 : decode cX8_isSeen 52 = .ok (.iaload, 1) := by decide +kernel
theorem dX8_isSeen_53 : decode cX8_isSeen 53 = .ok (.imul, 1) := by decide +kernel
theorem dX8_isSeen_54 : decode cX8_isSeen 54 = .ok (.iload_n 3, 1) := by decide +kernel
theorem dX8_isSeen_55 : decode cX8_isSeen 55 = .ok (.iadd, 1) := by decide +kernel
theorem dX8_isSeen_56 : decode cX8_isSeen 56 = .ok (.iaload, 1) := by decide +kernel
theorem dX8_isSeen_57 : decode cX8_isSeen 57 = .ok (.aload_n 0, 1) := by decide +kernel
theorem dX8_isSeen_58 : decode cX8_isSeen 58 = .ok (.getfield 76, 3) := by decide +kernel
theorem dX8_isSeen_61 : decode cX8_isSeen 61 = .ok (.iconst 3, 1) := by decide +kernel
theorem dX8_isSeen_62 : decode cX8_isSeen 62 = .ok (.iload_n 2, 1) := by decide +kernel
theorem dX8_isSeen_63 : decode cX8_isSeen 63 = .ok (.imul, 1) := by decide +kernel
theorem dX8_isSeen_64 : decode cX8_isSeen 64 = .ok (.iconst 2, 1) := by decide +kernel
theorem dX8_isSeen_65 : decode cX8_isSeen 65 = .ok (.iadd, 1) := by decide +kernel
theorem dX8_isSeen_66 : decode cX8_isSeen 66 = .ok (.iaload, 1) := by decide +kernel
theorem dX8_isSeen_67 : decode cX8_isSeen 67 = .ok (.if_icmp .ne 7, 3) := by decide +kernel
theorem dX8_isSeen_70 : decode cX8_isSeen 70 = .ok (.iconst 1, 1) := by decide +kernel
theorem dX8_isSeen_71 : decode cX8_isSeen 71 = .ok (.goto 4, 3) := by decide +kernel
theorem dX8_isSeen_74 : decode cX8_isSeen 74 = .ok (.iconst 0, 1) := by decide +kernel
theorem dX8_isSeen_75 : decode cX8_isSeen 75 = .ok (.istore_n 1, 1) := by decide +kernel
theorem dX8_isSeen_76 : decode cX8_isSeen 76 = .ok (.iinc 2 1, 3) := by decide +kernel
theorem dX8_isSeen_79 : decode cX8_isSeen 79 = .ok (.goto (-71), 3) := by decide +kernel
theorem dX8_isSeen_82 : decode cX8_isSeen 82 = .ok (.iload_n 1, 1) := by decide +kernel
theorem dX8_isSeen_83 : decode cX8_isSeen 83 = .ok (.ireturn, 1) := by decide +kernel
set_option maxRecDepth 20000 in
theorem m_X8_isSeen {h : Hp}  {u : (Hp × Int32)} (hu : f_X8_isSeen h = some u) : Ct yX8_isSeen cX8_isSeen 4 (some .boolean) 6 [.ref 68] h (eI u) := by
  refine ct_of eI hu (by decide) (Nat.le_of_ble_eq_true rfl) (fun κ hn C E => ?_)
  have n1 : 1 < kn κ := by rw [hn]; decide
  have n2 : 2 < kn κ := by rw [hn]; decide
  have n3 : 3 < kn κ := by rw [hn]; decide
  unfold f_X8_isSeen
  show Xz κ _ 0 [(0, .ref 68)] [] h
  refine x_aload_n 1 C dX8_isSeen_0 0 rfl rfl rfl ?_
  refine x_cvV 4 [] [] C 5 dX8_isSeen_1 v_X8_217 (fun u hu => m_X8_lives hu) rfl sk_68 rfl (Nat.le_of_ble_eq_true rfl) (Nat.le_of_ble_eq_true rfl) rfl (fun h1 => ?_)
  refine x_iconst 5 C dX8_isSeen_4 ci_1 rfl ?_
  refine x_istore_n 6 [(1, .int (1 : Int32)), (0, .ref 68)] C dX8_isSeen_5 n1 rfl rfl rfl ?_
  refine x_iconst 7 C dX8_isSeen_6 ci_0 rfl ?_
  refine x_istore_n 8 [(2, .int (0 : Int32)), (1, .int (1 : Int32)), (0, .ref 68)] C dX8_isSeen_7 n2 rfl rfl rfl ?_
  refine x_ls [2, 1, 0] rfl (x_fx2 (ls := fun x2 x3 => [(0, .ref 68), (1, .int x2), (2, .int x3)]) (st := fun x2 x3 => []) (hh := fun x2 x3 => h1) (fun s1 J1 x2 x3 => ?_))
  refine x_iload_n 9 C dX8_isSeen_8 2 rfl rfl rfl ?_
  refine x_aload_n 10 C dX8_isSeen_9 0 rfl rfl rfl ?_
  refine x_getI 13 C dX8_isSeen_10 fl_X8_261 sk_68 rfl rfl ?_
  refine x_icmp_ge 16 82 C dX8_isSeen_13 (by decide) rfl (fun _ => ?_) (fun _ => ?_)
  · refine x_iload_n 83 C dX8_isSeen_82 1 rfl rfl rfl ?_
    exact x_zrc C E dX8_isSeen_83 rfl
  · refine x_aload_n 17 C dX8_isSeen_16 0 rfl rfl rfl ?_
    refine x_getR (c := 91) 20 C dX8_isSeen_17 fl_X8_76 sk_68 rfl sr_68_30 rfl ?_
    refine x_iconst 21 C dX8_isSeen_20 ci_3 rfl ?_
    refine x_iload_n 22 C dX8_isSeen_21 2 rfl rfl rfl ?_
    refine x_imul 23 C dX8_isSeen_22 rfl ?_
    refine x_iconst 24 C dX8_isSeen_23 ci_1 rfl ?_
    refine x_iadd 25 C dX8_isSeen_24 rfl ?_
    refine x_iald 26 C dX8_isSeen_25 sk_91 sl_91 rfl ?_
    refine x_ni (fun x4 => ?_)
    refine x_istore_n 27 [(3, .int x4), (0, .ref 68), (1, .int x2), (2, .int x3)] C dX8_isSeen_26 n3 rfl rfl rfl ?_
    refine x_iload_n 28 C dX8_isSeen_27 2 rfl rfl rfl ?_
    refine x_lt1 (q := 75) (ls := fun x5 => [(0, .ref 68), (2, .int x3)]) (st := fun x5 => [.int x5]) (hh := fun x5 => h1) (fun x5 => ?_) (fun k2 J2 => ?_)
    · refine x_istore_n 76 [(1, .int x5), (0, .ref 68), (2, .int x3)] C dX8_isSeen_75 n1 rfl rfl rfl ?_
      refine x_iinc 79 (fun x6 => [(2, .int x6), (1, .int x5), (0, .ref 68)]) C dX8_isSeen_76 2 rfl ci_1 n2 (fun _ => rfl) rfl (fun x6 => ?_)
      refine x_goto 8 C dX8_isSeen_79 (by decide) ?_
      exact x_ls [2, 1, 0] rfl (J1 x5 x6)
    refine x_lt1 (q := 74) (ls := fun u7 => [(0, .ref 68), (2, .int x3)]) (st := fun u7 => []) (hh := fun u7 => h1) (fun u7 => ?_) (fun k3 J3 => ?_)
    · refine x_iconst 75 C dX8_isSeen_74 ci_0 rfl ?_
      exact x_ls [0, 1] rfl (J2 (0 : Int32))
    refine x_if_eq 31 74 C dX8_isSeen_28 (by decide) rfl (fun _ => ?_) (fun _ => ?_)
    · exact x_ls [1, 3] rfl (J3 (0 : Int32))
    · refine x_aload_n 32 C dX8_isSeen_31 1 rfl rfl rfl ?_
      refine x_iload_n 33 C dX8_isSeen_32 0 rfl rfl rfl ?_
      refine x_cvi 36 [.int x4] [] C 1 dX8_isSeen_33 v_X8_151 (fun u hu => m_X8_isWalker hu) rfl sk_68 rfl (Nat.le_of_ble_eq_true rfl) (Nat.le_of_ble_eq_true rfl) rfl (fun x8 => ?_)
      refine x_if_eq 39 74 C dX8_isSeen_36 (by decide) rfl (fun _ => ?_) (fun _ => ?_)
      · exact x_ls [1, 3] rfl (J3 (0 : Int32))
      · refine x_aload_n 40 C dX8_isSeen_39 1 rfl rfl rfl ?_
        refine x_getR (c := 87) 43 C dX8_isSeen_40 fl_X8_64 sk_68 rfl sr_68_23 rfl ?_
        refine x_bipush 45 C dX8_isSeen_43 cb_6 rfl ?_
        refine x_aload_n 46 C dX8_isSeen_45 1 rfl rfl rfl ?_
        refine x_getR (c := 91) 49 C dX8_isSeen_46 fl_X8_76 sk_68 rfl sr_68_30 rfl ?_
        refine x_iconst 50 C dX8_isSeen_49 ci_3 rfl ?_
        refine x_iload_n 51 C dX8_isSeen_50 3 rfl rfl rfl ?_
        refine x_imul 52 C dX8_isSeen_51 rfl ?_
        refine x_iald 53 C dX8_isSeen_52 sk_91 sl_91 rfl ?_
        refine x_imul 54 C dX8_isSeen_53 rfl ?_
        refine x_iload_n 55 C dX8_isSeen_54 0 rfl rfl rfl ?_
        refine x_iadd 56 C dX8_isSeen_55 rfl ?_
        refine x_iald 57 C dX8_isSeen_56 sk_87 sl_87 rfl ?_
        refine x_aload_n 58 C dX8_isSeen_57 1 rfl rfl rfl ?_
        refine x_getR (c := 91) 61 C dX8_isSeen_58 fl_X8_76 sk_68 rfl sr_68_30 rfl ?_
        refine x_iconst 62 C dX8_isSeen_61 ci_3 rfl ?_
        refine x_iload_n 63 C dX8_isSeen_62 3 rfl rfl rfl ?_
        refine x_imul 64 C dX8_isSeen_63 rfl ?_
        refine x_iconst 65 C dX8_isSeen_64 ci_2 rfl ?_
        refine x_iadd 66 C dX8_isSeen_65 rfl ?_
        refine x_iald 67 C dX8_isSeen_66 sk_91 sl_91 rfl ?_
        refine x_icmp_ne 70 74 C dX8_isSeen_67 (by decide) rfl (fun _ => ?_) (fun _ => ?_)
        · exact x_ls [1, 3] rfl (J3 (0 : Int32))
        · refine x_iconst 71 C dX8_isSeen_70 ci_1 rfl ?_
          refine x_goto 75 C dX8_isSeen_71 (by decide) ?_
          exact x_ls [1, 3] rfl (J2 (1 : Int32))

def f_X8_neverNow (h : Hp) : Option (Hp × Int32) :=
  fx3 FU (fun s1 (h1 : Hp) (x2 : Int32) (x3 : Int32) =>
    if (h1.1 68 12) ≤ x3 then (
      nm (uf h1 68 14 (0 : Int32)) fun h4 =>
      some (h4, x2))
    else (
      nm (uf h1 68 14 ((1 : Int32) <<< (x3 &&& 31))) fun h5 =>
      bnd (f_X8_isSeen h5) fun h6 x7 =>
      lt1 (fun (x8 : Int32) =>
        nm (x2 ||| x8) fun x9 =>
        nm (x3 + (1 : Int32)) fun x10 =>
        s1 h6 x9 x10) fun k2 =>
      if x7 = 0 then (
        k2 (0 : Int32))
      else (
        k2 ((1 : Int32) <<< (x3 &&& 31))))) h (0 : Int32) (0 : Int32)
theorem dX8_neverNow_0 : decode cX8_neverNow 0 = .ok (.iconst 0, 1) := by decide +kernel
theorem dX8_neverNow_1 : decode cX8_neverNow 1 = .ok (.istore_n 1, 1) := by decide +kernel
theorem dX8_neverNow_2 : decode cX8_neverNow 2 = .ok (.iconst 0, 1) := by decide +kernel
theorem dX8_neverNow_3 : decode cX8_neverNow 3 = .ok (.istore_n 2, 1) := by decide +kernel
theorem dX8_neverNow_4 : decode cX8_neverNow 4 = .ok (.iload_n 2, 1) := by decide +kernel
theorem dX8_neverNow_5 : decode cX8_neverNow 5 = .ok (.aload_n 0, 1) := by decide +kernel
theorem dX8_neverNow_6 : decode cX8_neverNow 6 = .ok (.getfield 169, 3) := by decide +kernel
theorem dX8_neverNow_9 : decode cX8_neverNow 9 = .ok (.if_icmp .ge 33, 3) := by decide +kernel
theorem dX8_neverNow_12 : decode cX8_neverNow 12 = .ok (.aload_n 0, 1) := by decide +kernel
theorem dX8_neverNow_13 : decode cX8_neverNow 13 = .ok (.iconst 1, 1) := by decide +kernel
theorem dX8_neverNow_14 : decode cX8_neverNow 14 = .ok (.iload_n 2, 1) := by decide +kernel
theorem dX8_neverNow_15 : decode cX8_neverNow 15 = .ok (.ishl, 1) := by decide +kernel
theorem dX8_neverNow_16 : decode cX8_neverNow 16 = .ok (.putfield 178, 3) := by decide +kernel
theorem dX8_neverNow_19 : decode cX8_neverNow 19 = .ok (.iload_n 1, 1) := by decide +kernel
theorem dX8_neverNow_20 : decode cX8_neverNow 20 = .ok (.aload_n 0, 1) := by decide +kernel
theorem dX8_neverNow_21 : decode cX8_neverNow 21 = .ok (.invokevirtual 264, 3) := by decide +kernel
theorem dX8_neverNow_24 : decode cX8_neverNow 24 = .ok (.ifCond .eq 9, 3) := by decide +kernel
theorem dX8_neverNow_27 : decode cX8_neverNow 27 = .ok (.iconst 1, 1) := by decide +kernel
theorem dX8_neverNow_28 : decode cX8_neverNow 28 = .ok (.iload_n 2, 1) := by decide +kernel
theorem dX8_neverNow_29 : decode cX8_neverNow 29 = .ok (.ishl, 1) := by decide +kernel
theorem dX8_neverNow_30 : decode cX8_neverNow 30 = .ok (.goto 4, 3) := by decide +kernel
theorem dX8_neverNow_33 : decode cX8_neverNow 33 = .ok (.iconst 0, 1) := by decide +kernel
theorem dX8_neverNow_34 : decode cX8_neverNow 34 = .ok (.ior, 1) := by decide +kernel
theorem dX8_neverNow_35 : decode cX8_neverNow 35 = .ok (.istore_n 1, 1) := by decide +kernel
theorem dX8_neverNow_36 : decode cX8_neverNow 36 = .ok (.iinc 2 1, 3) := by decide +kernel
theorem dX8_neverNow_39 : decode cX8_neverNow 39 = .ok (.goto (-35), 3) := by decide +kernel
theorem dX8_neverNow_42 : decode cX8_neverNow 42 = .ok (.aload_n 0, 1) := by decide +kernel
theorem dX8_neverNow_43 : decode cX8_neverNow 43 = .ok (.iconst 0, 1) := by decide +kernel
theorem dX8_neverNow_44 : decode cX8_neverNow 44 = .ok (.putfield 178, 3) := by decide +kernel
theorem dX8_neverNow_47 : decode cX8_neverNow 47 = .ok (.iload_n 1, 1) := by decide +kernel
theorem dX8_neverNow_48 : decode cX8_neverNow 48 = .ok (.ireturn, 1) := by decide +kernel
set_option maxRecDepth 20000 in
theorem m_X8_neverNow {h : Hp}  {u : (Hp × Int32)} (hu : f_X8_neverNow h = some u) : Ct yX8_neverNow cX8_neverNow 3 (some .int) 7 [.ref 68] h (eI u) := by
  refine ct_of eI hu (by decide) (Nat.le_of_ble_eq_true rfl) (fun κ hn C E => ?_)
  have n1 : 1 < kn κ := by rw [hn]; decide
  have n2 : 2 < kn κ := by rw [hn]; decide
  unfold f_X8_neverNow
  show Xz κ _ 0 [(0, .ref 68)] [] h
  refine x_iconst 1 C dX8_neverNow_0 ci_0 rfl ?_
  refine x_istore_n 2 [(1, .int (0 : Int32)), (0, .ref 68)] C dX8_neverNow_1 n1 rfl rfl rfl ?_
  refine x_iconst 3 C dX8_neverNow_2 ci_0 rfl ?_
  refine x_istore_n 4 [(2, .int (0 : Int32)), (1, .int (0 : Int32)), (0, .ref 68)] C dX8_neverNow_3 n2 rfl rfl rfl ?_
  refine x_ls [2, 1, 0] rfl (x_fx3 (ls := fun h1 x2 x3 => [(0, .ref 68), (1, .int x2), (2, .int x3)]) (st := fun h1 x2 x3 => []) (hh := fun h1 x2 x3 => h1) (fun s1 J1 h1 x2 x3 => ?_))
  refine x_iload_n 5 C dX8_neverNow_4 2 rfl rfl rfl ?_
  refine x_aload_n 6 C dX8_neverNow_5 0 rfl rfl rfl ?_
  refine x_getI 9 C dX8_neverNow_6 fl_X8_169 sk_68 rfl rfl ?_
  refine x_icmp_ge 12 42 C dX8_neverNow_9 (by decide) rfl (fun _ => ?_) (fun _ => ?_)
  · refine x_aload_n 43 C dX8_neverNow_42 0 rfl rfl rfl ?_
    refine x_iconst 44 C dX8_neverNow_43 ci_0 rfl ?_
    refine x_put 47 C dX8_neverNow_44 fp_X8_178 sk_68 rfl rfl rfl rfl (fun h4 => ?_)
    refine x_iload_n 48 C dX8_neverNow_47 1 rfl rfl rfl ?_
    exact x_iret C E dX8_neverNow_48 rfl
  · refine x_aload_n 13 C dX8_neverNow_12 0 rfl rfl rfl ?_
    refine x_iconst 14 C dX8_neverNow_13 ci_1 rfl ?_
    refine x_iload_n 15 C dX8_neverNow_14 2 rfl rfl rfl ?_
    refine x_ishl 16 C dX8_neverNow_15 rfl ?_
    refine x_put 19 C dX8_neverNow_16 fp_X8_178 sk_68 rfl rfl rfl rfl (fun h5 => ?_)
    refine x_iload_n 20 C dX8_neverNow_19 1 rfl rfl rfl ?_
    refine x_aload_n 21 C dX8_neverNow_20 0 rfl rfl rfl ?_
    refine x_cvI 24 [] [.int x2] C 6 dX8_neverNow_21 v_X8_264 (fun u hu => m_X8_isSeen hu) rfl sk_68 rfl (Nat.le_of_ble_eq_true rfl) (Nat.le_of_ble_eq_true rfl) rfl (fun h6 x7 => ?_)
    refine x_lt1 (q := 34) (ls := fun x8 => [(0, .ref 68), (2, .int x3)]) (st := fun x8 => [.int x8, .int x2]) (hh := fun x8 => h6) (fun x8 => ?_) (fun k2 J2 => ?_)
    · refine x_ior 35 C dX8_neverNow_34 rfl ?_
      refine x_ni (fun x9 => ?_)
      refine x_istore_n 36 [(1, .int x9), (0, .ref 68), (2, .int x3)] C dX8_neverNow_35 n1 rfl rfl rfl ?_
      refine x_iinc 39 (fun x10 => [(2, .int x10), (1, .int x9), (0, .ref 68)]) C dX8_neverNow_36 2 rfl ci_1 n2 (fun _ => rfl) rfl (fun x10 => ?_)
      refine x_goto 4 C dX8_neverNow_39 (by decide) ?_
      exact x_ls [2, 1, 0] rfl (J1 h6 x9 x10)
    refine x_if_eq 27 33 C dX8_neverNow_24 (by decide) rfl (fun _ => ?_) (fun _ => ?_)
    · refine x_iconst 34 C dX8_neverNow_33 ci_0 rfl ?_
      exact x_ls [0, 2] rfl (J2 (0 : Int32))
    · refine x_iconst 28 C dX8_neverNow_27 ci_1 rfl ?_
      refine x_iload_n 29 C dX8_neverNow_28 2 rfl rfl rfl ?_
      refine x_ishl 30 C dX8_neverNow_29 rfl ?_
      refine x_goto 34 C dX8_neverNow_30 (by decide) ?_
      exact x_ls [0, 2] rfl (J2 ((1 : Int32) <<< (x3 &&& 31)))

def f_X8_never (h : Hp) : Option (Hp × Int32) :=
  bdv (f_X8_find h) fun h1 =>
  bnd (f_X8_neverNow h1) fun h2 x3 =>
  some (h2, x3)
theorem dX8_never_0 : decode cX8_never 0 = .ok (.aload_n 0, 1) := by decide +kernel
theorem dX8_never_1 : decode cX8_never 1 = .ok (.invokevirtual 220, 3) := by decide +kernel
theorem dX8_never_4 : decode cX8_never 4 = .ok (.aload_n 0, 1) := by decide +kernel
theorem dX8_never_5 : decode cX8_never 5 = .ok (.invokevirtual 268, 3) := by decide +kernel
theorem dX8_never_8 : decode cX8_never 8 = .ok (.ireturn, 1) := by decide +kernel
set_option maxRecDepth 20000 in
theorem m_X8_never {h : Hp}  {u : (Hp × Int32)} (hu : f_X8_never h = some u) : Ct yX8_never cX8_never 1 (some .int) 8 [.ref 68] h (eI u) := by
  refine ct_of eI hu (by decide) (Nat.le_of_ble_eq_true rfl) (fun κ hn C E => ?_)
  unfold f_X8_never
  show Xz κ _ 0 [(0, .ref 68)] [] h
  refine x_aload_n 1 C dX8_never_0 0 rfl rfl rfl ?_
  refine x_cvV 4 [] [] C 6 dX8_never_1 v_X8_220 (fun u hu => m_X8_find hu) rfl sk_68 rfl (Nat.le_of_ble_eq_true rfl) (Nat.le_of_ble_eq_true rfl) rfl (fun h1 => ?_)
  refine x_aload_n 5 C dX8_never_4 0 rfl rfl rfl ?_
  refine x_cvI 8 [] [] C 7 dX8_never_5 v_X8_268 (fun u hu => m_X8_neverNow hu) rfl sk_68 rfl (Nat.le_of_ble_eq_true rfl) (Nat.le_of_ble_eq_true rfl) rfl (fun h2 x3 => ?_)
  exact x_iret C E dX8_never_8 rfl

def f_X8_rowOf (h : Hp) (a1 : Int32) : Option Int64 :=
  fx2 FU (fun s1 (l1 : Int64) (x2 : Int32) =>
    if (h.1 68 7) ≤ x2 then (
      some l1)
    else (
      ck (((6 : Int32) * a1) + x2) 144 (
        nm ((((42 : Int64) * l1) + ((ia h 88 (((6 : Int32) * a1) + x2)).toInt64)) + (1 : Int64)) fun l3 =>
        nm (x2 + (1 : Int32)) fun x4 =>
        s1 l3 x4))) (0 : Int64) (0 : Int32)
theorem dX8_rowOf_0 : decode cX8_rowOf 0 = .ok (.lconst 0, 1) := by decide +kernel
theorem dX8_rowOf_1 : decode cX8_rowOf 1 = .ok (.lstore_n 2, 1) := by decide +kernel
theorem dX8_rowOf_2 : decode cX8_rowOf 2 = .ok (.iconst 0, 1) := by decide +kernel
theorem dX8_rowOf_3 : decode cX8_rowOf 3 = .ok (.istore 4, 2) := by decide +kernel
theorem dX8_rowOf_5 : decode cX8_rowOf 5 = .ok (.iload 4, 2) := by decide +kernel
theorem dX8_rowOf_7 : decode cX8_rowOf 7 = .ok (.aload_n 0, 1) := by decide +kernel
theorem dX8_rowOf_8 : decode cX8_rowOf 8 = .ok (.getfield 127, 3) := by decide +kernel
theorem dX8_rowOf_11 : decode cX8_rowOf 11 = .ok (.if_icmp .ge 31, 3) := by decide +kernel
theorem dX8_rowOf_14 : decode cX8_rowOf 14 = .ok (.ldc2_w 271, 3) := by decide +kernel
theorem dX8_rowOf_17 : decode cX8_rowOf 17 = .ok (.lload_n 2, 1) := by decide +kernel
theorem dX8_rowOf_18 : decode cX8_rowOf 18 = .ok (.lmul, 1) := by decide +kernel
theorem dX8_rowOf_19 : decode cX8_rowOf 19 = .ok (.aload_n 0, 1) := by decide +kernel
theorem dX8_rowOf_20 : decode cX8_rowOf 20 = .ok (.getfield 67, 3) := by decide +kernel
theorem dX8_rowOf_23 : decode cX8_rowOf 23 = .ok (.bipush 6, 2) := by decide +kernel
theorem dX8_rowOf_25 : decode cX8_rowOf 25 = .ok (.iload_n 1, 1) := by decide +kernel
theorem dX8_rowOf_26 : decode cX8_rowOf 26 = .ok (.imul, 1) := by decide +kernel
theorem dX8_rowOf_27 : decode cX8_rowOf 27 = .ok (.iload 4, 2) := by decide +kernel
theorem dX8_rowOf_29 : decode cX8_rowOf 29 = .ok (.iadd, 1) := by decide +kernel
theorem dX8_rowOf_30 : decode cX8_rowOf 30 = .ok (.iaload, 1) := by decide +kernel
theorem dX8_rowOf_31 : decode cX8_rowOf 31 = .ok (.i2l, 1) := by decide +kernel
theorem dX8_rowOf_32 : decode cX8_rowOf 32 = .ok (.ladd, 1) := by decide +kernel
theorem dX8_rowOf_33 : decode cX8_rowOf 33 = .ok (.lconst 1, 1) := by decide +kernel
theorem dX8_rowOf_34 : decode cX8_rowOf 34 = .ok (.ladd, 1) := by decide +kernel
theorem dX8_rowOf_35 : decode cX8_rowOf 35 = .ok (.lstore_n 2, 1) := by decide +kernel
theorem dX8_rowOf_36 : decode cX8_rowOf 36 = .ok (.iinc 4 1, 3) := by decide +kernel
theorem dX8_rowOf_39 : decode cX8_rowOf 39 = .ok (.goto (-34), 3) := by decide +kernel
theorem dX8_rowOf_42 : decode cX8_rowOf 42 = .ok (.lload_n 2, 1) := by decide +kernel
theorem dX8_rowOf_43 : decode cX8_rowOf 43 = .ok (.lreturn, 1) := by decide +kernel
set_option maxRecDepth 20000 in
theorem m_X8_rowOf {h : Hp} {a1 : Int32}  {u : Int64} (hu : f_X8_rowOf h a1 = some u) : Ct yX8_rowOf cX8_rowOf 5 (some .long) 0 [.ref 68, .int a1] h ((rL h) u) := by
  refine ct_of (rL h) hu (by decide) (Nat.le_of_ble_eq_true rfl) (fun κ hn C E => ?_)
  have n3 : 3 < kn κ := by rw [hn]; decide
  have n4 : 4 < kn κ := by rw [hn]; decide
  unfold f_X8_rowOf
  show Xz κ _ 0 [(0, .ref 68), (1, .int a1)] [] h
  refine x_lconst 1 C dX8_rowOf_0 cl_0 rfl ?_
  refine x_lstore_n 2 [(2, .long (0 : Int64)), (0, .ref 68), (1, .int a1)] C dX8_rowOf_1 n3 rfl rfl rfl ?_
  refine x_iconst 3 C dX8_rowOf_2 ci_0 rfl ?_
  refine x_istore 5 [(4, .int (0 : Int32)), (2, .long (0 : Int64)), (0, .ref 68), (1, .int a1)] C dX8_rowOf_3 n4 rfl rfl ?_
  refine x_ls [2, 3, 1, 0] rfl (x_fx2 (ls := fun l1 x2 => [(0, .ref 68), (1, .int a1), (2, .long l1), (4, .int x2)]) (st := fun l1 x2 => []) (hh := fun l1 x2 => h) (fun s1 J1 l1 x2 => ?_))
  refine x_iload 7 C dX8_rowOf_5 3 rfl rfl ?_
  refine x_aload_n 8 C dX8_rowOf_7 0 rfl rfl rfl ?_
  refine x_getI 11 C dX8_rowOf_8 fl_X8_127 sk_68 rfl rfl ?_
  refine x_icmp_ge 14 42 C dX8_rowOf_11 (by decide) rfl (fun _ => ?_) (fun _ => ?_)
  · refine x_lload_n 43 C dX8_rowOf_42 2 rfl rfl rfl ?_
    exact x_lret C E dX8_rowOf_43 rfl
  · refine x_ldc2 17 C dX8_rowOf_14 kw_X8_271 rfl ?_
    refine x_lload_n 18 C dX8_rowOf_17 2 rfl rfl rfl ?_
    refine x_lmul 19 C dX8_rowOf_18 rfl ?_
    refine x_aload_n 20 C dX8_rowOf_19 0 rfl rfl rfl ?_
    refine x_getR (c := 88) 23 C dX8_rowOf_20 fl_X8_67 sk_68 rfl sr_68_24 rfl ?_
    refine x_bipush 25 C dX8_rowOf_23 cb_6 rfl ?_
    refine x_iload_n 26 C dX8_rowOf_25 1 rfl rfl rfl ?_
    refine x_imul 27 C dX8_rowOf_26 rfl ?_
    refine x_iload 29 C dX8_rowOf_27 3 rfl rfl ?_
    refine x_iadd 30 C dX8_rowOf_29 rfl ?_
    refine x_iald 31 C dX8_rowOf_30 sk_88 sl_88 rfl ?_
    refine x_i2l 32 C dX8_rowOf_31 rfl ?_
    refine x_ladd 33 C dX8_rowOf_32 rfl ?_
    refine x_lconst 34 C dX8_rowOf_33 cl_1 rfl ?_
    refine x_ladd 35 C dX8_rowOf_34 rfl ?_
    refine x_nl (fun l3 => ?_)
    refine x_lstore_n 36 [(2, .long l3), (0, .ref 68), (1, .int a1), (4, .int x2)] C dX8_rowOf_35 n3 rfl rfl rfl ?_
    refine x_iinc 39 (fun x4 => [(4, .int x4), (2, .long l3), (0, .ref 68), (1, .int a1)]) C dX8_rowOf_36 3 rfl ci_1 n4 (fun _ => rfl) rfl (fun x4 => ?_)
    refine x_goto 5 C dX8_rowOf_39 (by decide) ?_
    exact x_ls [2, 3, 1, 0] rfl (J1 l3 x4)

def f_X8_polesOf (h : Hp) (a1 : Int32) : Option (Hp × Int32) :=
  nm (((3 : Int32) * a1) + (2 : Int32)) fun x1 =>
  ck x1 18 (
    nm (ia h 75 x1) fun x2 =>
    fx3 FU (fun s1 (h3 : Hp) (x4 : Int32) (x5 : Int32) =>
      if (10 : Int32) ≤ x5 then (
        ck x1 18 (nm (ux h3 75 x1 x2) fun h6 =>
        some (h6, x4)))
      else (
        ck x1 18 (nm (ux h3 75 x1 x5) fun h7 =>
        bnd (f_X8_isSeen h7) fun h8 x9 =>
        lt1 (fun (x10 : Int32) =>
          nm (x4 ||| x10) fun x11 =>
          lt1 (fun (h12 : Hp) =>
            nm (x5 + (1 : Int32)) fun x13 =>
            s1 h12 x11 x13) fun k3 =>
          fx2 FU (fun s4 (h14 : Hp) (x15 : Int32) =>
            if (24 : Int32) ≤ x15 then (
              k3 h14)
            else (
              bdr (f_X8_rowOf h14 x15) fun l16 =>
              ck (((24 : Int32) * x5) + x15) 240 (nm (uy h14 92 (((24 : Int32) * x5) + x15) l16) fun h17 =>
              nm (x15 + (1 : Int32)) fun x18 =>
              s4 h17 x18))) h8 (0 : Int32)) fun k2 =>
        if x9 = 0 then (
          k2 (0 : Int32))
        else (
          k2 ((1 : Int32) <<< (x5 &&& 31)))))) h (0 : Int32) (0 : Int32))
theorem dX8_polesOf_0 : decode cX8_polesOf 0 = .ok (.iconst 3, 1) := by decide +kernel
theorem dX8_polesOf_1 : decode cX8_polesOf 1 = .ok (.iload_n 1, 1) := by decide +kernel
theorem dX8_polesOf_2 : decode cX8_polesOf 2 = .ok (.imul, 1) := by decide +kernel
theorem dX8_polesOf_3 : decode cX8_polesOf 3 = .ok (.iconst 2, 1) := by decide +kernel
theorem dX8_polesOf_4 : decode cX8_polesOf 4 = .ok (.iadd, 1) := by decide +kernel
theorem dX8_polesOf_5 : decode cX8_polesOf 5 = .ok (.istore_n 2, 1) := by decide +kernel
theorem dX8_polesOf_6 : decode cX8_polesOf 6 = .ok (.aload_n 0, 1) := by decide +kernel
theorem dX8_polesOf_7 : decode cX8_polesOf 7 = .ok (.getfield 28, 3) := by decide +kernel
theorem dX8_polesOf_10 : decode cX8_polesOf 10 = .ok (.iload_n 2, 1) := by decide +kernel
theorem dX8_polesOf_11 : decode cX8_polesOf 11 = .ok (.iaload, 1) := by decide +kernel
theorem dX8_polesOf_12 : decode cX8_polesOf 12 = .ok (.istore_n 3, 1) := by decide +kernel
theorem dX8_polesOf_13 : decode cX8_polesOf 13 = .ok (.iconst 0, 1) := by decide +kernel
theorem dX8_polesOf_14 : decode cX8_polesOf 14 = .ok (.istore 4, 2) := by decide +kernel
theorem dX8_polesOf_16 : decode cX8_polesOf 16 = .ok (.iconst 0, 1) := by decide +kernel
theorem dX8_polesOf_17 : decode cX8_polesOf 17 = .ok (.istore 5, 2) := by decide +kernel
theorem dX8_polesOf_19 : decode cX8_polesOf 19 = .ok (.iload 5, 2) := by decide +kernel
theorem dX8_polesOf_21 : decode cX8_polesOf 21 = .ok (.bipush 10, 2) := by decide +kernel
theorem dX8_polesOf_23 : decode cX8_polesOf 23 = .ok (.if_icmp .ge 72, 3) := by decide +kernel
theorem dX8_polesOf_26 : decode cX8_polesOf 26 = .ok (.aload_n 0, 1) := by decide +kernel
theorem dX8_polesOf_27 : decode cX8_polesOf 27 = .ok (.getfield 28, 3) := by decide +kernel
theorem dX8_polesOf_30 : decode cX8_polesOf 30 = .ok (.iload_n 2, 1) := by decide +kernel
theorem dX8_polesOf_31 : decode cX8_polesOf 31 = .ok (.iload 5, 2) := by decide +kernel
theorem dX8_polesOf_33 : decode cX8_polesOf 33 = .ok (.iastore, 1) := by decide +kernel
theorem dX8_polesOf_34 : decode cX8_polesOf 34 = .ok (.iload 4, 2) := by decide +kernel
theorem dX8_polesOf_36 : decode cX8_polesOf 36 = .ok (.aload_n 0, 1) := by decide +kernel
theorem dX8_polesOf_37 : decode cX8_polesOf 37 = .ok (.invokevirtual 264, 3) := by decide +kernel
theorem dX8_polesOf_40 : decode cX8_polesOf 40 = .ok (.ifCond .eq 10, 3) := by decide +kernel
theorem dX8_polesOf_43 : decode cX8_polesOf 43 = .ok (.iconst 1, 1) := by decide +kernel
theorem dX8_polesOf_44 : decode cX8_polesOf 44 = .ok (.iload 5, 2) := by decide +kernel
theorem dX8_polesOf_46 : decode cX8_polesOf 46 = .ok (.ishl, 1) := by decide +kernel
theorem dX8_polesOf_47 : decode cX8_polesOf 47 = .ok (.goto 4, 3) := by decide +kernel
theorem dX8_polesOf_50 : decode cX8_polesOf 50 = .ok (.iconst 0, 1) := by decide +kernel
theorem dX8_polesOf_51 : decode cX8_polesOf 51 = .ok (.ior, 1) := by decide +kernel
theorem dX8_polesOf_52 : decode cX8_polesOf 52 = .ok (.istore 4, 2) := by decide +kernel
theorem dX8_polesOf_54 : decode cX8_polesOf 54 = .ok (.iconst 0, 1) := by decide +kernel
theorem dX8_polesOf_55 : decode cX8_polesOf 55 = .ok (.istore 6, 2) := by decide +kernel
theorem dX8_polesOf_57 : decode cX8_polesOf 57 = .ok (.iload 6, 2) := by decide +kernel
theorem dX8_polesOf_59 : decode cX8_polesOf 59 = .ok (.bipush 24, 2) := by decide +kernel
theorem dX8_polesOf_61 : decode cX8_polesOf 61 = .ok (.if_icmp .ge 28, 3) := by decide +kernel
theorem dX8_polesOf_64 : decode cX8_polesOf 64 = .ok (.aload_n 0, 1) := by decide +kernel
theorem dX8_polesOf_65 : decode cX8_polesOf 65 = .ok (.getfield 79, 3) := by decide +kernel
theorem dX8_polesOf_68 : decode cX8_polesOf 68 = .ok (.bipush 24, 2) := by decide +kernel
theorem dX8_polesOf_70 : decode cX8_polesOf 70 = .ok (.iload 5, 2) := by decide +kernel
theorem dX8_polesOf_72 : decode cX8_polesOf 72 = .ok (.imul, 1) := by decide +kernel
theorem dX8_polesOf_73 : decode cX8_polesOf 73 = .ok (.iload 6, 2) := by decide +kernel
theorem dX8_polesOf_75 : decode cX8_polesOf 75 = .ok (.iadd, 1) := by decide +kernel
theorem dX8_polesOf_76 : decode cX8_polesOf 76 = .ok (.aload_n 0, 1) := by decide +kernel
theorem dX8_polesOf_77 : decode cX8_polesOf 77 = .ok (.iload 6, 2) := by decide +kernel
theorem dX8_polesOf_79 : decode cX8_polesOf 79 = .ok (.invokevirtual 273, 3) := by decide +kernel
theorem dX8_polesOf_82 : decode cX8_polesOf 82 = .ok (.lastore, 1) := by decide +kernel
theorem dX8_polesOf_83 : decode cX8_polesOf 83 = .ok (.iinc 6 1, 3) := by decide +kernel
theorem dX8_polesOf_86 : decode cX8_polesOf 86 = .ok (.goto (-29), 3) := by decide +kernel
theorem dX8_polesOf_89 : decode cX8_polesOf 89 = .ok (.iinc 5 1, 3) := by decide +kernel
theorem dX8_polesOf_92 : decode cX8_polesOf 92 = .ok (.goto (-73), 3) := by decide +kernel
theorem dX8_polesOf_95 : decode cX8_polesOf 95 = .ok (.aload_n 0, 1) := by decide +kernel
theorem dX8_polesOf_96 : decode cX8_polesOf 96 = .ok (.getfield 28, 3) := by decide +kernel
theorem dX8_polesOf_99 : decode cX8_polesOf 99 = .ok (.iload_n 2, 1) := by decide +kernel
theorem dX8_polesOf_100 : decode cX8_polesOf 100 = .ok (.iload_n 3, 1) := by decide +kernel
theorem dX8_polesOf_101 : decode cX8_polesOf 101 = .ok (.iastore, 1) := by decide +kernel
theorem dX8_polesOf_102 : decode cX8_polesOf 102 = .ok (.iload 4, 2) := by decide +kernel
theorem dX8_polesOf_104 : decode cX8_polesOf 104 = .ok (.ireturn, 1) := by decide +kernel
set_option maxRecDepth 20000 in
theorem m_X8_polesOf {h : Hp} {a1 : Int32}  {u : (Hp × Int32)} (hu : f_X8_polesOf h a1 = some u) : Ct yX8_polesOf cX8_polesOf 7 (some .int) 7 [.ref 68, .int a1] h (eI u) := by
  refine ct_of eI hu (by decide) (Nat.le_of_ble_eq_true rfl) (fun κ hn C E => ?_)
  have n2 : 2 < kn κ := by rw [hn]; decide
  have n3 : 3 < kn κ := by rw [hn]; decide
  have n4 : 4 < kn κ := by rw [hn]; decide
  have n5 : 5 < kn κ := by rw [hn]; decide
  have n6 : 6 < kn κ := by rw [hn]; decide
  unfold f_X8_polesOf
  show Xz κ _ 0 [(0, .ref 68), (1, .int a1)] [] h
  refine x_iconst 1 C dX8_polesOf_0 ci_3 rfl ?_
  refine x_iload_n 2 C dX8_polesOf_1 1 rfl rfl rfl ?_
  refine x_imul 3 C dX8_polesOf_2 rfl ?_
  refine x_iconst 4 C dX8_polesOf_3 ci_2 rfl ?_
  refine x_iadd 5 C dX8_polesOf_4 rfl ?_
  refine x_ni (fun x1 => ?_)
  refine x_istore_n 6 [(2, .int x1), (0, .ref 68), (1, .int a1)] C dX8_polesOf_5 n2 rfl rfl rfl ?_
  refine x_aload_n 7 C dX8_polesOf_6 1 rfl rfl rfl ?_
  refine x_getR (c := 75) 10 C dX8_polesOf_7 fl_X8_28 sk_68 rfl sr_68_8 rfl ?_
  refine x_iload_n 11 C dX8_polesOf_10 0 rfl rfl rfl ?_
  refine x_iald 12 C dX8_polesOf_11 sk_75 sl_75 rfl ?_
  refine x_ni (fun x2 => ?_)
  refine x_istore_n 13 [(3, .int x2), (2, .int x1), (0, .ref 68), (1, .int a1)] C dX8_polesOf_12 n3 rfl rfl rfl ?_
  refine x_iconst 14 C dX8_polesOf_13 ci_0 rfl ?_
  refine x_istore 16 [(4, .int (0 : Int32)), (3, .int x2), (2, .int x1), (0, .ref 68), (1, .int a1)] C dX8_polesOf_14 n4 rfl rfl ?_
  refine x_iconst 17 C dX8_polesOf_16 ci_0 rfl ?_
  refine x_istore 19 [(5, .int (0 : Int32)), (4, .int (0 : Int32)), (3, .int x2), (2, .int x1), (0, .ref 68), (1, .int a1)] C dX8_polesOf_17 n5 rfl rfl ?_
  refine x_ls [4, 3, 2, 1, 0] rfl (x_fx3 (ls := fun h3 x4 x5 => [(0, .ref 68), (2, .int x1), (3, .int x2), (4, .int x4), (5, .int x5)]) (st := fun h3 x4 x5 => []) (hh := fun h3 x4 x5 => h3) (fun s1 J1 h3 x4 x5 => ?_))
  refine x_iload 21 C dX8_polesOf_19 4 rfl rfl ?_
  refine x_bipush 23 C dX8_polesOf_21 cb_10 rfl ?_
  refine x_icmp_ge 26 95 C dX8_polesOf_23 (by decide) rfl (fun _ => ?_) (fun _ => ?_)
  · refine x_aload_n 96 C dX8_polesOf_95 0 rfl rfl rfl ?_
    refine x_getR (c := 75) 99 C dX8_polesOf_96 fl_X8_28 sk_68 rfl sr_68_8 rfl ?_
    refine x_iload_n 100 C dX8_polesOf_99 1 rfl rfl rfl ?_
    refine x_iload_n 101 C dX8_polesOf_100 2 rfl rfl rfl ?_
    refine x_iast 102 C dX8_polesOf_101 sk_75 sl_75 rfl (fun h6 => ?_)
    refine x_iload 104 C dX8_polesOf_102 3 rfl rfl ?_
    exact x_iret C E dX8_polesOf_104 rfl
  · refine x_aload_n 27 C dX8_polesOf_26 0 rfl rfl rfl ?_
    refine x_getR (c := 75) 30 C dX8_polesOf_27 fl_X8_28 sk_68 rfl sr_68_8 rfl ?_
    refine x_iload_n 31 C dX8_polesOf_30 1 rfl rfl rfl ?_
    refine x_iload 33 C dX8_polesOf_31 4 rfl rfl ?_
    refine x_iast 34 C dX8_polesOf_33 sk_75 sl_75 rfl (fun h7 => ?_)
    refine x_iload 36 C dX8_polesOf_34 3 rfl rfl ?_
    refine x_aload_n 37 C dX8_polesOf_36 0 rfl rfl rfl ?_
    refine x_cvI 40 [] [.int x4] C 6 dX8_polesOf_37 v_X8_264 (fun u hu => m_X8_isSeen hu) rfl sk_68 rfl (Nat.le_of_ble_eq_true rfl) (Nat.le_of_ble_eq_true rfl) rfl (fun h8 x9 => ?_)
    refine x_lt1 (q := 51) (ls := fun x10 => [(0, .ref 68), (2, .int x1), (3, .int x2), (5, .int x5)]) (st := fun x10 => [.int x10, .int x4]) (hh := fun x10 => h8) (fun x10 => ?_) (fun k2 J2 => ?_)
    · refine x_ior 52 C dX8_polesOf_51 rfl ?_
      refine x_ni (fun x11 => ?_)
      refine x_istore 54 [(4, .int x11), (0, .ref 68), (2, .int x1), (3, .int x2), (5, .int x5)] C dX8_polesOf_52 n4 rfl rfl ?_
      refine x_iconst 55 C dX8_polesOf_54 ci_0 rfl ?_
      refine x_istore 57 [(6, .int (0 : Int32)), (4, .int x11), (0, .ref 68), (2, .int x1), (3, .int x2), (5, .int x5)] C dX8_polesOf_55 n6 rfl rfl ?_
      refine x_lt1 (q := 89) (ls := fun h12 => [(0, .ref 68), (2, .int x1), (3, .int x2), (4, .int x11), (5, .int x5)]) (st := fun h12 => []) (hh := fun h12 => h12) (fun h12 => ?_) (fun k3 J3 => ?_)
      · refine x_iinc 92 (fun x13 => [(5, .int x13), (0, .ref 68), (2, .int x1), (3, .int x2), (4, .int x11)]) C dX8_polesOf_89 4 rfl ci_1 n5 (fun _ => rfl) rfl (fun x13 => ?_)
        refine x_goto 19 C dX8_polesOf_92 (by decide) ?_
        exact x_ls [1, 2, 3, 4, 0] rfl (J1 h12 x11 x13)
      refine x_ls [2, 3, 4, 1, 5, 0] rfl (x_fx2 (ls := fun h14 x15 => [(0, .ref 68), (2, .int x1), (3, .int x2), (4, .int x11), (5, .int x5), (6, .int x15)]) (st := fun h14 x15 => []) (hh := fun h14 x15 => h14) (fun s4 J4 h14 x15 => ?_))
      refine x_iload 59 C dX8_polesOf_57 5 rfl rfl ?_
      refine x_bipush 61 C dX8_polesOf_59 cb_24 rfl ?_
      refine x_icmp_ge 64 89 C dX8_polesOf_61 (by decide) rfl (fun _ => ?_) (fun _ => ?_)
      · exact x_ls [0, 1, 2, 3, 4] rfl (J3 h14)
      · refine x_aload_n 65 C dX8_polesOf_64 0 rfl rfl rfl ?_
        refine x_getR (c := 92) 68 C dX8_polesOf_65 fl_X8_79 sk_68 rfl sr_68_31 rfl ?_
        refine x_bipush 70 C dX8_polesOf_68 cb_24 rfl ?_
        refine x_iload 72 C dX8_polesOf_70 4 rfl rfl ?_
        refine x_imul 73 C dX8_polesOf_72 rfl ?_
        refine x_iload 75 C dX8_polesOf_73 5 rfl rfl ?_
        refine x_iadd 76 C dX8_polesOf_75 rfl ?_
        refine x_aload_n 77 C dX8_polesOf_76 0 rfl rfl rfl ?_
        refine x_iload 79 C dX8_polesOf_77 5 rfl rfl ?_
        refine x_cvl 82 [.int x15] [.int (((24 : Int32) * x5) + x15), .ref 92] C 0 dX8_polesOf_79 v_X8_273 (fun u hu => m_X8_rowOf hu) rfl sk_68 rfl (Nat.le_of_ble_eq_true rfl) (Nat.le_of_ble_eq_true rfl) rfl (fun l16 => ?_)
        refine x_last 83 C dX8_polesOf_82 sk_92 sl_92 rfl (fun h17 => ?_)
        refine x_iinc 86 (fun x18 => [(6, .int x18), (0, .ref 68), (2, .int x1), (3, .int x2), (4, .int x11), (5, .int x5)]) C dX8_polesOf_83 5 rfl ci_1 n6 (fun _ => rfl) rfl (fun x18 => ?_)
        refine x_goto 57 C dX8_polesOf_86 (by decide) ?_
        exact x_ls [1, 2, 3, 4, 5, 0] rfl (J4 h17 x18)
    refine x_if_eq 43 50 C dX8_polesOf_40 (by decide) rfl (fun _ => ?_) (fun _ => ?_)
    · refine x_iconst 51 C dX8_polesOf_50 ci_0 rfl ?_
      exact x_ls [0, 1, 2, 4] rfl (J2 (0 : Int32))
    · refine x_iconst 44 C dX8_polesOf_43 ci_1 rfl ?_
      refine x_iload 46 C dX8_polesOf_44 4 rfl rfl ?_
      refine x_ishl 47 C dX8_polesOf_46 rfl ?_
      refine x_goto 51 C dX8_polesOf_47 (by decide) ?_
      exact x_ls [0, 1, 2, 4] rfl (J2 ((1 : Int32) <<< (x5 &&& 31)))

def f_X8_sortOf (h : Hp) (a1 : Int32) : Option (Hp × Int32) :=
  nm (((3 : Int32) * a1) + (1 : Int32)) fun x1 =>
  ck x1 18 (
    nm (ia h 75 x1) fun x2 =>
    fx3 FU (fun s1 (h3 : Hp) (x4 : Int32) (x5 : Int32) =>
      if (3 : Int32) ≤ x5 then (
        ck x1 18 (nm (ux h3 75 x1 x2) fun h6 =>
        some (h6, x4)))
      else (
        ck x1 18 (nm (ux h3 75 x1 x5) fun h7 =>
        bnd (f_X8_isSeen h7) fun h8 x9 =>
        lt1 (fun (x10 : Int32) =>
          nm (x4 ||| x10) fun x11 =>
          nm (x5 + (1 : Int32)) fun x12 =>
          s1 h8 x11 x12) fun k2 =>
        if x9 = 0 then (
          k2 (0 : Int32))
        else (
          k2 ((1 : Int32) <<< (x5 &&& 31)))))) h (0 : Int32) (0 : Int32))
theorem dX8_sortOf_0 : decode cX8_sortOf 0 = .ok (.iconst 3, 1) := by decide +kernel
theorem dX8_sortOf_1 : decode cX8_sortOf 1 = .ok (.iload_n 1, 1) := by decide +kernel
theorem dX8_sortOf_2 : decode cX8_sortOf 2 = .ok (.imul, 1) := by decide +kernel
theorem dX8_sortOf_3 : decode cX8_sortOf 3 = .ok (.iconst 1, 1) := by decide +kernel
theorem dX8_sortOf_4 : decode cX8_sortOf 4 = .ok (.iadd, 1) := by decide +kernel
theorem dX8_sortOf_5 : decode cX8_sortOf 5 = .ok (.istore_n 2, 1) := by decide +kernel
theorem dX8_sortOf_6 : decode cX8_sortOf 6 = .ok (.aload_n 0, 1) := by decide +kernel
theorem dX8_sortOf_7 : decode cX8_sortOf 7 = .ok (.getfield 28, 3) := by decide +kernel
theorem dX8_sortOf_10 : decode cX8_sortOf 10 = .ok (.iload_n 2, 1) := by decide +kernel
theorem dX8_sortOf_11 : decode cX8_sortOf 11 = .ok (.iaload, 1) := by decide +kernel
theorem dX8_sortOf_12 : decode cX8_sortOf 12 = .ok (.istore_n 3, 1) := by decide +kernel
theorem dX8_sortOf_13 : decode cX8_sortOf 13 = .ok (.iconst 0, 1) := by decide +kernel
theorem dX8_sortOf_14 : decode cX8_sortOf 14 = .ok (.istore 4, 2) := by decide +kernel
theorem dX8_sortOf_16 : decode cX8_sortOf 16 = .ok (.iconst 0, 1) := by decide +kernel
theorem dX8_sortOf_17 : decode cX8_sortOf 17 = .ok (.istore 5, 2) := by decide +kernel
theorem dX8_sortOf_19 : decode cX8_sortOf 19 = .ok (.iload 5, 2) := by decide +kernel
theorem dX8_sortOf_21 : decode cX8_sortOf 21 = .ok (.iconst 3, 1) := by decide +kernel
theorem dX8_sortOf_22 : decode cX8_sortOf 22 = .ok (.if_icmp .ge 37, 3) := by decide +kernel
theorem dX8_sortOf_25 : decode cX8_sortOf 25 = .ok (.aload_n 0, 1) := by decide +kernel
theorem dX8_sortOf_26 : decode cX8_sortOf 26 = .ok (.getfield 28, 3) := by decide +kernel
theorem dX8_sortOf_29 : decode cX8_sortOf 29 = .ok (.iload_n 2, 1) := by decide +kernel
theorem dX8_sortOf_30 : decode cX8_sortOf 30 = .ok (.iload 5, 2) := by decide +kernel
theorem dX8_sortOf_32 : decode cX8_sortOf 32 = .ok (.iastore, 1) := by decide +kernel
theorem dX8_sortOf_33 : decode cX8_sortOf 33 = .ok (.iload 4, 2) := by decide +kernel
theorem dX8_sortOf_35 : decode cX8_sortOf 35 = .ok (.aload_n 0, 1) := by decide +kernel
theorem dX8_sortOf_36 : decode cX8_sortOf 36 = .ok (.invokevirtual 264, 3) := by decide +kernel
theorem dX8_sortOf_39 : decode cX8_sortOf 39 = .ok (.ifCond .eq 10, 3) := by decide +kernel
theorem dX8_sortOf_42 : decode cX8_sortOf 42 = .ok (.iconst 1, 1) := by decide +kernel
theorem dX8_sortOf_43 : decode cX8_sortOf 43 = .ok (.iload 5, 2) := by decide +kernel
theorem dX8_sortOf_45 : decode cX8_sortOf 45 = .ok (.ishl, 1) := by decide +kernel
theorem dX8_sortOf_46 : decode cX8_sortOf 46 = .ok (.goto 4, 3) := by decide +kernel
theorem dX8_sortOf_49 : decode cX8_sortOf 49 = .ok (.iconst 0, 1) := by decide +kernel
theorem dX8_sortOf_50 : decode cX8_sortOf 50 = .ok (.ior, 1) := by decide +kernel
theorem dX8_sortOf_51 : decode cX8_sortOf 51 = .ok (.istore 4, 2) := by decide +kernel
theorem dX8_sortOf_53 : decode cX8_sortOf 53 = .ok (.iinc 5 1, 3) := by decide +kernel
theorem dX8_sortOf_56 : decode cX8_sortOf 56 = .ok (.goto (-37), 3) := by decide +kernel
theorem dX8_sortOf_59 : decode cX8_sortOf 59 = .ok (.aload_n 0, 1) := by decide +kernel
theorem dX8_sortOf_60 : decode cX8_sortOf 60 = .ok (.getfield 28, 3) := by decide +kernel
theorem dX8_sortOf_63 : decode cX8_sortOf 63 = .ok (.iload_n 2, 1) := by decide +kernel
theorem dX8_sortOf_64 : decode cX8_sortOf 64 = .ok (.iload_n 3, 1) := by decide +kernel
theorem dX8_sortOf_65 : decode cX8_sortOf 65 = .ok (.iastore, 1) := by decide +kernel
theorem dX8_sortOf_66 : decode cX8_sortOf 66 = .ok (.iload 4, 2) := by decide +kernel
theorem dX8_sortOf_68 : decode cX8_sortOf 68 = .ok (.ireturn, 1) := by decide +kernel
set_option maxRecDepth 20000 in
theorem m_X8_sortOf {h : Hp} {a1 : Int32}  {u : (Hp × Int32)} (hu : f_X8_sortOf h a1 = some u) : Ct yX8_sortOf cX8_sortOf 6 (some .int) 7 [.ref 68, .int a1] h (eI u) := by
  refine ct_of eI hu (by decide) (Nat.le_of_ble_eq_true rfl) (fun κ hn C E => ?_)
  have n2 : 2 < kn κ := by rw [hn]; decide
  have n3 : 3 < kn κ := by rw [hn]; decide
  have n4 : 4 < kn κ := by rw [hn]; decide
  have n5 : 5 < kn κ := by rw [hn]; decide
  unfold f_X8_sortOf
  show Xz κ _ 0 [(0, .ref 68), (1, .int a1)] [] h
  refine x_iconst 1 C dX8_sortOf_0 ci_3 rfl ?_
  refine x_iload_n 2 C dX8_sortOf_1 1 rfl rfl rfl ?_
  refine x_imul 3 C dX8_sortOf_2 rfl ?_
  refine x_iconst 4 C dX8_sortOf_3 ci_1 rfl ?_
  refine x_iadd 5 C dX8_sortOf_4 rfl ?_
  refine x_ni (fun x1 => ?_)
  refine x_istore_n 6 [(2, .int x1), (0, .ref 68), (1, .int a1)] C dX8_sortOf_5 n2 rfl rfl rfl ?_
  refine x_aload_n 7 C dX8_sortOf_6 1 rfl rfl rfl ?_
  refine x_getR (c := 75) 10 C dX8_sortOf_7 fl_X8_28 sk_68 rfl sr_68_8 rfl ?_
  refine x_iload_n 11 C dX8_sortOf_10 0 rfl rfl rfl ?_
  refine x_iald 12 C dX8_sortOf_11 sk_75 sl_75 rfl ?_
  refine x_ni (fun x2 => ?_)
  refine x_istore_n 13 [(3, .int x2), (2, .int x1), (0, .ref 68), (1, .int a1)] C dX8_sortOf_12 n3 rfl rfl rfl ?_
  refine x_iconst 14 C dX8_sortOf_13 ci_0 rfl ?_
  refine x_istore 16 [(4, .int (0 : Int32)), (3, .int x2), (2, .int x1), (0, .ref 68), (1, .int a1)] C dX8_sortOf_14 n4 rfl rfl ?_
  refine x_iconst 17 C dX8_sortOf_16 ci_0 rfl ?_
  refine x_istore 19 [(5, .int (0 : Int32)), (4, .int (0 : Int32)), (3, .int x2), (2, .int x1), (0, .ref 68), (1, .int a1)] C dX8_sortOf_17 n5 rfl rfl ?_
  refine x_ls [4, 3, 2, 1, 0] rfl (x_fx3 (ls := fun h3 x4 x5 => [(0, .ref 68), (2, .int x1), (3, .int x2), (4, .int x4), (5, .int x5)]) (st := fun h3 x4 x5 => []) (hh := fun h3 x4 x5 => h3) (fun s1 J1 h3 x4 x5 => ?_))
  refine x_iload 21 C dX8_sortOf_19 4 rfl rfl ?_
  refine x_iconst 22 C dX8_sortOf_21 ci_3 rfl ?_
  refine x_icmp_ge 25 59 C dX8_sortOf_22 (by decide) rfl (fun _ => ?_) (fun _ => ?_)
  · refine x_aload_n 60 C dX8_sortOf_59 0 rfl rfl rfl ?_
    refine x_getR (c := 75) 63 C dX8_sortOf_60 fl_X8_28 sk_68 rfl sr_68_8 rfl ?_
    refine x_iload_n 64 C dX8_sortOf_63 1 rfl rfl rfl ?_
    refine x_iload_n 65 C dX8_sortOf_64 2 rfl rfl rfl ?_
    refine x_iast 66 C dX8_sortOf_65 sk_75 sl_75 rfl (fun h6 => ?_)
    refine x_iload 68 C dX8_sortOf_66 3 rfl rfl ?_
    exact x_iret C E dX8_sortOf_68 rfl
  · refine x_aload_n 26 C dX8_sortOf_25 0 rfl rfl rfl ?_
    refine x_getR (c := 75) 29 C dX8_sortOf_26 fl_X8_28 sk_68 rfl sr_68_8 rfl ?_
    refine x_iload_n 30 C dX8_sortOf_29 1 rfl rfl rfl ?_
    refine x_iload 32 C dX8_sortOf_30 4 rfl rfl ?_
    refine x_iast 33 C dX8_sortOf_32 sk_75 sl_75 rfl (fun h7 => ?_)
    refine x_iload 35 C dX8_sortOf_33 3 rfl rfl ?_
    refine x_aload_n 36 C dX8_sortOf_35 0 rfl rfl rfl ?_
    refine x_cvI 39 [] [.int x4] C 6 dX8_sortOf_36 v_X8_264 (fun u hu => m_X8_isSeen hu) rfl sk_68 rfl (Nat.le_of_ble_eq_true rfl) (Nat.le_of_ble_eq_true rfl) rfl (fun h8 x9 => ?_)
    refine x_lt1 (q := 50) (ls := fun x10 => [(0, .ref 68), (2, .int x1), (3, .int x2), (5, .int x5)]) (st := fun x10 => [.int x10, .int x4]) (hh := fun x10 => h8) (fun x10 => ?_) (fun k2 J2 => ?_)
    · refine x_ior 51 C dX8_sortOf_50 rfl ?_
      refine x_ni (fun x11 => ?_)
      refine x_istore 53 [(4, .int x11), (0, .ref 68), (2, .int x1), (3, .int x2), (5, .int x5)] C dX8_sortOf_51 n4 rfl rfl ?_
      refine x_iinc 56 (fun x12 => [(5, .int x12), (4, .int x11), (0, .ref 68), (2, .int x1), (3, .int x2)]) C dX8_sortOf_53 4 rfl ci_1 n5 (fun _ => rfl) rfl (fun x12 => ?_)
      refine x_goto 19 C dX8_sortOf_56 (by decide) ?_
      exact x_ls [2, 3, 4, 1, 0] rfl (J1 h8 x11 x12)
    refine x_if_eq 42 49 C dX8_sortOf_39 (by decide) rfl (fun _ => ?_) (fun _ => ?_)
    · refine x_iconst 50 C dX8_sortOf_49 ci_0 rfl ?_
      exact x_ls [0, 1, 2, 4] rfl (J2 (0 : Int32))
    · refine x_iconst 43 C dX8_sortOf_42 ci_1 rfl ?_
      refine x_iload 45 C dX8_sortOf_43 4 rfl rfl ?_
      refine x_ishl 46 C dX8_sortOf_45 rfl ?_
      refine x_goto 50 C dX8_sortOf_46 (by decide) ?_
      exact x_ls [0, 1, 2, 4] rfl (J2 ((1 : Int32) <<< (x5 &&& 31)))

def f_X8_wasOf (h : Hp) (a1 : Int32) (a2 : Int32) : Option (Hp × Int32) :=
  if a2 = 0 then (
    bnd (f_X8_polesOf h a1) fun h3 x4 =>
    some (h3, x4))
  else (
    bnd (f_X8_sortOf h a1) fun h1 x2 =>
    some (h1, x2))
theorem dX8_wasOf_0 : decode cX8_wasOf 0 = .ok (.iload_n 2, 1) := by decide +kernel
theorem dX8_wasOf_1 : decode cX8_wasOf 1 = .ok (.ifCond .ne 11, 3) := by decide +kernel
theorem dX8_wasOf_4 : decode cX8_wasOf 4 = .ok (.aload_n 0, 1) := by decide +kernel
theorem dX8_wasOf_5 : decode cX8_wasOf 5 = .ok (.iload_n 1, 1) := by decide +kernel
theorem dX8_wasOf_6 : decode cX8_wasOf 6 = .ok (.invokevirtual 277, 3) := by decide +kernel
theorem dX8_wasOf_9 : decode cX8_wasOf 9 = .ok (.goto 8, 3) := by decide +kernel
theorem dX8_wasOf_12 : decode cX8_wasOf 12 = .ok (.aload_n 0, 1) := by decide +kernel
theorem dX8_wasOf_13 : decode cX8_wasOf 13 = .ok (.iload_n 1, 1) := by decide +kernel
theorem dX8_wasOf_14 : decode cX8_wasOf 14 = .ok (.invokevirtual 280, 3) := by decide +kernel
theorem dX8_wasOf_17 : decode cX8_wasOf 17 = .ok (.ireturn, 1) := by decide +kernel
set_option maxRecDepth 20000 in
theorem m_X8_wasOf {h : Hp} {a1 : Int32} {a2 : Int32}  {u : (Hp × Int32)} (hu : f_X8_wasOf h a1 a2 = some u) : Ct yX8_wasOf cX8_wasOf 3 (some .int) 8 [.ref 68, .int a1, .int a2] h (eI u) := by
  refine ct_of eI hu (by decide) (Nat.le_of_ble_eq_true rfl) (fun κ hn C E => ?_)
  unfold f_X8_wasOf
  show Xz κ _ 0 [(0, .ref 68), (1, .int a1), (2, .int a2)] [] h
  refine x_iload_n 1 C dX8_wasOf_0 2 rfl rfl rfl ?_
  refine x_if_ne 4 12 C dX8_wasOf_1 (by decide) rfl (fun _ => ?_) (fun _ => ?_)
  · refine x_aload_n 13 C dX8_wasOf_12 0 rfl rfl rfl ?_
    refine x_iload_n 14 C dX8_wasOf_13 1 rfl rfl rfl ?_
    refine x_cvI 17 [.int a1] [] C 7 dX8_wasOf_14 v_X8_280 (fun u hu => m_X8_sortOf hu) rfl sk_68 rfl (Nat.le_of_ble_eq_true rfl) (Nat.le_of_ble_eq_true rfl) rfl (fun h1 x2 => ?_)
    exact x_iret C E dX8_wasOf_17 rfl
  · refine x_aload_n 5 C dX8_wasOf_4 0 rfl rfl rfl ?_
    refine x_iload_n 6 C dX8_wasOf_5 1 rfl rfl rfl ?_
    refine x_cvI 9 [.int a1] [] C 7 dX8_wasOf_6 v_X8_277 (fun u hu => m_X8_polesOf hu) rfl sk_68 rfl (Nat.le_of_ble_eq_true rfl) (Nat.le_of_ble_eq_true rfl) rfl (fun h3 x4 => ?_)
    refine x_goto 17 C dX8_wasOf_9 (by decide) ?_
    exact x_iret C E dX8_wasOf_17 rfl

def f_X8_was (h : Hp) (a1 : Int32) (a2 : Int32) : Option (Hp × Int32) :=
  bdv (f_X8_find h) fun h1 =>
  bdr (f_X8_isWalker h1 a1) fun x2 =>
  if x2 = 0 then (
    some (h1, (-2 : Int32)))
  else (
    bdr (f_X8_isTwo a2) fun x3 =>
    if x3 = 0 then (
      some (h1, (-2 : Int32)))
    else (
      bnd (f_X8_wasOf h1 a1 a2) fun h4 x5 =>
      some (h4, x5)))
theorem dX8_was_0 : decode cX8_was 0 = .ok (.aload_n 0, 1) := by decide +kernel
theorem dX8_was_1 : decode cX8_was 1 = .ok (.invokevirtual 220, 3) := by decide +kernel
theorem dX8_was_4 : decode cX8_was 4 = .ok (.aload_n 0, 1) := by decide +kernel
theorem dX8_was_5 : decode cX8_was 5 = .ok (.iload_n 1, 1) := by decide +kernel
theorem dX8_was_6 : decode cX8_was 6 = .ok (.invokevirtual 151, 3) := by decide +kernel
theorem dX8_was_9 : decode cX8_was 9 = .ok (.ifCond .eq 19, 3) := by decide +kernel
theorem dX8_was_12 : decode cX8_was 12 = .ok (.iload_n 2, 1) := by decide +kernel
theorem dX8_was_13 : decode cX8_was 13 = .ok (.invokestatic 114, 3) := by decide +kernel
theorem dX8_was_16 : decode cX8_was 16 = .ok (.ifCond .eq 12, 3) := by decide +kernel
theorem dX8_was_19 : decode cX8_was 19 = .ok (.aload_n 0, 1) := by decide +kernel
theorem dX8_was_20 : decode cX8_was 20 = .ok (.iload_n 1, 1) := by decide +kernel
theorem dX8_was_21 : decode cX8_was 21 = .ok (.iload_n 2, 1) := by decide +kernel
theorem dX8_was_22 : decode cX8_was 22 = .ok (.invokevirtual 283, 3) := by decide +kernel
theorem dX8_was_25 : decode cX8_was 25 = .ok (.goto 5, 3) := by decide +kernel
theorem dX8_was_28 : decode cX8_was 28 = .ok (.bipush (-2), 2) := by decide +kernel
theorem dX8_was_30 : decode cX8_was 30 = .ok (.ireturn, 1) := by decide +kernel
set_option maxRecDepth 20000 in
theorem m_X8_was {h : Hp} {a1 : Int32} {a2 : Int32}  {u : (Hp × Int32)} (hu : f_X8_was h a1 a2 = some u) : Ct yX8_was cX8_was 3 (some .int) 9 [.ref 68, .int a1, .int a2] h (eI u) := by
  refine ct_of eI hu (by decide) (Nat.le_of_ble_eq_true rfl) (fun κ hn C E => ?_)
  unfold f_X8_was
  show Xz κ _ 0 [(0, .ref 68), (1, .int a1), (2, .int a2)] [] h
  refine x_aload_n 1 C dX8_was_0 0 rfl rfl rfl ?_
  refine x_cvV 4 [] [] C 6 dX8_was_1 v_X8_220 (fun u hu => m_X8_find hu) rfl sk_68 rfl (Nat.le_of_ble_eq_true rfl) (Nat.le_of_ble_eq_true rfl) rfl (fun h1 => ?_)
  refine x_aload_n 5 C dX8_was_4 0 rfl rfl rfl ?_
  refine x_iload_n 6 C dX8_was_5 1 rfl rfl rfl ?_
  refine x_cvi 9 [.int a1] [] C 1 dX8_was_6 v_X8_151 (fun u hu => m_X8_isWalker hu) rfl sk_68 rfl (Nat.le_of_ble_eq_true rfl) (Nat.le_of_ble_eq_true rfl) rfl (fun x2 => ?_)
  refine x_if_eq 12 28 C dX8_was_9 (by decide) rfl (fun _ => ?_) (fun _ => ?_)
  · refine x_bipush 30 C dX8_was_28 cb_m2 rfl ?_
    exact x_iret C E dX8_was_30 rfl
  · refine x_iload_n 13 C dX8_was_12 2 rfl rfl rfl ?_
    refine x_csi 16 [.int a2] [] C 1 dX8_was_13 s_X8_114 (fun u hu => m_X8_isTwo hu) rfl rfl (Nat.le_of_ble_eq_true rfl) (Nat.le_of_ble_eq_true rfl) rfl (fun x3 => ?_)
    refine x_if_eq 19 28 C dX8_was_16 (by decide) rfl (fun _ => ?_) (fun _ => ?_)
    · refine x_bipush 30 C dX8_was_28 cb_m2 rfl ?_
      exact x_iret C E dX8_was_30 rfl
    · refine x_aload_n 20 C dX8_was_19 0 rfl rfl rfl ?_
      refine x_iload_n 21 C dX8_was_20 1 rfl rfl rfl ?_
      refine x_iload_n 22 C dX8_was_21 2 rfl rfl rfl ?_
      refine x_cvI 25 [.int a1, .int a2] [] C 8 dX8_was_22 v_X8_283 (fun u hu => m_X8_wasOf hu) rfl sk_68 rfl (Nat.le_of_ble_eq_true rfl) (Nat.le_of_ble_eq_true rfl) rfl (fun h4 x5 => ?_)
      refine x_goto 30 C dX8_was_25 (by decide) ?_
      exact x_iret C E dX8_was_30 rfl

def f_X8_alike (h : Hp) (a1 : Int32) (a2 : Int32) : Option Int32 :=
  fx2 FU (fun s1 (x1 : Int32) (x2 : Int32) =>
    if (10 : Int32) ≤ x2 then (
      some x1)
    else (
      lt1 (fun (x3 : Int32) =>
        bdr (f_X8_greater x3 x1) fun x4 =>
        nm (x2 + (1 : Int32)) fun x5 =>
        s1 x4 x5) fun k2 =>
      fx2 FU (fun s3 (x6 : Int32) (x7 : Int32) =>
        if (10 : Int32) ≤ x7 then (
          k2 x6)
        else (
          bdr (f_X8_isIn a1 x2) fun x8 =>
          lt1 (fun (x9 : Int32) =>
            nm (x6 + x9) fun x10 =>
            nm (x7 + (1 : Int32)) fun x11 =>
            s3 x10 x11) fun k4 =>
          lt1 (fun (u12 : Int32) =>
            k4 (0 : Int32)) fun k5 =>
          if x8 = 0 then (
            k5 (0 : Int32))
          else (
            bdr (f_X8_isIn a1 x7) fun x13 =>
            if x13 = 0 then (
              k5 (0 : Int32))
            else (
              ck (((24 : Int32) * x2) + a2) 240 (
                ck (((24 : Int32) * x7) + a2) 240 (
                  if (lg_cmp (la h 92 (((24 : Int32) * x2) + a2)) (la h 92 (((24 : Int32) * x7) + a2))) = 0 then (
                    k4 (1 : Int32))
                  else (
                    k5 (0 : Int32)))))))) (0 : Int32) (0 : Int32))) (0 : Int32) (0 : Int32)
theorem dX8_alike_0 : decode cX8_alike 0 = .ok (.iconst 0, 1) := by decide +kernel
theorem dX8_alike_1 : decode cX8_alike 1 = .ok (.istore_n 3, 1) := by decide +kernel
theorem dX8_alike_2 : decode cX8_alike 2 = .ok (.iconst 0, 1) := by decide +kernel
theorem dX8_alike_3 : decode cX8_alike 3 = .ok (.istore 4, 2) := by decide +kernel
theorem dX8_alike_5 : decode cX8_alike 5 = .ok (.iload 4, 2) := by decide +kernel
theorem dX8_alike_7 : decode cX8_alike 7 = .ok (.bipush 10, 2) := by decide +kernel
theorem dX8_alike_9 : decode cX8_alike 9 = .ok (.if_icmp .ge 91, 3) := by decide +kernel
theorem dX8_alike_12 : decode cX8_alike 12 = .ok (.iconst 0, 1) := by decide +kernel
theorem dX8_alike_13 : decode cX8_alike 13 = .ok (.istore 5, 2) := by decide +kernel
theorem dX8_alike_15 : decode cX8_alike 15 = .ok (.iconst 0, 1) := by decide +kernel
theorem dX8_alike_16 : decode cX8_alike 16 = .ok (.istore 6, 2) := by decide +kernel
theorem dX8_alike_18 : decode cX8_alike 18 = .ok (.iload 6, 2) := by decide +kernel
theorem dX8_alike_20 : decode cX8_alike 20 = .ok (.bipush 10, 2) := by decide +kernel
theorem dX8_alike_22 : decode cX8_alike 22 = .ok (.if_icmp .ge 65, 3) := by decide +kernel
theorem dX8_alike_25 : decode cX8_alike 25 = .ok (.iload 5, 2) := by decide +kernel
theorem dX8_alike_27 : decode cX8_alike 27 = .ok (.iload_n 1, 1) := by decide +kernel
theorem dX8_alike_28 : decode cX8_alike 28 = .ok (.iload 4, 2) := by decide +kernel
theorem dX8_alike_30 : decode cX8_alike 30 = .ok (.invokestatic 181, 3) := by decide +kernel
theorem dX8_alike_33 : decode cX8_alike 33 = .ok (.ifCond .eq 44, 3) := by decide +kernel
theorem dX8_alike_36 : decode cX8_alike 36 = .ok (.iload_n 1, 1) := by decide +kernel
theorem dX8_alike_37 : decode cX8_alike 37 = .ok (.iload 6, 2) := by decide +kernel
theorem dX8_alike_39 : decode cX8_alike 39 = .ok (.invokestatic 181, 3) := by decide +kernel
theorem dX8_alike_42 : decode cX8_alike 42 = .ok (.ifCond .eq 35, 3) := by decide +kernel
theorem dX8_alike_45 : decode cX8_alike 45 = .ok (.aload_n 0, 1) := by decide +kernel
theorem dX8_alike_46 : decode cX8_alike 46 = .ok (.getfield 79, 3) := by decide +kernel
theorem dX8_alike_49 : decode cX8_alike 49 = .ok (.bipush 24, 2) := by decide +kernel
theorem dX8_alike_51 : decode cX8_alike 51 = .ok (.iload 4, 2) := by decide +kernel
theorem dX8_alike_53 : decode cX8_alike 53 = .ok (.imul, 1) := by decide +kernel
theorem dX8_alike_54 : decode cX8_alike 54 = .ok (.iload_n 2, 1) := by decide +kernel
theorem dX8_alike_55 : decode cX8_alike 55 = .ok (.iadd, 1) := by decide +kernel
theorem dX8_alike_56 : decode cX8_alike 56 = .ok (.laload, 1) := by decide +kernel
theorem dX8_alike_57 : decode cX8_alike 57 = .ok (.aload_n 0, 1) := by decide +kernel
theorem dX8_alike_58 : decode cX8_alike 58 = .ok (.getfield 79, 3) := by decide +kernel
theorem dX8_alike_61 : decode cX8_alike 61 = .ok (.bipush 24, 2) := by decide +kernel
theorem dX8_alike_63 : decode cX8_alike 63 = .ok (.iload 6, 2) := by decide +kernel
theorem dX8_alike_65 : decode cX8_alike 65 = .ok (.imul, 1) := by decide +kernel
theorem dX8_alike_66 : decode cX8_alike 66 = .ok (.iload_n 2, 1) := by decide +kernel
theorem dX8_alike_67 : decode cX8_alike 67 = .ok (.iadd, 1) := by decide +kernel
theorem dX8_alike_68 : decode cX8_alike 68 = .ok (.laload, 1) := by decide +kernel
theorem dX8_alike_69 : decode cX8_alike 69 = .ok (.lcmp, 1) := by decide +kernel
theorem dX8_alike_70 : decode cX8_alike 70 = .ok (.ifCond .ne 7, 3) := by decide +kernel
theorem dX8_alike_73 : decode cX8_alike 73 = .ok (.iconst 1, 1) := by decide +kernel
theorem dX8_alike_74 : decode cX8_alike 74 = .ok (.goto 4, 3) := by decide +kernel
theorem dX8_alike_77 : decode cX8_alike 77 = .ok (.iconst 0, 1) := by decide +kernel
theorem dX8_alike_78 : decode cX8_alike 78 = .ok (.iadd, 1) := by decide +kernel
theorem dX8_alike_79 : decode cX8_alike 79 = .ok (.istore 5, 2) := by decide +kernel
theorem dX8_alike_81 : decode cX8_alike 81 = .ok (.iinc 6 1, 3) := by decide +kernel
theorem dX8_alike_84 : decode cX8_alike 84 = .ok (.goto (-66), 3) := by decide +kernel
theorem dX8_alike_87 : decode cX8_alike 87 = .ok (.iload 5, 2) := by decide +kernel
theorem dX8_alike_89 : decode cX8_alike 89 = .ok (.iload_n 3, 1) := by decide +kernel
theorem dX8_alike_90 : decode cX8_alike 90 = .ok (.invokestatic 210, 3) := by decide +kernel
theorem dX8_alike_93 : decode cX8_alike 93 = .ok (.istore_n 3, 1) := by decide +kernel
theorem dX8_alike_94 : decode cX8_alike 94 = .ok (.iinc 4 1, 3) := by decide +kernel
theorem dX8_alike_97 : decode cX8_alike 97 = .ok (.goto (-92), 3) := by decide +kernel
theorem dX8_alike_100 : decode cX8_alike 100 = .ok (.iload_n 3, 1) := by decide +kernel
theorem dX8_alike_101 : decode cX8_alike 101 = .ok (.ireturn, 1) := by decide +kernel
set_option maxRecDepth 20000 in
theorem m_X8_alike {h : Hp} {a1 : Int32} {a2 : Int32}  {u : Int32} (hu : f_X8_alike h a1 a2 = some u) : Ct yX8_alike cX8_alike 7 (some .int) 1 [.ref 68, .int a1, .int a2] h ((rI h) u) := by
  refine ct_of (rI h) hu (by decide) (Nat.le_of_ble_eq_true rfl) (fun κ hn C E => ?_)
  have n3 : 3 < kn κ := by rw [hn]; decide
  have n4 : 4 < kn κ := by rw [hn]; decide
  have n5 : 5 < kn κ := by rw [hn]; decide
  have n6 : 6 < kn κ := by rw [hn]; decide
  unfold f_X8_alike
  show Xz κ _ 0 [(0, .ref 68), (1, .int a1), (2, .int a2)] [] h
  refine x_iconst 1 C dX8_alike_0 ci_0 rfl ?_
  refine x_istore_n 2 [(3, .int (0 : Int32)), (0, .ref 68), (1, .int a1), (2, .int a2)] C dX8_alike_1 n3 rfl rfl rfl ?_
  refine x_iconst 3 C dX8_alike_2 ci_0 rfl ?_
  refine x_istore 5 [(4, .int (0 : Int32)), (3, .int (0 : Int32)), (0, .ref 68), (1, .int a1), (2, .int a2)] C dX8_alike_3 n4 rfl rfl ?_
  refine x_ls [2, 3, 4, 1, 0] rfl (x_fx2 (ls := fun x1 x2 => [(0, .ref 68), (1, .int a1), (2, .int a2), (3, .int x1), (4, .int x2)]) (st := fun x1 x2 => []) (hh := fun x1 x2 => h) (fun s1 J1 x1 x2 => ?_))
  refine x_iload 7 C dX8_alike_5 4 rfl rfl ?_
  refine x_bipush 9 C dX8_alike_7 cb_10 rfl ?_
  refine x_icmp_ge 12 100 C dX8_alike_9 (by decide) rfl (fun _ => ?_) (fun _ => ?_)
  · refine x_iload_n 101 C dX8_alike_100 3 rfl rfl rfl ?_
    exact x_iret C E dX8_alike_101 rfl
  · refine x_iconst 13 C dX8_alike_12 ci_0 rfl ?_
    refine x_istore 15 [(5, .int (0 : Int32)), (0, .ref 68), (1, .int a1), (2, .int a2), (3, .int x1), (4, .int x2)] C dX8_alike_13 n5 rfl rfl ?_
    refine x_iconst 16 C dX8_alike_15 ci_0 rfl ?_
    refine x_istore 18 [(6, .int (0 : Int32)), (5, .int (0 : Int32)), (0, .ref 68), (1, .int a1), (2, .int a2), (3, .int x1), (4, .int x2)] C dX8_alike_16 n6 rfl rfl ?_
    refine x_lt1 (q := 87) (ls := fun x3 => [(0, .ref 68), (1, .int a1), (2, .int a2), (3, .int x1), (4, .int x2), (5, .int x3)]) (st := fun x3 => []) (hh := fun x3 => h) (fun x3 => ?_) (fun k2 J2 => ?_)
    · refine x_iload 89 C dX8_alike_87 5 rfl rfl ?_
      refine x_iload_n 90 C dX8_alike_89 3 rfl rfl rfl ?_
      refine x_csi 93 [.int x3, .int x1] [] C 0 dX8_alike_90 s_X8_210 (fun u hu => m_X8_greater hu) rfl rfl (Nat.le_of_ble_eq_true rfl) (Nat.le_of_ble_eq_true rfl) rfl (fun x4 => ?_)
      refine x_istore_n 94 [(3, .int x4), (0, .ref 68), (1, .int a1), (2, .int a2), (4, .int x2), (5, .int x3)] C dX8_alike_93 n3 rfl rfl rfl ?_
      refine x_iinc 97 (fun x5 => [(4, .int x5), (3, .int x4), (0, .ref 68), (1, .int a1), (2, .int a2), (5, .int x3)]) C dX8_alike_94 4 rfl ci_1 n4 (fun _ => rfl) rfl (fun x5 => ?_)
      refine x_goto 5 C dX8_alike_97 (by decide) ?_
      exact x_ls [2, 3, 4, 1, 0] rfl (J1 x4 x5)
    refine x_ls [2, 3, 4, 5, 6, 1, 0] rfl (x_fx2 (ls := fun x6 x7 => [(0, .ref 68), (1, .int a1), (2, .int a2), (3, .int x1), (4, .int x2), (5, .int x6), (6, .int x7)]) (st := fun x6 x7 => []) (hh := fun x6 x7 => h) (fun s3 J3 x6 x7 => ?_))
    refine x_iload 20 C dX8_alike_18 6 rfl rfl ?_
    refine x_bipush 22 C dX8_alike_20 cb_10 rfl ?_
    refine x_icmp_ge 25 87 C dX8_alike_22 (by decide) rfl (fun _ => ?_) (fun _ => ?_)
    · exact x_ls [0, 1, 2, 3, 4, 5] rfl (J2 x6)
    · refine x_iload 27 C dX8_alike_25 5 rfl rfl ?_
      refine x_iload_n 28 C dX8_alike_27 1 rfl rfl rfl ?_
      refine x_iload 30 C dX8_alike_28 4 rfl rfl ?_
      refine x_csi 33 [.int a1, .int x2] [.int x6] C 0 dX8_alike_30 s_X8_181 (fun u hu => m_X8_isIn hu) rfl rfl (Nat.le_of_ble_eq_true rfl) (Nat.le_of_ble_eq_true rfl) rfl (fun x8 => ?_)
      refine x_lt1 (q := 78) (ls := fun x9 => [(0, .ref 68), (1, .int a1), (2, .int a2), (3, .int x1), (4, .int x2), (6, .int x7)]) (st := fun x9 => [.int x9, .int x6]) (hh := fun x9 => h) (fun x9 => ?_) (fun k4 J4 => ?_)
      · refine x_iadd 79 C dX8_alike_78 rfl ?_
        refine x_ni (fun x10 => ?_)
        refine x_istore 81 [(5, .int x10), (0, .ref 68), (1, .int a1), (2, .int a2), (3, .int x1), (4, .int x2), (6, .int x7)] C dX8_alike_79 n5 rfl rfl ?_
        refine x_iinc 84 (fun x11 => [(6, .int x11), (5, .int x10), (0, .ref 68), (1, .int a1), (2, .int a2), (3, .int x1), (4, .int x2)]) C dX8_alike_81 6 rfl ci_1 n6 (fun _ => rfl) rfl (fun x11 => ?_)
        refine x_goto 18 C dX8_alike_84 (by decide) ?_
        exact x_ls [2, 3, 4, 5, 6, 1, 0] rfl (J3 x10 x11)
      refine x_lt1 (q := 77) (ls := fun u12 => [(0, .ref 68), (1, .int a1), (2, .int a2), (3, .int x1), (4, .int x2), (6, .int x7)]) (st := fun u12 => [.int x6]) (hh := fun u12 => h) (fun u12 => ?_) (fun k5 J5 => ?_)
      · refine x_iconst 78 C dX8_alike_77 ci_0 rfl ?_
        exact x_ls [0, 1, 2, 3, 4, 5] rfl (J4 (0 : Int32))
      refine x_if_eq 36 77 C dX8_alike_33 (by decide) rfl (fun _ => ?_) (fun _ => ?_)
      · exact x_ls [0, 1, 2, 3, 4, 6] rfl (J5 (0 : Int32))
      · refine x_iload_n 37 C dX8_alike_36 1 rfl rfl rfl ?_
        refine x_iload 39 C dX8_alike_37 6 rfl rfl ?_
        refine x_csi 42 [.int a1, .int x7] [.int x6] C 0 dX8_alike_39 s_X8_181 (fun u hu => m_X8_isIn hu) rfl rfl (Nat.le_of_ble_eq_true rfl) (Nat.le_of_ble_eq_true rfl) rfl (fun x13 => ?_)
        refine x_if_eq 45 77 C dX8_alike_42 (by decide) rfl (fun _ => ?_) (fun _ => ?_)
        · exact x_ls [0, 1, 2, 3, 4, 6] rfl (J5 (0 : Int32))
        · refine x_aload_n 46 C dX8_alike_45 0 rfl rfl rfl ?_
          refine x_getR (c := 92) 49 C dX8_alike_46 fl_X8_79 sk_68 rfl sr_68_31 rfl ?_
          refine x_bipush 51 C dX8_alike_49 cb_24 rfl ?_
          refine x_iload 53 C dX8_alike_51 4 rfl rfl ?_
          refine x_imul 54 C dX8_alike_53 rfl ?_
          refine x_iload_n 55 C dX8_alike_54 2 rfl rfl rfl ?_
          refine x_iadd 56 C dX8_alike_55 rfl ?_
          refine x_lald 57 C dX8_alike_56 sk_92 sl_92 rfl ?_
          refine x_aload_n 58 C dX8_alike_57 0 rfl rfl rfl ?_
          refine x_getR (c := 92) 61 C dX8_alike_58 fl_X8_79 sk_68 rfl sr_68_31 rfl ?_
          refine x_bipush 63 C dX8_alike_61 cb_24 rfl ?_
          refine x_iload 65 C dX8_alike_63 6 rfl rfl ?_
          refine x_imul 66 C dX8_alike_65 rfl ?_
          refine x_iload_n 67 C dX8_alike_66 2 rfl rfl rfl ?_
          refine x_iadd 68 C dX8_alike_67 rfl ?_
          refine x_lald 69 C dX8_alike_68 sk_92 sl_92 rfl ?_
          refine x_lcmp 70 C dX8_alike_69 rfl ?_
          refine x_if_ne 73 77 C dX8_alike_70 (by decide) rfl (fun _ => ?_) (fun _ => ?_)
          · exact x_ls [0, 1, 2, 3, 4, 6] rfl (J5 (0 : Int32))
          · refine x_iconst 74 C dX8_alike_73 ci_1 rfl ?_
            refine x_goto 78 C dX8_alike_74 (by decide) ?_
            exact x_ls [0, 1, 2, 3, 4, 6] rfl (J4 (1 : Int32))
