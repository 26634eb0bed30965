def f_X7_fittingPoles (h : Hp) (a1 : Int32) : Option (Hp × Int32) :=
  bdr (f_X7_isWalker h a1) fun x1 =>
  if x1 = 0 then (
    some (h, (0 : Int32)))
  else (
    ck a1 6 (
      nm (ia h 8 a1) fun x2 =>
      lt2 (fun (h3 : Hp) (x4 : Int32) =>
        ck a1 6 (nm (ux h3 8 a1 x2) fun h5 =>
        some (h5, x4))) fun k1 =>
      fx3 FU (fun s2 (h6 : Hp) (x7 : Int32) (x8 : Int32) =>
        if (10 : Int32) ≤ x8 then (
          k1 h6 x7)
        else (
          ck a1 6 (nm (ux h6 8 a1 x8) fun h9 =>
          bdv (f_X2_play h9 36 9 (0 : Int32) (1 : Int32)) fun h10 =>
          bdr (f_X3_fit h10 (h10.1 5 7)) fun x11 =>
          lt2 (fun (h12 : Hp) (x13 : Int32) =>
            nm (x8 + (1 : Int32)) fun x14 =>
            s2 h12 x13 x14) fun k3 =>
          if x11 = 0 then (
            k3 h10 x7)
          else (
            nm (x7 ||| ((1 : Int32) <<< (x8 &&& 31))) fun x15 =>
            bdv (f_X7_markPlaces h10 x8) fun h16 =>
            k3 h16 x15)))) h (0 : Int32) (0 : Int32)))
theorem dX7_fittingPoles_0 : decode cX7_fittingPoles 0 = .ok (.aload_n 0, 1) := by decide +kernel
theorem dX7_fittingPoles_1 : decode cX7_fittingPoles 1 = .ok (.iload_n 1, 1) := by decide +kernel
theorem dX7_fittingPoles_2 : decode cX7_fittingPoles 2 = .ok (.invokevirtual 113, 3) := by decide +kernel
theorem dX7_fittingPoles_5 : decode cX7_fittingPoles 5 = .ok (.ifCond .ne 5, 3) := by decide +kernel
theorem dX7_fittingPoles_8 : decode cX7_fittingPoles 8 = .ok (.iconst 0, 1) := by decide +kernel
theorem dX7_fittingPoles_9 : decode cX7_fittingPoles 9 = .ok (.ireturn, 1) := by decide +kernel
theorem dX7_fittingPoles_10 : decode cX7_fittingPoles 10 = .ok (.aload_n 0, 1) := by decide +kernel
theorem dX7_fittingPoles_11 : decode cX7_fittingPoles 11 = .ok (.getfield 26, 3) := by decide +kernel
theorem dX7_fittingPoles_14 : decode cX7_fittingPoles 14 = .ok (.getfield 123, 3) := by decide +kernel
theorem dX7_fittingPoles_17 : decode cX7_fittingPoles 17 = .ok (.iload_n 1, 1) := by decide +kernel
theorem dX7_fittingPoles_18 : decode cX7_fittingPoles 18 = .ok (.iaload, 1) := by decide +kernel
theorem dX7_fittingPoles_19 : decode cX7_fittingPoles 19 = .ok (.istore_n 2, 1) := by decide +kernel
theorem dX7_fittingPoles_20 : decode cX7_fittingPoles 20 = .ok (.iconst 0, 1) := by decide +kernel
theorem dX7_fittingPoles_21 : decode cX7_fittingPoles 21 = .ok (.istore_n 3, 1) := by decide +kernel
theorem dX7_fittingPoles_22 : decode cX7_fittingPoles 22 = .ok (.iconst 0, 1) := by decide +kernel
theorem dX7_fittingPoles_23 : decode cX7_fittingPoles 23 = .ok (.istore 4, 2) := by decide +kernel
theorem dX7_fittingPoles_25 : decode cX7_fittingPoles 25 = .ok (.iload 4, 2) := by decide +kernel
theorem dX7_fittingPoles_27 : decode cX7_fittingPoles 27 = .ok (.bipush 10, 2) := by decide +kernel
theorem dX7_fittingPoles_29 : decode cX7_fittingPoles 29 = .ok (.if_icmp .ge 77, 3) := by decide +kernel
theorem dX7_fittingPoles_32 : decode cX7_fittingPoles 32 = .ok (.aload_n 0, 1) := by decide +kernel
theorem dX7_fittingPoles_33 : decode cX7_fittingPoles 33 = .ok (.getfield 26, 3) := by decide +kernel
theorem dX7_fittingPoles_36 : decode cX7_fittingPoles 36 = .ok (.getfield 123, 3) := by decide +kernel
theorem dX7_fittingPoles_39 : decode cX7_fittingPoles 39 = .ok (.iload_n 1, 1) := by decide +kernel
theorem dX7_fittingPoles_40 : decode cX7_fittingPoles 40 = .ok (.iload 4, 2) := by decide +kernel
theorem dX7_fittingPoles_42 : decode cX7_fittingPoles 42 = .ok (.iastore, 1) := by decide +kernel
theorem dX7_fittingPoles_43 : decode cX7_fittingPoles 43 = .ok (.aload_n 0, 1) := by decide +kernel
theorem dX7_fittingPoles_44 : decode cX7_fittingPoles 44 = .ok (.getfield 44, 3) := by decide +kernel
theorem dX7_fittingPoles_47 : decode cX7_fittingPoles 47 = .ok (.aload_n 0, 1) := by decide +kernel
theorem dX7_fittingPoles_48 : decode cX7_fittingPoles 48 = .ok (.getfield 26, 3) := by decide +kernel
theorem dX7_fittingPoles_51 : decode cX7_fittingPoles 51 = .ok (.aload_n 0, 1) := by decide +kernel
theorem dX7_fittingPoles_52 : decode cX7_fittingPoles 52 = .ok (.getfield 26, 3) := by decide +kernel
theorem dX7_fittingPoles_55 : decode cX7_fittingPoles 55 = .ok (.getfield 129, 3) := by decide +kernel
theorem dX7_fittingPoles_58 : decode cX7_fittingPoles 58 = .ok (.iconst 0, 1) := by decide +kernel
theorem dX7_fittingPoles_59 : decode cX7_fittingPoles 59 = .ok (.iconst 1, 1) := by decide +kernel
theorem dX7_fittingPoles_60 : decode cX7_fittingPoles 60 = .ok (.invokevirtual 233, 3) := by decide +kernel
theorem dX7_fittingPoles_63 : decode cX7_fittingPoles 63 = .ok (.aload_n 0, 1) := by decide +kernel
theorem dX7_fittingPoles_64 : decode cX7_fittingPoles 64 = .ok (.getfield 33, 3) := by decide +kernel
theorem dX7_fittingPoles_67 : decode cX7_fittingPoles 67 = .ok (.aload_n 0, 1) := by decide +kernel
theorem dX7_fittingPoles_68 : decode cX7_fittingPoles 68 = .ok (.getfield 44, 3) := by decide +kernel
theorem dX7_fittingPoles_71 : decode cX7_fittingPoles 71 = .ok (.getfield 175, 3) := by decide +kernel
theorem dX7_fittingPoles_74 : decode cX7_fittingPoles 74 = .ok (.aload_n 0, 1) := by decide +kernel
theorem dX7_fittingPoles_75 : decode cX7_fittingPoles 75 = .ok (.getfield 26, 3) := by decide +kernel
theorem dX7_fittingPoles_78 : decode cX7_fittingPoles 78 = .ok (.getfield 192, 3) := by decide +kernel
theorem dX7_fittingPoles_81 : decode cX7_fittingPoles 81 = .ok (.invokevirtual 244, 3) := by decide +kernel
theorem dX7_fittingPoles_84 : decode cX7_fittingPoles 84 = .ok (.ifCond .eq 16, 3) := by decide +kernel
theorem dX7_fittingPoles_87 : decode cX7_fittingPoles 87 = .ok (.iload_n 3, 1) := by decide +kernel
theorem dX7_fittingPoles_88 : decode cX7_fittingPoles 88 = .ok (.iconst 1, 1) := by decide +kernel
theorem dX7_fittingPoles_89 : decode cX7_fittingPoles 89 = .ok (.iload 4, 2) := by decide +kernel
theorem dX7_fittingPoles_91 : decode cX7_fittingPoles 91 = .ok (.ishl, 1) := by decide +kernel
theorem dX7_fittingPoles_92 : decode cX7_fittingPoles 92 = .ok (.ior, 1) := by decide +kernel
theorem dX7_fittingPoles_93 : decode cX7_fittingPoles 93 = .ok (.istore_n 3, 1) := by decide +kernel
theorem dX7_fittingPoles_94 : decode cX7_fittingPoles 94 = .ok (.aload_n 0, 1) := by decide +kernel
theorem dX7_fittingPoles_95 : decode cX7_fittingPoles 95 = .ok (.iload 4, 2) := by decide +kernel
theorem dX7_fittingPoles_97 : decode cX7_fittingPoles 97 = .ok (.invokevirtual 271, 3) := by decide +kernel
theorem dX7_fittingPoles_100 : decode cX7_fittingPoles 100 = .ok (.iinc 4 1, 3) := by decide +kernel
theorem dX7_fittingPoles_103 : decode cX7_fittingPoles 103 = .ok (.goto (-78), 3) := by decide +kernel
theorem dX7_fittingPoles_106 : decode cX7_fittingPoles 106 = .ok (.aload_n 0, 1) := by decide +kernel
theorem dX7_fittingPoles_107 : decode cX7_fittingPoles 107 = .ok (.getfield 26, 3) := by decide +kernel
theorem dX7_fittingPoles_110 : decode cX7_fittingPoles 110 = .ok (.getfield 123, 3) := by decide +kernel
theorem dX7_fittingPoles_113 : decode cX7_fittingPoles 113 = .ok (.iload_n 1, 1) := by decide +kernel
theorem dX7_fittingPoles_114 : decode cX7_fittingPoles 114 = .ok (.iload_n 2, 1) := by decide +kernel
theorem dX7_fittingPoles_115 : decode cX7_fittingPoles 115 = .ok (.iastore, 1) := by decide +kernel
theorem dX7_fittingPoles_116 : decode cX7_fittingPoles 116 = .ok (.iload_n 3, 1) := by decide +kernel
theorem dX7_fittingPoles_117 : decode cX7_fittingPoles 117 = .ok (.ireturn, 1) := by decide +kernel
set_option maxRecDepth 20000 in
theorem m_X7_fittingPoles {h : Hp} {a1 : Int32}  {u : (Hp × Int32)} (hu : f_X7_fittingPoles h a1 = some u) : Ct yX7_fittingPoles cX7_fittingPoles 5 (some .int) 4 [.ref 0, .int a1] h (eI u) := by
  refine ct_of eI hu (by decide) (Nat.le_of_ble_eq_true rfl) (fun κ hn C E => ?_)
  have n2 : 2 < kn κ := by rw [hn]; decide
  have n3 : 3 < kn κ := by rw [hn]; decide
  have n4 : 4 < kn κ := by rw [hn]; decide
  unfold f_X7_fittingPoles
  show Xz κ _ 0 [(0, .ref 0), (1, .int a1)] [] h
  refine x_aload_n 1 C dX7_fittingPoles_0 0 rfl rfl rfl ?_
  refine x_iload_n 2 C dX7_fittingPoles_1 1 rfl rfl rfl ?_
  refine x_cvi 5 [.int a1] [] C 1 dX7_fittingPoles_2 v_X7_113 (fun u hu => m_X7_isWalker hu) rfl sk_0 rfl (Nat.le_of_ble_eq_true rfl) (Nat.le_of_ble_eq_true rfl) rfl (fun x1 => ?_)
  refine x_if_ne 8 10 C dX7_fittingPoles_5 (by decide) rfl (fun _ => ?_) (fun _ => ?_)
  · refine x_aload_n 11 C dX7_fittingPoles_10 0 rfl rfl rfl ?_
    refine x_getR (c := 5) 14 C dX7_fittingPoles_11 fl_X7_26 sk_0 rfl sr_0_2 rfl ?_
    refine x_getR (c := 8) 17 C dX7_fittingPoles_14 fl_X7_123 sk_5 rfl sr_5_2 rfl ?_
    refine x_iload_n 18 C dX7_fittingPoles_17 1 rfl rfl rfl ?_
    refine x_iald 19 C dX7_fittingPoles_18 sk_8 sl_8 rfl ?_
    refine x_ni (fun x2 => ?_)
    refine x_istore_n 20 [(2, .int x2), (0, .ref 0), (1, .int a1)] C dX7_fittingPoles_19 n2 rfl rfl rfl ?_
    refine x_iconst 21 C dX7_fittingPoles_20 ci_0 rfl ?_
    refine x_istore_n 22 [(3, .int (0 : Int32)), (2, .int x2), (0, .ref 0), (1, .int a1)] C dX7_fittingPoles_21 n3 rfl rfl rfl ?_
    refine x_iconst 23 C dX7_fittingPoles_22 ci_0 rfl ?_
    refine x_istore 25 [(4, .int (0 : Int32)), (3, .int (0 : Int32)), (2, .int x2), (0, .ref 0), (1, .int a1)] C dX7_fittingPoles_23 n4 rfl rfl ?_
    refine x_lt2 (q := 106) (ls := fun h3 x4 => [(0, .ref 0), (1, .int a1), (2, .int x2), (3, .int x4)]) (st := fun h3 x4 => []) (hh := fun h3 x4 => h3) (fun h3 x4 => ?_) (fun k1 J1 => ?_)
    · refine x_aload_n 107 C dX7_fittingPoles_106 0 rfl rfl rfl ?_
      refine x_getR (c := 5) 110 C dX7_fittingPoles_107 fl_X7_26 sk_0 rfl sr_0_2 rfl ?_
      refine x_getR (c := 8) 113 C dX7_fittingPoles_110 fl_X7_123 sk_5 rfl sr_5_2 rfl ?_
      refine x_iload_n 114 C dX7_fittingPoles_113 1 rfl rfl rfl ?_
      refine x_iload_n 115 C dX7_fittingPoles_114 2 rfl rfl rfl ?_
      refine x_iast 116 C dX7_fittingPoles_115 sk_8 sl_8 rfl (fun h5 => ?_)
      refine x_iload_n 117 C dX7_fittingPoles_116 3 rfl rfl rfl ?_
      exact x_iret C E dX7_fittingPoles_117 rfl
    refine x_ls [3, 4, 2, 1, 0] rfl (x_fx3 (ls := fun h6 x7 x8 => [(0, .ref 0), (1, .int a1), (2, .int x2), (3, .int x7), (4, .int x8)]) (st := fun h6 x7 x8 => []) (hh := fun h6 x7 x8 => h6) (fun s2 J2 h6 x7 x8 => ?_))
    refine x_iload 27 C dX7_fittingPoles_25 4 rfl rfl ?_
    refine x_bipush 29 C dX7_fittingPoles_27 cb_10 rfl ?_
    refine x_icmp_ge 32 106 C dX7_fittingPoles_29 (by decide) rfl (fun _ => ?_) (fun _ => ?_)
    · exact x_ls [0, 1, 2, 3] rfl (J1 h6 x7)
    · refine x_aload_n 33 C dX7_fittingPoles_32 0 rfl rfl rfl ?_
      refine x_getR (c := 5) 36 C dX7_fittingPoles_33 fl_X7_26 sk_0 rfl sr_0_2 rfl ?_
      refine x_getR (c := 8) 39 C dX7_fittingPoles_36 fl_X7_123 sk_5 rfl sr_5_2 rfl ?_
      refine x_iload_n 40 C dX7_fittingPoles_39 1 rfl rfl rfl ?_
      refine x_iload 42 C dX7_fittingPoles_40 4 rfl rfl ?_
      refine x_iast 43 C dX7_fittingPoles_42 sk_8 sl_8 rfl (fun h9 => ?_)
      refine x_aload_n 44 C dX7_fittingPoles_43 0 rfl rfl rfl ?_
      refine x_getR (c := 36) 47 C dX7_fittingPoles_44 fl_X7_44 sk_0 rfl sr_0_5 rfl ?_
      refine x_aload_n 48 C dX7_fittingPoles_47 0 rfl rfl rfl ?_
      refine x_getR (c := 5) 51 C dX7_fittingPoles_48 fl_X7_26 sk_0 rfl sr_0_2 rfl ?_
      refine x_aload_n 52 C dX7_fittingPoles_51 0 rfl rfl rfl ?_
      refine x_getR (c := 5) 55 C dX7_fittingPoles_52 fl_X7_26 sk_0 rfl sr_0_2 rfl ?_
      refine x_getR (c := 9) 58 C dX7_fittingPoles_55 fl_X7_129 sk_5 rfl sr_5_3 rfl ?_
      refine x_iconst 59 C dX7_fittingPoles_58 ci_0 rfl ?_
      refine x_iconst 60 C dX7_fittingPoles_59 ci_1 rfl ?_
      refine x_cvV 63 [.ref 5, .ref 9, .int (0 : Int32), .int (1 : Int32)] [] C 3 dX7_fittingPoles_60 v_X7_233 (fun u hu => m_X2_play sk_36 sk_9 hu) rfl sk_36 rfl (Nat.le_of_ble_eq_true rfl) (Nat.le_of_ble_eq_true rfl) rfl (fun h10 => ?_)
      refine x_aload_n 64 C dX7_fittingPoles_63 0 rfl rfl rfl ?_
      refine x_getR (c := 13) 67 C dX7_fittingPoles_64 fl_X7_33 sk_0 rfl sr_0_3 rfl ?_
      refine x_aload_n 68 C dX7_fittingPoles_67 0 rfl rfl rfl ?_
      refine x_getR (c := 36) 71 C dX7_fittingPoles_68 fl_X7_44 sk_0 rfl sr_0_5 rfl ?_
      refine x_getR (c := 41) 74 C dX7_fittingPoles_71 fl_X7_175 sk_36 rfl sr_36_1 rfl ?_
      refine x_aload_n 75 C dX7_fittingPoles_74 0 rfl rfl rfl ?_
      refine x_getR (c := 5) 78 C dX7_fittingPoles_75 fl_X7_26 sk_0 rfl sr_0_2 rfl ?_
      refine x_getI 81 C dX7_fittingPoles_78 fl_X7_192 sk_5 rfl rfl ?_
      refine x_cvi 84 [.ref 41, .int (h10.1 5 7)] [] C 2 dX7_fittingPoles_81 v_X7_244 (fun u hu => m_X3_fit hu) rfl sk_13 rfl (Nat.le_of_ble_eq_true rfl) (Nat.le_of_ble_eq_true rfl) rfl (fun x11 => ?_)
      refine x_lt2 (q := 100) (ls := fun h12 x13 => [(0, .ref 0), (1, .int a1), (2, .int x2), (3, .int x13), (4, .int x8)]) (st := fun h12 x13 => []) (hh := fun h12 x13 => h12) (fun h12 x13 => ?_) (fun k3 J3 => ?_)
      · refine x_iinc 103 (fun x14 => [(4, .int x14), (0, .ref 0), (1, .int a1), (2, .int x2), (3, .int x13)]) C dX7_fittingPoles_100 4 rfl ci_1 n4 (fun _ => rfl) rfl (fun x14 => ?_)
        refine x_goto 25 C dX7_fittingPoles_103 (by decide) ?_
        exact x_ls [1, 2, 3, 4, 0] rfl (J2 h12 x13 x14)
      refine x_if_eq 87 100 C dX7_fittingPoles_84 (by decide) rfl (fun _ => ?_) (fun _ => ?_)
      · exact x_ls [0, 1, 2, 3, 4] rfl (J3 h10 x7)
      · refine x_iload_n 88 C dX7_fittingPoles_87 3 rfl rfl rfl ?_
        refine x_iconst 89 C dX7_fittingPoles_88 ci_1 rfl ?_
        refine x_iload 91 C dX7_fittingPoles_89 4 rfl rfl ?_
        refine x_ishl 92 C dX7_fittingPoles_91 rfl ?_
        refine x_ior 93 C dX7_fittingPoles_92 rfl ?_
        refine x_ni (fun x15 => ?_)
        refine x_istore_n 94 [(3, .int x15), (0, .ref 0), (1, .int a1), (2, .int x2), (4, .int x8)] C dX7_fittingPoles_93 n3 rfl rfl rfl ?_
        refine x_aload_n 95 C dX7_fittingPoles_94 1 rfl rfl rfl ?_
        refine x_iload 97 C dX7_fittingPoles_95 4 rfl rfl ?_
        refine x_cvV 100 [.int x8] [] C 2 dX7_fittingPoles_97 v_X7_271 (fun u hu => m_X7_markPlaces hu) rfl sk_0 rfl (Nat.le_of_ble_eq_true rfl) (Nat.le_of_ble_eq_true rfl) rfl (fun h16 => ?_)
        exact x_ls [1, 2, 3, 0, 4] rfl (J3 h16 x15)
  · refine x_iconst 9 C dX7_fittingPoles_8 ci_0 rfl ?_
    exact x_iret C E dX7_fittingPoles_9 rfl

def f_X7_fittingSorts (h : Hp) (a1 : Int32) : Option (Hp × Int32) :=
  bdr (f_X7_isWalker h a1) fun x1 =>
  if x1 = 0 then (
    some (h, (0 : Int32)))
  else (
    ck a1 6 (
      nm (ia h 7 a1) fun x2 =>
      lt2 (fun (h3 : Hp) (x4 : Int32) =>
        ck a1 6 (nm (ux h3 7 a1 x2) fun h5 =>
        some (h5, x4))) fun k1 =>
      fx3 FU (fun s2 (h6 : Hp) (x7 : Int32) (x8 : Int32) =>
        if (3 : Int32) ≤ x8 then (
          k1 h6 x7)
        else (
          ck a1 6 (nm (ux h6 7 a1 x8) fun h9 =>
          bdv (f_X2_play h9 36 9 (0 : Int32) (1 : Int32)) fun h10 =>
          bdr (f_X3_fit h10 (h10.1 5 7)) fun x11 =>
          lt1 (fun (x12 : Int32) =>
            nm (x8 + (1 : Int32)) fun x13 =>
            s2 h10 x12 x13) fun k3 =>
          if x11 = 0 then (
            k3 x7)
          else (
            nm (x7 ||| ((1 : Int32) <<< (x8 &&& 31))) fun x14 =>
            k3 x14)))) h (0 : Int32) (0 : Int32)))
theorem dX7_fittingSorts_0 : decode cX7_fittingSorts 0 = .ok (.aload_n 0, 1) := by decide +kernel
theorem dX7_fittingSorts_1 : decode cX7_fittingSorts 1 = .ok (.iload_n 1, 1) := by decide +kernel
theorem dX7_fittingSorts_2 : decode cX7_fittingSorts 2 = .ok (.invokevirtual 113, 3) := by decide +kernel
theorem dX7_fittingSorts_5 : decode cX7_fittingSorts 5 = .ok (.ifCond .ne 5, 3) := by decide +kernel
theorem dX7_fittingSorts_8 : decode cX7_fittingSorts 8 = .ok (.iconst 0, 1) := by decide +kernel
theorem dX7_fittingSorts_9 : decode cX7_fittingSorts 9 = .ok (.ireturn, 1) := by decide +kernel
theorem dX7_fittingSorts_10 : decode cX7_fittingSorts 10 = .ok (.aload_n 0, 1) := by decide +kernel
theorem dX7_fittingSorts_11 : decode cX7_fittingSorts 11 = .ok (.getfield 26, 3) := by decide +kernel
theorem dX7_fittingSorts_14 : decode cX7_fittingSorts 14 = .ok (.getfield 120, 3) := by decide +kernel
theorem dX7_fittingSorts_17 : decode cX7_fittingSorts 17 = .ok (.iload_n 1, 1) := by decide +kernel
theorem dX7_fittingSorts_18 : decode cX7_fittingSorts 18 = .ok (.iaload, 1) := by decide +kernel
theorem dX7_fittingSorts_19 : decode cX7_fittingSorts 19 = .ok (.istore_n 2, 1) := by decide +kernel
theorem dX7_fittingSorts_20 : decode cX7_fittingSorts 20 = .ok (.iconst 0, 1) := by decide +kernel
theorem dX7_fittingSorts_21 : decode cX7_fittingSorts 21 = .ok (.istore_n 3, 1) := by decide +kernel
theorem dX7_fittingSorts_22 : decode cX7_fittingSorts 22 = .ok (.iconst 0, 1) := by decide +kernel
theorem dX7_fittingSorts_23 : decode cX7_fittingSorts 23 = .ok (.istore 4, 2) := by decide +kernel
theorem dX7_fittingSorts_25 : decode cX7_fittingSorts 25 = .ok (.iload 4, 2) := by decide +kernel
theorem dX7_fittingSorts_27 : decode cX7_fittingSorts 27 = .ok (.iconst 3, 1) := by decide +kernel
theorem dX7_fittingSorts_28 : decode cX7_fittingSorts 28 = .ok (.if_icmp .ge 71, 3) := by decide +kernel
theorem dX7_fittingSorts_31 : decode cX7_fittingSorts 31 = .ok (.aload_n 0, 1) := by decide +kernel
theorem dX7_fittingSorts_32 : decode cX7_fittingSorts 32 = .ok (.getfield 26, 3) := by decide +kernel
theorem dX7_fittingSorts_35 : decode cX7_fittingSorts 35 = .ok (.getfield 120, 3) := by decide +kernel
theorem dX7_fittingSorts_38 : decode cX7_fittingSorts 38 = .ok (.iload_n 1, 1) := by decide +kernel
theorem dX7_fittingSorts_39 : decode cX7_fittingSorts 39 = .ok (.iload 4, 2) := by decide +kernel
theorem dX7_fittingSorts_41 : decode cX7_fittingSorts 41 = .ok (.iastore, 1) := by decide +kernel
theorem dX7_fittingSorts_42 : decode cX7_fittingSorts 42 = .ok (.aload_n 0, 1) := by decide +kernel
theorem dX7_fittingSorts_43 : decode cX7_fittingSorts 43 = .ok (.getfield 44, 3) := by decide +kernel
theorem dX7_fittingSorts_46 : decode cX7_fittingSorts 46 = .ok (.aload_n 0, 1) := by decide +kernel
theorem dX7_fittingSorts_47 : decode cX7_fittingSorts 47 = .ok (.getfield 26, 3) := by decide +kernel
theorem dX7_fittingSorts_50 : decode cX7_fittingSorts 50 = .ok (.aload_n 0, 1) := by decide +kernel
theorem dX7_fittingSorts_51 : decode cX7_fittingSorts 51 = .ok (.getfield 26, 3) := by decide +kernel
theorem dX7_fittingSorts_54 : decode cX7_fittingSorts 54 = .ok (.getfield 129, 3) := by decide +kernel
theorem dX7_fittingSorts_57 : decode cX7_fittingSorts 57 = .ok (.iconst 0, 1) := by decide +kernel
theorem dX7_fittingSorts_58 : decode cX7_fittingSorts 58 = .ok (.iconst 1, 1) := by decide +kernel
theorem dX7_fittingSorts_59 : decode cX7_fittingSorts 59 = .ok (.invokevirtual 233, 3) := by decide +kernel
theorem dX7_fittingSorts_62 : decode cX7_fittingSorts 62 = .ok (.aload_n 0, 1) := by decide +kernel
theorem dX7_fittingSorts_63 : decode cX7_fittingSorts 63 = .ok (.getfield 33, 3) := by decide +kernel
theorem dX7_fittingSorts_66 : decode cX7_fittingSorts 66 = .ok (.aload_n 0, 1) := by decide +kernel
theorem dX7_fittingSorts_67 : decode cX7_fittingSorts 67 = .ok (.getfield 44, 3) := by decide +kernel
theorem dX7_fittingSorts_70 : decode cX7_fittingSorts 70 = .ok (.getfield 175, 3) := by decide +kernel
theorem dX7_fittingSorts_73 : decode cX7_fittingSorts 73 = .ok (.aload_n 0, 1) := by decide +kernel
theorem dX7_fittingSorts_74 : decode cX7_fittingSorts 74 = .ok (.getfield 26, 3) := by decide +kernel
theorem dX7_fittingSorts_77 : decode cX7_fittingSorts 77 = .ok (.getfield 192, 3) := by decide +kernel
theorem dX7_fittingSorts_80 : decode cX7_fittingSorts 80 = .ok (.invokevirtual 244, 3) := by decide +kernel
theorem dX7_fittingSorts_83 : decode cX7_fittingSorts 83 = .ok (.ifCond .eq 10, 3) := by decide +kernel
theorem dX7_fittingSorts_86 : decode cX7_fittingSorts 86 = .ok (.iload_n 3, 1) := by decide +kernel
theorem dX7_fittingSorts_87 : decode cX7_fittingSorts 87 = .ok (.iconst 1, 1) := by decide +kernel
theorem dX7_fittingSorts_88 : decode cX7_fittingSorts 88 = .ok (.iload 4, 2) := by decide +kernel
theorem dX7_fittingSorts_90 : decode cX7_fittingSorts 90 = .ok (.ishl, 1) := by decide +kernel
theorem dX7_fittingSorts_91 : decode cX7_fittingSorts 91 = .ok (.ior, 1) := by decide +kernel
theorem dX7_fittingSorts_92 : decode cX7_fittingSorts 92 = .ok (.istore_n 3, 1) := by decide +kernel
theorem dX7_fittingSorts_93 : decode cX7_fittingSorts 93 = .ok (.iinc 4 1, 3) := by decide +kernel
theorem dX7_fittingSorts_96 : decode cX7_fittingSorts 96 = .ok (.goto (-71), 3) := by decide +kernel
theorem dX7_fittingSorts_99 : decode cX7_fittingSorts 99 = .ok (.aload_n 0, 1) := by decide +kernel
theorem dX7_fittingSorts_100 : decode cX7_fittingSorts 100 = .ok (.getfield 26, 3) := by decide +kernel
theorem dX7_fittingSorts_103 : decode cX7_fittingSorts 103 = .ok (.getfield 120, 3) := by decide +kernel
theorem dX7_fittingSorts_106 : decode cX7_fittingSorts 106 = .ok (.iload_n 1, 1) := by decide +kernel
theorem dX7_fittingSorts_107 : decode cX7_fittingSorts 107 = .ok (.iload_n 2, 1) := by decide +kernel
theorem dX7_fittingSorts_108 : decode cX7_fittingSorts 108 = .ok (.iastore, 1) := by decide +kernel
theorem dX7_fittingSorts_109 : decode cX7_fittingSorts 109 = .ok (.iload_n 3, 1) := by decide +kernel
theorem dX7_fittingSorts_110 : decode cX7_fittingSorts 110 = .ok (.ireturn, 1) := by decide +kernel
set_option maxRecDepth 20000 in
theorem m_X7_fittingSorts {h : Hp} {a1 : Int32}  {u : (Hp × Int32)} (hu : f_X7_fittingSorts h a1 = some u) : Ct yX7_fittingSorts cX7_fittingSorts 5 (some .int) 4 [.ref 0, .int a1] h (eI u) := by
  refine ct_of eI hu (by decide) (Nat.le_of_ble_eq_true rfl) (fun κ hn C E => ?_)
  have n2 : 2 < kn κ := by rw [hn]; decide
  have n3 : 3 < kn κ := by rw [hn]; decide
  have n4 : 4 < kn κ := by rw [hn]; decide
  unfold f_X7_fittingSorts
  show Xz κ _ 0 [(0, .ref 0), (1, .int a1)] [] h
  refine x_aload_n 1 C dX7_fittingSorts_0 0 rfl rfl rfl ?_
  refine x_iload_n 2 C dX7_fittingSorts_1 1 rfl rfl rfl ?_
  refine x_cvi 5 [.int a1] [] C 1 dX7_fittingSorts_2 v_X7_113 (fun u hu => m_X7_isWalker hu) rfl sk_0 rfl (Nat.le_of_ble_eq_true rfl) (Nat.le_of_ble_eq_true rfl) rfl (fun x1 => ?_)
  refine x_if_ne 8 10 C dX7_fittingSorts_5 (by decide) rfl (fun _ => ?_) (fun _ => ?_)
  · refine x_aload_n 11 C dX7_fittingSorts_10 0 rfl rfl rfl ?_
    refine x_getR (c := 5) 14 C dX7_fittingSorts_11 fl_X7_26 sk_0 rfl sr_0_2 rfl ?_
    refine x_getR (c := 7) 17 C dX7_fittingSorts_14 fl_X7_120 sk_5 rfl sr_5_1 rfl ?_
    refine x_iload_n 18 C dX7_fittingSorts_17 1 rfl rfl rfl ?_
    refine x_iald 19 C dX7_fittingSorts_18 sk_7 sl_7 rfl ?_
    refine x_ni (fun x2 => ?_)
    refine x_istore_n 20 [(2, .int x2), (0, .ref 0), (1, .int a1)] C dX7_fittingSorts_19 n2 rfl rfl rfl ?_
    refine x_iconst 21 C dX7_fittingSorts_20 ci_0 rfl ?_
    refine x_istore_n 22 [(3, .int (0 : Int32)), (2, .int x2), (0, .ref 0), (1, .int a1)] C dX7_fittingSorts_21 n3 rfl rfl rfl ?_
    refine x_iconst 23 C dX7_fittingSorts_22 ci_0 rfl ?_
    refine x_istore 25 [(4, .int (0 : Int32)), (3, .int (0 : Int32)), (2, .int x2), (0, .ref 0), (1, .int a1)] C dX7_fittingSorts_23 n4 rfl rfl ?_
    refine x_lt2 (q := 99) (ls := fun h3 x4 => [(0, .ref 0), (1, .int a1), (2, .int x2), (3, .int x4)]) (st := fun h3 x4 => []) (hh := fun h3 x4 => h3) (fun h3 x4 => ?_) (fun k1 J1 => ?_)
    · refine x_aload_n 100 C dX7_fittingSorts_99 0 rfl rfl rfl ?_
      refine x_getR (c := 5) 103 C dX7_fittingSorts_100 fl_X7_26 sk_0 rfl sr_0_2 rfl ?_
      refine x_getR (c := 7) 106 C dX7_fittingSorts_103 fl_X7_120 sk_5 rfl sr_5_1 rfl ?_
      refine x_iload_n 107 C dX7_fittingSorts_106 1 rfl rfl rfl ?_
      refine x_iload_n 108 C dX7_fittingSorts_107 2 rfl rfl rfl ?_
      refine x_iast 109 C dX7_fittingSorts_108 sk_7 sl_7 rfl (fun h5 => ?_)
      refine x_iload_n 110 C dX7_fittingSorts_109 3 rfl rfl rfl ?_
      exact x_iret C E dX7_fittingSorts_110 rfl
    refine x_ls [3, 4, 2, 1, 0] rfl (x_fx3 (ls := fun h6 x7 x8 => [(0, .ref 0), (1, .int a1), (2, .int x2), (3, .int x7), (4, .int x8)]) (st := fun h6 x7 x8 => []) (hh := fun h6 x7 x8 => h6) (fun s2 J2 h6 x7 x8 => ?_))
    refine x_iload 27 C dX7_fittingSorts_25 4 rfl rfl ?_
    refine x_iconst 28 C dX7_fittingSorts_27 ci_3 rfl ?_
    refine x_icmp_ge 31 99 C dX7_fittingSorts_28 (by decide) rfl (fun _ => ?_) (fun _ => ?_)
    · exact x_ls [0, 1, 2, 3] rfl (J1 h6 x7)
    · refine x_aload_n 32 C dX7_fittingSorts_31 0 rfl rfl rfl ?_
      refine x_getR (c := 5) 35 C dX7_fittingSorts_32 fl_X7_26 sk_0 rfl sr_0_2 rfl ?_
      refine x_getR (c := 7) 38 C dX7_fittingSorts_35 fl_X7_120 sk_5 rfl sr_5_1 rfl ?_
      refine x_iload_n 39 C dX7_fittingSorts_38 1 rfl rfl rfl ?_
      refine x_iload 41 C dX7_fittingSorts_39 4 rfl rfl ?_
      refine x_iast 42 C dX7_fittingSorts_41 sk_7 sl_7 rfl (fun h9 => ?_)
      refine x_aload_n 43 C dX7_fittingSorts_42 0 rfl rfl rfl ?_
      refine x_getR (c := 36) 46 C dX7_fittingSorts_43 fl_X7_44 sk_0 rfl sr_0_5 rfl ?_
      refine x_aload_n 47 C dX7_fittingSorts_46 0 rfl rfl rfl ?_
      refine x_getR (c := 5) 50 C dX7_fittingSorts_47 fl_X7_26 sk_0 rfl sr_0_2 rfl ?_
      refine x_aload_n 51 C dX7_fittingSorts_50 0 rfl rfl rfl ?_
      refine x_getR (c := 5) 54 C dX7_fittingSorts_51 fl_X7_26 sk_0 rfl sr_0_2 rfl ?_
      refine x_getR (c := 9) 57 C dX7_fittingSorts_54 fl_X7_129 sk_5 rfl sr_5_3 rfl ?_
      refine x_iconst 58 C dX7_fittingSorts_57 ci_0 rfl ?_
      refine x_iconst 59 C dX7_fittingSorts_58 ci_1 rfl ?_
      refine x_cvV 62 [.ref 5, .ref 9, .int (0 : Int32), .int (1 : Int32)] [] C 3 dX7_fittingSorts_59 v_X7_233 (fun u hu => m_X2_play sk_36 sk_9 hu) rfl sk_36 rfl (Nat.le_of_ble_eq_true rfl) (Nat.le_of_ble_eq_true rfl) rfl (fun h10 => ?_)
      refine x_aload_n 63 C dX7_fittingSorts_62 0 rfl rfl rfl ?_
      refine x_getR (c := 13) 66 C dX7_fittingSorts_63 fl_X7_33 sk_0 rfl sr_0_3 rfl ?_
      refine x_aload_n 67 C dX7_fittingSorts_66 0 rfl rfl rfl ?_
      refine x_getR (c := 36) 70 C dX7_fittingSorts_67 fl_X7_44 sk_0 rfl sr_0_5 rfl ?_
      refine x_getR (c := 41) 73 C dX7_fittingSorts_70 fl_X7_175 sk_36 rfl sr_36_1 rfl ?_
      refine x_aload_n 74 C dX7_fittingSorts_73 0 rfl rfl rfl ?_
      refine x_getR (c := 5) 77 C dX7_fittingSorts_74 fl_X7_26 sk_0 rfl sr_0_2 rfl ?_
      refine x_getI 80 C dX7_fittingSorts_77 fl_X7_192 sk_5 rfl rfl ?_
      refine x_cvi 83 [.ref 41, .int (h10.1 5 7)] [] C 2 dX7_fittingSorts_80 v_X7_244 (fun u hu => m_X3_fit hu) rfl sk_13 rfl (Nat.le_of_ble_eq_true rfl) (Nat.le_of_ble_eq_true rfl) rfl (fun x11 => ?_)
      refine x_lt1 (q := 93) (ls := fun x12 => [(0, .ref 0), (1, .int a1), (2, .int x2), (3, .int x12), (4, .int x8)]) (st := fun x12 => []) (hh := fun x12 => h10) (fun x12 => ?_) (fun k3 J3 => ?_)
      · refine x_iinc 96 (fun x13 => [(4, .int x13), (0, .ref 0), (1, .int a1), (2, .int x2), (3, .int x12)]) C dX7_fittingSorts_93 4 rfl ci_1 n4 (fun _ => rfl) rfl (fun x13 => ?_)
        refine x_goto 25 C dX7_fittingSorts_96 (by decide) ?_
        exact x_ls [1, 2, 3, 4, 0] rfl (J2 h10 x12 x13)
      refine x_if_eq 86 93 C dX7_fittingSorts_83 (by decide) rfl (fun _ => ?_) (fun _ => ?_)
      · exact x_ls [0, 1, 2, 3, 4] rfl (J3 x7)
      · refine x_iload_n 87 C dX7_fittingSorts_86 3 rfl rfl rfl ?_
        refine x_iconst 88 C dX7_fittingSorts_87 ci_1 rfl ?_
        refine x_iload 90 C dX7_fittingSorts_88 4 rfl rfl ?_
        refine x_ishl 91 C dX7_fittingSorts_90 rfl ?_
        refine x_ior 92 C dX7_fittingSorts_91 rfl ?_
        refine x_ni (fun x14 => ?_)
        refine x_istore_n 93 [(3, .int x14), (0, .ref 0), (1, .int a1), (2, .int x2), (4, .int x8)] C dX7_fittingSorts_92 n3 rfl rfl rfl ?_
        exact x_ls [1, 2, 3, 0, 4] rfl (J3 x14)
  · refine x_iconst 9 C dX7_fittingSorts_8 ci_0 rfl ?_
    exact x_iret C E dX7_fittingSorts_9 rfl

def f_X7_was (h : Hp) (a1 : Int32) (a2 : Int32) : Option (Hp × Int32) :=
  bdr (f_X7_isWalker h a1) fun x1 =>
  if x1 = 0 then (
    some (h, (-2 : Int32)))
  else (
    bdr (f_X7_within a2 (0 : Int32) (1 : Int32)) fun x2 =>
    if x2 = 0 then (
      some (h, (-2 : Int32)))
    else (
      if a2 = 0 then (
        bnd (f_X7_fittingPoles h a1) fun h5 x6 =>
        some (h5, x6))
      else (
        bnd (f_X7_fittingSorts h a1) fun h3 x4 =>
        some (h3, x4))))
theorem dX7_was_0 : decode cX7_was 0 = .ok (.aload_n 0, 1) := by decide +kernel
theorem dX7_was_1 : decode cX7_was 1 = .ok (.iload_n 1, 1) := by decide +kernel
theorem dX7_was_2 : decode cX7_was 2 = .ok (.invokevirtual 113, 3) := by decide +kernel
theorem dX7_was_5 : decode cX7_was 5 = .ok (.ifCond .eq 12, 3) := by decide +kernel
theorem dX7_was_8 : decode cX7_was 8 = .ok (.iload_n 2, 1) := by decide +kernel
theorem dX7_was_9 : decode cX7_was 9 = .ok (.iconst 0, 1) := by decide +kernel
theorem dX7_was_10 : decode cX7_was 10 = .ok (.iconst 1, 1) := by decide +kernel
theorem dX7_was_11 : decode cX7_was 11 = .ok (.invokestatic 85, 3) := by decide +kernel
theorem dX7_was_14 : decode cX7_was 14 = .ok (.ifCond .ne 6, 3) := by decide +kernel
theorem dX7_was_17 : decode cX7_was 17 = .ok (.bipush (-2), 2) := by decide +kernel
theorem dX7_was_19 : decode cX7_was 19 = .ok (.ireturn, 1) := by decide +kernel
theorem dX7_was_20 : decode cX7_was 20 = .ok (.iload_n 2, 1) := by decide +kernel
theorem dX7_was_21 : decode cX7_was 21 = .ok (.ifCond .ne 11, 3) := by decide +kernel
theorem dX7_was_24 : decode cX7_was 24 = .ok (.aload_n 0, 1) := by decide +kernel
theorem dX7_was_25 : decode cX7_was 25 = .ok (.iload_n 1, 1) := by decide +kernel
theorem dX7_was_26 : decode cX7_was 26 = .ok (.invokevirtual 248, 3) := by decide +kernel
theorem dX7_was_29 : decode cX7_was 29 = .ok (.goto 8, 3) := by decide +kernel
theorem dX7_was_32 : decode cX7_was 32 = .ok (.aload_n 0, 1) := by decide +kernel
theorem dX7_was_33 : decode cX7_was 33 = .ok (.iload_n 1, 1) := by decide +kernel
theorem dX7_was_34 : decode cX7_was 34 = .ok (.invokevirtual 251, 3) := by decide +kernel
theorem dX7_was_37 : decode cX7_was 37 = .ok (.ireturn, 1) := by decide +kernel
set_option maxRecDepth 20000 in
theorem m_X7_was {h : Hp} {a1 : Int32} {a2 : Int32}  {u : (Hp × Int32)} (hu : f_X7_was h a1 a2 = some u) : Ct yX7_was cX7_was 3 (some .int) 5 [.ref 0, .int a1, .int a2] h (eI u) := by
  refine ct_of eI hu (by decide) (Nat.le_of_ble_eq_true rfl) (fun κ hn C E => ?_)
  unfold f_X7_was
  show Xz κ _ 0 [(0, .ref 0), (1, .int a1), (2, .int a2)] [] h
  refine x_aload_n 1 C dX7_was_0 0 rfl rfl rfl ?_
  refine x_iload_n 2 C dX7_was_1 1 rfl rfl rfl ?_
  refine x_cvi 5 [.int a1] [] C 1 dX7_was_2 v_X7_113 (fun u hu => m_X7_isWalker hu) rfl sk_0 rfl (Nat.le_of_ble_eq_true rfl) (Nat.le_of_ble_eq_true rfl) rfl (fun x1 => ?_)
  refine x_if_eq 8 17 C dX7_was_5 (by decide) rfl (fun _ => ?_) (fun _ => ?_)
  · refine x_bipush 19 C dX7_was_17 cb_m2 rfl ?_
    exact x_iret C E dX7_was_19 rfl
  · refine x_iload_n 9 C dX7_was_8 2 rfl rfl rfl ?_
    refine x_iconst 10 C dX7_was_9 ci_0 rfl ?_
    refine x_iconst 11 C dX7_was_10 ci_1 rfl ?_
    refine x_csi 14 [.int a2, .int (0 : Int32), .int (1 : Int32)] [] C 0 dX7_was_11 s_X7_85 (fun u hu => m_X7_within hu) rfl rfl (Nat.le_of_ble_eq_true rfl) (Nat.le_of_ble_eq_true rfl) rfl (fun x2 => ?_)
    refine x_if_ne 17 20 C dX7_was_14 (by decide) rfl (fun _ => ?_) (fun _ => ?_)
    · refine x_iload_n 21 C dX7_was_20 2 rfl rfl rfl ?_
      refine x_if_ne 24 32 C dX7_was_21 (by decide) rfl (fun _ => ?_) (fun _ => ?_)
      · refine x_aload_n 33 C dX7_was_32 0 rfl rfl rfl ?_
        refine x_iload_n 34 C dX7_was_33 1 rfl rfl rfl ?_
        refine x_cvI 37 [.int a1] [] C 4 dX7_was_34 v_X7_251 (fun u hu => m_X7_fittingSorts hu) rfl sk_0 rfl (Nat.le_of_ble_eq_true rfl) (Nat.le_of_ble_eq_true rfl) rfl (fun h3 x4 => ?_)
        exact x_iret C E dX7_was_37 rfl
      · refine x_aload_n 25 C dX7_was_24 0 rfl rfl rfl ?_
        refine x_iload_n 26 C dX7_was_25 1 rfl rfl rfl ?_
        refine x_cvI 29 [.int a1] [] C 4 dX7_was_26 v_X7_248 (fun u hu => m_X7_fittingPoles hu) rfl sk_0 rfl (Nat.le_of_ble_eq_true rfl) (Nat.le_of_ble_eq_true rfl) rfl (fun h5 x6 => ?_)
        refine x_goto 37 C dX7_was_29 (by decide) ?_
        exact x_iret C E dX7_was_37 rfl
    · refine x_bipush 19 C dX7_was_17 cb_m2 rfl ?_
      exact x_iret C E dX7_was_19 rfl

def f_X7_markBehind (h : Hp) (a1 : Int32) (a2 : Int32) : Option Int64 :=
  nm ((a1 * (24 : Int32)) + a2) fun x1 =>
  if x1 < 0 then (
    some (0 : Int64))
  else (
    if (nI 240) ≤ x1 then (
      some (0 : Int64))
    else (
      ck x1 240 (
        some (la h 57 x1))))
theorem dX7_markBehind_0 : decode cX7_markBehind 0 = .ok (.iload_n 1, 1) := by decide +kernel
theorem dX7_markBehind_1 : decode cX7_markBehind 1 = .ok (.bipush 24, 2) := by decide +kernel
theorem dX7_markBehind_3 : decode cX7_markBehind 3 = .ok (.imul, 1) := by decide +kernel
theorem dX7_markBehind_4 : decode cX7_markBehind 4 = .ok (.iload_n 2, 1) := by decide +kernel
theorem dX7_markBehind_5 : decode cX7_markBehind 5 = .ok (.iadd, 1) := by decide +kernel
theorem dX7_markBehind_6 : decode cX7_markBehind 6 = .ok (.istore_n 3, 1) := by decide +kernel
theorem dX7_markBehind_7 : decode cX7_markBehind 7 = .ok (.iload_n 3, 1) := by decide +kernel
theorem dX7_markBehind_8 : decode cX7_markBehind 8 = .ok (.ifCond .lt 21, 3) := by decide +kernel
theorem dX7_markBehind_11 : decode cX7_markBehind 11 = .ok (.iload_n 3, 1) := by decide +kernel
theorem dX7_markBehind_12 : decode cX7_markBehind 12 = .ok (.aload_n 0, 1) := by decide +kernel
theorem dX7_markBehind_13 : decode cX7_markBehind 13 = .ok (.getfield 54, 3) := by decide +kernel
theorem dX7_markBehind_16 : decode cX7_markBehind 16 = .ok (.arraylength, 1) := by decide +kernel
theorem dX7_markBehind_17 : decode cX7_markBehind 17 = .ok (.if_icmp .ge 12, 3) := by decide +kernel
theorem dX7_markBehind_20 : decode cX7_markBehind 20 = .ok (.aload_n 0, 1) := by decide +kernel
theorem dX7_markBehind_21 : decode cX7_markBehind 21 = .ok (.getfield 54, 3) := by decide +kernel
theorem dX7_markBehind_24 : decode cX7_markBehind 24 = .ok (.iload_n 3, 1) := by decide +kernel
theorem dX7_markBehind_25 : decode cX7_markBehind 25 = .ok (.laload, 1) := by decide +kernel
theorem dX7_markBehind_26 : decode cX7_markBehind 26 = .ok (.goto 4, 3) := by decide +kernel
theorem dX7_markBehind_29 : decode cX7_markBehind 29 = .ok (.lconst 0, 1) := by decide +kernel
theorem dX7_markBehind_30 : decode cX7_markBehind 30 = .ok (.lreturn, 1) := by decide +kernel
set_option maxRecDepth 20000 in
theorem m_X7_markBehind {h : Hp} {a1 : Int32} {a2 : Int32}  {u : Int64} (hu : f_X7_markBehind h a1 a2 = some u) : Ct yX7_markBehind cX7_markBehind 4 (some .long) 0 [.ref 0, .int a1, .int a2] h ((rL h) u) := by
  refine ct_of (rL h) hu (by decide) (Nat.le_of_ble_eq_true rfl) (fun κ hn C E => ?_)
  have n3 : 3 < kn κ := by rw [hn]; decide
  unfold f_X7_markBehind
  show Xz κ _ 0 [(0, .ref 0), (1, .int a1), (2, .int a2)] [] h
  refine x_iload_n 1 C dX7_markBehind_0 1 rfl rfl rfl ?_
  refine x_bipush 3 C dX7_markBehind_1 cb_24 rfl ?_
  refine x_imul 4 C dX7_markBehind_3 rfl ?_
  refine x_iload_n 5 C dX7_markBehind_4 2 rfl rfl rfl ?_
  refine x_iadd 6 C dX7_markBehind_5 rfl ?_
  refine x_ni (fun x1 => ?_)
  refine x_istore_n 7 [(3, .int x1), (0, .ref 0), (1, .int a1), (2, .int a2)] C dX7_markBehind_6 n3 rfl rfl rfl ?_
  refine x_iload_n 8 C dX7_markBehind_7 0 rfl rfl rfl ?_
  refine x_if_lt 11 29 C dX7_markBehind_8 (by decide) rfl (fun _ => ?_) (fun _ => ?_)
  · refine x_lconst 30 C dX7_markBehind_29 cl_0 rfl ?_
    exact x_lret C E dX7_markBehind_30 rfl
  · refine x_iload_n 12 C dX7_markBehind_11 0 rfl rfl rfl ?_
    refine x_aload_n 13 C dX7_markBehind_12 1 rfl rfl rfl ?_
    refine x_getR (c := 57) 16 C dX7_markBehind_13 fl_X7_54 sk_0 rfl sr_0_8 rfl ?_
    refine x_alenL 17 C dX7_markBehind_16 sk_57 sl_57 rfl ?_
    refine x_icmp_ge 20 29 C dX7_markBehind_17 (by decide) rfl (fun _ => ?_) (fun _ => ?_)
    · refine x_lconst 30 C dX7_markBehind_29 cl_0 rfl ?_
      exact x_lret C E dX7_markBehind_30 rfl
    · refine x_aload_n 21 C dX7_markBehind_20 1 rfl rfl rfl ?_
      refine x_getR (c := 57) 24 C dX7_markBehind_21 fl_X7_54 sk_0 rfl sr_0_8 rfl ?_
      refine x_iload_n 25 C dX7_markBehind_24 0 rfl rfl rfl ?_
      refine x_lald 26 C dX7_markBehind_25 sk_57 sl_57 rfl ?_
      refine x_goto 30 C dX7_markBehind_26 (by decide) ?_
      exact x_lret C E dX7_markBehind_30 rfl

def f_X7_mostAlike (h : Hp) (a1 : Int32) (a2 : Int32) : Option Int32 :=
  fx2 FU (fun s1 (x1 : Int32) (x2 : Int32) =>
    if (10 : Int32) ≤ x2 then (
      some x1)
    else (
      lt1 (fun (x3 : Int32) =>
        nm (jmax x1 x3) fun x4 =>
        nm (x2 + (1 : Int32)) fun x5 =>
        s1 x4 x5) fun k2 =>
      fx2 FU (fun s3 (x6 : Int32) (x7 : Int32) =>
        if (10 : Int32) ≤ x7 then (
          k2 x6)
        else (
          lt1 (fun (x8 : Int32) =>
            lt1 (fun (x9 : Int32) =>
              nm (x7 + (1 : Int32)) fun x10 =>
              s3 x9 x10) fun k5 =>
            if x8 = 0 then (
              k5 x6)
            else (
              bdr (f_X7_markBehind h x2 a2) fun l11 =>
              bdr (f_X7_markBehind h x7 a2) fun l12 =>
              if (lg_cmp l11 l12) = 0 then (
                nm (x6 + (1 : Int32)) fun x13 =>
                k5 x13)
              else (
                k5 x6))) fun k4 =>
          lt1 (fun (u14 : Int32) =>
            k4 (0 : Int32)) fun k6 =>
          if ((a1 >>> (x2 &&& 31)) &&& (1 : Int32)) = (1 : Int32) then (
            if ((a1 >>> (x7 &&& 31)) &&& (1 : Int32)) = (1 : Int32) then (
              k4 (1 : Int32))
            else (
              k6 (0 : Int32)))
          else (
            k6 (0 : Int32)))) (0 : Int32) (0 : Int32))) (0 : Int32) (0 : Int32)
theorem dX7_mostAlike_0 : decode cX7_mostAlike 0 = .ok (.iconst 0, 1) := by decide +kernel
theorem dX7_mostAlike_1 : decode cX7_mostAlike 1 = .ok (.istore_n 3, 1) := by decide +kernel
theorem dX7_mostAlike_2 : decode cX7_mostAlike 2 = .ok (.iconst 0, 1) := by decide +kernel
theorem dX7_mostAlike_3 : decode cX7_mostAlike 3 = .ok (.istore 4, 2) := by decide +kernel
theorem dX7_mostAlike_5 : decode cX7_mostAlike 5 = .ok (.iload 4, 2) := by decide +kernel
theorem dX7_mostAlike_7 : decode cX7_mostAlike 7 = .ok (.bipush 10, 2) := by decide +kernel
theorem dX7_mostAlike_9 : decode cX7_mostAlike 9 = .ok (.if_icmp .ge 88, 3) := by decide +kernel
theorem dX7_mostAlike_12 : decode cX7_mostAlike 12 = .ok (.iconst 0, 1) := by decide +kernel
theorem dX7_mostAlike_13 : decode cX7_mostAlike 13 = .ok (.istore 5, 2) := by decide +kernel
theorem dX7_mostAlike_15 : decode cX7_mostAlike 15 = .ok (.iconst 0, 1) := by decide +kernel
theorem dX7_mostAlike_16 : decode cX7_mostAlike 16 = .ok (.istore 6, 2) := by decide +kernel
theorem dX7_mostAlike_18 : decode cX7_mostAlike 18 = .ok (.iload 6, 2) := by decide +kernel
theorem dX7_mostAlike_20 : decode cX7_mostAlike 20 = .ok (.bipush 10, 2) := by decide +kernel
theorem dX7_mostAlike_22 : decode cX7_mostAlike 22 = .ok (.if_icmp .ge 62, 3) := by decide +kernel
theorem dX7_mostAlike_25 : decode cX7_mostAlike 25 = .ok (.iload_n 1, 1) := by decide +kernel
theorem dX7_mostAlike_26 : decode cX7_mostAlike 26 = .ok (.iload 4, 2) := by decide +kernel
theorem dX7_mostAlike_28 : decode cX7_mostAlike 28 = .ok (.ishr, 1) := by decide +kernel
theorem dX7_mostAlike_29 : decode cX7_mostAlike 29 = .ok (.iconst 1, 1) := by decide +kernel
theorem dX7_mostAlike_30 : decode cX7_mostAlike 30 = .ok (.iand, 1) := by decide +kernel
theorem dX7_mostAlike_31 : decode cX7_mostAlike 31 = .ok (.iconst 1, 1) := by decide +kernel
theorem dX7_mostAlike_32 : decode cX7_mostAlike 32 = .ok (.if_icmp .ne 17, 3) := by decide +kernel
theorem dX7_mostAlike_35 : decode cX7_mostAlike 35 = .ok (.iload_n 1, 1) := by decide +kernel
theorem dX7_mostAlike_36 : decode cX7_mostAlike 36 = .ok (.iload 6, 2) := by decide +kernel
theorem dX7_mostAlike_38 : decode cX7_mostAlike 38 = .ok (.ishr, 1) := by decide +kernel
theorem dX7_mostAlike_39 : decode cX7_mostAlike 39 = .ok (.iconst 1, 1) := by decide +kernel
theorem dX7_mostAlike_40 : decode cX7_mostAlike 40 = .ok (.iand, 1) := by decide +kernel
theorem dX7_mostAlike_41 : decode cX7_mostAlike 41 = .ok (.iconst 1, 1) := by decide +kernel
theorem dX7_mostAlike_42 : decode cX7_mostAlike 42 = .ok (.if_icmp .ne 7, 3) := by decide +kernel
theorem dX7_mostAlike_45 : decode cX7_mostAlike 45 = .ok (.iconst 1, 1) := by decide +kernel
theorem dX7_mostAlike_46 : decode cX7_mostAlike 46 = .ok (.goto 4, 3) := by decide +kernel
theorem dX7_mostAlike_49 : decode cX7_mostAlike 49 = .ok (.iconst 0, 1) := by decide +kernel
theorem dX7_mostAlike_50 : decode cX7_mostAlike 50 = .ok (.istore 7, 2) := by decide +kernel
theorem dX7_mostAlike_52 : decode cX7_mostAlike 52 = .ok (.iload 7, 2) := by decide +kernel
theorem dX7_mostAlike_54 : decode cX7_mostAlike 54 = .ok (.ifCond .eq 24, 3) := by decide +kernel
theorem dX7_mostAlike_57 : decode cX7_mostAlike 57 = .ok (.aload_n 0, 1) := by decide +kernel
theorem dX7_mostAlike_58 : decode cX7_mostAlike 58 = .ok (.iload 4, 2) := by decide +kernel
theorem dX7_mostAlike_60 : decode cX7_mostAlike 60 = .ok (.iload_n 2, 1) := by decide +kernel
theorem dX7_mostAlike_61 : decode cX7_mostAlike 61 = .ok (.invokevirtual 277, 3) := by decide +kernel
theorem dX7_mostAlike_64 : decode cX7_mostAlike 64 = .ok (.aload_n 0, 1) := by decide +kernel
theorem dX7_mostAlike_65 : decode cX7_mostAlike 65 = .ok (.iload 6, 2) := by decide +kernel
theorem dX7_mostAlike_67 : decode cX7_mostAlike 67 = .ok (.iload_n 2, 1) := by decide +kernel
theorem dX7_mostAlike_68 : decode cX7_mostAlike 68 = .ok (.invokevirtual 277, 3) := by decide +kernel
theorem dX7_mostAlike_71 : decode cX7_mostAlike 71 = .ok (.lcmp, 1) := by decide +kernel
theorem dX7_mostAlike_72 : decode cX7_mostAlike 72 = .ok (.ifCond .ne 6, 3) := by decide +kernel
theorem dX7_mostAlike_75 : decode cX7_mostAlike 75 = .ok (.iinc 5 1, 3) := by decide +kernel
theorem dX7_mostAlike_78 : decode cX7_mostAlike 78 = .ok (.iinc 6 1, 3) := by decide +kernel
theorem dX7_mostAlike_81 : decode cX7_mostAlike 81 = .ok (.goto (-63), 3) := by decide +kernel
theorem dX7_mostAlike_84 : decode cX7_mostAlike 84 = .ok (.iload_n 3, 1) := by decide +kernel
theorem dX7_mostAlike_85 : decode cX7_mostAlike 85 = .ok (.iload 5, 2) := by decide +kernel
theorem dX7_mostAlike_87 : decode cX7_mostAlike 87 = .ok (.invokestatic 280, 3) := by decide +kernel
theorem dX7_mostAlike_90 : decode cX7_mostAlike 90 = .ok (.istore_n 3, 1) := by decide +kernel
theorem dX7_mostAlike_91 : decode cX7_mostAlike 91 = .ok (.iinc 4 1, 3) := by decide +kernel
theorem dX7_mostAlike_94 : decode cX7_mostAlike 94 = .ok (.goto (-89), 3) := by decide +kernel
theorem dX7_mostAlike_97 : decode cX7_mostAlike 97 = .ok (.iload_n 3, 1) := by decide +kernel
theorem dX7_mostAlike_98 : decode cX7_mostAlike 98 = .ok (.ireturn, 1) := by decide +kernel
set_option maxRecDepth 20000 in
theorem m_X7_mostAlike {h : Hp} {a1 : Int32} {a2 : Int32}  {u : Int32} (hu : f_X7_mostAlike h a1 a2 = some u) : Ct yX7_mostAlike cX7_mostAlike 8 (some .int) 1 [.ref 0, .int a1, .int a2] h ((rI h) u) := by
  refine ct_of (rI h) hu (by decide) (Nat.le_of_ble_eq_true rfl) (fun κ hn C E => ?_)
  have n3 : 3 < kn κ := by rw [hn]; decide
  have n4 : 4 < kn κ := by rw [hn]; decide
  have n5 : 5 < kn κ := by rw [hn]; decide
  have n6 : 6 < kn κ := by rw [hn]; decide
  have n7 : 7 < kn κ := by rw [hn]; decide
  unfold f_X7_mostAlike
  show Xz κ _ 0 [(0, .ref 0), (1, .int a1), (2, .int a2)] [] h
  refine x_iconst 1 C dX7_mostAlike_0 ci_0 rfl ?_
  refine x_istore_n 2 [(3, .int (0 : Int32)), (0, .ref 0), (1, .int a1), (2, .int a2)] C dX7_mostAlike_1 n3 rfl rfl rfl ?_
  refine x_iconst 3 C dX7_mostAlike_2 ci_0 rfl ?_
  refine x_istore 5 [(4, .int (0 : Int32)), (3, .int (0 : Int32)), (0, .ref 0), (1, .int a1), (2, .int a2)] C dX7_mostAlike_3 n4 rfl rfl ?_
  refine x_ls [2, 3, 4, 1, 0] rfl (x_fx2 (ls := fun x1 x2 => [(0, .ref 0), (1, .int a1), (2, .int a2), (3, .int x1), (4, .int x2)]) (st := fun x1 x2 => []) (hh := fun x1 x2 => h) (fun s1 J1 x1 x2 => ?_))
  refine x_iload 7 C dX7_mostAlike_5 4 rfl rfl ?_
  refine x_bipush 9 C dX7_mostAlike_7 cb_10 rfl ?_
  refine x_icmp_ge 12 97 C dX7_mostAlike_9 (by decide) rfl (fun _ => ?_) (fun _ => ?_)
  · refine x_iload_n 98 C dX7_mostAlike_97 3 rfl rfl rfl ?_
    exact x_iret C E dX7_mostAlike_98 rfl
  · refine x_iconst 13 C dX7_mostAlike_12 ci_0 rfl ?_
    refine x_istore 15 [(5, .int (0 : Int32)), (0, .ref 0), (1, .int a1), (2, .int a2), (3, .int x1), (4, .int x2)] C dX7_mostAlike_13 n5 rfl rfl ?_
    refine x_iconst 16 C dX7_mostAlike_15 ci_0 rfl ?_
    refine x_istore 18 [(6, .int (0 : Int32)), (5, .int (0 : Int32)), (0, .ref 0), (1, .int a1), (2, .int a2), (3, .int x1), (4, .int x2)] C dX7_mostAlike_16 n6 rfl rfl ?_
    refine x_lt1 (q := 84) (ls := fun x3 => [(0, .ref 0), (1, .int a1), (2, .int a2), (3, .int x1), (4, .int x2), (5, .int x3)]) (st := fun x3 => []) (hh := fun x3 => h) (fun x3 => ?_) (fun k2 J2 => ?_)
    · refine x_iload_n 85 C dX7_mostAlike_84 3 rfl rfl rfl ?_
      refine x_iload 87 C dX7_mostAlike_85 5 rfl rfl ?_
      refine x_mmax 90 C dX7_mostAlike_87 mw_X7_280 w_st_max w_in_Math w_co_max (Nat.le_of_ble_eq_true rfl) (Nat.le_of_ble_eq_true rfl) rfl ?_
      refine x_ni (fun x4 => ?_)
      refine x_istore_n 91 [(3, .int x4), (0, .ref 0), (1, .int a1), (2, .int a2), (4, .int x2), (5, .int x3)] C dX7_mostAlike_90 n3 rfl rfl rfl ?_
      refine x_iinc 94 (fun x5 => [(4, .int x5), (3, .int x4), (0, .ref 0), (1, .int a1), (2, .int a2), (5, .int x3)]) C dX7_mostAlike_91 4 rfl ci_1 n4 (fun _ => rfl) rfl (fun x5 => ?_)
      refine x_goto 5 C dX7_mostAlike_94 (by decide) ?_
      exact x_ls [2, 3, 4, 1, 0] rfl (J1 x4 x5)
    refine x_ls [2, 3, 4, 5, 6, 1, 0] rfl (x_fx2 (ls := fun x6 x7 => [(0, .ref 0), (1, .int a1), (2, .int a2), (3, .int x1), (4, .int x2), (5, .int x6), (6, .int x7)]) (st := fun x6 x7 => []) (hh := fun x6 x7 => h) (fun s3 J3 x6 x7 => ?_))
    refine x_iload 20 C dX7_mostAlike_18 6 rfl rfl ?_
    refine x_bipush 22 C dX7_mostAlike_20 cb_10 rfl ?_
    refine x_icmp_ge 25 84 C dX7_mostAlike_22 (by decide) rfl (fun _ => ?_) (fun _ => ?_)
    · exact x_ls [0, 1, 2, 3, 4, 5] rfl (J2 x6)
    · refine x_iload_n 26 C dX7_mostAlike_25 1 rfl rfl rfl ?_
      refine x_iload 28 C dX7_mostAlike_26 4 rfl rfl ?_
      refine x_ishr 29 C dX7_mostAlike_28 rfl ?_
      refine x_iconst 30 C dX7_mostAlike_29 ci_1 rfl ?_
      refine x_iand 31 C dX7_mostAlike_30 rfl ?_
      refine x_iconst 32 C dX7_mostAlike_31 ci_1 rfl ?_
      refine x_lt1 (q := 50) (ls := fun x8 => [(0, .ref 0), (1, .int a1), (2, .int a2), (3, .int x1), (4, .int x2), (5, .int x6), (6, .int x7)]) (st := fun x8 => [.int x8]) (hh := fun x8 => h) (fun x8 => ?_) (fun k4 J4 => ?_)
      · refine x_istore 52 [(7, .int x8), (0, .ref 0), (1, .int a1), (2, .int a2), (3, .int x1), (4, .int x2), (5, .int x6), (6, .int x7)] C dX7_mostAlike_50 n7 rfl rfl ?_
        refine x_iload 54 C dX7_mostAlike_52 0 rfl rfl ?_
        refine x_lt1 (q := 78) (ls := fun x9 => [(0, .ref 0), (1, .int a1), (2, .int a2), (3, .int x1), (4, .int x2), (5, .int x9), (6, .int x7)]) (st := fun x9 => []) (hh := fun x9 => h) (fun x9 => ?_) (fun k5 J5 => ?_)
        · refine x_iinc 81 (fun x10 => [(6, .int x10), (0, .ref 0), (1, .int a1), (2, .int a2), (3, .int x1), (4, .int x2), (5, .int x9)]) C dX7_mostAlike_78 6 rfl ci_1 n6 (fun _ => rfl) rfl (fun x10 => ?_)
          refine x_goto 18 C dX7_mostAlike_81 (by decide) ?_
          exact x_ls [1, 2, 3, 4, 5, 6, 0] rfl (J3 x9 x10)
        refine x_if_eq 57 78 C dX7_mostAlike_54 (by decide) rfl (fun _ => ?_) (fun _ => ?_)
        · exact x_ls [1, 2, 3, 4, 5, 6, 7] rfl (J5 x6)
        · refine x_aload_n 58 C dX7_mostAlike_57 1 rfl rfl rfl ?_
          refine x_iload 60 C dX7_mostAlike_58 5 rfl rfl ?_
          refine x_iload_n 61 C dX7_mostAlike_60 3 rfl rfl rfl ?_
          refine x_cvl 64 [.int x2, .int a2] [] C 0 dX7_mostAlike_61 v_X7_277 (fun u hu => m_X7_markBehind hu) rfl sk_0 rfl (Nat.le_of_ble_eq_true rfl) (Nat.le_of_ble_eq_true rfl) rfl (fun l11 => ?_)
          refine x_aload_n 65 C dX7_mostAlike_64 1 rfl rfl rfl ?_
          refine x_iload 67 C dX7_mostAlike_65 7 rfl rfl ?_
          refine x_iload_n 68 C dX7_mostAlike_67 3 rfl rfl rfl ?_
          refine x_cvl 71 [.int x7, .int a2] [.long l11] C 0 dX7_mostAlike_68 v_X7_277 (fun u hu => m_X7_markBehind hu) rfl sk_0 rfl (Nat.le_of_ble_eq_true rfl) (Nat.le_of_ble_eq_true rfl) rfl (fun l12 => ?_)
          refine x_lcmp 72 C dX7_mostAlike_71 rfl ?_
          refine x_if_ne 75 78 C dX7_mostAlike_72 (by decide) rfl (fun _ => ?_) (fun _ => ?_)
          · exact x_ls [1, 2, 3, 4, 5, 6, 7] rfl (J5 x6)
          · refine x_iinc 78 (fun x13 => [(5, .int x13), (7, .int x8), (0, .ref 0), (1, .int a1), (2, .int a2), (3, .int x1), (4, .int x2), (6, .int x7)]) C dX7_mostAlike_75 6 rfl ci_1 n5 (fun _ => rfl) rfl (fun x13 => ?_)
            exact x_ls [2, 3, 4, 5, 6, 0, 7] rfl (J5 x13)
      refine x_lt1 (q := 49) (ls := fun u14 => [(0, .ref 0), (1, .int a1), (2, .int a2), (3, .int x1), (4, .int x2), (5, .int x6), (6, .int x7)]) (st := fun u14 => []) (hh := fun u14 => h) (fun u14 => ?_) (fun k6 J6 => ?_)
      · refine x_iconst 50 C dX7_mostAlike_49 ci_0 rfl ?_
        exact x_ls [0, 1, 2, 3, 4, 5, 6] rfl (J4 (0 : Int32))
      refine x_icmp_ne 35 49 C dX7_mostAlike_32 (by decide) rfl (fun _ => ?_) (fun _ => ?_)
      · exact x_ls [0, 1, 2, 3, 4, 5, 6] rfl (J6 (0 : Int32))
      · refine x_iload_n 36 C dX7_mostAlike_35 1 rfl rfl rfl ?_
        refine x_iload 38 C dX7_mostAlike_36 6 rfl rfl ?_
        refine x_ishr 39 C dX7_mostAlike_38 rfl ?_
        refine x_iconst 40 C dX7_mostAlike_39 ci_1 rfl ?_
        refine x_iand 41 C dX7_mostAlike_40 rfl ?_
        refine x_iconst 42 C dX7_mostAlike_41 ci_1 rfl ?_
        refine x_icmp_ne 45 49 C dX7_mostAlike_42 (by decide) rfl (fun _ => ?_) (fun _ => ?_)
        · exact x_ls [0, 1, 2, 3, 4, 5, 6] rfl (J6 (0 : Int32))
        · refine x_iconst 46 C dX7_mostAlike_45 ci_1 rfl ?_
          refine x_goto 50 C dX7_mostAlike_46 (by decide) ?_
          exact x_ls [0, 1, 2, 3, 4, 5, 6] rfl (J4 (1 : Int32))

def f_X7_ask (h : Hp) (a1 : Int32) : Option (Hp × Int32) :=
  bdr (f_X7_isWalker h a1) fun x1 =>
  if x1 = 0 then (
    some (h, (-2 : Int32)))
  else (
    bnd (f_X7_fittingPoles h a1) fun h2 x3 =>
    fx3 FU (fun s1 (x4 : Int32) (x5 : Int32) (x6 : Int32) =>
      if (24 : Int32) ≤ x6 then (
        some (h2, x4))
      else (
        bdr (f_X7_mostAlike h2 x3 x6) fun x7 =>
        lt2 (fun (x8 : Int32) (x9 : Int32) =>
          nm (x6 + (1 : Int32)) fun x10 =>
          s1 x8 x9 x10) fun k2 =>
        if x5 ≤ x7 then (
          k2 x4 x5)
        else (
          k2 x6 x7))) (0 : Int32) (11 : Int32) (0 : Int32))
theorem dX7_ask_0 : decode cX7_ask 0 = .ok (.aload_n 0, 1) := by decide +kernel
theorem dX7_ask_1 : decode cX7_ask 1 = .ok (.iload_n 1, 1) := by decide +kernel
theorem dX7_ask_2 : decode cX7_ask 2 = .ok (.invokevirtual 113, 3) := by decide +kernel
theorem dX7_ask_5 : decode cX7_ask 5 = .ok (.ifCond .ne 6, 3) := by decide +kernel
theorem dX7_ask_8 : decode cX7_ask 8 = .ok (.bipush (-2), 2) := by decide +kernel
theorem dX7_ask_10 : decode cX7_ask 10 = .ok (.ireturn, 1) := by decide +kernel
theorem dX7_ask_11 : decode cX7_ask 11 = .ok (.aload_n 0, 1) := by decide +kernel
theorem dX7_ask_12 : decode cX7_ask 12 = .ok (.iload_n 1, 1) := by decide +kernel
theorem dX7_ask_13 : decode cX7_ask 13 = .ok (.invokevirtual 248, 3) := by decide +kernel
theorem dX7_ask_16 : decode cX7_ask 16 = .ok (.istore_n 2, 1) := by decide +kernel
theorem dX7_ask_17 : decode cX7_ask 17 = .ok (.iconst 0, 1) := by decide +kernel
theorem dX7_ask_18 : decode cX7_ask 18 = .ok (.istore_n 3, 1) := by decide +kernel
theorem dX7_ask_19 : decode cX7_ask 19 = .ok (.bipush 11, 2) := by decide +kernel
theorem dX7_ask_21 : decode cX7_ask 21 = .ok (.istore 4, 2) := by decide +kernel
theorem dX7_ask_23 : decode cX7_ask 23 = .ok (.iconst 0, 1) := by decide +kernel
theorem dX7_ask_24 : decode cX7_ask 24 = .ok (.istore 5, 2) := by decide +kernel
theorem dX7_ask_26 : decode cX7_ask 26 = .ok (.iload 5, 2) := by decide +kernel
theorem dX7_ask_28 : decode cX7_ask 28 = .ok (.bipush 24, 2) := by decide +kernel
theorem dX7_ask_30 : decode cX7_ask 30 = .ok (.if_icmp .ge 32, 3) := by decide +kernel
theorem dX7_ask_33 : decode cX7_ask 33 = .ok (.aload_n 0, 1) := by decide +kernel
theorem dX7_ask_34 : decode cX7_ask 34 = .ok (.iload_n 2, 1) := by decide +kernel
theorem dX7_ask_35 : decode cX7_ask 35 = .ok (.iload 5, 2) := by decide +kernel
theorem dX7_ask_37 : decode cX7_ask 37 = .ok (.invokevirtual 254, 3) := by decide +kernel
theorem dX7_ask_40 : decode cX7_ask 40 = .ok (.istore 6, 2) := by decide +kernel
theorem dX7_ask_42 : decode cX7_ask 42 = .ok (.iload 6, 2) := by decide +kernel
theorem dX7_ask_44 : decode cX7_ask 44 = .ok (.iload 4, 2) := by decide +kernel
theorem dX7_ask_46 : decode cX7_ask 46 = .ok (.if_icmp .ge 10, 3) := by decide +kernel
theorem dX7_ask_49 : decode cX7_ask 49 = .ok (.iload 6, 2) := by decide +kernel
theorem dX7_ask_51 : decode cX7_ask 51 = .ok (.istore 4, 2) := by decide +kernel
theorem dX7_ask_53 : decode cX7_ask 53 = .ok (.iload 5, 2) := by decide +kernel
theorem dX7_ask_55 : decode cX7_ask 55 = .ok (.istore_n 3, 1) := by decide +kernel
theorem dX7_ask_56 : decode cX7_ask 56 = .ok (.iinc 5 1, 3) := by decide +kernel
theorem dX7_ask_59 : decode cX7_ask 59 = .ok (.goto (-33), 3) := by decide +kernel
theorem dX7_ask_62 : decode cX7_ask 62 = .ok (.iload_n 3, 1) := by decide +kernel
theorem dX7_ask_63 : decode cX7_ask 63 = .ok (.ireturn, 1) := by decide +kernel
set_option maxRecDepth 20000 in
theorem m_X7_ask {h : Hp} {a1 : Int32}  {u : (Hp × Int32)} (hu : f_X7_ask h a1 = some u) : Ct yX7_ask cX7_ask 7 (some .int) 5 [.ref 0, .int a1] h (eI u) := by
  refine ct_of eI hu (by decide) (Nat.le_of_ble_eq_true rfl) (fun κ hn C E => ?_)
  have n2 : 2 < kn κ := by rw [hn]; decide
  have n3 : 3 < kn κ := by rw [hn]; decide
  have n4 : 4 < kn κ := by rw [hn]; decide
  have n5 : 5 < kn κ := by rw [hn]; decide
  have n6 : 6 < kn κ := by rw [hn]; decide
  unfold f_X7_ask
  show Xz κ _ 0 [(0, .ref 0), (1, .int a1)] [] h
  refine x_aload_n 1 C dX7_ask_0 0 rfl rfl rfl ?_
  refine x_iload_n 2 C dX7_ask_1 1 rfl rfl rfl ?_
  refine x_cvi 5 [.int a1] [] C 1 dX7_ask_2 v_X7_113 (fun u hu => m_X7_isWalker hu) rfl sk_0 rfl (Nat.le_of_ble_eq_true rfl) (Nat.le_of_ble_eq_true rfl) rfl (fun x1 => ?_)
  refine x_if_ne 8 11 C dX7_ask_5 (by decide) rfl (fun _ => ?_) (fun _ => ?_)
  · refine x_aload_n 12 C dX7_ask_11 0 rfl rfl rfl ?_
    refine x_iload_n 13 C dX7_ask_12 1 rfl rfl rfl ?_
    refine x_cvI 16 [.int a1] [] C 4 dX7_ask_13 v_X7_248 (fun u hu => m_X7_fittingPoles hu) rfl sk_0 rfl (Nat.le_of_ble_eq_true rfl) (Nat.le_of_ble_eq_true rfl) rfl (fun h2 x3 => ?_)
    refine x_istore_n 17 [(2, .int x3), (0, .ref 0), (1, .int a1)] C dX7_ask_16 n2 rfl rfl rfl ?_
    refine x_iconst 18 C dX7_ask_17 ci_0 rfl ?_
    refine x_istore_n 19 [(3, .int (0 : Int32)), (2, .int x3), (0, .ref 0), (1, .int a1)] C dX7_ask_18 n3 rfl rfl rfl ?_
    refine x_bipush 21 C dX7_ask_19 cb_11 rfl ?_
    refine x_istore 23 [(4, .int (11 : Int32)), (3, .int (0 : Int32)), (2, .int x3), (0, .ref 0), (1, .int a1)] C dX7_ask_21 n4 rfl rfl ?_
    refine x_iconst 24 C dX7_ask_23 ci_0 rfl ?_
    refine x_istore 26 [(5, .int (0 : Int32)), (4, .int (11 : Int32)), (3, .int (0 : Int32)), (2, .int x3), (0, .ref 0), (1, .int a1)] C dX7_ask_24 n5 rfl rfl ?_
    refine x_ls [4, 3, 2, 1, 0] rfl (x_fx3 (ls := fun x4 x5 x6 => [(0, .ref 0), (2, .int x3), (3, .int x4), (4, .int x5), (5, .int x6)]) (st := fun x4 x5 x6 => []) (hh := fun x4 x5 x6 => h2) (fun s1 J1 x4 x5 x6 => ?_))
    refine x_iload 28 C dX7_ask_26 4 rfl rfl ?_
    refine x_bipush 30 C dX7_ask_28 cb_24 rfl ?_
    refine x_icmp_ge 33 62 C dX7_ask_30 (by decide) rfl (fun _ => ?_) (fun _ => ?_)
    · refine x_iload_n 63 C dX7_ask_62 2 rfl rfl rfl ?_
      exact x_iret C E dX7_ask_63 rfl
    · refine x_aload_n 34 C dX7_ask_33 0 rfl rfl rfl ?_
      refine x_iload_n 35 C dX7_ask_34 1 rfl rfl rfl ?_
      refine x_iload 37 C dX7_ask_35 4 rfl rfl ?_
      refine x_cvi 40 [.int x3, .int x6] [] C 1 dX7_ask_37 v_X7_254 (fun u hu => m_X7_mostAlike hu) rfl sk_0 rfl (Nat.le_of_ble_eq_true rfl) (Nat.le_of_ble_eq_true rfl) rfl (fun x7 => ?_)
      refine x_istore 42 [(6, .int x7), (0, .ref 0), (2, .int x3), (3, .int x4), (4, .int x5), (5, .int x6)] C dX7_ask_40 n6 rfl rfl ?_
      refine x_iload 44 C dX7_ask_42 0 rfl rfl ?_
      refine x_iload 46 C dX7_ask_44 4 rfl rfl ?_
      refine x_lt2 (q := 56) (ls := fun x8 x9 => [(0, .ref 0), (2, .int x3), (3, .int x8), (4, .int x9), (5, .int x6)]) (st := fun x8 x9 => []) (hh := fun x8 x9 => h2) (fun x8 x9 => ?_) (fun k2 J2 => ?_)
      · refine x_iinc 59 (fun x10 => [(5, .int x10), (0, .ref 0), (2, .int x3), (3, .int x8), (4, .int x9)]) C dX7_ask_56 4 rfl ci_1 n5 (fun _ => rfl) rfl (fun x10 => ?_)
        refine x_goto 26 C dX7_ask_59 (by decide) ?_
        exact x_ls [1, 2, 3, 4, 0] rfl (J1 x8 x9 x10)
      refine x_icmp_ge 49 56 C dX7_ask_46 (by decide) rfl (fun _ => ?_) (fun _ => ?_)
      · exact x_ls [1, 2, 3, 4, 5] rfl (J2 x4 x5)
      · refine x_iload 51 C dX7_ask_49 0 rfl rfl ?_
        refine x_istore 53 [(4, .int x7), (6, .int x7), (0, .ref 0), (2, .int x3), (3, .int x4), (5, .int x6)] C dX7_ask_51 n4 rfl rfl ?_
        refine x_iload 55 C dX7_ask_53 5 rfl rfl ?_
        refine x_istore_n 56 [(3, .int x6), (4, .int x7), (6, .int x7), (0, .ref 0), (2, .int x3), (5, .int x6)] C dX7_ask_55 n3 rfl rfl rfl ?_
        exact x_ls [3, 4, 0, 1, 5] rfl (J2 x6 x7)
  · refine x_bipush 10 C dX7_ask_8 cb_m2 rfl ?_
    exact x_iret C E dX7_ask_10 rfl

def f_X7_weighOdds (h : Hp) : Option Hp :=
  if (h.1 0 12) = 0 then (
    fx2 FU (fun s1 (h1 : Hp) (x2 : Int32) =>
      if ((1 : Int32) <<< ((h1.1 5 8) &&& 31)) ≤ x2 then (
        nm (uf h1 0 12 (1 : Int32)) fun h3 =>
        some h3)
      else (
        if (nI 256) ≤ x2 then (
          nm (uf h1 0 12 (1 : Int32)) fun h4 =>
          some h4)
        else (
          bdv (f_X2_play h1 36 9 (x2 ^^^ (-1 : Int32)) (0 : Int32)) fun h5 =>
          bdr (f_X2_bitsOfOver h5 36 (h5.1 5 7)) fun x6 =>
          ck x2 256 (nm (ux h5 56 x2 x6) fun h7 =>
          nm (x2 + (1 : Int32)) fun x8 =>
          s1 h7 x8)))) h (0 : Int32))
  else (
    some h)
theorem dX7_weighOdds_0 : decode cX7_weighOdds 0 = .ok (.aload_n 0, 1) := by decide +kernel
theorem dX7_weighOdds_1 : decode cX7_weighOdds 1 = .ok (.getfield 71, 3) := by decide +kernel
theorem dX7_weighOdds_4 : decode cX7_weighOdds 4 = .ok (.ifCond .eq 4, 3) := by decide +kernel
theorem dX7_weighOdds_7 : decode cX7_weighOdds 7 = .ok (.return_, 1) := by decide +kernel
theorem dX7_weighOdds_8 : decode cX7_weighOdds 8 = .ok (.iconst 0, 1) := by decide +kernel
theorem dX7_weighOdds_9 : decode cX7_weighOdds 9 = .ok (.istore_n 1, 1) := by decide +kernel
theorem dX7_weighOdds_10 : decode cX7_weighOdds 10 = .ok (.iload_n 1, 1) := by decide +kernel
theorem dX7_weighOdds_11 : decode cX7_weighOdds 11 = .ok (.iconst 1, 1) := by decide +kernel
theorem dX7_weighOdds_12 : decode cX7_weighOdds 12 = .ok (.aload_n 0, 1) := by decide +kernel
theorem dX7_weighOdds_13 : decode cX7_weighOdds 13 = .ok (.getfield 26, 3) := by decide +kernel
theorem dX7_weighOdds_16 : decode cX7_weighOdds 16 = .ok (.getfield 154, 3) := by decide +kernel
theorem dX7_weighOdds_19 : decode cX7_weighOdds 19 = .ok (.ishl, 1) := by decide +kernel
theorem dX7_weighOdds_20 : decode cX7_weighOdds 20 = .ok (.if_icmp .ge 60, 3) := by decide +kernel
theorem dX7_weighOdds_23 : decode cX7_weighOdds 23 = .ok (.iload_n 1, 1) := by decide +kernel
theorem dX7_weighOdds_24 : decode cX7_weighOdds 24 = .ok (.aload_n 0, 1) := by decide +kernel
theorem dX7_weighOdds_25 : decode cX7_weighOdds 25 = .ok (.getfield 51, 3) := by decide +kernel
theorem dX7_weighOdds_28 : decode cX7_weighOdds 28 = .ok (.arraylength, 1) := by decide +kernel
theorem dX7_weighOdds_29 : decode cX7_weighOdds 29 = .ok (.if_icmp .ge 51, 3) := by decide +kernel
theorem dX7_weighOdds_32 : decode cX7_weighOdds 32 = .ok (.aload_n 0, 1) := by decide +kernel
theorem dX7_weighOdds_33 : decode cX7_weighOdds 33 = .ok (.getfield 44, 3) := by decide +kernel
theorem dX7_weighOdds_36 : decode cX7_weighOdds 36 = .ok (.aload_n 0, 1) := by decide +kernel
theorem dX7_weighOdds_37 : decode cX7_weighOdds 37 = .ok (.getfield 26, 3) := by decide +kernel
theorem dX7_weighOdds_40 : decode cX7_weighOdds 40 = .ok (.aload_n 0, 1) := by decide +kernel
theorem dX7_weighOdds_41 : decode cX7_weighOdds 41 = .ok (.getfield 26, 3) := by decide +kernel
theorem dX7_weighOdds_44 : decode cX7_weighOdds 44 = .ok (.getfield 129, 3) := by decide +kernel
theorem dX7_weighOdds_47 : decode cX7_weighOdds 47 = .ok (.iload_n 1, 1) := by decide +kernel
theorem dX7_weighOdds_48 : decode cX7_weighOdds 48 = .ok (.iconst (-1), 1) := by decide +kernel
theorem dX7_weighOdds_49 : decode cX7_weighOdds 49 = .ok (.ixor, 1) := by decide +kernel
theorem dX7_weighOdds_50 : decode cX7_weighOdds 50 = .ok (.iconst 0, 1) := by decide +kernel
theorem dX7_weighOdds_51 : decode cX7_weighOdds 51 = .ok (.invokevirtual 233, 3) := by decide +kernel
theorem dX7_weighOdds_54 : decode cX7_weighOdds 54 = .ok (.aload_n 0, 1) := by decide +kernel
theorem dX7_weighOdds_55 : decode cX7_weighOdds 55 = .ok (.getfield 51, 3) := by decide +kernel
theorem dX7_weighOdds_58 : decode cX7_weighOdds 58 = .ok (.iload_n 1, 1) := by decide +kernel
theorem dX7_weighOdds_59 : decode cX7_weighOdds 59 = .ok (.aload_n 0, 1) := by decide +kernel
theorem dX7_weighOdds_60 : decode cX7_weighOdds 60 = .ok (.getfield 44, 3) := by decide +kernel
theorem dX7_weighOdds_63 : decode cX7_weighOdds 63 = .ok (.aload_n 0, 1) := by decide +kernel
theorem dX7_weighOdds_64 : decode cX7_weighOdds 64 = .ok (.getfield 26, 3) := by decide +kernel
theorem dX7_weighOdds_67 : decode cX7_weighOdds 67 = .ok (.getfield 192, 3) := by decide +kernel
theorem dX7_weighOdds_70 : decode cX7_weighOdds 70 = .ok (.invokevirtual 285, 3) := by decide +kernel
theorem dX7_weighOdds_73 : decode cX7_weighOdds 73 = .ok (.iastore, 1) := by decide +kernel
theorem dX7_weighOdds_74 : decode cX7_weighOdds 74 = .ok (.iinc 1 1, 3) := by decide +kernel
theorem dX7_weighOdds_77 : decode cX7_weighOdds 77 = .ok (.goto (-67), 3) := by decide +kernel
theorem dX7_weighOdds_80 : decode cX7_weighOdds 80 = .ok (.aload_n 0, 1) := by decide +kernel
theorem dX7_weighOdds_81 : decode cX7_weighOdds 81 = .ok (.iconst 1, 1) := by decide +kernel
theorem dX7_weighOdds_82 : decode cX7_weighOdds 82 = .ok (.putfield 71, 3) := by decide +kernel
theorem dX7_weighOdds_85 : decode cX7_weighOdds 85 = .ok (.return_, 1) := by decide +kernel
set_option maxRecDepth 20000 in
theorem m_X7_weighOdds {h : Hp}  {u : Hp} (hu : f_X7_weighOdds h = some u) : Ct yX7_weighOdds cX7_weighOdds 2 none 4 [.ref 0] h (eV u) := by
  refine ct_of eV hu (by decide) (Nat.le_of_ble_eq_true rfl) (fun κ hn C E => ?_)
  have n1 : 1 < kn κ := by rw [hn]; decide
  unfold f_X7_weighOdds
  show Xz κ _ 0 [(0, .ref 0)] [] h
  refine x_aload_n 1 C dX7_weighOdds_0 0 rfl rfl rfl ?_
  refine x_getI 4 C dX7_weighOdds_1 fl_X7_71 sk_0 rfl rfl ?_
  refine x_if_eq 7 8 C dX7_weighOdds_4 (by decide) rfl (fun _ => ?_) (fun _ => ?_)
  · refine x_iconst 9 C dX7_weighOdds_8 ci_0 rfl ?_
    refine x_istore_n 10 [(1, .int (0 : Int32)), (0, .ref 0)] C dX7_weighOdds_9 n1 rfl rfl rfl ?_
    refine x_ls [1, 0] rfl (x_fx2 (ls := fun h1 x2 => [(0, .ref 0), (1, .int x2)]) (st := fun h1 x2 => []) (hh := fun h1 x2 => h1) (fun s1 J1 h1 x2 => ?_))
    refine x_iload_n 11 C dX7_weighOdds_10 1 rfl rfl rfl ?_
    refine x_iconst 12 C dX7_weighOdds_11 ci_1 rfl ?_
    refine x_aload_n 13 C dX7_weighOdds_12 0 rfl rfl rfl ?_
    refine x_getR (c := 5) 16 C dX7_weighOdds_13 fl_X7_26 sk_0 rfl sr_0_2 rfl ?_
    refine x_getI 19 C dX7_weighOdds_16 fl_X7_154 sk_5 rfl rfl ?_
    refine x_ishl 20 C dX7_weighOdds_19 rfl ?_
    refine x_icmp_ge 23 80 C dX7_weighOdds_20 (by decide) rfl (fun _ => ?_) (fun _ => ?_)
    · refine x_aload_n 81 C dX7_weighOdds_80 0 rfl rfl rfl ?_
      refine x_iconst 82 C dX7_weighOdds_81 ci_1 rfl ?_
      refine x_put 85 C dX7_weighOdds_82 fp_X7_71 sk_0 rfl rfl rfl rfl (fun h3 => ?_)
      exact x_vret C E dX7_weighOdds_85 rfl
    · refine x_iload_n 24 C dX7_weighOdds_23 1 rfl rfl rfl ?_
      refine x_aload_n 25 C dX7_weighOdds_24 0 rfl rfl rfl ?_
      refine x_getR (c := 56) 28 C dX7_weighOdds_25 fl_X7_51 sk_0 rfl sr_0_7 rfl ?_
      refine x_alen 29 C dX7_weighOdds_28 sk_56 sl_56 rfl ?_
      refine x_icmp_ge 32 80 C dX7_weighOdds_29 (by decide) rfl (fun _ => ?_) (fun _ => ?_)
      · refine x_aload_n 81 C dX7_weighOdds_80 0 rfl rfl rfl ?_
        refine x_iconst 82 C dX7_weighOdds_81 ci_1 rfl ?_
        refine x_put 85 C dX7_weighOdds_82 fp_X7_71 sk_0 rfl rfl rfl rfl (fun h4 => ?_)
        exact x_vret C E dX7_weighOdds_85 rfl
      · refine x_aload_n 33 C dX7_weighOdds_32 0 rfl rfl rfl ?_
        refine x_getR (c := 36) 36 C dX7_weighOdds_33 fl_X7_44 sk_0 rfl sr_0_5 rfl ?_
        refine x_aload_n 37 C dX7_weighOdds_36 0 rfl rfl rfl ?_
        refine x_getR (c := 5) 40 C dX7_weighOdds_37 fl_X7_26 sk_0 rfl sr_0_2 rfl ?_
        refine x_aload_n 41 C dX7_weighOdds_40 0 rfl rfl rfl ?_
        refine x_getR (c := 5) 44 C dX7_weighOdds_41 fl_X7_26 sk_0 rfl sr_0_2 rfl ?_
        refine x_getR (c := 9) 47 C dX7_weighOdds_44 fl_X7_129 sk_5 rfl sr_5_3 rfl ?_
        refine x_iload_n 48 C dX7_weighOdds_47 1 rfl rfl rfl ?_
        refine x_iconst 49 C dX7_weighOdds_48 ci_m1 rfl ?_
        refine x_ixor 50 C dX7_weighOdds_49 rfl ?_
        refine x_iconst 51 C dX7_weighOdds_50 ci_0 rfl ?_
        refine x_cvV 54 [.ref 5, .ref 9, .int (x2 ^^^ (-1 : Int32)), .int (0 : Int32)] [] C 3 dX7_weighOdds_51 v_X7_233 (fun u hu => m_X2_play sk_36 sk_9 hu) rfl sk_36 rfl (Nat.le_of_ble_eq_true rfl) (Nat.le_of_ble_eq_true rfl) rfl (fun h5 => ?_)
        refine x_aload_n 55 C dX7_weighOdds_54 0 rfl rfl rfl ?_
        refine x_getR (c := 56) 58 C dX7_weighOdds_55 fl_X7_51 sk_0 rfl sr_0_7 rfl ?_
        refine x_iload_n 59 C dX7_weighOdds_58 1 rfl rfl rfl ?_
        refine x_aload_n 60 C dX7_weighOdds_59 0 rfl rfl rfl ?_
        refine x_getR (c := 36) 63 C dX7_weighOdds_60 fl_X7_44 sk_0 rfl sr_0_5 rfl ?_
        refine x_aload_n 64 C dX7_weighOdds_63 0 rfl rfl rfl ?_
        refine x_getR (c := 5) 67 C dX7_weighOdds_64 fl_X7_26 sk_0 rfl sr_0_2 rfl ?_
        refine x_getI 70 C dX7_weighOdds_67 fl_X7_192 sk_5 rfl rfl ?_
        refine x_cvi 73 [.int (h5.1 5 7)] [.int x2, .ref 56] C 0 dX7_weighOdds_70 v_X7_285 (fun u hu => m_X2_bitsOfOver sk_36 hu) rfl sk_36 rfl (Nat.le_of_ble_eq_true rfl) (Nat.le_of_ble_eq_true rfl) rfl (fun x6 => ?_)
        refine x_iast 74 C dX7_weighOdds_73 sk_56 sl_56 rfl (fun h7 => ?_)
        refine x_iinc 77 (fun x8 => [(1, .int x8), (0, .ref 0)]) C dX7_weighOdds_74 1 rfl ci_1 n1 (fun _ => rfl) rfl (fun x8 => ?_)
        refine x_goto 10 C dX7_weighOdds_77 (by decide) ?_
        exact x_ls [1, 0] rfl (J1 h7 x8)
  · exact x_vret C E dX7_weighOdds_7 rfl
