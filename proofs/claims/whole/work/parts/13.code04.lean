def f_X2_play (h : Hp) (S : Nat) (a2 : Nat) (a3 : Int32) (a4 : Int32) : Option Hp :=
  nm (jmin (h.1 5 7) (6 : Int32)) fun x1 =>
  bdv (f_X2_prepare h S x1) fun h2 =>
  bdv (f_X6_gather h2 (S + 1) a3) fun h3 =>
  fx3 FU (fun s1 (h4 : Hp) (x5 : Int32) (x6 : Int32) =>
    if (24 : Int32) ≤ x6 then (
      some h4)
    else (
      lt1 (fun (x7 : Int32) =>
        lt1 (fun (x8 : Int32) =>
          nm (h4.1 S 12) fun x9 =>
          bdv (f_X2_playBeat h4 S a2 x6 x8) fun h10 =>
          lt1 (fun (x11 : Int32) =>
            lt1 (fun (h12 : Hp) =>
              nm (x6 + (1 : Int32)) fun x13 =>
              s1 h12 x11 x13) fun k5 =>
            if a4 = 0 then (
              if ((h10.1 S 13) + (h10.1 S 14)) < x1 then (
                k5 h10)
              else (
                some h10))
            else (
              bdv (f_X2_noteBeat h10 S x6 x8 x1) fun h14 =>
              k5 h14)) fun k4 =>
          if (h10.1 S 12) ≤ x9 then (
            k4 (0 : Int32))
          else (
            k4 (1 : Int32))) fun k3 =>
        if x5 = 0 then (
          k3 (0 : Int32))
        else (
          k3 x7)) fun k2 =>
      if (x6 - x6 / (2 : Int32) * (2 : Int32)) = 0 then (
        k2 ((h4.1 5 10) / (2 : Int32)))
      else (
        k2 (0 - ((h4.1 5 10) / (2 : Int32)))))) h3 (0 : Int32) (0 : Int32)
theorem dX2_play_0 : decode cX2_play 0 = .ok (.aload_n 1, 1) := by decide +kernel
theorem dX2_play_1 : decode cX2_play 1 = .ok (.getfield 66, 3) := by decide +kernel
theorem dX2_play_4 : decode cX2_play 4 = .ok (.bipush 6, 2) := by decide +kernel
theorem dX2_play_6 : decode cX2_play 6 = .ok (.invokestatic 71, 3) := by decide +kernel
theorem dX2_play_9 : decode cX2_play 9 = .ok (.istore 5, 2) := by decide +kernel
theorem dX2_play_11 : decode cX2_play 11 = .ok (.aload_n 0, 1) := by decide +kernel
theorem dX2_play_12 : decode cX2_play 12 = .ok (.aload_n 1, 1) := by decide +kernel
theorem dX2_play_13 : decode cX2_play 13 = .ok (.iload 5, 2) := by decide +kernel
theorem dX2_play_15 : decode cX2_play 15 = .ok (.invokevirtual 77, 3) := by decide +kernel
theorem dX2_play_18 : decode cX2_play 18 = .ok (.aload_n 0, 1) := by decide +kernel
theorem dX2_play_19 : decode cX2_play 19 = .ok (.getfield 12, 3) := by decide +kernel
theorem dX2_play_22 : decode cX2_play 22 = .ok (.aload_n 1, 1) := by decide +kernel
theorem dX2_play_23 : decode cX2_play 23 = .ok (.iload_n 3, 1) := by decide +kernel
theorem dX2_play_24 : decode cX2_play 24 = .ok (.invokevirtual 81, 3) := by decide +kernel
theorem dX2_play_27 : decode cX2_play 27 = .ok (.iconst 0, 1) := by decide +kernel
theorem dX2_play_28 : decode cX2_play 28 = .ok (.istore 6, 2) := by decide +kernel
theorem dX2_play_30 : decode cX2_play 30 = .ok (.iconst 0, 1) := by decide +kernel
theorem dX2_play_31 : decode cX2_play 31 = .ok (.istore 7, 2) := by decide +kernel
theorem dX2_play_33 : decode cX2_play 33 = .ok (.iload 7, 2) := by decide +kernel
theorem dX2_play_35 : decode cX2_play 35 = .ok (.bipush 24, 2) := by decide +kernel
theorem dX2_play_37 : decode cX2_play 37 = .ok (.if_icmp .ge 114, 3) := by decide +kernel
theorem dX2_play_40 : decode cX2_play 40 = .ok (.iload 7, 2) := by decide +kernel
theorem dX2_play_42 : decode cX2_play 42 = .ok (.iconst 2, 1) := by decide +kernel
theorem dX2_play_43 : decode cX2_play 43 = .ok (.irem, 1) := by decide +kernel
theorem dX2_play_44 : decode cX2_play 44 = .ok (.ifCond .ne 12, 3) := by decide +kernel
theorem dX2_play_47 : decode cX2_play 47 = .ok (.aload_n 1, 1) := by decide +kernel
theorem dX2_play_48 : decode cX2_play 48 = .ok (.getfield 84, 3) := by decide +kernel
theorem dX2_play_51 : decode cX2_play 51 = .ok (.iconst 2, 1) := by decide +kernel
theorem dX2_play_52 : decode cX2_play 52 = .ok (.idiv, 1) := by decide +kernel
theorem dX2_play_53 : decode cX2_play 53 = .ok (.goto 10, 3) := by decide +kernel
theorem dX2_play_56 : decode cX2_play 56 = .ok (.aload_n 1, 1) := by decide +kernel
theorem dX2_play_57 : decode cX2_play 57 = .ok (.getfield 84, 3) := by decide +kernel
theorem dX2_play_60 : decode cX2_play 60 = .ok (.iconst 2, 1) := by decide +kernel
theorem dX2_play_61 : decode cX2_play 61 = .ok (.idiv, 1) := by decide +kernel
theorem dX2_play_62 : decode cX2_play 62 = .ok (.ineg, 1) := by decide +kernel
theorem dX2_play_63 : decode cX2_play 63 = .ok (.istore 8, 2) := by decide +kernel
theorem dX2_play_65 : decode cX2_play 65 = .ok (.iload 6, 2) := by decide +kernel
theorem dX2_play_67 : decode cX2_play 67 = .ok (.ifCond .eq 8, 3) := by decide +kernel
theorem dX2_play_70 : decode cX2_play 70 = .ok (.iload 8, 2) := by decide +kernel
theorem dX2_play_72 : decode cX2_play 72 = .ok (.goto 4, 3) := by decide +kernel
theorem dX2_play_75 : decode cX2_play 75 = .ok (.iconst 0, 1) := by decide +kernel
theorem dX2_play_76 : decode cX2_play 76 = .ok (.istore 9, 2) := by decide +kernel
theorem dX2_play_78 : decode cX2_play 78 = .ok (.aload_n 0, 1) := by decide +kernel
theorem dX2_play_79 : decode cX2_play 79 = .ok (.getfield 57, 3) := by decide +kernel
theorem dX2_play_82 : decode cX2_play 82 = .ok (.istore 10, 2) := by decide +kernel
theorem dX2_play_84 : decode cX2_play 84 = .ok (.aload_n 0, 1) := by decide +kernel
theorem dX2_play_85 : decode cX2_play 85 = .ok (.aload_n 1, 1) := by decide +kernel
theorem dX2_play_86 : decode cX2_play 86 = .ok (.aload_n 2, 1) := by decide +kernel
theorem dX2_play_87 : decode cX2_play 87 = .ok (.iload 7, 2) := by decide +kernel
theorem dX2_play_89 : decode cX2_play 89 = .ok (.iload 9, 2) := by decide +kernel
theorem dX2_play_91 : decode cX2_play 91 = .ok (.invokevirtual 87, 3) := by decide +kernel
theorem dX2_play_94 : decode cX2_play 94 = .ok (.aload_n 0, 1) := by decide +kernel
theorem dX2_play_95 : decode cX2_play 95 = .ok (.getfield 57, 3) := by decide +kernel
theorem dX2_play_98 : decode cX2_play 98 = .ok (.iload 10, 2) := by decide +kernel
theorem dX2_play_100 : decode cX2_play 100 = .ok (.if_icmp .le 7, 3) := by decide +kernel
theorem dX2_play_103 : decode cX2_play 103 = .ok (.iconst 1, 1) := by decide +kernel
theorem dX2_play_104 : decode cX2_play 104 = .ok (.goto 4, 3) := by decide +kernel
theorem dX2_play_107 : decode cX2_play 107 = .ok (.iconst 0, 1) := by decide +kernel
theorem dX2_play_108 : decode cX2_play 108 = .ok (.istore 6, 2) := by decide +kernel
theorem dX2_play_110 : decode cX2_play 110 = .ok (.iload 4, 2) := by decide +kernel
theorem dX2_play_112 : decode cX2_play 112 = .ok (.ifCond .eq 16, 3) := by decide +kernel
theorem dX2_play_115 : decode cX2_play 115 = .ok (.aload_n 0, 1) := by decide +kernel
theorem dX2_play_116 : decode cX2_play 116 = .ok (.iload 7, 2) := by decide +kernel
theorem dX2_play_118 : decode cX2_play 118 = .ok (.iload 9, 2) := by decide +kernel
theorem dX2_play_120 : decode cX2_play 120 = .ok (.iload 5, 2) := by decide +kernel
theorem dX2_play_122 : decode cX2_play 122 = .ok (.invokevirtual 91, 3) := by decide +kernel
theorem dX2_play_125 : decode cX2_play 125 = .ok (.goto 20, 3) := by decide +kernel
theorem dX2_play_128 : decode cX2_play 128 = .ok (.aload_n 0, 1) := by decide +kernel
theorem dX2_play_129 : decode cX2_play 129 = .ok (.getfield 60, 3) := by decide +kernel
theorem dX2_play_132 : decode cX2_play 132 = .ok (.aload_n 0, 1) := by decide +kernel
theorem dX2_play_133 : decode cX2_play 133 = .ok (.getfield 63, 3) := by decide +kernel
theorem dX2_play_136 : decode cX2_play 136 = .ok (.iadd, 1) := by decide +kernel
theorem dX2_play_137 : decode cX2_play 137 = .ok (.iload 5, 2) := by decide +kernel
theorem dX2_play_139 : decode cX2_play 139 = .ok (.if_icmp .lt 6, 3) := by decide +kernel
theorem dX2_play_142 : decode cX2_play 142 = .ok (.goto 9, 3) := by decide +kernel
theorem dX2_play_145 : decode cX2_play 145 = .ok (.iinc 7 1, 3) := by decide +kernel
theorem dX2_play_148 : decode cX2_play 148 = .ok (.goto (-115), 3) := by decide +kernel
theorem dX2_play_151 : decode cX2_play 151 = .ok (.return_, 1) := by decide +kernel
set_option maxRecDepth 20000 in
theorem m_X2_play {h : Hp} {S : Nat} {a2 : Nat} {a3 : Int32} {a4 : Int32} (hS : sk S = 2) (ha2 : sk a2 = 9) {u : Hp} (hu : f_X2_play h S a2 a3 a4 = some u) : Ct yX2_play cX2_play 11 none 3 [.ref S, .ref 5, .ref a2, .int a3, .int a4] h (eV u) := by
  refine ct_of eV hu (by decide) (Nat.le_of_ble_eq_true rfl) (fun κ hn C E => ?_)
  have n5 : 5 < kn κ := by rw [hn]; decide
  have n6 : 6 < kn κ := by rw [hn]; decide
  have n7 : 7 < kn κ := by rw [hn]; decide
  have n8 : 8 < kn κ := by rw [hn]; decide
  have n9 : 9 < kn κ := by rw [hn]; decide
  have n10 : 10 < kn κ := by rw [hn]; decide
  unfold f_X2_play
  show Xz κ _ 0 [(0, .ref S), (1, .ref 5), (2, .ref a2), (3, .int a3), (4, .int a4)] [] h
  refine x_aload_n 1 C dX2_play_0 1 rfl rfl rfl ?_
  refine x_getI 4 C dX2_play_1 fl_X2_66 sk_5 rfl rfl ?_
  refine x_bipush 6 C dX2_play_4 cb_6 rfl ?_
  refine x_mmin 9 C dX2_play_6 mw_X2_71 w_st_min w_in_Math w_co_min (Nat.le_of_ble_eq_true rfl) (Nat.le_of_ble_eq_true rfl) rfl ?_
  refine x_ni (fun x1 => ?_)
  refine x_istore 11 [(5, .int x1), (0, .ref S), (1, .ref 5), (2, .ref a2), (3, .int a3), (4, .int a4)] C dX2_play_9 n5 rfl rfl ?_
  refine x_aload_n 12 C dX2_play_11 1 rfl rfl rfl ?_
  refine x_aload_n 13 C dX2_play_12 2 rfl rfl rfl ?_
  refine x_iload 15 C dX2_play_13 0 rfl rfl ?_
  refine x_cvV 18 [.ref 5, .int x1] [] C 0 dX2_play_15 v_X2_77 (fun u hu => m_X2_prepare hS hu) rfl hS rfl (Nat.le_of_ble_eq_true rfl) (Nat.le_of_ble_eq_true rfl) rfl (fun h2 => ?_)
  refine x_aload_n 19 C dX2_play_18 1 rfl rfl rfl ?_
  refine x_getR (c := (S + 1)) 22 C dX2_play_19 fl_X2_12 hS rfl (of_2_0 hS) rfl ?_
  refine x_aload_n 23 C dX2_play_22 2 rfl rfl rfl ?_
  refine x_iload_n 24 C dX2_play_23 4 rfl rfl rfl ?_
  refine x_cvV 27 [.ref 5, .int a3] [] C 1 dX2_play_24 v_X2_81 (fun u hu => m_X6_gather (ok_2_0 hS) hu) rfl (ok_2_0 hS) rfl (Nat.le_of_ble_eq_true rfl) (Nat.le_of_ble_eq_true rfl) rfl (fun h3 => ?_)
  refine x_iconst 28 C dX2_play_27 ci_0 rfl ?_
  refine x_istore 30 [(6, .int (0 : Int32)), (5, .int x1), (0, .ref S), (1, .ref 5), (2, .ref a2), (3, .int a3), (4, .int a4)] C dX2_play_28 n6 rfl rfl ?_
  refine x_iconst 31 C dX2_play_30 ci_0 rfl ?_
  refine x_istore 33 [(7, .int (0 : Int32)), (6, .int (0 : Int32)), (5, .int x1), (0, .ref S), (1, .ref 5), (2, .ref a2), (3, .int a3), (4, .int a4)] C dX2_play_31 n7 rfl rfl ?_
  refine x_ls [3, 4, 5, 7, 2, 1, 0] rfl (x_fx3 (ls := fun h4 x5 x6 => [(0, .ref S), (1, .ref 5), (2, .ref a2), (4, .int a4), (5, .int x1), (6, .int x5), (7, .int x6)]) (st := fun h4 x5 x6 => []) (hh := fun h4 x5 x6 => h4) (fun s1 J1 h4 x5 x6 => ?_))
  refine x_iload 35 C dX2_play_33 6 rfl rfl ?_
  refine x_bipush 37 C dX2_play_35 cb_24 rfl ?_
  refine x_icmp_ge 40 151 C dX2_play_37 (by decide) rfl (fun _ => ?_) (fun _ => ?_)
  · exact x_vret C E dX2_play_151 rfl
  · refine x_iload 42 C dX2_play_40 6 rfl rfl ?_
    refine x_iconst 43 C dX2_play_42 ci_2 rfl ?_
    refine x_irem 44 C dX2_play_43 nz_2 rfl ?_
    refine x_lt1 (q := 63) (ls := fun x7 => [(0, .ref S), (1, .ref 5), (2, .ref a2), (4, .int a4), (5, .int x1), (6, .int x5), (7, .int x6)]) (st := fun x7 => [.int x7]) (hh := fun x7 => h4) (fun x7 => ?_) (fun k2 J2 => ?_)
    · refine x_istore 65 [(8, .int x7), (0, .ref S), (1, .ref 5), (2, .ref a2), (4, .int a4), (5, .int x1), (6, .int x5), (7, .int x6)] C dX2_play_63 n8 rfl rfl ?_
      refine x_iload 67 C dX2_play_65 6 rfl rfl ?_
      refine x_lt1 (q := 76) (ls := fun x8 => [(0, .ref S), (1, .ref 5), (2, .ref a2), (4, .int a4), (5, .int x1), (7, .int x6)]) (st := fun x8 => [.int x8]) (hh := fun x8 => h4) (fun x8 => ?_) (fun k3 J3 => ?_)
      · refine x_istore 78 [(9, .int x8), (0, .ref S), (1, .ref 5), (2, .ref a2), (4, .int a4), (5, .int x1), (7, .int x6)] C dX2_play_76 n9 rfl rfl ?_
        refine x_aload_n 79 C dX2_play_78 1 rfl rfl rfl ?_
        refine x_getI 82 C dX2_play_79 fl_X2_57 hS rfl rfl ?_
        refine x_ni (fun x9 => ?_)
        refine x_istore 84 [(10, .int x9), (9, .int x8), (0, .ref S), (1, .ref 5), (2, .ref a2), (4, .int a4), (5, .int x1), (7, .int x6)] C dX2_play_82 n10 rfl rfl ?_
        refine x_aload_n 85 C dX2_play_84 2 rfl rfl rfl ?_
        refine x_aload_n 86 C dX2_play_85 3 rfl rfl rfl ?_
        refine x_aload_n 87 C dX2_play_86 4 rfl rfl rfl ?_
        refine x_iload 89 C dX2_play_87 7 rfl rfl ?_
        refine x_iload 91 C dX2_play_89 1 rfl rfl ?_
        refine x_cvV 94 [.ref 5, .ref a2, .int x6, .int x8] [] C 2 dX2_play_91 v_X2_87 (fun u hu => m_X2_playBeat hS ha2 hu) rfl hS rfl (Nat.le_of_ble_eq_true rfl) (Nat.le_of_ble_eq_true rfl) rfl (fun h10 => ?_)
        refine x_aload_n 95 C dX2_play_94 2 rfl rfl rfl ?_
        refine x_getI 98 C dX2_play_95 fl_X2_57 hS rfl rfl ?_
        refine x_iload 100 C dX2_play_98 0 rfl rfl ?_
        refine x_lt1 (q := 108) (ls := fun x11 => [(0, .ref S), (1, .ref 5), (2, .ref a2), (4, .int a4), (5, .int x1), (7, .int x6), (9, .int x8)]) (st := fun x11 => [.int x11]) (hh := fun x11 => h10) (fun x11 => ?_) (fun k4 J4 => ?_)
        · refine x_istore 110 [(6, .int x11), (0, .ref S), (1, .ref 5), (2, .ref a2), (4, .int a4), (5, .int x1), (7, .int x6), (9, .int x8)] C dX2_play_108 n6 rfl rfl ?_
          refine x_iload 112 C dX2_play_110 4 rfl rfl ?_
          refine x_lt1 (q := 145) (ls := fun h12 => [(0, .ref S), (1, .ref 5), (2, .ref a2), (4, .int a4), (5, .int x1), (6, .int x11), (7, .int x6)]) (st := fun h12 => []) (hh := fun h12 => h12) (fun h12 => ?_) (fun k5 J5 => ?_)
          · refine x_iinc 148 (fun x13 => [(7, .int x13), (0, .ref S), (1, .ref 5), (2, .ref a2), (4, .int a4), (5, .int x1), (6, .int x11)]) C dX2_play_145 6 rfl ci_1 n7 (fun _ => rfl) rfl (fun x13 => ?_)
            refine x_goto 33 C dX2_play_148 (by decide) ?_
            exact x_ls [1, 2, 3, 4, 5, 6, 0] rfl (J1 h12 x11 x13)
          refine x_if_eq 115 128 C dX2_play_112 (by decide) rfl (fun _ => ?_) (fun _ => ?_)
          · refine x_aload_n 129 C dX2_play_128 1 rfl rfl rfl ?_
            refine x_getI 132 C dX2_play_129 fl_X2_60 hS rfl rfl ?_
            refine x_aload_n 133 C dX2_play_132 1 rfl rfl rfl ?_
            refine x_getI 136 C dX2_play_133 fl_X2_63 hS rfl rfl ?_
            refine x_iadd 137 C dX2_play_136 rfl ?_
            refine x_iload 139 C dX2_play_137 5 rfl rfl ?_
            refine x_icmp_lt 142 145 C dX2_play_139 (by decide) rfl (fun _ => ?_) (fun _ => ?_)
            · exact x_ls [1, 2, 3, 4, 5, 0, 6] rfl (J5 h10)
            · refine x_goto 151 C dX2_play_142 (by decide) ?_
              exact x_vret C E dX2_play_151 rfl
          · refine x_aload_n 116 C dX2_play_115 1 rfl rfl rfl ?_
            refine x_iload 118 C dX2_play_116 6 rfl rfl ?_
            refine x_iload 120 C dX2_play_118 7 rfl rfl ?_
            refine x_iload 122 C dX2_play_120 5 rfl rfl ?_
            refine x_cvV 125 [.int x6, .int x8, .int x1] [] C 1 dX2_play_122 v_X2_91 (fun u hu => m_X2_noteBeat hS hu) rfl hS rfl (Nat.le_of_ble_eq_true rfl) (Nat.le_of_ble_eq_true rfl) rfl (fun h14 => ?_)
            refine x_goto 145 C dX2_play_125 (by decide) ?_
            exact x_ls [1, 2, 3, 4, 5, 0, 6] rfl (J5 h14)
        refine x_icmp_le 103 107 C dX2_play_100 (by decide) rfl (fun _ => ?_) (fun _ => ?_)
        · refine x_iconst 108 C dX2_play_107 ci_0 rfl ?_
          exact x_ls [2, 3, 4, 5, 6, 7, 1] rfl (J4 (0 : Int32))
        · refine x_iconst 104 C dX2_play_103 ci_1 rfl ?_
          refine x_goto 108 C dX2_play_104 (by decide) ?_
          exact x_ls [2, 3, 4, 5, 6, 7, 1] rfl (J4 (1 : Int32))
      refine x_if_eq 70 75 C dX2_play_67 (by decide) rfl (fun _ => ?_) (fun _ => ?_)
      · refine x_iconst 76 C dX2_play_75 ci_0 rfl ?_
        exact x_ls [1, 2, 3, 4, 5, 7] rfl (J3 (0 : Int32))
      · refine x_iload 72 C dX2_play_70 0 rfl rfl ?_
        refine x_goto 76 C dX2_play_72 (by decide) ?_
        exact x_ls [1, 2, 3, 4, 5, 7] rfl (J3 x7)
    refine x_if_ne 47 56 C dX2_play_44 (by decide) rfl (fun _ => ?_) (fun _ => ?_)
    · refine x_aload_n 57 C dX2_play_56 1 rfl rfl rfl ?_
      refine x_getI 60 C dX2_play_57 fl_X2_84 sk_5 rfl rfl ?_
      refine x_iconst 61 C dX2_play_60 ci_2 rfl ?_
      refine x_idiv 62 C dX2_play_61 nz_2 rfl ?_
      refine x_ineg 63 C dX2_play_62 rfl ?_
      exact x_ls [0, 1, 2, 3, 4, 5, 6] rfl (J2 (0 - ((h4.1 5 10) / (2 : Int32))))
    · refine x_aload_n 48 C dX2_play_47 1 rfl rfl rfl ?_
      refine x_getI 51 C dX2_play_48 fl_X2_84 sk_5 rfl rfl ?_
      refine x_iconst 52 C dX2_play_51 ci_2 rfl ?_
      refine x_idiv 53 C dX2_play_52 nz_2 rfl ?_
      refine x_goto 63 C dX2_play_53 (by decide) ?_
      exact x_ls [0, 1, 2, 3, 4, 5, 6] rfl (J2 ((h4.1 5 10) / (2 : Int32)))

def f_X2_bitsOfOver (h : Hp) (S : Nat) (a1 : Int32) : Option Int32 :=
  fx2 FU (fun s1 (x1 : Int32) (x2 : Int32) =>
    if a1 ≤ x2 then (
      some x1)
    else (
      if (6 : Int32) ≤ x2 then (
        some x1)
      else (
        ck x2 6 (
          lt1 (fun (x3 : Int32) =>
            nm (x1 ||| x3) fun x4 =>
            nm (x2 + (1 : Int32)) fun x5 =>
            s1 x4 x5) fun k2 =>
          if (ia h (S + 10) x2) = (2 : Int32) then (
            k2 ((1 : Int32) <<< (x2 &&& 31)))
          else (
            k2 (0 : Int32)))))) (0 : Int32) (0 : Int32)
theorem dX2_bitsOfOver_0 : decode cX2_bitsOfOver 0 = .ok (.iconst 0, 1) := by decide +kernel
theorem dX2_bitsOfOver_1 : decode cX2_bitsOfOver 1 = .ok (.istore_n 2, 1) := by decide +kernel
theorem dX2_bitsOfOver_2 : decode cX2_bitsOfOver 2 = .ok (.iconst 0, 1) := by decide +kernel
theorem dX2_bitsOfOver_3 : decode cX2_bitsOfOver 3 = .ok (.istore_n 3, 1) := by decide +kernel
theorem dX2_bitsOfOver_4 : decode cX2_bitsOfOver 4 = .ok (.iload_n 3, 1) := by decide +kernel
theorem dX2_bitsOfOver_5 : decode cX2_bitsOfOver 5 = .ok (.iload_n 1, 1) := by decide +kernel
theorem dX2_bitsOfOver_6 : decode cX2_bitsOfOver 6 = .ok (.if_icmp .ge 35, 3) := by decide +kernel
theorem dX2_bitsOfOver_9 : decode cX2_bitsOfOver 9 = .ok (.iload_n 3, 1) := by decide +kernel
theorem dX2_bitsOfOver_10 : decode cX2_bitsOfOver 10 = .ok (.bipush 6, 2) := by decide +kernel
theorem dX2_bitsOfOver_12 : decode cX2_bitsOfOver 12 = .ok (.if_icmp .ge 29, 3) := by decide +kernel
theorem dX2_bitsOfOver_15 : decode cX2_bitsOfOver 15 = .ok (.iload_n 2, 1) := by decide +kernel
theorem dX2_bitsOfOver_16 : decode cX2_bitsOfOver 16 = .ok (.aload_n 0, 1) := by decide +kernel
theorem dX2_bitsOfOver_17 : decode cX2_bitsOfOver 17 = .ok (.getfield 25, 3) := by decide +kernel
theorem dX2_bitsOfOver_20 : decode cX2_bitsOfOver 20 = .ok (.iload_n 3, 1) := by decide +kernel
theorem dX2_bitsOfOver_21 : decode cX2_bitsOfOver 21 = .ok (.iaload, 1) := by decide +kernel
theorem dX2_bitsOfOver_22 : decode cX2_bitsOfOver 22 = .ok (.iconst 2, 1) := by decide +kernel
theorem dX2_bitsOfOver_23 : decode cX2_bitsOfOver 23 = .ok (.if_icmp .ne 9, 3) := by decide +kernel
theorem dX2_bitsOfOver_26 : decode cX2_bitsOfOver 26 = .ok (.iconst 1, 1) := by decide +kernel
theorem dX2_bitsOfOver_27 : decode cX2_bitsOfOver 27 = .ok (.iload_n 3, 1) := by decide +kernel
theorem dX2_bitsOfOver_28 : decode cX2_bitsOfOver 28 = .ok (.ishl, 1) := by decide +kernel
theorem dX2_bitsOfOver_29 : decode cX2_bitsOfOver 29 = .ok (.goto 4, 3) := by decide +kernel
theorem dX2_bitsOfOver_32 : decode cX2_bitsOfOver 32 = .ok (.iconst 0, 1) := by decide +kernel
theorem dX2_bitsOfOver_33 : decode cX2_bitsOfOver 33 = .ok (.ior, 1) := by decide +kernel
theorem dX2_bitsOfOver_34 : decode cX2_bitsOfOver 34 = .ok (.istore_n 2, 1) := by decide +kernel
theorem dX2_bitsOfOver_35 : decode cX2_bitsOfOver 35 = .ok (.iinc 3 1, 3) := by decide +kernel
theorem dX2_bitsOfOver_38 : decode cX2_bitsOfOver 38 = .ok (.goto (-34), 3) := by decide +kernel
theorem dX2_bitsOfOver_41 : decode cX2_bitsOfOver 41 = .ok (.iload_n 2, 1) := by decide +kernel
theorem dX2_bitsOfOver_42 : decode cX2_bitsOfOver 42 = .ok (.ireturn, 1) := by decide +kernel
set_option maxRecDepth 20000 in
theorem m_X2_bitsOfOver {h : Hp} {S : Nat} {a1 : Int32} (hS : sk S = 2) {u : Int32} (hu : f_X2_bitsOfOver h S a1 = some u) : Ct yX2_bitsOfOver cX2_bitsOfOver 4 (some .int) 0 [.ref S, .int a1] h ((rI h) u) := by
  refine ct_of (rI h) hu (by decide) (Nat.le_of_ble_eq_true rfl) (fun κ hn C E => ?_)
  have n2 : 2 < kn κ := by rw [hn]; decide
  have n3 : 3 < kn κ := by rw [hn]; decide
  unfold f_X2_bitsOfOver
  show Xz κ _ 0 [(0, .ref S), (1, .int a1)] [] h
  refine x_iconst 1 C dX2_bitsOfOver_0 ci_0 rfl ?_
  refine x_istore_n 2 [(2, .int (0 : Int32)), (0, .ref S), (1, .int a1)] C dX2_bitsOfOver_1 n2 rfl rfl rfl ?_
  refine x_iconst 3 C dX2_bitsOfOver_2 ci_0 rfl ?_
  refine x_istore_n 4 [(3, .int (0 : Int32)), (2, .int (0 : Int32)), (0, .ref S), (1, .int a1)] C dX2_bitsOfOver_3 n3 rfl rfl rfl ?_
  refine x_ls [2, 3, 1, 0] rfl (x_fx2 (ls := fun x1 x2 => [(0, .ref S), (1, .int a1), (2, .int x1), (3, .int x2)]) (st := fun x1 x2 => []) (hh := fun x1 x2 => h) (fun s1 J1 x1 x2 => ?_))
  refine x_iload_n 5 C dX2_bitsOfOver_4 3 rfl rfl rfl ?_
  refine x_iload_n 6 C dX2_bitsOfOver_5 1 rfl rfl rfl ?_
  refine x_icmp_ge 9 41 C dX2_bitsOfOver_6 (by decide) rfl (fun _ => ?_) (fun _ => ?_)
  · refine x_iload_n 42 C dX2_bitsOfOver_41 2 rfl rfl rfl ?_
    exact x_iret C E dX2_bitsOfOver_42 rfl
  · refine x_iload_n 10 C dX2_bitsOfOver_9 3 rfl rfl rfl ?_
    refine x_bipush 12 C dX2_bitsOfOver_10 cb_6 rfl ?_
    refine x_icmp_ge 15 41 C dX2_bitsOfOver_12 (by decide) rfl (fun _ => ?_) (fun _ => ?_)
    · refine x_iload_n 42 C dX2_bitsOfOver_41 2 rfl rfl rfl ?_
      exact x_iret C E dX2_bitsOfOver_42 rfl
    · refine x_iload_n 16 C dX2_bitsOfOver_15 2 rfl rfl rfl ?_
      refine x_aload_n 17 C dX2_bitsOfOver_16 0 rfl rfl rfl ?_
      refine x_getR (c := (S + 10)) 20 C dX2_bitsOfOver_17 fl_X2_25 hS rfl (of_2_2 hS) rfl ?_
      refine x_iload_n 21 C dX2_bitsOfOver_20 3 rfl rfl rfl ?_
      refine x_iald 22 C dX2_bitsOfOver_21 (ok_2_2 hS) (ol_2_2 hS) rfl ?_
      refine x_iconst 23 C dX2_bitsOfOver_22 ci_2 rfl ?_
      refine x_lt1 (q := 33) (ls := fun x3 => [(0, .ref S), (1, .int a1), (3, .int x2)]) (st := fun x3 => [.int x3, .int x1]) (hh := fun x3 => h) (fun x3 => ?_) (fun k2 J2 => ?_)
      · refine x_ior 34 C dX2_bitsOfOver_33 rfl ?_
        refine x_ni (fun x4 => ?_)
        refine x_istore_n 35 [(2, .int x4), (0, .ref S), (1, .int a1), (3, .int x2)] C dX2_bitsOfOver_34 n2 rfl rfl rfl ?_
        refine x_iinc 38 (fun x5 => [(3, .int x5), (2, .int x4), (0, .ref S), (1, .int a1)]) C dX2_bitsOfOver_35 3 rfl ci_1 n3 (fun _ => rfl) rfl (fun x5 => ?_)
        refine x_goto 4 C dX2_bitsOfOver_38 (by decide) ?_
        exact x_ls [2, 3, 1, 0] rfl (J1 x4 x5)
      refine x_icmp_ne 26 32 C dX2_bitsOfOver_23 (by decide) rfl (fun _ => ?_) (fun _ => ?_)
      · refine x_iconst 33 C dX2_bitsOfOver_32 ci_0 rfl ?_
        exact x_ls [0, 1, 3] rfl (J2 (0 : Int32))
      · refine x_iconst 27 C dX2_bitsOfOver_26 ci_1 rfl ?_
        refine x_iload_n 28 C dX2_bitsOfOver_27 3 rfl rfl rfl ?_
        refine x_ishl 29 C dX2_bitsOfOver_28 rfl ?_
        refine x_goto 33 C dX2_bitsOfOver_29 (by decide) ?_
        exact x_ls [0, 1, 3] rfl (J2 ((1 : Int32) <<< (x2 &&& 31)))

def f_X3_hasRoom (h : Hp) : Option Int32 :=
  if (8 : Int32) ≤ (h.1 13 3) then (
    some (0 : Int32))
  else (
    some (1 : Int32))
theorem dX3_hasRoom_0 : decode cX3_hasRoom 0 = .ok (.aload_n 0, 1) := by decide +kernel
theorem dX3_hasRoom_1 : decode cX3_hasRoom 1 = .ok (.getfield 21, 3) := by decide +kernel
theorem dX3_hasRoom_4 : decode cX3_hasRoom 4 = .ok (.bipush 8, 2) := by decide +kernel
theorem dX3_hasRoom_6 : decode cX3_hasRoom 6 = .ok (.if_icmp .ge 7, 3) := by decide +kernel
theorem dX3_hasRoom_9 : decode cX3_hasRoom 9 = .ok (.iconst 1, 1) := by decide +kernel
theorem dX3_hasRoom_10 : decode cX3_hasRoom 10 = .ok (.goto 4, 3) := by decide +kernel
theorem dX3_hasRoom_13 : decode cX3_hasRoom 13 = .ok (.iconst 0, 1) := by decide +kernel
theorem dX3_hasRoom_14 : decode cX3_hasRoom 14 = .ok (.ireturn, 1) := by decide +kernel
set_option maxRecDepth 20000 in
theorem m_X3_hasRoom {h : Hp}  {u : Int32} (hu : f_X3_hasRoom h = some u) : Ct yX3_hasRoom cX3_hasRoom 1 (some .boolean) 0 [.ref 13] h ((rI h) u) := by
  refine ct_of (rI h) hu (by decide) (Nat.le_of_ble_eq_true rfl) (fun κ hn C E => ?_)
  unfold f_X3_hasRoom
  show Xz κ _ 0 [(0, .ref 13)] [] h
  refine x_aload_n 1 C dX3_hasRoom_0 0 rfl rfl rfl ?_
  refine x_getI 4 C dX3_hasRoom_1 fl_X3_21 sk_13 rfl rfl ?_
  refine x_bipush 6 C dX3_hasRoom_4 cb_8 rfl ?_
  refine x_icmp_ge 9 13 C dX3_hasRoom_6 (by decide) rfl (fun _ => ?_) (fun _ => ?_)
  · refine x_iconst 14 C dX3_hasRoom_13 ci_0 rfl ?_
    exact x_zret C E dX3_hasRoom_14 (Or.inl rfl) rfl
  · refine x_iconst 10 C dX3_hasRoom_9 ci_1 rfl ?_
    refine x_goto 14 C dX3_hasRoom_10 (by decide) ?_
    exact x_zret C E dX3_hasRoom_14 (Or.inr rfl) rfl

def f_X3_add (h : Hp) (a1 : Int32) (a2 : Int32) (a3 : Int32) : Option Hp :=
  if (h.1 13 3) < 0 then (
    some h)
  else (
    if (8 : Int32) ≤ (h.1 13 3) then (
      some h)
    else (
      ck (h.1 13 3) 8 (nm (ux h 14 (h.1 13 3) a1) fun h1 =>
      ck (h1.1 13 3) 8 (nm (ux h1 15 (h1.1 13 3) a2) fun h2 =>
      ck (h2.1 13 3) 8 (nm (ux h2 16 (h2.1 13 3) a3) fun h3 =>
      nm (uf h3 13 3 ((h3.1 13 3) + (1 : Int32))) fun h4 =>
      some h4)))))
theorem dX3_add_0 : decode cX3_add 0 = .ok (.aload_n 0, 1) := by decide +kernel
theorem dX3_add_1 : decode cX3_add 1 = .ok (.getfield 21, 3) := by decide +kernel
theorem dX3_add_4 : decode cX3_add 4 = .ok (.ifCond .lt 52, 3) := by decide +kernel
theorem dX3_add_7 : decode cX3_add 7 = .ok (.aload_n 0, 1) := by decide +kernel
theorem dX3_add_8 : decode cX3_add 8 = .ok (.getfield 21, 3) := by decide +kernel
theorem dX3_add_11 : decode cX3_add 11 = .ok (.bipush 8, 2) := by decide +kernel
theorem dX3_add_13 : decode cX3_add 13 = .ok (.if_icmp .ge 43, 3) := by decide +kernel
theorem dX3_add_16 : decode cX3_add 16 = .ok (.aload_n 0, 1) := by decide +kernel
theorem dX3_add_17 : decode cX3_add 17 = .ok (.getfield 9, 3) := by decide +kernel
theorem dX3_add_20 : decode cX3_add 20 = .ok (.aload_n 0, 1) := by decide +kernel
theorem dX3_add_21 : decode cX3_add 21 = .ok (.getfield 21, 3) := by decide +kernel
theorem dX3_add_24 : decode cX3_add 24 = .ok (.iload_n 1, 1) := by decide +kernel
theorem dX3_add_25 : decode cX3_add 25 = .ok (.iastore, 1) := by decide +kernel
theorem dX3_add_26 : decode cX3_add 26 = .ok (.aload_n 0, 1) := by decide +kernel
theorem dX3_add_27 : decode cX3_add 27 = .ok (.getfield 15, 3) := by decide +kernel
theorem dX3_add_30 : decode cX3_add 30 = .ok (.aload_n 0, 1) := by decide +kernel
theorem dX3_add_31 : decode cX3_add 31 = .ok (.getfield 21, 3) := by decide +kernel
theorem dX3_add_34 : decode cX3_add 34 = .ok (.iload_n 2, 1) := by decide +kernel
theorem dX3_add_35 : decode cX3_add 35 = .ok (.iastore, 1) := by decide +kernel
theorem dX3_add_36 : decode cX3_add 36 = .ok (.aload_n 0, 1) := by decide +kernel
theorem dX3_add_37 : decode cX3_add 37 = .ok (.getfield 18, 3) := by decide +kernel
theorem dX3_add_40 : decode cX3_add 40 = .ok (.aload_n 0, 1) := by decide +kernel
theorem dX3_add_41 : decode cX3_add 41 = .ok (.getfield 21, 3) := by decide +kernel
theorem dX3_add_44 : decode cX3_add 44 = .ok (.iload_n 3, 1) := by decide +kernel
theorem dX3_add_45 : decode cX3_add 45 = .ok (.iastore, 1) := by decide +kernel
theorem dX3_add_46 : decode cX3_add 46 = .ok (.aload_n 0, 1) := by decide +kernel
theorem dX3_add_47 : decode cX3_add 47 = .ok (.dup, 1) := by decide +kernel
theorem dX3_add_48 : decode cX3_add 48 = .ok (.getfield 21, 3) := by decide +kernel
theorem dX3_add_51 : decode cX3_add 51 = .ok (.iconst 1, 1) := by decide +kernel
theorem dX3_add_52 : decode cX3_add 52 = .ok (.iadd, 1) := by decide +kernel
theorem dX3_add_53 : decode cX3_add 53 = .ok (.putfield 21, 3) := by decide +kernel
theorem dX3_add_56 : decode cX3_add 56 = .ok (.return_, 1) := by decide +kernel
set_option maxRecDepth 20000 in
theorem m_X3_add {h : Hp} {a1 : Int32} {a2 : Int32} {a3 : Int32}  {u : Hp} (hu : f_X3_add h a1 a2 a3 = some u) : Ct yX3_add cX3_add 4 none 0 [.ref 13, .int a1, .int a2, .int a3] h (eV u) := by
  refine ct_of eV hu (by decide) (Nat.le_of_ble_eq_true rfl) (fun κ hn C E => ?_)
  unfold f_X3_add
  show Xz κ _ 0 [(0, .ref 13), (1, .int a1), (2, .int a2), (3, .int a3)] [] h
  refine x_aload_n 1 C dX3_add_0 0 rfl rfl rfl ?_
  refine x_getI 4 C dX3_add_1 fl_X3_21 sk_13 rfl rfl ?_
  refine x_if_lt 7 56 C dX3_add_4 (by decide) rfl (fun _ => ?_) (fun _ => ?_)
  · exact x_vret C E dX3_add_56 rfl
  · refine x_aload_n 8 C dX3_add_7 0 rfl rfl rfl ?_
    refine x_getI 11 C dX3_add_8 fl_X3_21 sk_13 rfl rfl ?_
    refine x_bipush 13 C dX3_add_11 cb_8 rfl ?_
    refine x_icmp_ge 16 56 C dX3_add_13 (by decide) rfl (fun _ => ?_) (fun _ => ?_)
    · exact x_vret C E dX3_add_56 rfl
    · refine x_aload_n 17 C dX3_add_16 0 rfl rfl rfl ?_
      refine x_getR (c := 14) 20 C dX3_add_17 fl_X3_9 sk_13 rfl sr_13_0 rfl ?_
      refine x_aload_n 21 C dX3_add_20 0 rfl rfl rfl ?_
      refine x_getI 24 C dX3_add_21 fl_X3_21 sk_13 rfl rfl ?_
      refine x_iload_n 25 C dX3_add_24 1 rfl rfl rfl ?_
      refine x_iast 26 C dX3_add_25 sk_14 sl_14 rfl (fun h1 => ?_)
      refine x_aload_n 27 C dX3_add_26 0 rfl rfl rfl ?_
      refine x_getR (c := 15) 30 C dX3_add_27 fl_X3_15 sk_13 rfl sr_13_1 rfl ?_
      refine x_aload_n 31 C dX3_add_30 0 rfl rfl rfl ?_
      refine x_getI 34 C dX3_add_31 fl_X3_21 sk_13 rfl rfl ?_
      refine x_iload_n 35 C dX3_add_34 2 rfl rfl rfl ?_
      refine x_iast 36 C dX3_add_35 sk_15 sl_15 rfl (fun h2 => ?_)
      refine x_aload_n 37 C dX3_add_36 0 rfl rfl rfl ?_
      refine x_getR (c := 16) 40 C dX3_add_37 fl_X3_18 sk_13 rfl sr_13_2 rfl ?_
      refine x_aload_n 41 C dX3_add_40 0 rfl rfl rfl ?_
      refine x_getI 44 C dX3_add_41 fl_X3_21 sk_13 rfl rfl ?_
      refine x_iload_n 45 C dX3_add_44 3 rfl rfl rfl ?_
      refine x_iast 46 C dX3_add_45 sk_16 sl_16 rfl (fun h3 => ?_)
      refine x_aload_n 47 C dX3_add_46 0 rfl rfl rfl ?_
      refine x_dup 48 C dX3_add_47 rfl rfl ?_
      refine x_getI 51 C dX3_add_48 fl_X3_21 sk_13 rfl rfl ?_
      refine x_iconst 52 C dX3_add_51 ci_1 rfl ?_
      refine x_iadd 53 C dX3_add_52 rfl ?_
      refine x_put 56 C dX3_add_53 fp_X3_21 sk_13 rfl rfl rfl rfl (fun h4 => ?_)
      exact x_vret C E dX3_add_56 rfl

def f_X3_fit (h : Hp) (a2 : Int32) : Option Int32 :=
  fx1 FU (fun s1 (x1 : Int32) =>
    if (h.1 13 3) ≤ x1 then (
      some (1 : Int32))
    else (
      if (8 : Int32) ≤ x1 then (
        some (1 : Int32))
      else (
        ck x1 8 (
          if a2 ≤ (ia h 15 x1) then (
            some (0 : Int32))
          else (
            ck x1 8 (
              ck x1 8 (
                bdr (f_X0_stateBehind h 41 (ia h 14 x1) (ia h 15 x1)) fun x2 =>
                ck x1 8 (
                  if x2 = (ia h 16 x1) then (
                    nm (x1 + (1 : Int32)) fun x3 =>
                    s1 x3)
                  else (
                    some (0 : Int32)))))))))) (0 : Int32)
theorem dX3_fit_0 : decode cX3_fit 0 = .ok (.iconst 0, 1) := by decide +kernel
theorem dX3_fit_1 : decode cX3_fit 1 = .ok (.istore_n 3, 1) := by decide +kernel
theorem dX3_fit_2 : decode cX3_fit 2 = .ok (.iload_n 3, 1) := by decide +kernel
theorem dX3_fit_3 : decode cX3_fit 3 = .ok (.aload_n 0, 1) := by decide +kernel
theorem dX3_fit_4 : decode cX3_fit 4 = .ok (.getfield 21, 3) := by decide +kernel
theorem dX3_fit_7 : decode cX3_fit 7 = .ok (.if_icmp .ge 52, 3) := by decide +kernel
theorem dX3_fit_10 : decode cX3_fit 10 = .ok (.iload_n 3, 1) := by decide +kernel
theorem dX3_fit_11 : decode cX3_fit 11 = .ok (.bipush 8, 2) := by decide +kernel
theorem dX3_fit_13 : decode cX3_fit 13 = .ok (.if_icmp .ge 46, 3) := by decide +kernel
theorem dX3_fit_16 : decode cX3_fit 16 = .ok (.aload_n 0, 1) := by decide +kernel
theorem dX3_fit_17 : decode cX3_fit 17 = .ok (.getfield 15, 3) := by decide +kernel
theorem dX3_fit_20 : decode cX3_fit 20 = .ok (.iload_n 3, 1) := by decide +kernel
theorem dX3_fit_21 : decode cX3_fit 21 = .ok (.iaload, 1) := by decide +kernel
theorem dX3_fit_22 : decode cX3_fit 22 = .ok (.iload_n 2, 1) := by decide +kernel
theorem dX3_fit_23 : decode cX3_fit 23 = .ok (.if_icmp .ge 28, 3) := by decide +kernel
theorem dX3_fit_26 : decode cX3_fit 26 = .ok (.aload_n 1, 1) := by decide +kernel
theorem dX3_fit_27 : decode cX3_fit 27 = .ok (.aload_n 0, 1) := by decide +kernel
theorem dX3_fit_28 : decode cX3_fit 28 = .ok (.getfield 9, 3) := by decide +kernel
theorem dX3_fit_31 : decode cX3_fit 31 = .ok (.iload_n 3, 1) := by decide +kernel
theorem dX3_fit_32 : decode cX3_fit 32 = .ok (.iaload, 1) := by decide +kernel
theorem dX3_fit_33 : decode cX3_fit 33 = .ok (.aload_n 0, 1) := by decide +kernel
theorem dX3_fit_34 : decode cX3_fit 34 = .ok (.getfield 15, 3) := by decide +kernel
theorem dX3_fit_37 : decode cX3_fit 37 = .ok (.iload_n 3, 1) := by decide +kernel
theorem dX3_fit_38 : decode cX3_fit 38 = .ok (.iaload, 1) := by decide +kernel
theorem dX3_fit_39 : decode cX3_fit 39 = .ok (.invokevirtual 25, 3) := by decide +kernel
theorem dX3_fit_42 : decode cX3_fit 42 = .ok (.aload_n 0, 1) := by decide +kernel
theorem dX3_fit_43 : decode cX3_fit 43 = .ok (.getfield 18, 3) := by decide +kernel
theorem dX3_fit_46 : decode cX3_fit 46 = .ok (.iload_n 3, 1) := by decide +kernel
theorem dX3_fit_47 : decode cX3_fit 47 = .ok (.iaload, 1) := by decide +kernel
theorem dX3_fit_48 : decode cX3_fit 48 = .ok (.if_icmp .eq 5, 3) := by decide +kernel
theorem dX3_fit_51 : decode cX3_fit 51 = .ok (.iconst 0, 1) := by decide +kernel
theorem dX3_fit_52 : decode cX3_fit 52 = .ok (.ireturn, 1) := by decide +kernel
theorem dX3_fit_53 : decode cX3_fit 53 = .ok (.iinc 3 1, 3) := by decide +kernel
theorem dX3_fit_56 : decode cX3_fit 56 = .ok (.goto (-54), 3) := by decide +kernel
theorem dX3_fit_59 : decode cX3_fit 59 = .ok (.iconst 1, 1) := by decide +kernel
theorem dX3_fit_60 : decode cX3_fit 60 = .ok (.ireturn, 1) := by decide +kernel
set_option maxRecDepth 20000 in
theorem m_X3_fit {h : Hp} {a2 : Int32}  {u : Int32} (hu : f_X3_fit h a2 = some u) : Ct yX3_fit cX3_fit 4 (some .boolean) 2 [.ref 13, .ref 41, .int a2] h ((rI h) u) := by
  refine ct_of (rI h) hu (by decide) (Nat.le_of_ble_eq_true rfl) (fun κ hn C E => ?_)
  have n3 : 3 < kn κ := by rw [hn]; decide
  unfold f_X3_fit
  show Xz κ _ 0 [(0, .ref 13), (1, .ref 41), (2, .int a2)] [] h
  refine x_iconst 1 C dX3_fit_0 ci_0 rfl ?_
  refine x_istore_n 2 [(3, .int (0 : Int32)), (0, .ref 13), (1, .ref 41), (2, .int a2)] C dX3_fit_1 n3 rfl rfl rfl ?_
  refine x_ls [1, 2, 3, 0] rfl (x_fx1 (ls := fun x1 => [(0, .ref 13), (1, .ref 41), (2, .int a2), (3, .int x1)]) (st := fun x1 => []) (hh := fun x1 => h) (fun s1 J1 x1 => ?_))
  refine x_iload_n 3 C dX3_fit_2 3 rfl rfl rfl ?_
  refine x_aload_n 4 C dX3_fit_3 0 rfl rfl rfl ?_
  refine x_getI 7 C dX3_fit_4 fl_X3_21 sk_13 rfl rfl ?_
  refine x_icmp_ge 10 59 C dX3_fit_7 (by decide) rfl (fun _ => ?_) (fun _ => ?_)
  · refine x_iconst 60 C dX3_fit_59 ci_1 rfl ?_
    exact x_zret C E dX3_fit_60 (Or.inr rfl) rfl
  · refine x_iload_n 11 C dX3_fit_10 3 rfl rfl rfl ?_
    refine x_bipush 13 C dX3_fit_11 cb_8 rfl ?_
    refine x_icmp_ge 16 59 C dX3_fit_13 (by decide) rfl (fun _ => ?_) (fun _ => ?_)
    · refine x_iconst 60 C dX3_fit_59 ci_1 rfl ?_
      exact x_zret C E dX3_fit_60 (Or.inr rfl) rfl
    · refine x_aload_n 17 C dX3_fit_16 0 rfl rfl rfl ?_
      refine x_getR (c := 15) 20 C dX3_fit_17 fl_X3_15 sk_13 rfl sr_13_1 rfl ?_
      refine x_iload_n 21 C dX3_fit_20 3 rfl rfl rfl ?_
      refine x_iald 22 C dX3_fit_21 sk_15 sl_15 rfl ?_
      refine x_iload_n 23 C dX3_fit_22 2 rfl rfl rfl ?_
      refine x_icmp_ge 26 51 C dX3_fit_23 (by decide) rfl (fun _ => ?_) (fun _ => ?_)
      · refine x_iconst 52 C dX3_fit_51 ci_0 rfl ?_
        exact x_zret C E dX3_fit_52 (Or.inl rfl) rfl
      · refine x_aload_n 27 C dX3_fit_26 1 rfl rfl rfl ?_
        refine x_aload_n 28 C dX3_fit_27 0 rfl rfl rfl ?_
        refine x_getR (c := 14) 31 C dX3_fit_28 fl_X3_9 sk_13 rfl sr_13_0 rfl ?_
        refine x_iload_n 32 C dX3_fit_31 3 rfl rfl rfl ?_
        refine x_iald 33 C dX3_fit_32 sk_14 sl_14 rfl ?_
        refine x_aload_n 34 C dX3_fit_33 0 rfl rfl rfl ?_
        refine x_getR (c := 15) 37 C dX3_fit_34 fl_X3_15 sk_13 rfl sr_13_1 rfl ?_
        refine x_iload_n 38 C dX3_fit_37 3 rfl rfl rfl ?_
        refine x_iald 39 C dX3_fit_38 sk_15 sl_15 rfl ?_
        refine x_cvi 42 [.int (ia h 14 x1), .int (ia h 15 x1)] [] C 1 dX3_fit_39 v_X3_25 (fun u hu => m_X0_stateBehind sk_41 hu) rfl sk_41 rfl (Nat.le_of_ble_eq_true rfl) (Nat.le_of_ble_eq_true rfl) rfl (fun x2 => ?_)
        refine x_aload_n 43 C dX3_fit_42 0 rfl rfl rfl ?_
        refine x_getR (c := 16) 46 C dX3_fit_43 fl_X3_18 sk_13 rfl sr_13_2 rfl ?_
        refine x_iload_n 47 C dX3_fit_46 3 rfl rfl rfl ?_
        refine x_iald 48 C dX3_fit_47 sk_16 sl_16 rfl ?_
        refine x_icmp_eq 51 53 C dX3_fit_48 (by decide) rfl (fun _ => ?_) (fun _ => ?_)
        · refine x_iinc 56 (fun x3 => [(3, .int x3), (0, .ref 13), (1, .ref 41), (2, .int a2)]) C dX3_fit_53 3 rfl ci_1 n3 (fun _ => rfl) rfl (fun x3 => ?_)
          refine x_goto 2 C dX3_fit_56 (by decide) ?_
          exact x_ls [1, 2, 3, 0] rfl (J1 x3)
        · refine x_iconst 52 C dX3_fit_51 ci_0 rfl ?_
          exact x_zret C E dX3_fit_52 (Or.inl rfl) rfl

def f_X4_hasRoom (h : Hp) (S : Nat) : Option Int32 :=
  if (nI (sl (S + 1))) ≤ (h.1 S 1) then (
    some (0 : Int32))
  else (
    some (1 : Int32))
theorem dX4_hasRoom_0 : decode cX4_hasRoom 0 = .ok (.aload_n 0, 1) := by decide +kernel
theorem dX4_hasRoom_1 : decode cX4_hasRoom 1 = .ok (.getfield 9, 3) := by decide +kernel
theorem dX4_hasRoom_4 : decode cX4_hasRoom 4 = .ok (.aload_n 0, 1) := by decide +kernel
theorem dX4_hasRoom_5 : decode cX4_hasRoom 5 = .ok (.getfield 21, 3) := by decide +kernel
theorem dX4_hasRoom_8 : decode cX4_hasRoom 8 = .ok (.arraylength, 1) := by decide +kernel
theorem dX4_hasRoom_9 : decode cX4_hasRoom 9 = .ok (.if_icmp .ge 7, 3) := by decide +kernel
theorem dX4_hasRoom_12 : decode cX4_hasRoom 12 = .ok (.iconst 1, 1) := by decide +kernel
theorem dX4_hasRoom_13 : decode cX4_hasRoom 13 = .ok (.goto 4, 3) := by decide +kernel
theorem dX4_hasRoom_16 : decode cX4_hasRoom 16 = .ok (.iconst 0, 1) := by decide +kernel
theorem dX4_hasRoom_17 : decode cX4_hasRoom 17 = .ok (.ireturn, 1) := by decide +kernel
set_option maxRecDepth 20000 in
theorem m_X4_hasRoom {h : Hp} {S : Nat} (hS : sk S = 4) {u : Int32} (hu : f_X4_hasRoom h S = some u) : Ct yX4_hasRoom cX4_hasRoom 1 (some .boolean) 0 [.ref S] h ((rI h) u) := by
  refine ct_of (rI h) hu (by decide) (Nat.le_of_ble_eq_true rfl) (fun κ hn C E => ?_)
  unfold f_X4_hasRoom
  show Xz κ _ 0 [(0, .ref S)] [] h
  refine x_aload_n 1 C dX4_hasRoom_0 0 rfl rfl rfl ?_
  refine x_getI 4 C dX4_hasRoom_1 fl_X4_9 hS rfl rfl ?_
  refine x_aload_n 5 C dX4_hasRoom_4 0 rfl rfl rfl ?_
  refine x_getR (c := (S + 1)) 8 C dX4_hasRoom_5 fl_X4_21 hS rfl (of_4_0 hS) rfl ?_
  refine x_alen 9 C dX4_hasRoom_8 (ok_4_0 hS) rfl rfl ?_
  refine x_icmp_ge 12 16 C dX4_hasRoom_9 (by decide) rfl (fun _ => ?_) (fun _ => ?_)
  · refine x_iconst 17 C dX4_hasRoom_16 ci_0 rfl ?_
    exact x_zret C E dX4_hasRoom_17 (Or.inl rfl) rfl
  · refine x_iconst 13 C dX4_hasRoom_12 ci_1 rfl ?_
    refine x_goto 17 C dX4_hasRoom_13 (by decide) ?_
    exact x_zret C E dX4_hasRoom_17 (Or.inr rfl) rfl

def f_X4_add (h : Hp) (S : Nat) (a1 : Int32) : Option Hp :=
  if (h.1 S 1) < 0 then (
    some h)
  else (
    if (nI (sl (S + 1))) ≤ (h.1 S 1) then (
      some h)
    else (
      ck (h.1 S 1) (sl (S + 1)) (nm (ux h (S + 1) (h.1 S 1) a1) fun h1 =>
      nm (uf h1 S 1 ((h1.1 S 1) + (1 : Int32))) fun h2 =>
      some h2)))
theorem dX4_add_0 : decode cX4_add 0 = .ok (.aload_n 0, 1) := by decide +kernel
theorem dX4_add_1 : decode cX4_add 1 = .ok (.getfield 9, 3) := by decide +kernel
theorem dX4_add_4 : decode cX4_add 4 = .ok (.ifCond .lt 35, 3) := by decide +kernel
theorem dX4_add_7 : decode cX4_add 7 = .ok (.aload_n 0, 1) := by decide +kernel
theorem dX4_add_8 : decode cX4_add 8 = .ok (.getfield 9, 3) := by decide +kernel
theorem dX4_add_11 : decode cX4_add 11 = .ok (.aload_n 0, 1) := by decide +kernel
theorem dX4_add_12 : decode cX4_add 12 = .ok (.getfield 21, 3) := by decide +kernel
theorem dX4_add_15 : decode cX4_add 15 = .ok (.arraylength, 1) := by decide +kernel
theorem dX4_add_16 : decode cX4_add 16 = .ok (.if_icmp .ge 23, 3) := by decide +kernel
theorem dX4_add_19 : decode cX4_add 19 = .ok (.aload_n 0, 1) := by decide +kernel
theorem dX4_add_20 : decode cX4_add 20 = .ok (.getfield 21, 3) := by decide +kernel
theorem dX4_add_23 : decode cX4_add 23 = .ok (.aload_n 0, 1) := by decide +kernel
theorem dX4_add_24 : decode cX4_add 24 = .ok (.getfield 9, 3) := by decide +kernel
theorem dX4_add_27 : decode cX4_add 27 = .ok (.iload_n 1, 1) := by decide +kernel
theorem dX4_add_28 : decode cX4_add 28 = .ok (.iastore, 1) := by decide +kernel
theorem dX4_add_29 : decode cX4_add 29 = .ok (.aload_n 0, 1) := by decide +kernel
theorem dX4_add_30 : decode cX4_add 30 = .ok (.dup, 1) := by decide +kernel
theorem dX4_add_31 : decode cX4_add 31 = .ok (.getfield 9, 3) := by decide +kernel
theorem dX4_add_34 : decode cX4_add 34 = .ok (.iconst 1, 1) := by decide +kernel
theorem dX4_add_35 : decode cX4_add 35 = .ok (.iadd, 1) := by decide +kernel
theorem dX4_add_36 : decode cX4_add 36 = .ok (.putfield 9, 3) := by decide +kernel
theorem dX4_add_39 : decode cX4_add 39 = .ok (.return_, 1) := by decide +kernel
set_option maxRecDepth 20000 in
theorem m_X4_add {h : Hp} {S : Nat} {a1 : Int32} (hS : sk S = 4) {u : Hp} (hu : f_X4_add h S a1 = some u) : Ct yX4_add cX4_add 2 none 0 [.ref S, .int a1] h (eV u) := by
  refine ct_of eV hu (by decide) (Nat.le_of_ble_eq_true rfl) (fun κ hn C E => ?_)
  unfold f_X4_add
  show Xz κ _ 0 [(0, .ref S), (1, .int a1)] [] h
  refine x_aload_n 1 C dX4_add_0 0 rfl rfl rfl ?_
  refine x_getI 4 C dX4_add_1 fl_X4_9 hS rfl rfl ?_
  refine x_if_lt 7 39 C dX4_add_4 (by decide) rfl (fun _ => ?_) (fun _ => ?_)
  · exact x_vret C E dX4_add_39 rfl
  · refine x_aload_n 8 C dX4_add_7 0 rfl rfl rfl ?_
    refine x_getI 11 C dX4_add_8 fl_X4_9 hS rfl rfl ?_
    refine x_aload_n 12 C dX4_add_11 0 rfl rfl rfl ?_
    refine x_getR (c := (S + 1)) 15 C dX4_add_12 fl_X4_21 hS rfl (of_4_0 hS) rfl ?_
    refine x_alen 16 C dX4_add_15 (ok_4_0 hS) rfl rfl ?_
    refine x_icmp_ge 19 39 C dX4_add_16 (by decide) rfl (fun _ => ?_) (fun _ => ?_)
    · exact x_vret C E dX4_add_39 rfl
    · refine x_aload_n 20 C dX4_add_19 0 rfl rfl rfl ?_
      refine x_getR (c := (S + 1)) 23 C dX4_add_20 fl_X4_21 hS rfl (of_4_0 hS) rfl ?_
      refine x_aload_n 24 C dX4_add_23 0 rfl rfl rfl ?_
      refine x_getI 27 C dX4_add_24 fl_X4_9 hS rfl rfl ?_
      refine x_iload_n 28 C dX4_add_27 1 rfl rfl rfl ?_
      refine x_iast 29 C dX4_add_28 (ok_4_0 hS) rfl rfl (fun h1 => ?_)
      refine x_aload_n 30 C dX4_add_29 0 rfl rfl rfl ?_
      refine x_dup 31 C dX4_add_30 rfl rfl ?_
      refine x_getI 34 C dX4_add_31 fl_X4_9 hS rfl rfl ?_
      refine x_iconst 35 C dX4_add_34 ci_1 rfl ?_
      refine x_iadd 36 C dX4_add_35 rfl ?_
      refine x_put 39 C dX4_add_36 fp_X4_9 hS rfl rfl rfl rfl (fun h2 => ?_)
      exact x_vret C E dX4_add_39 rfl

def f_X4_byteAt (h : Hp) (S : Nat) (a1 : Int32) : Option Int32 :=
  if a1 < 0 then (
    some (-1 : Int32))
  else (
    if (h.1 S 1) ≤ a1 then (
      some (-1 : Int32))
    else (
      if (nI (sl (S + 1))) ≤ a1 then (
        some (-1 : Int32))
      else (
        ck a1 (sl (S + 1)) (
          some (ia h (S + 1) a1)))))
theorem dX4_byteAt_0 : decode cX4_byteAt 0 = .ok (.iload_n 1, 1) := by decide +kernel
theorem dX4_byteAt_1 : decode cX4_byteAt 1 = .ok (.ifCond .lt 29, 3) := by decide +kernel
theorem dX4_byteAt_4 : decode cX4_byteAt 4 = .ok (.iload_n 1, 1) := by decide +kernel
theorem dX4_byteAt_5 : decode cX4_byteAt 5 = .ok (.aload_n 0, 1) := by decide +kernel
theorem dX4_byteAt_6 : decode cX4_byteAt 6 = .ok (.getfield 9, 3) := by decide +kernel
theorem dX4_byteAt_9 : decode cX4_byteAt 9 = .ok (.if_icmp .ge 21, 3) := by decide +kernel
theorem dX4_byteAt_12 : decode cX4_byteAt 12 = .ok (.iload_n 1, 1) := by decide +kernel
theorem dX4_byteAt_13 : decode cX4_byteAt 13 = .ok (.aload_n 0, 1) := by decide +kernel
theorem dX4_byteAt_14 : decode cX4_byteAt 14 = .ok (.getfield 21, 3) := by decide +kernel
theorem dX4_byteAt_17 : decode cX4_byteAt 17 = .ok (.arraylength, 1) := by decide +kernel
theorem dX4_byteAt_18 : decode cX4_byteAt 18 = .ok (.if_icmp .ge 12, 3) := by decide +kernel
theorem dX4_byteAt_21 : decode cX4_byteAt 21 = .ok (.aload_n 0, 1) := by decide +kernel
theorem dX4_byteAt_22 : decode cX4_byteAt 22 = .ok (.getfield 21, 3) := by decide +kernel
theorem dX4_byteAt_25 : decode cX4_byteAt 25 = .ok (.iload_n 1, 1) := by decide +kernel
theorem dX4_byteAt_26 : decode cX4_byteAt 26 = .ok (.iaload, 1) := by decide +kernel
theorem dX4_byteAt_27 : decode cX4_byteAt 27 = .ok (.goto 4, 3) := by decide +kernel
theorem dX4_byteAt_30 : decode cX4_byteAt 30 = .ok (.iconst (-1), 1) := by decide +kernel
theorem dX4_byteAt_31 : decode cX4_byteAt 31 = .ok (.ireturn, 1) := by decide +kernel
set_option maxRecDepth 20000 in
theorem m_X4_byteAt {h : Hp} {S : Nat} {a1 : Int32} (hS : sk S = 4) {u : Int32} (hu : f_X4_byteAt h S a1 = some u) : Ct yX4_byteAt cX4_byteAt 2 (some .int) 0 [.ref S, .int a1] h ((rI h) u) := by
  refine ct_of (rI h) hu (by decide) (Nat.le_of_ble_eq_true rfl) (fun κ hn C E => ?_)
  unfold f_X4_byteAt
  show Xz κ _ 0 [(0, .ref S), (1, .int a1)] [] h
  refine x_iload_n 1 C dX4_byteAt_0 1 rfl rfl rfl ?_
  refine x_if_lt 4 30 C dX4_byteAt_1 (by decide) rfl (fun _ => ?_) (fun _ => ?_)
  · refine x_iconst 31 C dX4_byteAt_30 ci_m1 rfl ?_
    exact x_iret C E dX4_byteAt_31 rfl
  · refine x_iload_n 5 C dX4_byteAt_4 1 rfl rfl rfl ?_
    refine x_aload_n 6 C dX4_byteAt_5 0 rfl rfl rfl ?_
    refine x_getI 9 C dX4_byteAt_6 fl_X4_9 hS rfl rfl ?_
    refine x_icmp_ge 12 30 C dX4_byteAt_9 (by decide) rfl (fun _ => ?_) (fun _ => ?_)
    · refine x_iconst 31 C dX4_byteAt_30 ci_m1 rfl ?_
      exact x_iret C E dX4_byteAt_31 rfl
    · refine x_iload_n 13 C dX4_byteAt_12 1 rfl rfl rfl ?_
      refine x_aload_n 14 C dX4_byteAt_13 0 rfl rfl rfl ?_
      refine x_getR (c := (S + 1)) 17 C dX4_byteAt_14 fl_X4_21 hS rfl (of_4_0 hS) rfl ?_
      refine x_alen 18 C dX4_byteAt_17 (ok_4_0 hS) rfl rfl ?_
      refine x_icmp_ge 21 30 C dX4_byteAt_18 (by decide) rfl (fun _ => ?_) (fun _ => ?_)
      · refine x_iconst 31 C dX4_byteAt_30 ci_m1 rfl ?_
        exact x_iret C E dX4_byteAt_31 rfl
      · refine x_aload_n 22 C dX4_byteAt_21 0 rfl rfl rfl ?_
        refine x_getR (c := (S + 1)) 25 C dX4_byteAt_22 fl_X4_21 hS rfl (of_4_0 hS) rfl ?_
        refine x_iload_n 26 C dX4_byteAt_25 1 rfl rfl rfl ?_
        refine x_iald 27 C dX4_byteAt_26 (ok_4_0 hS) rfl rfl ?_
        refine x_goto 31 C dX4_byteAt_27 (by decide) ?_
        exact x_iret C E dX4_byteAt_31 rfl

def f_X4_sortOf (a1 : Int32) : Option Int32 :=
  if a1 = (98 : Int32) then (
    some (1 : Int32))
  else (
    if a1 = (111 : Int32) then (
      some (2 : Int32))
    else (
      if a1 = (115 : Int32) then (
        some (0 : Int32))
      else (
        some (-1 : Int32))))
theorem dX4_sortOf_0 : decode cX4_sortOf 0 = .ok (.iload_n 0, 1) := by decide +kernel
theorem dX4_sortOf_1 : decode cX4_sortOf 1 = .ok (.lookupswitch 41 #[(98, 37), (111, 39), (115, 35)], 35) := by decide +kernel
theorem dX4_sortOf_36 : decode cX4_sortOf 36 = .ok (.iconst 0, 1) := by decide +kernel
theorem dX4_sortOf_37 : decode cX4_sortOf 37 = .ok (.ireturn, 1) := by decide +kernel
theorem dX4_sortOf_38 : decode cX4_sortOf 38 = .ok (.iconst 1, 1) := by decide +kernel
theorem dX4_sortOf_39 : decode cX4_sortOf 39 = .ok (.ireturn, 1) := by decide +kernel
theorem dX4_sortOf_40 : decode cX4_sortOf 40 = .ok (.iconst 2, 1) := by decide +kernel
theorem dX4_sortOf_41 : decode cX4_sortOf 41 = .ok (.ireturn, 1) := by decide +kernel
theorem dX4_sortOf_42 : decode cX4_sortOf 42 = .ok (.iconst (-1), 1) := by decide +kernel
theorem dX4_sortOf_43 : decode cX4_sortOf 43 = .ok (.ireturn, 1) := by decide +kernel
set_option maxRecDepth 20000 in
theorem m_X4_sortOf {h : Hp} {a1 : Int32}  {u : Int32} (hu : f_X4_sortOf a1 = some u) : Ct yX4_sortOf cX4_sortOf 1 (some .int) 0 [.int a1] h ((rI h) u) := by
  refine ct_of (rI h) hu (by decide) (Nat.le_of_ble_eq_true rfl) (fun κ hn C E => ?_)
  unfold f_X4_sortOf
  show Xz κ _ 0 [(0, .int a1)] [] h
  refine x_iload_n 1 C dX4_sortOf_0 0 rfl rfl rfl ?_
  refine x_ite (fun e98 => ?_) (fun e98 => ?_)
  · refine x_lkp (off := 37) 38 C dX4_sortOf_1 (by decide) (by rw [e98]; first | done | decide) (by decide) ?_
    refine x_iconst 39 C dX4_sortOf_38 ci_1 rfl ?_
    exact x_iret C E dX4_sortOf_39 rfl
  refine x_ite (fun e111 => ?_) (fun e111 => ?_)
  · refine x_lkp (off := 39) 40 C dX4_sortOf_1 (by decide) (by rw [e111]; first | done | decide) (by decide) ?_
    refine x_iconst 41 C dX4_sortOf_40 ci_2 rfl ?_
    exact x_iret C E dX4_sortOf_41 rfl
  refine x_ite (fun e115 => ?_) (fun e115 => ?_)
  · refine x_lkp (off := 35) 36 C dX4_sortOf_1 (by decide) (by rw [e115]; first | done | decide) (by decide) ?_
    refine x_iconst 37 C dX4_sortOf_36 ci_0 rfl ?_
    exact x_iret C E dX4_sortOf_37 rfl
  refine x_lkp (off := 41) 42 C dX4_sortOf_1 (by decide) (by show Op.lookupswitch.offset [(98, 37), (111, 39), (115, 35)] _ _ = _; rw [lv_osw e98 (show (98 : Int32).toInt = 98 by decide), lv_osw e111 (show (111 : Int32).toInt = 111 by decide), lv_osw e115 (show (115 : Int32).toInt = 115 by decide)]; first | done | rfl) (by decide) ?_
  refine x_iconst 43 C dX4_sortOf_42 ci_m1 rfl ?_
  exact x_iret C E dX4_sortOf_43 rfl

def f_X7_within (a1 : Int32) (a2 : Int32) (a3 : Int32) : Option Int32 :=
  if a1 < a2 then (
    some (0 : Int32))
  else (
    if a3 < a1 then (
      some (0 : Int32))
    else (
      some (1 : Int32)))
theorem dX7_within_0 : decode cX7_within 0 = .ok (.iload_n 0, 1) := by decide +kernel
theorem dX7_within_1 : decode cX7_within 1 = .ok (.iload_n 1, 1) := by decide +kernel
theorem dX7_within_2 : decode cX7_within 2 = .ok (.if_icmp .lt 12, 3) := by decide +kernel
theorem dX7_within_5 : decode cX7_within 5 = .ok (.iload_n 0, 1) := by decide +kernel
theorem dX7_within_6 : decode cX7_within 6 = .ok (.iload_n 2, 1) := by decide +kernel
theorem dX7_within_7 : decode cX7_within 7 = .ok (.if_icmp .gt 7, 3) := by decide +kernel
theorem dX7_within_10 : decode cX7_within 10 = .ok (.iconst 1, 1) := by decide +kernel
theorem dX7_within_11 : decode cX7_within 11 = .ok (.goto 4, 3) := by decide +kernel
theorem dX7_within_14 : decode cX7_within 14 = .ok (.iconst 0, 1) := by decide +kernel
theorem dX7_within_15 : decode cX7_within 15 = .ok (.ireturn, 1) := by decide +kernel
set_option maxRecDepth 20000 in
theorem m_X7_within {h : Hp} {a1 : Int32} {a2 : Int32} {a3 : Int32}  {u : Int32} (hu : f_X7_within a1 a2 a3 = some u) : Ct yX7_within cX7_within 3 (some .boolean) 0 [.int a1, .int a2, .int a3] h ((rI h) u) := by
  refine ct_of (rI h) hu (by decide) (Nat.le_of_ble_eq_true rfl) (fun κ hn C E => ?_)
  unfold f_X7_within
  show Xz κ _ 0 [(0, .int a1), (1, .int a2), (2, .int a3)] [] h
  refine x_iload_n 1 C dX7_within_0 0 rfl rfl rfl ?_
  refine x_iload_n 2 C dX7_within_1 1 rfl rfl rfl ?_
  refine x_icmp_lt 5 14 C dX7_within_2 (by decide) rfl (fun _ => ?_) (fun _ => ?_)
  · refine x_iconst 15 C dX7_within_14 ci_0 rfl ?_
    exact x_zret C E dX7_within_15 (Or.inl rfl) rfl
  · refine x_iload_n 6 C dX7_within_5 0 rfl rfl rfl ?_
    refine x_iload_n 7 C dX7_within_6 2 rfl rfl rfl ?_
    refine x_icmp_gt 10 14 C dX7_within_7 (by decide) rfl (fun _ => ?_) (fun _ => ?_)
    · refine x_iconst 15 C dX7_within_14 ci_0 rfl ?_
      exact x_zret C E dX7_within_15 (Or.inl rfl) rfl
    · refine x_iconst 11 C dX7_within_10 ci_1 rfl ?_
      refine x_goto 15 C dX7_within_11 (by decide) ?_
      exact x_zret C E dX7_within_15 (Or.inr rfl) rfl

def f_X4_fitsWalkers (a1 : Int32) (a2 : Int32) : Option Int32 :=
  if a1 = (0 : Int32) then (
    bdr (f_X7_within a2 (97 : Int32) (120 : Int32)) fun x1 =>
    cy (x1 = 0 ∨ x1 = 1) (some x1))
  else (
    if a1 = (1 : Int32) then (
      bdr (f_X4_sortOf a2) fun x2 =>
      if x2 = (-1 : Int32) then (
        some (0 : Int32))
      else (
        some (1 : Int32)))
    else (
      if a1 = (2 : Int32) then (
        bdr (f_X7_within a2 (48 : Int32) (57 : Int32)) fun x3 =>
        cy (x3 = 0 ∨ x3 = 1) (some x3))
      else (
        if a2 = (59 : Int32) then (
          some (1 : Int32))
        else (
          some (0 : Int32)))))
theorem dX4_fitsWalkers_0 : decode cX4_fitsWalkers 0 = .ok (.iload_n 0, 1) := by decide +kernel
theorem dX4_fitsWalkers_1 : decode cX4_fitsWalkers 1 = .ok (.tableswitch 59 0 2 #[27, 36, 50], 27) := by decide +kernel
theorem dX4_fitsWalkers_28 : decode cX4_fitsWalkers 28 = .ok (.iload_n 1, 1) := by decide +kernel
theorem dX4_fitsWalkers_29 : decode cX4_fitsWalkers 29 = .ok (.bipush 97, 2) := by decide +kernel
theorem dX4_fitsWalkers_31 : decode cX4_fitsWalkers 31 = .ok (.bipush 120, 2) := by decide +kernel
theorem dX4_fitsWalkers_33 : decode cX4_fitsWalkers 33 = .ok (.invokestatic 36, 3) := by decide +kernel
theorem dX4_fitsWalkers_36 : decode cX4_fitsWalkers 36 = .ok (.ireturn, 1) := by decide +kernel
theorem dX4_fitsWalkers_37 : decode cX4_fitsWalkers 37 = .ok (.iload_n 1, 1) := by decide +kernel
theorem dX4_fitsWalkers_38 : decode cX4_fitsWalkers 38 = .ok (.invokestatic 40, 3) := by decide +kernel
theorem dX4_fitsWalkers_41 : decode cX4_fitsWalkers 41 = .ok (.iconst (-1), 1) := by decide +kernel
theorem dX4_fitsWalkers_42 : decode cX4_fitsWalkers 42 = .ok (.if_icmp .eq 7, 3) := by decide +kernel
theorem dX4_fitsWalkers_45 : decode cX4_fitsWalkers 45 = .ok (.iconst 1, 1) := by decide +kernel
theorem dX4_fitsWalkers_46 : decode cX4_fitsWalkers 46 = .ok (.goto 4, 3) := by decide +kernel
theorem dX4_fitsWalkers_49 : decode cX4_fitsWalkers 49 = .ok (.iconst 0, 1) := by decide +kernel
theorem dX4_fitsWalkers_50 : decode cX4_fitsWalkers 50 = .ok (.ireturn, 1) := by decide +kernel
theorem dX4_fitsWalkers_51 : decode cX4_fitsWalkers 51 = .ok (.iload_n 1, 1) := by decide +kernel
theorem dX4_fitsWalkers_52 : decode cX4_fitsWalkers 52 = .ok (.bipush 48, 2) := by decide +kernel
theorem dX4_fitsWalkers_54 : decode cX4_fitsWalkers 54 = .ok (.bipush 57, 2) := by decide +kernel
theorem dX4_fitsWalkers_56 : decode cX4_fitsWalkers 56 = .ok (.invokestatic 36, 3) := by decide +kernel
theorem dX4_fitsWalkers_59 : decode cX4_fitsWalkers 59 = .ok (.ireturn, 1) := by decide +kernel
theorem dX4_fitsWalkers_60 : decode cX4_fitsWalkers 60 = .ok (.iload_n 1, 1) := by decide +kernel
theorem dX4_fitsWalkers_61 : decode cX4_fitsWalkers 61 = .ok (.bipush 59, 2) := by decide +kernel
theorem dX4_fitsWalkers_63 : decode cX4_fitsWalkers 63 = .ok (.if_icmp .ne 7, 3) := by decide +kernel
theorem dX4_fitsWalkers_66 : decode cX4_fitsWalkers 66 = .ok (.iconst 1, 1) := by decide +kernel
theorem dX4_fitsWalkers_67 : decode cX4_fitsWalkers 67 = .ok (.goto 4, 3) := by decide +kernel
theorem dX4_fitsWalkers_70 : decode cX4_fitsWalkers 70 = .ok (.iconst 0, 1) := by decide +kernel
theorem dX4_fitsWalkers_71 : decode cX4_fitsWalkers 71 = .ok (.ireturn, 1) := by decide +kernel
set_option maxRecDepth 20000 in
theorem m_X4_fitsWalkers {h : Hp} {a1 : Int32} {a2 : Int32}  {u : Int32} (hu : f_X4_fitsWalkers a1 a2 = some u) : Ct yX4_fitsWalkers cX4_fitsWalkers 2 (some .boolean) 1 [.int a1, .int a2] h ((rI h) u) := by
  refine ct_of (rI h) hu (by decide) (Nat.le_of_ble_eq_true rfl) (fun κ hn C E => ?_)
  unfold f_X4_fitsWalkers
  show Xz κ _ 0 [(0, .int a1), (1, .int a2)] [] h
  refine x_iload_n 1 C dX4_fitsWalkers_0 0 rfl rfl rfl ?_
  refine x_ite (fun e0 => ?_) (fun e0 => ?_)
  · refine x_tabI (off := 27) 28 C dX4_fitsWalkers_1 e0 (by decide) (by decide) (by decide) (by decide) ?_
    refine x_iload_n 29 C dX4_fitsWalkers_28 1 rfl rfl rfl ?_
    refine x_bipush 31 C dX4_fitsWalkers_29 cb_97 rfl ?_
    refine x_bipush 33 C dX4_fitsWalkers_31 cb_120 rfl ?_
    refine x_csi 36 [.int a2, .int (97 : Int32), .int (120 : Int32)] [] C 0 dX4_fitsWalkers_33 s_X4_36 (fun u hu => m_X7_within hu) rfl rfl (Nat.le_of_ble_eq_true rfl) (Nat.le_of_ble_eq_true rfl) rfl (fun x1 => ?_)
    exact x_zrc C E dX4_fitsWalkers_36 rfl
  refine x_ite (fun e1 => ?_) (fun e1 => ?_)
  · refine x_tabI (off := 36) 37 C dX4_fitsWalkers_1 e1 (by decide) (by decide) (by decide) (by decide) ?_
    refine x_iload_n 38 C dX4_fitsWalkers_37 1 rfl rfl rfl ?_
    refine x_csi 41 [.int a2] [] C 0 dX4_fitsWalkers_38 s_X4_40 (fun u hu => m_X4_sortOf hu) rfl rfl (Nat.le_of_ble_eq_true rfl) (Nat.le_of_ble_eq_true rfl) rfl (fun x2 => ?_)
    refine x_iconst 42 C dX4_fitsWalkers_41 ci_m1 rfl ?_
    refine x_icmp_eq 45 49 C dX4_fitsWalkers_42 (by decide) rfl (fun _ => ?_) (fun _ => ?_)
    · refine x_iconst 50 C dX4_fitsWalkers_49 ci_0 rfl ?_
      exact x_zret C E dX4_fitsWalkers_50 (Or.inl rfl) rfl
    · refine x_iconst 46 C dX4_fitsWalkers_45 ci_1 rfl ?_
      refine x_goto 50 C dX4_fitsWalkers_46 (by decide) ?_
      exact x_zret C E dX4_fitsWalkers_50 (Or.inr rfl) rfl
  refine x_ite (fun e2 => ?_) (fun e2 => ?_)
  · refine x_tabI (off := 50) 51 C dX4_fitsWalkers_1 e2 (by decide) (by decide) (by decide) (by decide) ?_
    refine x_iload_n 52 C dX4_fitsWalkers_51 1 rfl rfl rfl ?_
    refine x_bipush 54 C dX4_fitsWalkers_52 cb_48 rfl ?_
    refine x_bipush 56 C dX4_fitsWalkers_54 cb_57 rfl ?_
    refine x_csi 59 [.int a2, .int (48 : Int32), .int (57 : Int32)] [] C 0 dX4_fitsWalkers_56 s_X4_36 (fun u hu => m_X7_within hu) rfl rfl (Nat.le_of_ble_eq_true rfl) (Nat.le_of_ble_eq_true rfl) rfl (fun x3 => ?_)
    exact x_zrc C E dX4_fitsWalkers_59 rfl
  refine x_tabO 60 C dX4_fitsWalkers_1 (by have := lv_neT e0 (show (0 : Int32).toInt = 0 by decide); have := lv_neT e1 (show (1 : Int32).toInt = 1 by decide); have := lv_neT e2 (show (2 : Int32).toInt = 2 by decide); omega) (by decide) ?_
  refine x_iload_n 61 C dX4_fitsWalkers_60 1 rfl rfl rfl ?_
  refine x_bipush 63 C dX4_fitsWalkers_61 cb_59 rfl ?_
  refine x_icmp_ne 66 70 C dX4_fitsWalkers_63 (by decide) rfl (fun _ => ?_) (fun _ => ?_)
  · refine x_iconst 71 C dX4_fitsWalkers_70 ci_0 rfl ?_
    exact x_zret C E dX4_fitsWalkers_71 (Or.inl rfl) rfl
  · refine x_iconst 67 C dX4_fitsWalkers_66 ci_1 rfl ?_
    refine x_goto 71 C dX4_fitsWalkers_67 (by decide) ?_
    exact x_zret C E dX4_fitsWalkers_71 (Or.inr rfl) rfl

def f_X4_faultOfWalkers (h : Hp) (S : Nat) : Option Int32 :=
  lt1 (fun (u1 : Int32) =>
    if (h.1 S 1) = 0 then (
      some (-1 : Int32))
    else (
      if ((h.1 S 1) - (h.1 S 1) / (4 : Int32) * (4 : Int32)) = (3 : Int32) then (
        some (-1 : Int32))
      else (
        some (h.1 S 1)))) fun k1 =>
  fx1 FU (fun s2 (x2 : Int32) =>
    if (h.1 S 1) ≤ x2 then (
      k1 (0 : Int32))
    else (
      bdr (f_X4_byteAt h S x2) fun x3 =>
      bdr (f_X4_fitsWalkers (x2 - x2 / (4 : Int32) * (4 : Int32)) x3) fun x4 =>
      if x4 = 0 then (
        some x2)
      else (
        nm (x2 + (1 : Int32)) fun x5 =>
        s2 x5))) (0 : Int32)
theorem dX4_faultOfWalkers_0 : decode cX4_faultOfWalkers 0 = .ok (.iconst 0, 1) := by decide +kernel
theorem dX4_faultOfWalkers_1 : decode cX4_faultOfWalkers 1 = .ok (.istore_n 1, 1) := by decide +kernel
theorem dX4_faultOfWalkers_2 : decode cX4_faultOfWalkers 2 = .ok (.iload_n 1, 1) := by decide +kernel
theorem dX4_faultOfWalkers_3 : decode cX4_faultOfWalkers 3 = .ok (.aload_n 0, 1) := by decide +kernel
theorem dX4_faultOfWalkers_4 : decode cX4_faultOfWalkers 4 = .ok (.getfield 9, 3) := by decide +kernel
theorem dX4_faultOfWalkers_7 : decode cX4_faultOfWalkers 7 = .ok (.if_icmp .ge 25, 3) := by decide +kernel
theorem dX4_faultOfWalkers_10 : decode cX4_faultOfWalkers 10 = .ok (.iload_n 1, 1) := by decide +kernel
theorem dX4_faultOfWalkers_11 : decode cX4_faultOfWalkers 11 = .ok (.iconst 4, 1) := by decide +kernel
theorem dX4_faultOfWalkers_12 : decode cX4_faultOfWalkers 12 = .ok (.irem, 1) := by decide +kernel
theorem dX4_faultOfWalkers_13 : decode cX4_faultOfWalkers 13 = .ok (.aload_n 0, 1) := by decide +kernel
theorem dX4_faultOfWalkers_14 : decode cX4_faultOfWalkers 14 = .ok (.iload_n 1, 1) := by decide +kernel
theorem dX4_faultOfWalkers_15 : decode cX4_faultOfWalkers 15 = .ok (.invokevirtual 25, 3) := by decide +kernel
theorem dX4_faultOfWalkers_18 : decode cX4_faultOfWalkers 18 = .ok (.invokestatic 29, 3) := by decide +kernel
theorem dX4_faultOfWalkers_21 : decode cX4_faultOfWalkers 21 = .ok (.ifCond .ne 5, 3) := by decide +kernel
theorem dX4_faultOfWalkers_24 : decode cX4_faultOfWalkers 24 = .ok (.iload_n 1, 1) := by decide +kernel
theorem dX4_faultOfWalkers_25 : decode cX4_faultOfWalkers 25 = .ok (.ireturn, 1) := by decide +kernel
theorem dX4_faultOfWalkers_26 : decode cX4_faultOfWalkers 26 = .ok (.iinc 1 1, 3) := by decide +kernel
theorem dX4_faultOfWalkers_29 : decode cX4_faultOfWalkers 29 = .ok (.goto (-27), 3) := by decide +kernel
theorem dX4_faultOfWalkers_32 : decode cX4_faultOfWalkers 32 = .ok (.aload_n 0, 1) := by decide +kernel
theorem dX4_faultOfWalkers_33 : decode cX4_faultOfWalkers 33 = .ok (.getfield 9, 3) := by decide +kernel
theorem dX4_faultOfWalkers_36 : decode cX4_faultOfWalkers 36 = .ok (.ifCond .eq 13, 3) := by decide +kernel
theorem dX4_faultOfWalkers_39 : decode cX4_faultOfWalkers 39 = .ok (.aload_n 0, 1) := by decide +kernel
theorem dX4_faultOfWalkers_40 : decode cX4_faultOfWalkers 40 = .ok (.getfield 9, 3) := by decide +kernel
theorem dX4_faultOfWalkers_43 : decode cX4_faultOfWalkers 43 = .ok (.iconst 4, 1) := by decide +kernel
theorem dX4_faultOfWalkers_44 : decode cX4_faultOfWalkers 44 = .ok (.irem, 1) := by decide +kernel
theorem dX4_faultOfWalkers_45 : decode cX4_faultOfWalkers 45 = .ok (.iconst 3, 1) := by decide +kernel
theorem dX4_faultOfWalkers_46 : decode cX4_faultOfWalkers 46 = .ok (.if_icmp .ne 7, 3) := by decide +kernel
theorem dX4_faultOfWalkers_49 : decode cX4_faultOfWalkers 49 = .ok (.iconst (-1), 1) := by decide +kernel
theorem dX4_faultOfWalkers_50 : decode cX4_faultOfWalkers 50 = .ok (.goto 7, 3) := by decide +kernel
theorem dX4_faultOfWalkers_53 : decode cX4_faultOfWalkers 53 = .ok (.aload_n 0, 1) := by decide +kernel
theorem dX4_faultOfWalkers_54 : decode cX4_faultOfWalkers 54 = .ok (.getfield 9, 3) := by decide +kernel
theorem dX4_faultOfWalkers_57 : decode cX4_faultOfWalkers 57 = .ok (.ireturn, 1) := by decide +kernel
set_option maxRecDepth 20000 in
theorem m_X4_faultOfWalkers {h : Hp} {S : Nat} (hS : sk S = 4) {u : Int32} (hu : f_X4_faultOfWalkers h S = some u) : Ct yX4_faultOfWalkers cX4_faultOfWalkers 2 (some .int) 2 [.ref S] h ((rI h) u) := by
  refine ct_of (rI h) hu (by decide) (Nat.le_of_ble_eq_true rfl) (fun κ hn C E => ?_)
  have n1 : 1 < kn κ := by rw [hn]; decide
  unfold f_X4_faultOfWalkers
  show Xz κ _ 0 [(0, .ref S)] [] h
  refine x_iconst 1 C dX4_faultOfWalkers_0 ci_0 rfl ?_
  refine x_istore_n 2 [(1, .int (0 : Int32)), (0, .ref S)] C dX4_faultOfWalkers_1 n1 rfl rfl rfl ?_
  refine x_lt1 (q := 32) (ls := fun u1 => [(0, .ref S)]) (st := fun u1 => []) (hh := fun u1 => h) (fun u1 => ?_) (fun k1 J1 => ?_)
  · refine x_aload_n 33 C dX4_faultOfWalkers_32 0 rfl rfl rfl ?_
    refine x_getI 36 C dX4_faultOfWalkers_33 fl_X4_9 hS rfl rfl ?_
    refine x_if_eq 39 49 C dX4_faultOfWalkers_36 (by decide) rfl (fun _ => ?_) (fun _ => ?_)
    · refine x_iconst 50 C dX4_faultOfWalkers_49 ci_m1 rfl ?_
      refine x_goto 57 C dX4_faultOfWalkers_50 (by decide) ?_
      exact x_iret C E dX4_faultOfWalkers_57 rfl
    · refine x_aload_n 40 C dX4_faultOfWalkers_39 0 rfl rfl rfl ?_
      refine x_getI 43 C dX4_faultOfWalkers_40 fl_X4_9 hS rfl rfl ?_
      refine x_iconst 44 C dX4_faultOfWalkers_43 ci_4 rfl ?_
      refine x_irem 45 C dX4_faultOfWalkers_44 nz_4 rfl ?_
      refine x_iconst 46 C dX4_faultOfWalkers_45 ci_3 rfl ?_
      refine x_icmp_ne 49 53 C dX4_faultOfWalkers_46 (by decide) rfl (fun _ => ?_) (fun _ => ?_)
      · refine x_aload_n 54 C dX4_faultOfWalkers_53 0 rfl rfl rfl ?_
        refine x_getI 57 C dX4_faultOfWalkers_54 fl_X4_9 hS rfl rfl ?_
        exact x_iret C E dX4_faultOfWalkers_57 rfl
      · refine x_iconst 50 C dX4_faultOfWalkers_49 ci_m1 rfl ?_
        refine x_goto 57 C dX4_faultOfWalkers_50 (by decide) ?_
        exact x_iret C E dX4_faultOfWalkers_57 rfl
  refine x_ls [1, 0] rfl (x_fx1 (ls := fun x2 => [(0, .ref S), (1, .int x2)]) (st := fun x2 => []) (hh := fun x2 => h) (fun s2 J2 x2 => ?_))
  refine x_iload_n 3 C dX4_faultOfWalkers_2 1 rfl rfl rfl ?_
  refine x_aload_n 4 C dX4_faultOfWalkers_3 0 rfl rfl rfl ?_
  refine x_getI 7 C dX4_faultOfWalkers_4 fl_X4_9 hS rfl rfl ?_
  refine x_icmp_ge 10 32 C dX4_faultOfWalkers_7 (by decide) rfl (fun _ => ?_) (fun _ => ?_)
  · exact x_ls [0] rfl (J1 (0 : Int32))
  · refine x_iload_n 11 C dX4_faultOfWalkers_10 1 rfl rfl rfl ?_
    refine x_iconst 12 C dX4_faultOfWalkers_11 ci_4 rfl ?_
    refine x_irem 13 C dX4_faultOfWalkers_12 nz_4 rfl ?_
    refine x_aload_n 14 C dX4_faultOfWalkers_13 0 rfl rfl rfl ?_
    refine x_iload_n 15 C dX4_faultOfWalkers_14 1 rfl rfl rfl ?_
    refine x_cvi 18 [.int x2] [.int (x2 - x2 / (4 : Int32) * (4 : Int32))] C 0 dX4_faultOfWalkers_15 v_X4_25 (fun u hu => m_X4_byteAt hS hu) rfl hS rfl (Nat.le_of_ble_eq_true rfl) (Nat.le_of_ble_eq_true rfl) rfl (fun x3 => ?_)
    refine x_csi 21 [.int (x2 - x2 / (4 : Int32) * (4 : Int32)), .int x3] [] C 1 dX4_faultOfWalkers_18 s_X4_29 (fun u hu => m_X4_fitsWalkers hu) rfl rfl (Nat.le_of_ble_eq_true rfl) (Nat.le_of_ble_eq_true rfl) rfl (fun x4 => ?_)
    refine x_if_ne 24 26 C dX4_faultOfWalkers_21 (by decide) rfl (fun _ => ?_) (fun _ => ?_)
    · refine x_iinc 29 (fun x5 => [(1, .int x5), (0, .ref S)]) C dX4_faultOfWalkers_26 1 rfl ci_1 n1 (fun _ => rfl) rfl (fun x5 => ?_)
      refine x_goto 2 C dX4_faultOfWalkers_29 (by decide) ?_
      exact x_ls [1, 0] rfl (J2 x5)
    · refine x_iload_n 25 C dX4_faultOfWalkers_24 1 rfl rfl rfl ?_
      exact x_iret C E dX4_faultOfWalkers_25 rfl

def f_X4_moveOf (a1 : Int32) : Option Int32 :=
  if a1 = (102 : Int32) then (
    some (0 : Int32))
  else (
    if a1 = (108 : Int32) then (
      some (2 : Int32))
    else (
      if a1 = (114 : Int32) then (
        some (3 : Int32))
      else (
        if a1 = (119 : Int32) then (
          some (1 : Int32))
        else (
          some (-1 : Int32)))))
theorem dX4_moveOf_0 : decode cX4_moveOf 0 = .ok (.iload_n 0, 1) := by decide +kernel
theorem dX4_moveOf_1 : decode cX4_moveOf 1 = .ok (.lookupswitch 51 #[(102, 43), (108, 47), (114, 49), (119, 45)], 43) := by decide +kernel
theorem dX4_moveOf_44 : decode cX4_moveOf 44 = .ok (.iconst 0, 1) := by decide +kernel
theorem dX4_moveOf_45 : decode cX4_moveOf 45 = .ok (.ireturn, 1) := by decide +kernel
theorem dX4_moveOf_46 : decode cX4_moveOf 46 = .ok (.iconst 1, 1) := by decide +kernel
theorem dX4_moveOf_47 : decode cX4_moveOf 47 = .ok (.ireturn, 1) := by decide +kernel
theorem dX4_moveOf_48 : decode cX4_moveOf 48 = .ok (.iconst 2, 1) := by decide +kernel
theorem dX4_moveOf_49 : decode cX4_moveOf 49 = .ok (.ireturn, 1) := by decide +kernel
theorem dX4_moveOf_50 : decode cX4_moveOf 50 = .ok (.iconst 3, 1) := by decide +kernel
theorem dX4_moveOf_51 : decode cX4_moveOf 51 = .ok (.ireturn, 1) := by decide +kernel
theorem dX4_moveOf_52 : decode cX4_moveOf 52 = .ok (.iconst (-1), 1) := by decide +kernel
theorem dX4_moveOf_53 : decode cX4_moveOf 53 = .ok (.ireturn, 1) := by decide +kernel
set_option maxRecDepth 20000 in
theorem m_X4_moveOf {h : Hp} {a1 : Int32}  {u : Int32} (hu : f_X4_moveOf a1 = some u) : Ct yX4_moveOf cX4_moveOf 1 (some .int) 0 [.int a1] h ((rI h) u) := by
  refine ct_of (rI h) hu (by decide) (Nat.le_of_ble_eq_true rfl) (fun κ hn C E => ?_)
  unfold f_X4_moveOf
  show Xz κ _ 0 [(0, .int a1)] [] h
  refine x_iload_n 1 C dX4_moveOf_0 0 rfl rfl rfl ?_
  refine x_ite (fun e102 => ?_) (fun e102 => ?_)
  · refine x_lkp (off := 43) 44 C dX4_moveOf_1 (by decide) (by rw [e102]; first | done | decide) (by decide) ?_
    refine x_iconst 45 C dX4_moveOf_44 ci_0 rfl ?_
    exact x_iret C E dX4_moveOf_45 rfl
  refine x_ite (fun e108 => ?_) (fun e108 => ?_)
  · refine x_lkp (off := 47) 48 C dX4_moveOf_1 (by decide) (by rw [e108]; first | done | decide) (by decide) ?_
    refine x_iconst 49 C dX4_moveOf_48 ci_2 rfl ?_
    exact x_iret C E dX4_moveOf_49 rfl
  refine x_ite (fun e114 => ?_) (fun e114 => ?_)
  · refine x_lkp (off := 49) 50 C dX4_moveOf_1 (by decide) (by rw [e114]; first | done | decide) (by decide) ?_
    refine x_iconst 51 C dX4_moveOf_50 ci_3 rfl ?_
    exact x_iret C E dX4_moveOf_51 rfl
  refine x_ite (fun e119 => ?_) (fun e119 => ?_)
  · refine x_lkp (off := 45) 46 C dX4_moveOf_1 (by decide) (by rw [e119]; first | done | decide) (by decide) ?_
    refine x_iconst 47 C dX4_moveOf_46 ci_1 rfl ?_
    exact x_iret C E dX4_moveOf_47 rfl
  refine x_lkp (off := 51) 52 C dX4_moveOf_1 (by decide) (by show Op.lookupswitch.offset [(102, 43), (108, 47), (114, 49), (119, 45)] _ _ = _; rw [lv_osw e102 (show (102 : Int32).toInt = 102 by decide), lv_osw e108 (show (108 : Int32).toInt = 108 by decide), lv_osw e114 (show (114 : Int32).toInt = 114 by decide), lv_osw e119 (show (119 : Int32).toInt = 119 by decide)]; first | done | rfl) (by decide) ?_
  refine x_iconst 53 C dX4_moveOf_52 ci_m1 rfl ?_
  exact x_iret C E dX4_moveOf_53 rfl
