def f_X8_goes (h : Hp) (a1 : Int32) (a2 : Int32) : Option Hp :=
  ck (((3 : Int32) * a2) + (1 : Int32)) 18 (
    lt1 (fun (x1 : Int32) =>
      lt1 (fun (x2 : Int32) =>
        lt1 (fun (x3 : Int32) =>
          nm (x2 + x3) fun x4 =>
          lt2 (fun (h5 : Hp) (x6 : Int32) =>
            ck a2 6 (
              lt1 (fun (x7 : Int32) =>
                ck a2 6 (nm (ux h5 85 a2 ((ia h5 85 a2) + x7)) fun h8 =>
                nm (uf h8 68 27 ((h8.1 68 27) + x6)) fun h9 =>
                some h9)) fun k5 =>
              if x6 = 0 then (
                k5 (1 : Int32))
              else (
                k5 (0 : Int32)))) fun k4 =>
          fx2 FU (fun s6 (h10 : Hp) (x11 : Int32) =>
            if x4 ≤ x11 then (
              k4 h10 x11)
            else (
              ck a2 6 (
                if (ia h10 79 a2) = (1 : Int32) then (
                  ck a2 6 (
                    bdr (f_X8_whoAt h10 ((ia h10 80 a2) + (1 : Int32))) fun x12 =>
                    if x12 = (-1 : Int32) then (
                      ck a2 6 (
                        ck a2 6 (nm (ux h10 80 a2 ((ia h10 80 a2) + (1 : Int32))) fun h13 =>
                        nm (x11 + (1 : Int32)) fun x14 =>
                        ck a2 6 (
                          lt1 (fun (x15 : Int32) =>
                            ck a2 6 (nm (ux h13 81 a2 ((ia h13 81 a2) + x15)) fun h16 =>
                            ck a2 6 (
                              if (ia h16 80 a2) = (h16.1 77 0) then (
                                ck a2 6 (nm (ux h16 79 a2 (2 : Int32)) fun h17 =>
                                ck a2 6 (nm (ux h17 84 a2 a1) fun h18 =>
                                ck a2 6 (nm (ux h18 81 a2 (0 : Int32)) fun h19 =>
                                s6 h19 x14))))
                              else (
                                s6 h16 x14)))) fun k7 =>
                          if x1 = 0 then (
                            k7 (0 : Int32))
                          else (
                            k7 (1 : Int32))))))
                    else (
                      k4 h10 x11)))
                else (
                  k4 h10 x11)))) h (0 : Int32)) fun k3 =>
        if (h.1 68 28) = 0 then (
          k3 (0 : Int32))
        else (
          k3 (1 : Int32))) fun k2 =>
      if x1 = 0 then (
        k2 (1 : Int32))
      else (
        k2 (2 : Int32))) fun k1 =>
    if (ia h 75 (((3 : Int32) * a2) + (1 : Int32))) = (1 : Int32) then (
      k1 (1 : Int32))
    else (
      k1 (0 : Int32)))
theorem dX8_goes_0 : decode cX8_goes 0 = .ok (.aload_n 0, 1) := by decide +kernel
theorem dX8_goes_1 : decode cX8_goes 1 = .ok (.getfield 28, 3) := by decide +kernel
theorem dX8_goes_4 : decode cX8_goes 4 = .ok (.iconst 3, 1) := by decide +kernel
theorem dX8_goes_5 : decode cX8_goes 5 = .ok (.iload_n 2, 1) := by decide +kernel
theorem dX8_goes_6 : decode cX8_goes 6 = .ok (.imul, 1) := by decide +kernel
theorem dX8_goes_7 : decode cX8_goes 7 = .ok (.iconst 1, 1) := by decide +kernel
theorem dX8_goes_8 : decode cX8_goes 8 = .ok (.iadd, 1) := by decide +kernel
theorem dX8_goes_9 : decode cX8_goes 9 = .ok (.iaload, 1) := by decide +kernel
theorem dX8_goes_10 : decode cX8_goes 10 = .ok (.iconst 1, 1) := by decide +kernel
theorem dX8_goes_11 : decode cX8_goes 11 = .ok (.if_icmp .ne 7, 3) := by decide +kernel
theorem dX8_goes_14 : decode cX8_goes 14 = .ok (.iconst 1, 1) := by decide +kernel
theorem dX8_goes_15 : decode cX8_goes 15 = .ok (.goto 4, 3) := by decide +kernel
theorem dX8_goes_18 : decode cX8_goes 18 = .ok (.iconst 0, 1) := by decide +kernel
theorem dX8_goes_19 : decode cX8_goes 19 = .ok (.istore_n 3, 1) := by decide +kernel
theorem dX8_goes_20 : decode cX8_goes 20 = .ok (.iload_n 3, 1) := by decide +kernel
theorem dX8_goes_21 : decode cX8_goes 21 = .ok (.ifCond .eq 7, 3) := by decide +kernel
theorem dX8_goes_24 : decode cX8_goes 24 = .ok (.iconst 2, 1) := by decide +kernel
theorem dX8_goes_25 : decode cX8_goes 25 = .ok (.goto 4, 3) := by decide +kernel
theorem dX8_goes_28 : decode cX8_goes 28 = .ok (.iconst 1, 1) := by decide +kernel
theorem dX8_goes_29 : decode cX8_goes 29 = .ok (.aload_n 0, 1) := by decide +kernel
theorem dX8_goes_30 : decode cX8_goes 30 = .ok (.getfield 174, 3) := by decide +kernel
theorem dX8_goes_33 : decode cX8_goes 33 = .ok (.ifCond .eq 7, 3) := by decide +kernel
theorem dX8_goes_36 : decode cX8_goes 36 = .ok (.iconst 1, 1) := by decide +kernel
theorem dX8_goes_37 : decode cX8_goes 37 = .ok (.goto 4, 3) := by decide +kernel
theorem dX8_goes_40 : decode cX8_goes 40 = .ok (.iconst 0, 1) := by decide +kernel
theorem dX8_goes_41 : decode cX8_goes 41 = .ok (.iadd, 1) := by decide +kernel
theorem dX8_goes_42 : decode cX8_goes 42 = .ok (.istore 4, 2) := by decide +kernel
theorem dX8_goes_44 : decode cX8_goes 44 = .ok (.iconst 0, 1) := by decide +kernel
theorem dX8_goes_45 : decode cX8_goes 45 = .ok (.istore 5, 2) := by decide +kernel
theorem dX8_goes_47 : decode cX8_goes 47 = .ok (.iload 5, 2) := by decide +kernel
theorem dX8_goes_49 : decode cX8_goes 49 = .ok (.iload 4, 2) := by decide +kernel
theorem dX8_goes_51 : decode cX8_goes 51 = .ok (.if_icmp .ge 99, 3) := by decide +kernel
theorem dX8_goes_54 : decode cX8_goes 54 = .ok (.aload_n 0, 1) := by decide +kernel
theorem dX8_goes_55 : decode cX8_goes 55 = .ok (.getfield 40, 3) := by decide +kernel
theorem dX8_goes_58 : decode cX8_goes 58 = .ok (.iload_n 2, 1) := by decide +kernel
theorem dX8_goes_59 : decode cX8_goes 59 = .ok (.iaload, 1) := by decide +kernel
theorem dX8_goes_60 : decode cX8_goes 60 = .ok (.iconst 1, 1) := by decide +kernel
theorem dX8_goes_61 : decode cX8_goes 61 = .ok (.if_icmp .ne 89, 3) := by decide +kernel
theorem dX8_goes_64 : decode cX8_goes 64 = .ok (.aload_n 0, 1) := by decide +kernel
theorem dX8_goes_65 : decode cX8_goes 65 = .ok (.aload_n 0, 1) := by decide +kernel
theorem dX8_goes_66 : decode cX8_goes 66 = .ok (.getfield 43, 3) := by decide +kernel
theorem dX8_goes_69 : decode cX8_goes 69 = .ok (.iload_n 2, 1) := by decide +kernel
theorem dX8_goes_70 : decode cX8_goes 70 = .ok (.iaload, 1) := by decide +kernel
theorem dX8_goes_71 : decode cX8_goes 71 = .ok (.iconst 1, 1) := by decide +kernel
theorem dX8_goes_72 : decode cX8_goes 72 = .ok (.iadd, 1) := by decide +kernel
theorem dX8_goes_73 : decode cX8_goes 73 = .ok (.invokevirtual 188, 3) := by decide +kernel
theorem dX8_goes_76 : decode cX8_goes 76 = .ok (.iconst (-1), 1) := by decide +kernel
theorem dX8_goes_77 : decode cX8_goes 77 = .ok (.if_icmp .ne 73, 3) := by decide +kernel
theorem dX8_goes_80 : decode cX8_goes 80 = .ok (.aload_n 0, 1) := by decide +kernel
theorem dX8_goes_81 : decode cX8_goes 81 = .ok (.getfield 43, 3) := by decide +kernel
theorem dX8_goes_84 : decode cX8_goes 84 = .ok (.iload_n 2, 1) := by decide +kernel
theorem dX8_goes_85 : decode cX8_goes 85 = .ok (.dup2, 1) := by decide +kernel
theorem dX8_goes_86 : decode cX8_goes 86 = .ok (.iaload, 1) := by decide +kernel
theorem dX8_goes_87 : decode cX8_goes 87 = .ok (.iconst 1, 1) := by decide +kernel
theorem dX8_goes_88 : decode cX8_goes 88 = .ok (.iadd, 1) := by decide +kernel
theorem dX8_goes_89 : decode cX8_goes 89 = .ok (.iastore, 1) := by decide +kernel
theorem dX8_goes_90 : decode cX8_goes 90 = .ok (.iinc 5 1, 3) := by decide +kernel
theorem dX8_goes_93 : decode cX8_goes 93 = .ok (.aload_n 0, 1) := by decide +kernel
theorem dX8_goes_94 : decode cX8_goes 94 = .ok (.getfield 46, 3) := by decide +kernel
theorem dX8_goes_97 : decode cX8_goes 97 = .ok (.iload_n 2, 1) := by decide +kernel
theorem dX8_goes_98 : decode cX8_goes 98 = .ok (.dup2, 1) := by decide +kernel
theorem dX8_goes_99 : decode cX8_goes 99 = .ok (.iaload, 1) := by decide +kernel
theorem dX8_goes_100 : decode cX8_goes 100 = .ok (.iload_n 3, 1) := by decide +kernel
theorem dX8_goes_101 : decode cX8_goes 101 = .ok (.ifCond .eq 7, 3) := by decide +kernel
theorem dX8_goes_104 : decode cX8_goes 104 = .ok (.iconst 1, 1) := by decide +kernel
theorem dX8_goes_105 : decode cX8_goes 105 = .ok (.goto 4, 3) := by decide +kernel
theorem dX8_goes_108 : decode cX8_goes 108 = .ok (.iconst 0, 1) := by decide +kernel
theorem dX8_goes_109 : decode cX8_goes 109 = .ok (.iadd, 1) := by decide +kernel
theorem dX8_goes_110 : decode cX8_goes 110 = .ok (.iastore, 1) := by decide +kernel
theorem dX8_goes_111 : decode cX8_goes 111 = .ok (.aload_n 0, 1) := by decide +kernel
theorem dX8_goes_112 : decode cX8_goes 112 = .ok (.getfield 43, 3) := by decide +kernel
theorem dX8_goes_115 : decode cX8_goes 115 = .ok (.iload_n 2, 1) := by decide +kernel
theorem dX8_goes_116 : decode cX8_goes 116 = .ok (.iaload, 1) := by decide +kernel
theorem dX8_goes_117 : decode cX8_goes 117 = .ok (.aload_n 0, 1) := by decide +kernel
theorem dX8_goes_118 : decode cX8_goes 118 = .ok (.getfield 34, 3) := by decide +kernel
theorem dX8_goes_121 : decode cX8_goes 121 = .ok (.iconst 0, 1) := by decide +kernel
theorem dX8_goes_122 : decode cX8_goes 122 = .ok (.iaload, 1) := by decide +kernel
theorem dX8_goes_123 : decode cX8_goes 123 = .ok (.if_icmp .ne (-76), 3) := by decide +kernel
theorem dX8_goes_126 : decode cX8_goes 126 = .ok (.aload_n 0, 1) := by decide +kernel
theorem dX8_goes_127 : decode cX8_goes 127 = .ok (.getfield 40, 3) := by decide +kernel
theorem dX8_goes_130 : decode cX8_goes 130 = .ok (.iload_n 2, 1) := by decide +kernel
theorem dX8_goes_131 : decode cX8_goes 131 = .ok (.iconst 2, 1) := by decide +kernel
theorem dX8_goes_132 : decode cX8_goes 132 = .ok (.iastore, 1) := by decide +kernel
theorem dX8_goes_133 : decode cX8_goes 133 = .ok (.aload_n 0, 1) := by decide +kernel
theorem dX8_goes_134 : decode cX8_goes 134 = .ok (.getfield 55, 3) := by decide +kernel
theorem dX8_goes_137 : decode cX8_goes 137 = .ok (.iload_n 2, 1) := by decide +kernel
theorem dX8_goes_138 : decode cX8_goes 138 = .ok (.iload_n 1, 1) := by decide +kernel
theorem dX8_goes_139 : decode cX8_goes 139 = .ok (.iastore, 1) := by decide +kernel
theorem dX8_goes_140 : decode cX8_goes 140 = .ok (.aload_n 0, 1) := by decide +kernel
theorem dX8_goes_141 : decode cX8_goes 141 = .ok (.getfield 46, 3) := by decide +kernel
theorem dX8_goes_144 : decode cX8_goes 144 = .ok (.iload_n 2, 1) := by decide +kernel
theorem dX8_goes_145 : decode cX8_goes 145 = .ok (.iconst 0, 1) := by decide +kernel
theorem dX8_goes_146 : decode cX8_goes 146 = .ok (.iastore, 1) := by decide +kernel
theorem dX8_goes_147 : decode cX8_goes 147 = .ok (.goto (-100), 3) := by decide +kernel
theorem dX8_goes_150 : decode cX8_goes 150 = .ok (.aload_n 0, 1) := by decide +kernel
theorem dX8_goes_151 : decode cX8_goes 151 = .ok (.getfield 58, 3) := by decide +kernel
theorem dX8_goes_154 : decode cX8_goes 154 = .ok (.iload_n 2, 1) := by decide +kernel
theorem dX8_goes_155 : decode cX8_goes 155 = .ok (.dup2, 1) := by decide +kernel
theorem dX8_goes_156 : decode cX8_goes 156 = .ok (.iaload, 1) := by decide +kernel
theorem dX8_goes_157 : decode cX8_goes 157 = .ok (.iload 5, 2) := by decide +kernel
theorem dX8_goes_159 : decode cX8_goes 159 = .ok (.ifCond .ne 7, 3) := by decide +kernel
theorem dX8_goes_162 : decode cX8_goes 162 = .ok (.iconst 1, 1) := by decide +kernel
theorem dX8_goes_163 : decode cX8_goes 163 = .ok (.goto 4, 3) := by decide +kernel
theorem dX8_goes_166 : decode cX8_goes 166 = .ok (.iconst 0, 1) := by decide +kernel
theorem dX8_goes_167 : decode cX8_goes 167 = .ok (.iadd, 1) := by decide +kernel
theorem dX8_goes_168 : decode cX8_goes 168 = .ok (.iastore, 1) := by decide +kernel
theorem dX8_goes_169 : decode cX8_goes 169 = .ok (.aload_n 0, 1) := by decide +kernel
theorem dX8_goes_170 : decode cX8_goes 170 = .ok (.dup, 1) := by decide +kernel
theorem dX8_goes_171 : decode cX8_goes 171 = .ok (.getfield 191, 3) := by decide +kernel
theorem dX8_goes_174 : decode cX8_goes 174 = .ok (.iload 5, 2) := by decide +kernel
theorem dX8_goes_176 : decode cX8_goes 176 = .ok (.iadd, 1) := by decide +kernel
theorem dX8_goes_177 : decode cX8_goes 177 = .ok (.putfield 191, 3) := by decide +kernel
theorem dX8_goes_180 : decode cX8_goes 180 = .ok (.return_, 1) := by decide +kernel
set_option maxRecDepth 20000 in
theorem m_X8_goes {h : Hp} {a1 : Int32} {a2 : Int32}  {u : Hp} (hu : f_X8_goes h a1 a2 = some u) : Ct yX8_goes cX8_goes 6 none 1 [.ref 68, .int a1, .int a2] h (eV u) := by
  refine ct_of eV hu (by decide) (Nat.le_of_ble_eq_true rfl) (fun κ hn C E => ?_)
  have n3 : 3 < kn κ := by rw [hn]; decide
  have n4 : 4 < kn κ := by rw [hn]; decide
  have n5 : 5 < kn κ := by rw [hn]; decide
  unfold f_X8_goes
  show Xz κ _ 0 [(0, .ref 68), (1, .int a1), (2, .int a2)] [] h
  refine x_aload_n 1 C dX8_goes_0 0 rfl rfl rfl ?_
  refine x_getR (c := 75) 4 C dX8_goes_1 fl_X8_28 sk_68 rfl sr_68_8 rfl ?_
  refine x_iconst 5 C dX8_goes_4 ci_3 rfl ?_
  refine x_iload_n 6 C dX8_goes_5 2 rfl rfl rfl ?_
  refine x_imul 7 C dX8_goes_6 rfl ?_
  refine x_iconst 8 C dX8_goes_7 ci_1 rfl ?_
  refine x_iadd 9 C dX8_goes_8 rfl ?_
  refine x_iald 10 C dX8_goes_9 sk_75 sl_75 rfl ?_
  refine x_iconst 11 C dX8_goes_10 ci_1 rfl ?_
  refine x_lt1 (q := 19) (ls := fun x1 => [(0, .ref 68), (1, .int a1), (2, .int a2)]) (st := fun x1 => [.int x1]) (hh := fun x1 => h) (fun x1 => ?_) (fun k1 J1 => ?_)
  · refine x_istore_n 20 [(3, .int x1), (0, .ref 68), (1, .int a1), (2, .int a2)] C dX8_goes_19 n3 rfl rfl rfl ?_
    refine x_iload_n 21 C dX8_goes_20 0 rfl rfl rfl ?_
    refine x_lt1 (q := 29) (ls := fun x2 => [(0, .ref 68), (1, .int a1), (2, .int a2), (3, .int x1)]) (st := fun x2 => [.int x2]) (hh := fun x2 => h) (fun x2 => ?_) (fun k2 J2 => ?_)
    · refine x_aload_n 30 C dX8_goes_29 0 rfl rfl rfl ?_
      refine x_getI 33 C dX8_goes_30 fl_X8_174 sk_68 rfl rfl ?_
      refine x_lt1 (q := 41) (ls := fun x3 => [(0, .ref 68), (1, .int a1), (2, .int a2), (3, .int x1)]) (st := fun x3 => [.int x3, .int x2]) (hh := fun x3 => h) (fun x3 => ?_) (fun k3 J3 => ?_)
      · refine x_iadd 42 C dX8_goes_41 rfl ?_
        refine x_ni (fun x4 => ?_)
        refine x_istore 44 [(4, .int x4), (0, .ref 68), (1, .int a1), (2, .int a2), (3, .int x1)] C dX8_goes_42 n4 rfl rfl ?_
        refine x_iconst 45 C dX8_goes_44 ci_0 rfl ?_
        refine x_istore 47 [(5, .int (0 : Int32)), (4, .int x4), (0, .ref 68), (1, .int a1), (2, .int a2), (3, .int x1)] C dX8_goes_45 n5 rfl rfl ?_
        refine x_lt2 (q := 150) (ls := fun h5 x6 => [(0, .ref 68), (2, .int a2), (5, .int x6)]) (st := fun h5 x6 => []) (hh := fun h5 x6 => h5) (fun h5 x6 => ?_) (fun k4 J4 => ?_)
        · refine x_aload_n 151 C dX8_goes_150 0 rfl rfl rfl ?_
          refine x_getR (c := 85) 154 C dX8_goes_151 fl_X8_58 sk_68 rfl sr_68_21 rfl ?_
          refine x_iload_n 155 C dX8_goes_154 1 rfl rfl rfl ?_
          refine x_dup2 156 C dX8_goes_155 rfl rfl rfl ?_
          refine x_iald 157 C dX8_goes_156 sk_85 sl_85 rfl ?_
          refine x_iload 159 C dX8_goes_157 2 rfl rfl ?_
          refine x_lt1 (q := 167) (ls := fun x7 => [(0, .ref 68), (5, .int x6)]) (st := fun x7 => [.int x7, .int (ia h5 85 a2), .int a2, .ref 85]) (hh := fun x7 => h5) (fun x7 => ?_) (fun k5 J5 => ?_)
          · refine x_iadd 168 C dX8_goes_167 rfl ?_
            refine x_iast 169 C dX8_goes_168 sk_85 sl_85 rfl (fun h8 => ?_)
            refine x_aload_n 170 C dX8_goes_169 0 rfl rfl rfl ?_
            refine x_dup 171 C dX8_goes_170 rfl rfl ?_
            refine x_getI 174 C dX8_goes_171 fl_X8_191 sk_68 rfl rfl ?_
            refine x_iload 176 C dX8_goes_174 1 rfl rfl ?_
            refine x_iadd 177 C dX8_goes_176 rfl ?_
            refine x_put 180 C dX8_goes_177 fp_X8_191 sk_68 rfl rfl rfl rfl (fun h9 => ?_)
            exact x_vret C E dX8_goes_180 rfl
          refine x_if_ne 162 166 C dX8_goes_159 (by decide) rfl (fun _ => ?_) (fun _ => ?_)
          · refine x_iconst 167 C dX8_goes_166 ci_0 rfl ?_
            exact x_ls [0, 2] rfl (J5 (0 : Int32))
          · refine x_iconst 163 C dX8_goes_162 ci_1 rfl ?_
            refine x_goto 167 C dX8_goes_163 (by decide) ?_
            exact x_ls [0, 2] rfl (J5 (1 : Int32))
        refine x_ls [2, 3, 4, 5, 1, 0] rfl (x_fx2 (ls := fun h10 x11 => [(0, .ref 68), (1, .int a1), (2, .int a2), (3, .int x1), (4, .int x4), (5, .int x11)]) (st := fun h10 x11 => []) (hh := fun h10 x11 => h10) (fun s6 J6 h10 x11 => ?_))
        refine x_iload 49 C dX8_goes_47 5 rfl rfl ?_
        refine x_iload 51 C dX8_goes_49 4 rfl rfl ?_
        refine x_icmp_ge 54 150 C dX8_goes_51 (by decide) rfl (fun _ => ?_) (fun _ => ?_)
        · exact x_ls [0, 2, 5] rfl (J4 h10 x11)
        · refine x_aload_n 55 C dX8_goes_54 0 rfl rfl rfl ?_
          refine x_getR (c := 79) 58 C dX8_goes_55 fl_X8_40 sk_68 rfl sr_68_15 rfl ?_
          refine x_iload_n 59 C dX8_goes_58 2 rfl rfl rfl ?_
          refine x_iald 60 C dX8_goes_59 sk_79 sl_79 rfl ?_
          refine x_iconst 61 C dX8_goes_60 ci_1 rfl ?_
          refine x_icmp_ne 64 150 C dX8_goes_61 (by decide) rfl (fun _ => ?_) (fun _ => ?_)
          · exact x_ls [0, 2, 5] rfl (J4 h10 x11)
          · refine x_aload_n 65 C dX8_goes_64 0 rfl rfl rfl ?_
            refine x_aload_n 66 C dX8_goes_65 0 rfl rfl rfl ?_
            refine x_getR (c := 80) 69 C dX8_goes_66 fl_X8_43 sk_68 rfl sr_68_16 rfl ?_
            refine x_iload_n 70 C dX8_goes_69 2 rfl rfl rfl ?_
            refine x_iald 71 C dX8_goes_70 sk_80 sl_80 rfl ?_
            refine x_iconst 72 C dX8_goes_71 ci_1 rfl ?_
            refine x_iadd 73 C dX8_goes_72 rfl ?_
            refine x_cvi 76 [.int ((ia h10 80 a2) + (1 : Int32))] [] C 0 dX8_goes_73 v_X8_188 (fun u hu => m_X8_whoAt hu) rfl sk_68 rfl (Nat.le_of_ble_eq_true rfl) (Nat.le_of_ble_eq_true rfl) rfl (fun x12 => ?_)
            refine x_iconst 77 C dX8_goes_76 ci_m1 rfl ?_
            refine x_icmp_ne 80 150 C dX8_goes_77 (by decide) rfl (fun _ => ?_) (fun _ => ?_)
            · exact x_ls [0, 2, 5] rfl (J4 h10 x11)
            · refine x_aload_n 81 C dX8_goes_80 0 rfl rfl rfl ?_
              refine x_getR (c := 80) 84 C dX8_goes_81 fl_X8_43 sk_68 rfl sr_68_16 rfl ?_
              refine x_iload_n 85 C dX8_goes_84 2 rfl rfl rfl ?_
              refine x_dup2 86 C dX8_goes_85 rfl rfl rfl ?_
              refine x_iald 87 C dX8_goes_86 sk_80 sl_80 rfl ?_
              refine x_iconst 88 C dX8_goes_87 ci_1 rfl ?_
              refine x_iadd 89 C dX8_goes_88 rfl ?_
              refine x_iast 90 C dX8_goes_89 sk_80 sl_80 rfl (fun h13 => ?_)
              refine x_iinc 93 (fun x14 => [(5, .int x14), (0, .ref 68), (1, .int a1), (2, .int a2), (3, .int x1), (4, .int x4)]) C dX8_goes_90 5 rfl ci_1 n5 (fun _ => rfl) rfl (fun x14 => ?_)
              refine x_aload_n 94 C dX8_goes_93 1 rfl rfl rfl ?_
              refine x_getR (c := 81) 97 C dX8_goes_94 fl_X8_46 sk_68 rfl sr_68_17 rfl ?_
              refine x_iload_n 98 C dX8_goes_97 3 rfl rfl rfl ?_
              refine x_dup2 99 C dX8_goes_98 rfl rfl rfl ?_
              refine x_iald 100 C dX8_goes_99 sk_81 sl_81 rfl ?_
              refine x_iload_n 101 C dX8_goes_100 4 rfl rfl rfl ?_
              refine x_lt1 (q := 109) (ls := fun x15 => [(0, .ref 68), (1, .int a1), (2, .int a2), (3, .int x1), (4, .int x4), (5, .int x14)]) (st := fun x15 => [.int x15, .int (ia h13 81 a2), .int a2, .ref 81]) (hh := fun x15 => h13) (fun x15 => ?_) (fun k7 J7 => ?_)
              · refine x_iadd 110 C dX8_goes_109 rfl ?_
                refine x_iast 111 C dX8_goes_110 sk_81 sl_81 rfl (fun h16 => ?_)
                refine x_aload_n 112 C dX8_goes_111 0 rfl rfl rfl ?_
                refine x_getR (c := 80) 115 C dX8_goes_112 fl_X8_43 sk_68 rfl sr_68_16 rfl ?_
                refine x_iload_n 116 C dX8_goes_115 2 rfl rfl rfl ?_
                refine x_iald 117 C dX8_goes_116 sk_80 sl_80 rfl ?_
                refine x_aload_n 118 C dX8_goes_117 0 rfl rfl rfl ?_
                refine x_getR (c := 77) 121 C dX8_goes_118 fl_X8_34 sk_68 rfl sr_68_11 rfl ?_
                refine x_iconst 122 C dX8_goes_121 ci_0 rfl ?_
                refine x_ialc 123 C dX8_goes_122 sk_77 sl_77 vi_0_3 vj_0 rfl ?_
                refine x_icmp_ne 126 47 C dX8_goes_123 (by decide) rfl (fun _ => ?_) (fun _ => ?_)
                · exact x_ls [0, 1, 2, 3, 4, 5] rfl (J6 h16 x14)
                · refine x_aload_n 127 C dX8_goes_126 0 rfl rfl rfl ?_
                  refine x_getR (c := 79) 130 C dX8_goes_127 fl_X8_40 sk_68 rfl sr_68_15 rfl ?_
                  refine x_iload_n 131 C dX8_goes_130 2 rfl rfl rfl ?_
                  refine x_iconst 132 C dX8_goes_131 ci_2 rfl ?_
                  refine x_iast 133 C dX8_goes_132 sk_79 sl_79 rfl (fun h17 => ?_)
                  refine x_aload_n 134 C dX8_goes_133 0 rfl rfl rfl ?_
                  refine x_getR (c := 84) 137 C dX8_goes_134 fl_X8_55 sk_68 rfl sr_68_20 rfl ?_
                  refine x_iload_n 138 C dX8_goes_137 2 rfl rfl rfl ?_
                  refine x_iload_n 139 C dX8_goes_138 1 rfl rfl rfl ?_
                  refine x_iast 140 C dX8_goes_139 sk_84 sl_84 rfl (fun h18 => ?_)
                  refine x_aload_n 141 C dX8_goes_140 0 rfl rfl rfl ?_
                  refine x_getR (c := 81) 144 C dX8_goes_141 fl_X8_46 sk_68 rfl sr_68_17 rfl ?_
                  refine x_iload_n 145 C dX8_goes_144 2 rfl rfl rfl ?_
                  refine x_iconst 146 C dX8_goes_145 ci_0 rfl ?_
                  refine x_iast 147 C dX8_goes_146 sk_81 sl_81 rfl (fun h19 => ?_)
                  refine x_goto 47 C dX8_goes_147 (by decide) ?_
                  exact x_ls [0, 1, 2, 3, 4, 5] rfl (J6 h19 x14)
              refine x_if_eq 104 108 C dX8_goes_101 (by decide) rfl (fun _ => ?_) (fun _ => ?_)
              · refine x_iconst 109 C dX8_goes_108 ci_0 rfl ?_
                exact x_ls [1, 2, 3, 4, 5, 0] rfl (J7 (0 : Int32))
              · refine x_iconst 105 C dX8_goes_104 ci_1 rfl ?_
                refine x_goto 109 C dX8_goes_105 (by decide) ?_
                exact x_ls [1, 2, 3, 4, 5, 0] rfl (J7 (1 : Int32))
      refine x_if_eq 36 40 C dX8_goes_33 (by decide) rfl (fun _ => ?_) (fun _ => ?_)
      · refine x_iconst 41 C dX8_goes_40 ci_0 rfl ?_
        exact x_ls [0, 1, 2, 3] rfl (J3 (0 : Int32))
      · refine x_iconst 37 C dX8_goes_36 ci_1 rfl ?_
        refine x_goto 41 C dX8_goes_37 (by decide) ?_
        exact x_ls [0, 1, 2, 3] rfl (J3 (1 : Int32))
    refine x_if_eq 24 28 C dX8_goes_21 (by decide) rfl (fun _ => ?_) (fun _ => ?_)
    · refine x_iconst 29 C dX8_goes_28 ci_1 rfl ?_
      exact x_ls [1, 2, 3, 0] rfl (J2 (1 : Int32))
    · refine x_iconst 25 C dX8_goes_24 ci_2 rfl ?_
      refine x_goto 29 C dX8_goes_25 (by decide) ?_
      exact x_ls [1, 2, 3, 0] rfl (J2 (2 : Int32))
  refine x_icmp_ne 14 18 C dX8_goes_11 (by decide) rfl (fun _ => ?_) (fun _ => ?_)
  · refine x_iconst 19 C dX8_goes_18 ci_0 rfl ?_
    exact x_ls [0, 1, 2] rfl (J1 (0 : Int32))
  · refine x_iconst 15 C dX8_goes_14 ci_1 rfl ?_
    refine x_goto 19 C dX8_goes_15 (by decide) ?_
    exact x_ls [0, 1, 2] rfl (J1 (1 : Int32))

def f_X8_acting (h : Hp) (a1 : Int32) (a2 : Int32) : Option Hp :=
  ck a2 6 (
    ck (((3 : Int32) * a2) + (1 : Int32)) 18 (
      lt1 (fun (x1 : Int32) =>
        nm (((1 : Int32) + ((ia h 82 a2) / (3 : Int32))) + x1) fun x2 =>
        ck a2 6 (
          ck (ia h 83 a2) 24 (
            lt1 (fun (h3 : Hp) =>
              ck a2 6 (
                ck a2 6 (nm (ux h3 83 a2 ((ia h3 83 a2) + (1 : Int32))) fun h4 =>
                some h4))) fun k2 =>
            if (ia h 76 (ia h 83 a2)) = (0 : Int32) then (
              bdv (f_X8_goes h a1 a2) fun h5 =>
              k2 h5)
            else (
              if (ia h 76 (ia h 83 a2)) = (1 : Int32) then (
                ck a2 6 (
                  ck a2 6 (
                    lt1 (fun (x6 : Int32) =>
                      ck a2 6 (nm (ux h 81 a2 ((ia h 81 a2) - x6)) fun h7 =>
                      k2 h7)) fun k3 =>
                    if (ia h 81 a2) ≤ 0 then (
                      ck a2 6 (
                        if 0 ≤ (ia h 81 a2) then (
                          k3 (0 : Int32))
                        else (
                          k3 (-1 : Int32))))
                    else (
                      k3 (1 : Int32)))))
              else (
                if (ia h 76 (ia h 83 a2)) = (2 : Int32) then (
                  ck a2 6 (
                    ck a2 6 (nm (ux h 81 a2 ((ia h 81 a2) - x2)) fun h8 =>
                    k2 h8)))
                else (
                  ck a2 6 (
                    ck a2 6 (nm (ux h 81 a2 ((ia h 81 a2) + x2)) fun h9 =>
                    k2 h9)))))))) fun k1 =>
      if (ia h 75 (((3 : Int32) * a2) + (1 : Int32))) = (2 : Int32) then (
        k1 (1 : Int32))
      else (
        k1 (0 : Int32))))
theorem dX8_acting_0 : decode cX8_acting 0 = .ok (.iconst 1, 1) := by decide +kernel
theorem dX8_acting_1 : decode cX8_acting 1 = .ok (.aload_n 0, 1) := by decide +kernel
theorem dX8_acting_2 : decode cX8_acting 2 = .ok (.getfield 49, 3) := by decide +kernel
theorem dX8_acting_5 : decode cX8_acting 5 = .ok (.iload_n 2, 1) := by decide +kernel
theorem dX8_acting_6 : decode cX8_acting 6 = .ok (.iaload, 1) := by decide +kernel
theorem dX8_acting_7 : decode cX8_acting 7 = .ok (.iconst 3, 1) := by decide +kernel
theorem dX8_acting_8 : decode cX8_acting 8 = .ok (.idiv, 1) := by decide +kernel
theorem dX8_acting_9 : decode cX8_acting 9 = .ok (.iadd, 1) := by decide +kernel
theorem dX8_acting_10 : decode cX8_acting 10 = .ok (.aload_n 0, 1) := by decide +kernel
theorem dX8_acting_11 : decode cX8_acting 11 = .ok (.getfield 28, 3) := by decide +kernel
theorem dX8_acting_14 : decode cX8_acting 14 = .ok (.iconst 3, 1) := by decide +kernel
theorem dX8_acting_15 : decode cX8_acting 15 = .ok (.iload_n 2, 1) := by decide +kernel
theorem dX8_acting_16 : decode cX8_acting 16 = .ok (.imul, 1) := by decide +kernel
theorem dX8_acting_17 : decode cX8_acting 17 = .ok (.iconst 1, 1) := by decide +kernel
theorem dX8_acting_18 : decode cX8_acting 18 = .ok (.iadd, 1) := by decide +kernel
theorem dX8_acting_19 : decode cX8_acting 19 = .ok (.iaload, 1) := by decide +kernel
theorem dX8_acting_20 : decode cX8_acting 20 = .ok (.iconst 2, 1) := by decide +kernel
theorem dX8_acting_21 : decode cX8_acting 21 = .ok (.if_icmp .ne 7, 3) := by decide +kernel
theorem dX8_acting_24 : decode cX8_acting 24 = .ok (.iconst 1, 1) := by decide +kernel
theorem dX8_acting_25 : decode cX8_acting 25 = .ok (.goto 4, 3) := by decide +kernel
theorem dX8_acting_28 : decode cX8_acting 28 = .ok (.iconst 0, 1) := by decide +kernel
theorem dX8_acting_29 : decode cX8_acting 29 = .ok (.iadd, 1) := by decide +kernel
theorem dX8_acting_30 : decode cX8_acting 30 = .ok (.istore_n 3, 1) := by decide +kernel
theorem dX8_acting_31 : decode cX8_acting 31 = .ok (.aload_n 0, 1) := by decide +kernel
theorem dX8_acting_32 : decode cX8_acting 32 = .ok (.getfield 31, 3) := by decide +kernel
theorem dX8_acting_35 : decode cX8_acting 35 = .ok (.aload_n 0, 1) := by decide +kernel
theorem dX8_acting_36 : decode cX8_acting 36 = .ok (.getfield 52, 3) := by decide +kernel
theorem dX8_acting_39 : decode cX8_acting 39 = .ok (.iload_n 2, 1) := by decide +kernel
theorem dX8_acting_40 : decode cX8_acting 40 = .ok (.iaload, 1) := by decide +kernel
theorem dX8_acting_41 : decode cX8_acting 41 = .ok (.iaload, 1) := by decide +kernel
theorem dX8_acting_42 : decode cX8_acting 42 = .ok (.tableswitch 87 0 2 #[26, 35, 74], 26) := by decide +kernel
theorem dX8_acting_68 : decode cX8_acting 68 = .ok (.aload_n 0, 1) := by decide +kernel
theorem dX8_acting_69 : decode cX8_acting 69 = .ok (.iload_n 1, 1) := by decide +kernel
theorem dX8_acting_70 : decode cX8_acting 70 = .ok (.iload_n 2, 1) := by decide +kernel
theorem dX8_acting_71 : decode cX8_acting 71 = .ok (.invokevirtual 194, 3) := by decide +kernel
theorem dX8_acting_74 : decode cX8_acting 74 = .ok (.goto 65, 3) := by decide +kernel
theorem dX8_acting_77 : decode cX8_acting 77 = .ok (.aload_n 0, 1) := by decide +kernel
theorem dX8_acting_78 : decode cX8_acting 78 = .ok (.getfield 46, 3) := by decide +kernel
theorem dX8_acting_81 : decode cX8_acting 81 = .ok (.iload_n 2, 1) := by decide +kernel
theorem dX8_acting_82 : decode cX8_acting 82 = .ok (.dup2, 1) := by decide +kernel
theorem dX8_acting_83 : decode cX8_acting 83 = .ok (.iaload, 1) := by decide +kernel
theorem dX8_acting_84 : decode cX8_acting 84 = .ok (.aload_n 0, 1) := by decide +kernel
theorem dX8_acting_85 : decode cX8_acting 85 = .ok (.getfield 46, 3) := by decide +kernel
theorem dX8_acting_88 : decode cX8_acting 88 = .ok (.iload_n 2, 1) := by decide +kernel
theorem dX8_acting_89 : decode cX8_acting 89 = .ok (.iaload, 1) := by decide +kernel
theorem dX8_acting_90 : decode cX8_acting 90 = .ok (.ifCond .le 7, 3) := by decide +kernel
theorem dX8_acting_93 : decode cX8_acting 93 = .ok (.iconst 1, 1) := by decide +kernel
theorem dX8_acting_94 : decode cX8_acting 94 = .ok (.goto 17, 3) := by decide +kernel
theorem dX8_acting_97 : decode cX8_acting 97 = .ok (.aload_n 0, 1) := by decide +kernel
theorem dX8_acting_98 : decode cX8_acting 98 = .ok (.getfield 46, 3) := by decide +kernel
theorem dX8_acting_101 : decode cX8_acting 101 = .ok (.iload_n 2, 1) := by decide +kernel
theorem dX8_acting_102 : decode cX8_acting 102 = .ok (.iaload, 1) := by decide +kernel
theorem dX8_acting_103 : decode cX8_acting 103 = .ok (.ifCond .ge 7, 3) := by decide +kernel
theorem dX8_acting_106 : decode cX8_acting 106 = .ok (.iconst (-1), 1) := by decide +kernel
theorem dX8_acting_107 : decode cX8_acting 107 = .ok (.goto 4, 3) := by decide +kernel
theorem dX8_acting_110 : decode cX8_acting 110 = .ok (.iconst 0, 1) := by decide +kernel
theorem dX8_acting_111 : decode cX8_acting 111 = .ok (.isub, 1) := by decide +kernel
theorem dX8_acting_112 : decode cX8_acting 112 = .ok (.iastore, 1) := by decide +kernel
theorem dX8_acting_113 : decode cX8_acting 113 = .ok (.goto 26, 3) := by decide +kernel
theorem dX8_acting_116 : decode cX8_acting 116 = .ok (.aload_n 0, 1) := by decide +kernel
theorem dX8_acting_117 : decode cX8_acting 117 = .ok (.getfield 46, 3) := by decide +kernel
theorem dX8_acting_120 : decode cX8_acting 120 = .ok (.iload_n 2, 1) := by decide +kernel
theorem dX8_acting_121 : decode cX8_acting 121 = .ok (.dup2, 1) := by decide +kernel
theorem dX8_acting_122 : decode cX8_acting 122 = .ok (.iaload, 1) := by decide +kernel
theorem dX8_acting_123 : decode cX8_acting 123 = .ok (.iload_n 3, 1) := by decide +kernel
theorem dX8_acting_124 : decode cX8_acting 124 = .ok (.isub, 1) := by decide +kernel
theorem dX8_acting_125 : decode cX8_acting 125 = .ok (.iastore, 1) := by decide +kernel
theorem dX8_acting_126 : decode cX8_acting 126 = .ok (.goto 13, 3) := by decide +kernel
theorem dX8_acting_129 : decode cX8_acting 129 = .ok (.aload_n 0, 1) := by decide +kernel
theorem dX8_acting_130 : decode cX8_acting 130 = .ok (.getfield 46, 3) := by decide +kernel
theorem dX8_acting_133 : decode cX8_acting 133 = .ok (.iload_n 2, 1) := by decide +kernel
theorem dX8_acting_134 : decode cX8_acting 134 = .ok (.dup2, 1) := by decide +kernel
theorem dX8_acting_135 : decode cX8_acting 135 = .ok (.iaload, 1) := by decide +kernel
theorem dX8_acting_136 : decode cX8_acting 136 = .ok (.iload_n 3, 1) := by decide +kernel
theorem dX8_acting_137 : decode cX8_acting 137 = .ok (.iadd, 1) := by decide +kernel
theorem dX8_acting_138 : decode cX8_acting 138 = .ok (.iastore, 1) := by decide +kernel
theorem dX8_acting_139 : decode cX8_acting 139 = .ok (.aload_n 0, 1) := by decide +kernel
theorem dX8_acting_140 : decode cX8_acting 140 = .ok (.getfield 52, 3) := by decide +kernel
theorem dX8_acting_143 : decode cX8_acting 143 = .ok (.iload_n 2, 1) := by decide +kernel
theorem dX8_acting_144 : decode cX8_acting 144 = .ok (.dup2, 1) := by decide +kernel
theorem dX8_acting_145 : decode cX8_acting 145 = .ok (.iaload, 1) := by decide +kernel
theorem dX8_acting_146 : decode cX8_acting 146 = .ok (.iconst 1, 1) := by decide +kernel
theorem dX8_acting_147 : decode cX8_acting 147 = .ok (.iadd, 1) := by decide +kernel
theorem dX8_acting_148 : decode cX8_acting 148 = .ok (.iastore, 1) := by decide +kernel
theorem dX8_acting_149 : decode cX8_acting 149 = .ok (.return_, 1) := by decide +kernel
set_option maxRecDepth 20000 in
theorem m_X8_acting {h : Hp} {a1 : Int32} {a2 : Int32}  {u : Hp} (hu : f_X8_acting h a1 a2 = some u) : Ct yX8_acting cX8_acting 4 none 2 [.ref 68, .int a1, .int a2] h (eV u) := by
  refine ct_of eV hu (by decide) (Nat.le_of_ble_eq_true rfl) (fun κ hn C E => ?_)
  have n3 : 3 < kn κ := by rw [hn]; decide
  unfold f_X8_acting
  show Xz κ _ 0 [(0, .ref 68), (1, .int a1), (2, .int a2)] [] h
  refine x_iconst 1 C dX8_acting_0 ci_1 rfl ?_
  refine x_aload_n 2 C dX8_acting_1 0 rfl rfl rfl ?_
  refine x_getR (c := 82) 5 C dX8_acting_2 fl_X8_49 sk_68 rfl sr_68_18 rfl ?_
  refine x_iload_n 6 C dX8_acting_5 2 rfl rfl rfl ?_
  refine x_iald 7 C dX8_acting_6 sk_82 sl_82 rfl ?_
  refine x_iconst 8 C dX8_acting_7 ci_3 rfl ?_
  refine x_idiv 9 C dX8_acting_8 nz_3 rfl ?_
  refine x_iadd 10 C dX8_acting_9 rfl ?_
  refine x_aload_n 11 C dX8_acting_10 0 rfl rfl rfl ?_
  refine x_getR (c := 75) 14 C dX8_acting_11 fl_X8_28 sk_68 rfl sr_68_8 rfl ?_
  refine x_iconst 15 C dX8_acting_14 ci_3 rfl ?_
  refine x_iload_n 16 C dX8_acting_15 2 rfl rfl rfl ?_
  refine x_imul 17 C dX8_acting_16 rfl ?_
  refine x_iconst 18 C dX8_acting_17 ci_1 rfl ?_
  refine x_iadd 19 C dX8_acting_18 rfl ?_
  refine x_iald 20 C dX8_acting_19 sk_75 sl_75 rfl ?_
  refine x_iconst 21 C dX8_acting_20 ci_2 rfl ?_
  refine x_lt1 (q := 29) (ls := fun x1 => [(0, .ref 68), (1, .int a1), (2, .int a2)]) (st := fun x1 => [.int x1, .int ((1 : Int32) + ((ia h 82 a2) / (3 : Int32)))]) (hh := fun x1 => h) (fun x1 => ?_) (fun k1 J1 => ?_)
  · refine x_iadd 30 C dX8_acting_29 rfl ?_
    refine x_ni (fun x2 => ?_)
    refine x_istore_n 31 [(3, .int x2), (0, .ref 68), (1, .int a1), (2, .int a2)] C dX8_acting_30 n3 rfl rfl rfl ?_
    refine x_aload_n 32 C dX8_acting_31 1 rfl rfl rfl ?_
    refine x_getR (c := 76) 35 C dX8_acting_32 fl_X8_31 sk_68 rfl sr_68_10 rfl ?_
    refine x_aload_n 36 C dX8_acting_35 1 rfl rfl rfl ?_
    refine x_getR (c := 83) 39 C dX8_acting_36 fl_X8_52 sk_68 rfl sr_68_19 rfl ?_
    refine x_iload_n 40 C dX8_acting_39 3 rfl rfl rfl ?_
    refine x_iald 41 C dX8_acting_40 sk_83 sl_83 rfl ?_
    refine x_iald 42 C dX8_acting_41 sk_76 sl_76 rfl ?_
    refine x_lt1 (q := 139) (ls := fun h3 => [(0, .ref 68), (2, .int a2)]) (st := fun h3 => []) (hh := fun h3 => h3) (fun h3 => ?_) (fun k2 J2 => ?_)
    · refine x_aload_n 140 C dX8_acting_139 0 rfl rfl rfl ?_
      refine x_getR (c := 83) 143 C dX8_acting_140 fl_X8_52 sk_68 rfl sr_68_19 rfl ?_
      refine x_iload_n 144 C dX8_acting_143 1 rfl rfl rfl ?_
      refine x_dup2 145 C dX8_acting_144 rfl rfl rfl ?_
      refine x_iald 146 C dX8_acting_145 sk_83 sl_83 rfl ?_
      refine x_iconst 147 C dX8_acting_146 ci_1 rfl ?_
      refine x_iadd 148 C dX8_acting_147 rfl ?_
      refine x_iast 149 C dX8_acting_148 sk_83 sl_83 rfl (fun h4 => ?_)
      exact x_vret C E dX8_acting_149 rfl
    refine x_ite (fun e0 => ?_) (fun e0 => ?_)
    · refine x_tabI (off := 26) 68 C dX8_acting_42 e0 (by decide) (by decide) (by decide) (by decide) ?_
      refine x_aload_n 69 C dX8_acting_68 1 rfl rfl rfl ?_
      refine x_iload_n 70 C dX8_acting_69 2 rfl rfl rfl ?_
      refine x_iload_n 71 C dX8_acting_70 3 rfl rfl rfl ?_
      refine x_cvV 74 [.int a1, .int a2] [] C 1 dX8_acting_71 v_X8_194 (fun u hu => m_X8_goes hu) rfl sk_68 rfl (Nat.le_of_ble_eq_true rfl) (Nat.le_of_ble_eq_true rfl) rfl (fun h5 => ?_)
      refine x_goto 139 C dX8_acting_74 (by decide) ?_
      exact x_ls [1, 3] rfl (J2 h5)
    refine x_ite (fun e1 => ?_) (fun e1 => ?_)
    · refine x_tabI (off := 35) 77 C dX8_acting_42 e1 (by decide) (by decide) (by decide) (by decide) ?_
      refine x_aload_n 78 C dX8_acting_77 1 rfl rfl rfl ?_
      refine x_getR (c := 81) 81 C dX8_acting_78 fl_X8_46 sk_68 rfl sr_68_17 rfl ?_
      refine x_iload_n 82 C dX8_acting_81 3 rfl rfl rfl ?_
      refine x_dup2 83 C dX8_acting_82 rfl rfl rfl ?_
      refine x_iald 84 C dX8_acting_83 sk_81 sl_81 rfl ?_
      refine x_aload_n 85 C dX8_acting_84 1 rfl rfl rfl ?_
      refine x_getR (c := 81) 88 C dX8_acting_85 fl_X8_46 sk_68 rfl sr_68_17 rfl ?_
      refine x_iload_n 89 C dX8_acting_88 3 rfl rfl rfl ?_
      refine x_iald 90 C dX8_acting_89 sk_81 sl_81 rfl ?_
      refine x_lt1 (q := 111) (ls := fun x6 => [(0, .ref 68), (2, .int a2)]) (st := fun x6 => [.int x6, .int (ia h 81 a2), .int a2, .ref 81]) (hh := fun x6 => h) (fun x6 => ?_) (fun k3 J3 => ?_)
      · refine x_isub 112 C dX8_acting_111 rfl ?_
        refine x_iast 113 C dX8_acting_112 sk_81 sl_81 rfl (fun h7 => ?_)
        refine x_goto 139 C dX8_acting_113 (by decide) ?_
        exact x_ls [0, 1] rfl (J2 h7)
      refine x_if_le 93 97 C dX8_acting_90 (by decide) rfl (fun _ => ?_) (fun _ => ?_)
      · refine x_aload_n 98 C dX8_acting_97 1 rfl rfl rfl ?_
        refine x_getR (c := 81) 101 C dX8_acting_98 fl_X8_46 sk_68 rfl sr_68_17 rfl ?_
        refine x_iload_n 102 C dX8_acting_101 3 rfl rfl rfl ?_
        refine x_iald 103 C dX8_acting_102 sk_81 sl_81 rfl ?_
        refine x_if_ge 106 110 C dX8_acting_103 (by decide) rfl (fun _ => ?_) (fun _ => ?_)
        · refine x_iconst 111 C dX8_acting_110 ci_0 rfl ?_
          exact x_ls [1, 3] rfl (J3 (0 : Int32))
        · refine x_iconst 107 C dX8_acting_106 ci_m1 rfl ?_
          refine x_goto 111 C dX8_acting_107 (by decide) ?_
          exact x_ls [1, 3] rfl (J3 (-1 : Int32))
      · refine x_iconst 94 C dX8_acting_93 ci_1 rfl ?_
        refine x_goto 111 C dX8_acting_94 (by decide) ?_
        exact x_ls [1, 3] rfl (J3 (1 : Int32))
    refine x_ite (fun e2 => ?_) (fun e2 => ?_)
    · refine x_tabI (off := 74) 116 C dX8_acting_42 e2 (by decide) (by decide) (by decide) (by decide) ?_
      refine x_aload_n 117 C dX8_acting_116 1 rfl rfl rfl ?_
      refine x_getR (c := 81) 120 C dX8_acting_117 fl_X8_46 sk_68 rfl sr_68_17 rfl ?_
      refine x_iload_n 121 C dX8_acting_120 3 rfl rfl rfl ?_
      refine x_dup2 122 C dX8_acting_121 rfl rfl rfl ?_
      refine x_iald 123 C dX8_acting_122 sk_81 sl_81 rfl ?_
      refine x_iload_n 124 C dX8_acting_123 0 rfl rfl rfl ?_
      refine x_isub 125 C dX8_acting_124 rfl ?_
      refine x_iast 126 C dX8_acting_125 sk_81 sl_81 rfl (fun h8 => ?_)
      refine x_goto 139 C dX8_acting_126 (by decide) ?_
      exact x_ls [1, 3] rfl (J2 h8)
    refine x_tabO 129 C dX8_acting_42 (by have := lv_neT e0 (show (0 : Int32).toInt = 0 by decide); have := lv_neT e1 (show (1 : Int32).toInt = 1 by decide); have := lv_neT e2 (show (2 : Int32).toInt = 2 by decide); omega) (by decide) ?_
    refine x_aload_n 130 C dX8_acting_129 1 rfl rfl rfl ?_
    refine x_getR (c := 81) 133 C dX8_acting_130 fl_X8_46 sk_68 rfl sr_68_17 rfl ?_
    refine x_iload_n 134 C dX8_acting_133 3 rfl rfl rfl ?_
    refine x_dup2 135 C dX8_acting_134 rfl rfl rfl ?_
    refine x_iald 136 C dX8_acting_135 sk_81 sl_81 rfl ?_
    refine x_iload_n 137 C dX8_acting_136 0 rfl rfl rfl ?_
    refine x_iadd 138 C dX8_acting_137 rfl ?_
    refine x_iast 139 C dX8_acting_138 sk_81 sl_81 rfl (fun h9 => ?_)
    exact x_ls [1, 3] rfl (J2 h9)
  refine x_icmp_ne 24 28 C dX8_acting_21 (by decide) rfl (fun _ => ?_) (fun _ => ?_)
  · refine x_iconst 29 C dX8_acting_28 ci_0 rfl ?_
    exact x_ls [0, 1, 2] rfl (J1 (0 : Int32))
  · refine x_iconst 25 C dX8_acting_24 ci_1 rfl ?_
    refine x_goto 29 C dX8_acting_25 (by decide) ?_
    exact x_ls [0, 1, 2] rfl (J1 (1 : Int32))

def f_X8_size (a1 : Int32) : Option Int32 :=
  if 0 ≤ a1 then (
    some a1)
  else (
    some ((0 : Int32) - a1))
theorem dX8_size_0 : decode cX8_size 0 = .ok (.iload_n 0, 1) := by decide +kernel
theorem dX8_size_1 : decode cX8_size 1 = .ok (.ifCond .ge 9, 3) := by decide +kernel
theorem dX8_size_4 : decode cX8_size 4 = .ok (.iconst 0, 1) := by decide +kernel
theorem dX8_size_5 : decode cX8_size 5 = .ok (.iload_n 0, 1) := by decide +kernel
theorem dX8_size_6 : decode cX8_size 6 = .ok (.isub, 1) := by decide +kernel
theorem dX8_size_7 : decode cX8_size 7 = .ok (.goto 4, 3) := by decide +kernel
theorem dX8_size_10 : decode cX8_size 10 = .ok (.iload_n 0, 1) := by decide +kernel
theorem dX8_size_11 : decode cX8_size 11 = .ok (.ireturn, 1) := by decide +kernel
set_option maxRecDepth 20000 in
theorem m_X8_size {h : Hp} {a1 : Int32}  {u : Int32} (hu : f_X8_size a1 = some u) : Ct yX8_size cX8_size 1 (some .int) 0 [.int a1] h ((rI h) u) := by
  refine ct_of (rI h) hu (by decide) (Nat.le_of_ble_eq_true rfl) (fun κ hn C E => ?_)
  unfold f_X8_size
  show Xz κ _ 0 [(0, .int a1)] [] h
  refine x_iload_n 1 C dX8_size_0 0 rfl rfl rfl ?_
  refine x_if_ge 4 10 C dX8_size_1 (by decide) rfl (fun _ => ?_) (fun _ => ?_)
  · refine x_iload_n 11 C dX8_size_10 0 rfl rfl rfl ?_
    exact x_iret C E dX8_size_11 rfl
  · refine x_iconst 5 C dX8_size_4 ci_0 rfl ?_
    refine x_iload_n 6 C dX8_size_5 0 rfl rfl rfl ?_
    refine x_isub 7 C dX8_size_6 rfl ?_
    refine x_goto 11 C dX8_size_7 (by decide) ?_
    exact x_iret C E dX8_size_11 rfl

def f_X8_moves (h : Hp) (a1 : Int32) (a2 : Int32) : Option Hp :=
  bdv (f_X8_acting h a1 a2) fun h1 =>
  ck a2 6 (
    if (ia h1 79 a2) = (1 : Int32) then (
      ck (((3 : Int32) * a2) + (1 : Int32)) 18 (
        lt1 (fun (x2 : Int32) =>
          ck a2 6 (
            bdr (f_X8_size (ia h1 81 a2)) fun x3 =>
            lt1 (fun (h4 : Hp) =>
              ck a2 6 (
                bdr (f_X8_size (ia h4 81 a2)) fun x5 =>
                if x5 < (h4.1 77 2) then (
                  some h4)
                else (
                  ck a2 6 (nm (ux h4 79 a2 (3 : Int32)) fun h6 =>
                  ck a2 6 (nm (ux h6 84 a2 a1) fun h7 =>
                  some h7))))) fun k2 =>
            if x3 ≤ x2 then (
              k2 h1)
            else (
              ck a2 6 (
                ck a2 6 (
                  lt1 (fun (x8 : Int32) =>
                    ck a2 6 (nm (ux h1 81 a2 ((ia h1 81 a2) + x8)) fun h9 =>
                    k2 h9)) fun k3 =>
                  if (ia h1 81 a2) ≤ 0 then (
                    k3 (-1 : Int32))
                  else (
                    k3 (1 : Int32))))))) fun k1 =>
        if (ia h1 75 (((3 : Int32) * a2) + (1 : Int32))) = 0 then (
          k1 (2 : Int32))
        else (
          k1 (0 : Int32))))
    else (
      some h1))
theorem dX8_moves_0 : decode cX8_moves 0 = .ok (.aload_n 0, 1) := by decide +kernel
theorem dX8_moves_1 : decode cX8_moves 1 = .ok (.iload_n 1, 1) := by decide +kernel
theorem dX8_moves_2 : decode cX8_moves 2 = .ok (.iload_n 2, 1) := by decide +kernel
theorem dX8_moves_3 : decode cX8_moves 3 = .ok (.invokevirtual 198, 3) := by decide +kernel
theorem dX8_moves_6 : decode cX8_moves 6 = .ok (.aload_n 0, 1) := by decide +kernel
theorem dX8_moves_7 : decode cX8_moves 7 = .ok (.getfield 40, 3) := by decide +kernel
theorem dX8_moves_10 : decode cX8_moves 10 = .ok (.iload_n 2, 1) := by decide +kernel
theorem dX8_moves_11 : decode cX8_moves 11 = .ok (.iaload, 1) := by decide +kernel
theorem dX8_moves_12 : decode cX8_moves 12 = .ok (.iconst 1, 1) := by decide +kernel
theorem dX8_moves_13 : decode cX8_moves 13 = .ok (.if_icmp .eq 4, 3) := by decide +kernel
theorem dX8_moves_16 : decode cX8_moves 16 = .ok (.return_, 1) := by decide +kernel
theorem dX8_moves_17 : decode cX8_moves 17 = .ok (.aload_n 0, 1) := by decide +kernel
theorem dX8_moves_18 : decode cX8_moves 18 = .ok (.getfield 28, 3) := by decide +kernel
theorem dX8_moves_21 : decode cX8_moves 21 = .ok (.iconst 3, 1) := by decide +kernel
theorem dX8_moves_22 : decode cX8_moves 22 = .ok (.iload_n 2, 1) := by decide +kernel
theorem dX8_moves_23 : decode cX8_moves 23 = .ok (.imul, 1) := by decide +kernel
theorem dX8_moves_24 : decode cX8_moves 24 = .ok (.iconst 1, 1) := by decide +kernel
theorem dX8_moves_25 : decode cX8_moves 25 = .ok (.iadd, 1) := by decide +kernel
theorem dX8_moves_26 : decode cX8_moves 26 = .ok (.iaload, 1) := by decide +kernel
theorem dX8_moves_27 : decode cX8_moves 27 = .ok (.ifCond .ne 7, 3) := by decide +kernel
theorem dX8_moves_30 : decode cX8_moves 30 = .ok (.iconst 2, 1) := by decide +kernel
theorem dX8_moves_31 : decode cX8_moves 31 = .ok (.goto 4, 3) := by decide +kernel
theorem dX8_moves_34 : decode cX8_moves 34 = .ok (.iconst 0, 1) := by decide +kernel
theorem dX8_moves_35 : decode cX8_moves 35 = .ok (.istore_n 3, 1) := by decide +kernel
theorem dX8_moves_36 : decode cX8_moves 36 = .ok (.aload_n 0, 1) := by decide +kernel
theorem dX8_moves_37 : decode cX8_moves 37 = .ok (.getfield 46, 3) := by decide +kernel
theorem dX8_moves_40 : decode cX8_moves 40 = .ok (.iload_n 2, 1) := by decide +kernel
theorem dX8_moves_41 : decode cX8_moves 41 = .ok (.iaload, 1) := by decide +kernel
theorem dX8_moves_42 : decode cX8_moves 42 = .ok (.invokestatic 201, 3) := by decide +kernel
theorem dX8_moves_45 : decode cX8_moves 45 = .ok (.iload_n 3, 1) := by decide +kernel
theorem dX8_moves_46 : decode cX8_moves 46 = .ok (.if_icmp .le 26, 3) := by decide +kernel
theorem dX8_moves_49 : decode cX8_moves 49 = .ok (.aload_n 0, 1) := by decide +kernel
theorem dX8_moves_50 : decode cX8_moves 50 = .ok (.getfield 46, 3) := by decide +kernel
theorem dX8_moves_53 : decode cX8_moves 53 = .ok (.iload_n 2, 1) := by decide +kernel
theorem dX8_moves_54 : decode cX8_moves 54 = .ok (.dup2, 1) := by decide +kernel
theorem dX8_moves_55 : decode cX8_moves 55 = .ok (.iaload, 1) := by decide +kernel
theorem dX8_moves_56 : decode cX8_moves 56 = .ok (.aload_n 0, 1) := by decide +kernel
theorem dX8_moves_57 : decode cX8_moves 57 = .ok (.getfield 46, 3) := by decide +kernel
theorem dX8_moves_60 : decode cX8_moves 60 = .ok (.iload_n 2, 1) := by decide +kernel
theorem dX8_moves_61 : decode cX8_moves 61 = .ok (.iaload, 1) := by decide +kernel
theorem dX8_moves_62 : decode cX8_moves 62 = .ok (.ifCond .le 7, 3) := by decide +kernel
theorem dX8_moves_65 : decode cX8_moves 65 = .ok (.iconst 1, 1) := by decide +kernel
theorem dX8_moves_66 : decode cX8_moves 66 = .ok (.goto 4, 3) := by decide +kernel
theorem dX8_moves_69 : decode cX8_moves 69 = .ok (.iconst (-1), 1) := by decide +kernel
theorem dX8_moves_70 : decode cX8_moves 70 = .ok (.iadd, 1) := by decide +kernel
theorem dX8_moves_71 : decode cX8_moves 71 = .ok (.iastore, 1) := by decide +kernel
theorem dX8_moves_72 : decode cX8_moves 72 = .ok (.aload_n 0, 1) := by decide +kernel
theorem dX8_moves_73 : decode cX8_moves 73 = .ok (.getfield 46, 3) := by decide +kernel
theorem dX8_moves_76 : decode cX8_moves 76 = .ok (.iload_n 2, 1) := by decide +kernel
theorem dX8_moves_77 : decode cX8_moves 77 = .ok (.iaload, 1) := by decide +kernel
theorem dX8_moves_78 : decode cX8_moves 78 = .ok (.invokestatic 201, 3) := by decide +kernel
theorem dX8_moves_81 : decode cX8_moves 81 = .ok (.aload_n 0, 1) := by decide +kernel
theorem dX8_moves_82 : decode cX8_moves 82 = .ok (.getfield 34, 3) := by decide +kernel
theorem dX8_moves_85 : decode cX8_moves 85 = .ok (.iconst 2, 1) := by decide +kernel
theorem dX8_moves_86 : decode cX8_moves 86 = .ok (.iaload, 1) := by decide +kernel
theorem dX8_moves_87 : decode cX8_moves 87 = .ok (.if_icmp .lt 17, 3) := by decide +kernel
theorem dX8_moves_90 : decode cX8_moves 90 = .ok (.aload_n 0, 1) := by decide +kernel
theorem dX8_moves_91 : decode cX8_moves 91 = .ok (.getfield 40, 3) := by decide +kernel
theorem dX8_moves_94 : decode cX8_moves 94 = .ok (.iload_n 2, 1) := by decide +kernel
theorem dX8_moves_95 : decode cX8_moves 95 = .ok (.iconst 3, 1) := by decide +kernel
theorem dX8_moves_96 : decode cX8_moves 96 = .ok (.iastore, 1) := by decide +kernel
theorem dX8_moves_97 : decode cX8_moves 97 = .ok (.aload_n 0, 1) := by decide +kernel
theorem dX8_moves_98 : decode cX8_moves 98 = .ok (.getfield 55, 3) := by decide +kernel
theorem dX8_moves_101 : decode cX8_moves 101 = .ok (.iload_n 2, 1) := by decide +kernel
theorem dX8_moves_102 : decode cX8_moves 102 = .ok (.iload_n 1, 1) := by decide +kernel
theorem dX8_moves_103 : decode cX8_moves 103 = .ok (.iastore, 1) := by decide +kernel
theorem dX8_moves_104 : decode cX8_moves 104 = .ok (.return_, 1) := by decide +kernel
set_option maxRecDepth 20000 in
theorem m_X8_moves {h : Hp} {a1 : Int32} {a2 : Int32}  {u : Hp} (hu : f_X8_moves h a1 a2 = some u) : Ct yX8_moves cX8_moves 4 none 3 [.ref 68, .int a1, .int a2] h (eV u) := by
  refine ct_of eV hu (by decide) (Nat.le_of_ble_eq_true rfl) (fun κ hn C E => ?_)
  have n3 : 3 < kn κ := by rw [hn]; decide
  unfold f_X8_moves
  show Xz κ _ 0 [(0, .ref 68), (1, .int a1), (2, .int a2)] [] h
  refine x_aload_n 1 C dX8_moves_0 0 rfl rfl rfl ?_
  refine x_iload_n 2 C dX8_moves_1 1 rfl rfl rfl ?_
  refine x_iload_n 3 C dX8_moves_2 2 rfl rfl rfl ?_
  refine x_cvV 6 [.int a1, .int a2] [] C 2 dX8_moves_3 v_X8_198 (fun u hu => m_X8_acting hu) rfl sk_68 rfl (Nat.le_of_ble_eq_true rfl) (Nat.le_of_ble_eq_true rfl) rfl (fun h1 => ?_)
  refine x_aload_n 7 C dX8_moves_6 0 rfl rfl rfl ?_
  refine x_getR (c := 79) 10 C dX8_moves_7 fl_X8_40 sk_68 rfl sr_68_15 rfl ?_
  refine x_iload_n 11 C dX8_moves_10 2 rfl rfl rfl ?_
  refine x_iald 12 C dX8_moves_11 sk_79 sl_79 rfl ?_
  refine x_iconst 13 C dX8_moves_12 ci_1 rfl ?_
  refine x_icmp_eq 16 17 C dX8_moves_13 (by decide) rfl (fun _ => ?_) (fun _ => ?_)
  · refine x_aload_n 18 C dX8_moves_17 0 rfl rfl rfl ?_
    refine x_getR (c := 75) 21 C dX8_moves_18 fl_X8_28 sk_68 rfl sr_68_8 rfl ?_
    refine x_iconst 22 C dX8_moves_21 ci_3 rfl ?_
    refine x_iload_n 23 C dX8_moves_22 2 rfl rfl rfl ?_
    refine x_imul 24 C dX8_moves_23 rfl ?_
    refine x_iconst 25 C dX8_moves_24 ci_1 rfl ?_
    refine x_iadd 26 C dX8_moves_25 rfl ?_
    refine x_iald 27 C dX8_moves_26 sk_75 sl_75 rfl ?_
    refine x_lt1 (q := 35) (ls := fun x2 => [(0, .ref 68), (1, .int a1), (2, .int a2)]) (st := fun x2 => [.int x2]) (hh := fun x2 => h1) (fun x2 => ?_) (fun k1 J1 => ?_)
    · refine x_istore_n 36 [(3, .int x2), (0, .ref 68), (1, .int a1), (2, .int a2)] C dX8_moves_35 n3 rfl rfl rfl ?_
      refine x_aload_n 37 C dX8_moves_36 1 rfl rfl rfl ?_
      refine x_getR (c := 81) 40 C dX8_moves_37 fl_X8_46 sk_68 rfl sr_68_17 rfl ?_
      refine x_iload_n 41 C dX8_moves_40 3 rfl rfl rfl ?_
      refine x_iald 42 C dX8_moves_41 sk_81 sl_81 rfl ?_
      refine x_csi 45 [.int (ia h1 81 a2)] [] C 0 dX8_moves_42 s_X8_201 (fun u hu => m_X8_size hu) rfl rfl (Nat.le_of_ble_eq_true rfl) (Nat.le_of_ble_eq_true rfl) rfl (fun x3 => ?_)
      refine x_iload_n 46 C dX8_moves_45 0 rfl rfl rfl ?_
      refine x_lt1 (q := 72) (ls := fun h4 => [(0, .ref 68), (1, .int a1), (2, .int a2)]) (st := fun h4 => []) (hh := fun h4 => h4) (fun h4 => ?_) (fun k2 J2 => ?_)
      · refine x_aload_n 73 C dX8_moves_72 0 rfl rfl rfl ?_
        refine x_getR (c := 81) 76 C dX8_moves_73 fl_X8_46 sk_68 rfl sr_68_17 rfl ?_
        refine x_iload_n 77 C dX8_moves_76 2 rfl rfl rfl ?_
        refine x_iald 78 C dX8_moves_77 sk_81 sl_81 rfl ?_
        refine x_csi 81 [.int (ia h4 81 a2)] [] C 0 dX8_moves_78 s_X8_201 (fun u hu => m_X8_size hu) rfl rfl (Nat.le_of_ble_eq_true rfl) (Nat.le_of_ble_eq_true rfl) rfl (fun x5 => ?_)
        refine x_aload_n 82 C dX8_moves_81 0 rfl rfl rfl ?_
        refine x_getR (c := 77) 85 C dX8_moves_82 fl_X8_34 sk_68 rfl sr_68_11 rfl ?_
        refine x_iconst 86 C dX8_moves_85 ci_2 rfl ?_
        refine x_ialc 87 C dX8_moves_86 sk_77 sl_77 vi_2_3 vj_2 rfl ?_
        refine x_icmp_lt 90 104 C dX8_moves_87 (by decide) rfl (fun _ => ?_) (fun _ => ?_)
        · exact x_vret C E dX8_moves_104 rfl
        · refine x_aload_n 91 C dX8_moves_90 0 rfl rfl rfl ?_
          refine x_getR (c := 79) 94 C dX8_moves_91 fl_X8_40 sk_68 rfl sr_68_15 rfl ?_
          refine x_iload_n 95 C dX8_moves_94 2 rfl rfl rfl ?_
          refine x_iconst 96 C dX8_moves_95 ci_3 rfl ?_
          refine x_iast 97 C dX8_moves_96 sk_79 sl_79 rfl (fun h6 => ?_)
          refine x_aload_n 98 C dX8_moves_97 0 rfl rfl rfl ?_
          refine x_getR (c := 84) 101 C dX8_moves_98 fl_X8_55 sk_68 rfl sr_68_20 rfl ?_
          refine x_iload_n 102 C dX8_moves_101 2 rfl rfl rfl ?_
          refine x_iload_n 103 C dX8_moves_102 1 rfl rfl rfl ?_
          refine x_iast 104 C dX8_moves_103 sk_84 sl_84 rfl (fun h7 => ?_)
          exact x_vret C E dX8_moves_104 rfl
      refine x_icmp_le 49 72 C dX8_moves_46 (by decide) rfl (fun _ => ?_) (fun _ => ?_)
      · exact x_ls [1, 2, 3] rfl (J2 h1)
      · refine x_aload_n 50 C dX8_moves_49 1 rfl rfl rfl ?_
        refine x_getR (c := 81) 53 C dX8_moves_50 fl_X8_46 sk_68 rfl sr_68_17 rfl ?_
        refine x_iload_n 54 C dX8_moves_53 3 rfl rfl rfl ?_
        refine x_dup2 55 C dX8_moves_54 rfl rfl rfl ?_
        refine x_iald 56 C dX8_moves_55 sk_81 sl_81 rfl ?_
        refine x_aload_n 57 C dX8_moves_56 1 rfl rfl rfl ?_
        refine x_getR (c := 81) 60 C dX8_moves_57 fl_X8_46 sk_68 rfl sr_68_17 rfl ?_
        refine x_iload_n 61 C dX8_moves_60 3 rfl rfl rfl ?_
        refine x_iald 62 C dX8_moves_61 sk_81 sl_81 rfl ?_
        refine x_lt1 (q := 70) (ls := fun x8 => [(0, .ref 68), (1, .int a1), (2, .int a2)]) (st := fun x8 => [.int x8, .int (ia h1 81 a2), .int a2, .ref 81]) (hh := fun x8 => h1) (fun x8 => ?_) (fun k3 J3 => ?_)
        · refine x_iadd 71 C dX8_moves_70 rfl ?_
          refine x_iast 72 C dX8_moves_71 sk_81 sl_81 rfl (fun h9 => ?_)
          exact x_ls [0, 1, 2] rfl (J2 h9)
        refine x_if_le 65 69 C dX8_moves_62 (by decide) rfl (fun _ => ?_) (fun _ => ?_)
        · refine x_iconst 70 C dX8_moves_69 ci_m1 rfl ?_
          exact x_ls [1, 2, 3] rfl (J3 (-1 : Int32))
        · refine x_iconst 66 C dX8_moves_65 ci_1 rfl ?_
          refine x_goto 70 C dX8_moves_66 (by decide) ?_
          exact x_ls [1, 2, 3] rfl (J3 (1 : Int32))
    refine x_if_ne 30 34 C dX8_moves_27 (by decide) rfl (fun _ => ?_) (fun _ => ?_)
    · refine x_iconst 35 C dX8_moves_34 ci_0 rfl ?_
      exact x_ls [0, 1, 2] rfl (J1 (0 : Int32))
    · refine x_iconst 31 C dX8_moves_30 ci_2 rfl ?_
      refine x_goto 35 C dX8_moves_31 (by decide) ?_
      exact x_ls [0, 1, 2] rfl (J1 (2 : Int32))
  · exact x_vret C E dX8_moves_16 rfl
