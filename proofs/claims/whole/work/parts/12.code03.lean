def f_X2_playBeat (h : Hp) (S : Nat) (a2 : Nat) (a3 : Int32) (a4 : Int32) : Option Hp :=
  if a3 < 0 then (
    some h)
  else (
    if a3 < (24 : Int32) then (
      ck a3 24 (
        bdv (f_X2_dropPoles h S (ia h ((S + 1) + 3) a3)) fun h1 =>
        ck a3 24 (
          nm ((ia h1 ((S + 1) + 1) a3) + a4) fun x2 =>
          lt2 (fun (h3 : Hp) (x4 : Int32) =>
            if x4 ≤ 0 then (
              some h3)
            else (
              bdv (f_X2_startNext h3 S a3) fun h5 =>
              some h5)) fun k1 =>
          fx3 FU (fun s2 (h6 : Hp) (x7 : Int32) (x8 : Int32) =>
            if (h6.1 S 11) ≤ x8 then (
              k1 h6 x7)
            else (
              if (6 : Int32) ≤ x8 then (
                k1 h6 x7)
              else (
                ck x8 6 (
                  nm (ia h6 (S + 18) x8) fun x9 =>
                  lt2 (fun (h10 : Hp) (x11 : Int32) =>
                    nm (x8 + (1 : Int32)) fun x12 =>
                    s2 h10 x11 x12) fun k3 =>
                  if x9 < 0 then (
                    k3 h6 x7)
                  else (
                    if (6 : Int32) ≤ x9 then (
                      k3 h6 x7)
                    else (
                      ck x9 6 (
                        if (ia h6 (S + 10) x9) = (1 : Int32) then (
                          ck x9 6 (
                            ck x9 6 (nm (ux h6 (S + 12) x9 ((ia h6 (S + 12) x9) + x2)) fun h13 =>
                            ck x9 6 (
                              nm ((a3 - (ia h13 (S + 14) x9)) - (1 : Int32)) fun x14 =>
                              lt1 (fun (x15 : Int32) =>
                                ck a3 24 (
                                  bdv (f_X2_perform h13 S x9 x15 (ia h13 ((S + 1) + 2) a3) x7) fun h16 =>
                                  bdv (f_X2_settle h16 S x9 a3) fun h17 =>
                                  ck x9 6 (
                                    lt1 (fun (x18 : Int32) =>
                                      k3 h17 x18) fun k5 =>
                                    if (ia h17 (S + 10) x9) = (1 : Int32) then (
                                      ck x9 6 (
                                        k5 (ia h17 (S + 11) x9)))
                                    else (
                                      k5 x7)))) fun k4 =>
                              lt1 (fun (u19 : Int32) =>
                                k4 (0 : Int32)) fun k6 =>
                              if x14 < 0 then (
                                k6 (0 : Int32))
                              else (
                                if (nI (sl a2)) ≤ x14 then (
                                  k6 (0 : Int32))
                                else (
                                  ck x14 (sl a2) (
                                    k4 (ia h13 a2 x14))))))))
                        else (
                          k3 h6 x7)))))))) h1 (1000 : Int32) (0 : Int32))))
    else (
      some h))
theorem dX2_playBeat_0 : decode cX2_playBeat 0 = .ok (.iload_n 3, 1) := by decide +kernel
theorem dX2_playBeat_1 : decode cX2_playBeat 1 = .ok (.ifCond .lt 9, 3) := by decide +kernel
theorem dX2_playBeat_4 : decode cX2_playBeat 4 = .ok (.iload_n 3, 1) := by decide +kernel
theorem dX2_playBeat_5 : decode cX2_playBeat 5 = .ok (.bipush 24, 2) := by decide +kernel
theorem dX2_playBeat_7 : decode cX2_playBeat 7 = .ok (.if_icmp .lt 4, 3) := by decide +kernel
theorem dX2_playBeat_10 : decode cX2_playBeat 10 = .ok (.return_, 1) := by decide +kernel
theorem dX2_playBeat_11 : decode cX2_playBeat 11 = .ok (.aload_n 0, 1) := by decide +kernel
theorem dX2_playBeat_12 : decode cX2_playBeat 12 = .ok (.aload_n 0, 1) := by decide +kernel
theorem dX2_playBeat_13 : decode cX2_playBeat 13 = .ok (.getfield 12, 3) := by decide +kernel
theorem dX2_playBeat_16 : decode cX2_playBeat 16 = .ok (.getfield 98, 3) := by decide +kernel
theorem dX2_playBeat_19 : decode cX2_playBeat 19 = .ok (.iload_n 3, 1) := by decide +kernel
theorem dX2_playBeat_20 : decode cX2_playBeat 20 = .ok (.iaload, 1) := by decide +kernel
theorem dX2_playBeat_21 : decode cX2_playBeat 21 = .ok (.invokevirtual 101, 3) := by decide +kernel
theorem dX2_playBeat_24 : decode cX2_playBeat 24 = .ok (.aload_n 0, 1) := by decide +kernel
theorem dX2_playBeat_25 : decode cX2_playBeat 25 = .ok (.getfield 12, 3) := by decide +kernel
theorem dX2_playBeat_28 : decode cX2_playBeat 28 = .ok (.getfield 105, 3) := by decide +kernel
theorem dX2_playBeat_31 : decode cX2_playBeat 31 = .ok (.iload_n 3, 1) := by decide +kernel
theorem dX2_playBeat_32 : decode cX2_playBeat 32 = .ok (.iaload, 1) := by decide +kernel
theorem dX2_playBeat_33 : decode cX2_playBeat 33 = .ok (.iload 4, 2) := by decide +kernel
theorem dX2_playBeat_35 : decode cX2_playBeat 35 = .ok (.iadd, 1) := by decide +kernel
theorem dX2_playBeat_36 : decode cX2_playBeat 36 = .ok (.istore 5, 2) := by decide +kernel
theorem dX2_playBeat_38 : decode cX2_playBeat 38 = .ok (.sipush 1000, 3) := by decide +kernel
theorem dX2_playBeat_41 : decode cX2_playBeat 41 = .ok (.istore 6, 2) := by decide +kernel
theorem dX2_playBeat_43 : decode cX2_playBeat 43 = .ok (.iconst 0, 1) := by decide +kernel
theorem dX2_playBeat_44 : decode cX2_playBeat 44 = .ok (.istore 7, 2) := by decide +kernel
theorem dX2_playBeat_46 : decode cX2_playBeat 46 = .ok (.iload 7, 2) := by decide +kernel
theorem dX2_playBeat_48 : decode cX2_playBeat 48 = .ok (.aload_n 0, 1) := by decide +kernel
theorem dX2_playBeat_49 : decode cX2_playBeat 49 = .ok (.getfield 53, 3) := by decide +kernel
theorem dX2_playBeat_52 : decode cX2_playBeat 52 = .ok (.if_icmp .ge 148, 3) := by decide +kernel
theorem dX2_playBeat_55 : decode cX2_playBeat 55 = .ok (.iload 7, 2) := by decide +kernel
theorem dX2_playBeat_57 : decode cX2_playBeat 57 = .ok (.bipush 6, 2) := by decide +kernel
theorem dX2_playBeat_59 : decode cX2_playBeat 59 = .ok (.if_icmp .ge 141, 3) := by decide +kernel
theorem dX2_playBeat_62 : decode cX2_playBeat 62 = .ok (.aload_n 0, 1) := by decide +kernel
theorem dX2_playBeat_63 : decode cX2_playBeat 63 = .ok (.getfield 50, 3) := by decide +kernel
theorem dX2_playBeat_66 : decode cX2_playBeat 66 = .ok (.iload 7, 2) := by decide +kernel
theorem dX2_playBeat_68 : decode cX2_playBeat 68 = .ok (.iaload, 1) := by decide +kernel
theorem dX2_playBeat_69 : decode cX2_playBeat 69 = .ok (.istore 8, 2) := by decide +kernel
theorem dX2_playBeat_71 : decode cX2_playBeat 71 = .ok (.iload 8, 2) := by decide +kernel
theorem dX2_playBeat_73 : decode cX2_playBeat 73 = .ok (.ifCond .lt 121, 3) := by decide +kernel
theorem dX2_playBeat_76 : decode cX2_playBeat 76 = .ok (.iload 8, 2) := by decide +kernel
theorem dX2_playBeat_78 : decode cX2_playBeat 78 = .ok (.bipush 6, 2) := by decide +kernel
theorem dX2_playBeat_80 : decode cX2_playBeat 80 = .ok (.if_icmp .ge 114, 3) := by decide +kernel
theorem dX2_playBeat_83 : decode cX2_playBeat 83 = .ok (.aload_n 0, 1) := by decide +kernel
theorem dX2_playBeat_84 : decode cX2_playBeat 84 = .ok (.getfield 25, 3) := by decide +kernel
theorem dX2_playBeat_87 : decode cX2_playBeat 87 = .ok (.iload 8, 2) := by decide +kernel
theorem dX2_playBeat_89 : decode cX2_playBeat 89 = .ok (.iaload, 1) := by decide +kernel
theorem dX2_playBeat_90 : decode cX2_playBeat 90 = .ok (.iconst 1, 1) := by decide +kernel
theorem dX2_playBeat_91 : decode cX2_playBeat 91 = .ok (.if_icmp .ne 103, 3) := by decide +kernel
theorem dX2_playBeat_94 : decode cX2_playBeat 94 = .ok (.aload_n 0, 1) := by decide +kernel
theorem dX2_playBeat_95 : decode cX2_playBeat 95 = .ok (.getfield 32, 3) := by decide +kernel
theorem dX2_playBeat_98 : decode cX2_playBeat 98 = .ok (.iload 8, 2) := by decide +kernel
theorem dX2_playBeat_100 : decode cX2_playBeat 100 = .ok (.dup2, 1) := by decide +kernel
theorem dX2_playBeat_101 : decode cX2_playBeat 101 = .ok (.iaload, 1) := by decide +kernel
theorem dX2_playBeat_102 : decode cX2_playBeat 102 = .ok (.iload 5, 2) := by decide +kernel
theorem dX2_playBeat_104 : decode cX2_playBeat 104 = .ok (.iadd, 1) := by decide +kernel
theorem dX2_playBeat_105 : decode cX2_playBeat 105 = .ok (.iastore, 1) := by decide +kernel
theorem dX2_playBeat_106 : decode cX2_playBeat 106 = .ok (.iload_n 3, 1) := by decide +kernel
theorem dX2_playBeat_107 : decode cX2_playBeat 107 = .ok (.aload_n 0, 1) := by decide +kernel
theorem dX2_playBeat_108 : decode cX2_playBeat 108 = .ok (.getfield 38, 3) := by decide +kernel
theorem dX2_playBeat_111 : decode cX2_playBeat 111 = .ok (.iload 8, 2) := by decide +kernel
theorem dX2_playBeat_113 : decode cX2_playBeat 113 = .ok (.iaload, 1) := by decide +kernel
theorem dX2_playBeat_114 : decode cX2_playBeat 114 = .ok (.isub, 1) := by decide +kernel
theorem dX2_playBeat_115 : decode cX2_playBeat 115 = .ok (.iconst 1, 1) := by decide +kernel
theorem dX2_playBeat_116 : decode cX2_playBeat 116 = .ok (.isub, 1) := by decide +kernel
theorem dX2_playBeat_117 : decode cX2_playBeat 117 = .ok (.istore 9, 2) := by decide +kernel
theorem dX2_playBeat_119 : decode cX2_playBeat 119 = .ok (.iload 9, 2) := by decide +kernel
theorem dX2_playBeat_121 : decode cX2_playBeat 121 = .ok (.ifCond .lt 17, 3) := by decide +kernel
theorem dX2_playBeat_124 : decode cX2_playBeat 124 = .ok (.iload 9, 2) := by decide +kernel
theorem dX2_playBeat_126 : decode cX2_playBeat 126 = .ok (.aload_n 2, 1) := by decide +kernel
theorem dX2_playBeat_127 : decode cX2_playBeat 127 = .ok (.arraylength, 1) := by decide +kernel
theorem dX2_playBeat_128 : decode cX2_playBeat 128 = .ok (.if_icmp .ge 10, 3) := by decide +kernel
theorem dX2_playBeat_131 : decode cX2_playBeat 131 = .ok (.aload_n 2, 1) := by decide +kernel
theorem dX2_playBeat_132 : decode cX2_playBeat 132 = .ok (.iload 9, 2) := by decide +kernel
theorem dX2_playBeat_134 : decode cX2_playBeat 134 = .ok (.iaload, 1) := by decide +kernel
theorem dX2_playBeat_135 : decode cX2_playBeat 135 = .ok (.goto 4, 3) := by decide +kernel
theorem dX2_playBeat_138 : decode cX2_playBeat 138 = .ok (.iconst 0, 1) := by decide +kernel
theorem dX2_playBeat_139 : decode cX2_playBeat 139 = .ok (.istore 10, 2) := by decide +kernel
theorem dX2_playBeat_141 : decode cX2_playBeat 141 = .ok (.aload_n 0, 1) := by decide +kernel
theorem dX2_playBeat_142 : decode cX2_playBeat 142 = .ok (.aload_n 1, 1) := by decide +kernel
theorem dX2_playBeat_143 : decode cX2_playBeat 143 = .ok (.iload 8, 2) := by decide +kernel
theorem dX2_playBeat_145 : decode cX2_playBeat 145 = .ok (.iload 10, 2) := by decide +kernel
theorem dX2_playBeat_147 : decode cX2_playBeat 147 = .ok (.aload_n 0, 1) := by decide +kernel
theorem dX2_playBeat_148 : decode cX2_playBeat 148 = .ok (.getfield 12, 3) := by decide +kernel
theorem dX2_playBeat_151 : decode cX2_playBeat 151 = .ok (.getfield 108, 3) := by decide +kernel
theorem dX2_playBeat_154 : decode cX2_playBeat 154 = .ok (.iload_n 3, 1) := by decide +kernel
theorem dX2_playBeat_155 : decode cX2_playBeat 155 = .ok (.iaload, 1) := by decide +kernel
theorem dX2_playBeat_156 : decode cX2_playBeat 156 = .ok (.iload 6, 2) := by decide +kernel
theorem dX2_playBeat_158 : decode cX2_playBeat 158 = .ok (.invokevirtual 111, 3) := by decide +kernel
theorem dX2_playBeat_161 : decode cX2_playBeat 161 = .ok (.aload_n 0, 1) := by decide +kernel
theorem dX2_playBeat_162 : decode cX2_playBeat 162 = .ok (.aload_n 1, 1) := by decide +kernel
theorem dX2_playBeat_163 : decode cX2_playBeat 163 = .ok (.iload 8, 2) := by decide +kernel
theorem dX2_playBeat_165 : decode cX2_playBeat 165 = .ok (.iload_n 3, 1) := by decide +kernel
theorem dX2_playBeat_166 : decode cX2_playBeat 166 = .ok (.invokevirtual 115, 3) := by decide +kernel
theorem dX2_playBeat_169 : decode cX2_playBeat 169 = .ok (.aload_n 0, 1) := by decide +kernel
theorem dX2_playBeat_170 : decode cX2_playBeat 170 = .ok (.getfield 25, 3) := by decide +kernel
theorem dX2_playBeat_173 : decode cX2_playBeat 173 = .ok (.iload 8, 2) := by decide +kernel
theorem dX2_playBeat_175 : decode cX2_playBeat 175 = .ok (.iaload, 1) := by decide +kernel
theorem dX2_playBeat_176 : decode cX2_playBeat 176 = .ok (.iconst 1, 1) := by decide +kernel
theorem dX2_playBeat_177 : decode cX2_playBeat 177 = .ok (.if_icmp .ne 13, 3) := by decide +kernel
theorem dX2_playBeat_180 : decode cX2_playBeat 180 = .ok (.aload_n 0, 1) := by decide +kernel
theorem dX2_playBeat_181 : decode cX2_playBeat 181 = .ok (.getfield 29, 3) := by decide +kernel
theorem dX2_playBeat_184 : decode cX2_playBeat 184 = .ok (.iload 8, 2) := by decide +kernel
theorem dX2_playBeat_186 : decode cX2_playBeat 186 = .ok (.iaload, 1) := by decide +kernel
theorem dX2_playBeat_187 : decode cX2_playBeat 187 = .ok (.goto 5, 3) := by decide +kernel
theorem dX2_playBeat_190 : decode cX2_playBeat 190 = .ok (.iload 6, 2) := by decide +kernel
theorem dX2_playBeat_192 : decode cX2_playBeat 192 = .ok (.istore 6, 2) := by decide +kernel
theorem dX2_playBeat_194 : decode cX2_playBeat 194 = .ok (.iinc 7 1, 3) := by decide +kernel
theorem dX2_playBeat_197 : decode cX2_playBeat 197 = .ok (.goto (-151), 3) := by decide +kernel
theorem dX2_playBeat_200 : decode cX2_playBeat 200 = .ok (.iload 6, 2) := by decide +kernel
theorem dX2_playBeat_202 : decode cX2_playBeat 202 = .ok (.ifCond .le 9, 3) := by decide +kernel
theorem dX2_playBeat_205 : decode cX2_playBeat 205 = .ok (.aload_n 0, 1) := by decide +kernel
theorem dX2_playBeat_206 : decode cX2_playBeat 206 = .ok (.aload_n 1, 1) := by decide +kernel
theorem dX2_playBeat_207 : decode cX2_playBeat 207 = .ok (.iload_n 3, 1) := by decide +kernel
theorem dX2_playBeat_208 : decode cX2_playBeat 208 = .ok (.invokevirtual 119, 3) := by decide +kernel
theorem dX2_playBeat_211 : decode cX2_playBeat 211 = .ok (.return_, 1) := by decide +kernel
set_option maxRecDepth 20000 in
theorem m_X2_playBeat {h : Hp} {S : Nat} {a2 : Nat} {a3 : Int32} {a4 : Int32} (hS : sk S = 2) (ha2 : sk a2 = 9) {u : Hp} (hu : f_X2_playBeat h S a2 a3 a4 = some u) : Ct yX2_playBeat cX2_playBeat 11 none 2 [.ref S, .ref 5, .ref a2, .int a3, .int a4] h (eV u) := by
  refine ct_of eV hu (by decide) (Nat.le_of_ble_eq_true rfl) (fun κ hn C E => ?_)
  have n5 : 5 < kn κ := by rw [hn]; decide
  have n6 : 6 < kn κ := by rw [hn]; decide
  have n7 : 7 < kn κ := by rw [hn]; decide
  have n8 : 8 < kn κ := by rw [hn]; decide
  have n9 : 9 < kn κ := by rw [hn]; decide
  have n10 : 10 < kn κ := by rw [hn]; decide
  unfold f_X2_playBeat
  show Xz κ _ 0 [(0, .ref S), (1, .ref 5), (2, .ref a2), (3, .int a3), (4, .int a4)] [] h
  refine x_iload_n 1 C dX2_playBeat_0 3 rfl rfl rfl ?_
  refine x_if_lt 4 10 C dX2_playBeat_1 (by decide) rfl (fun _ => ?_) (fun _ => ?_)
  · exact x_vret C E dX2_playBeat_10 rfl
  · refine x_iload_n 5 C dX2_playBeat_4 3 rfl rfl rfl ?_
    refine x_bipush 7 C dX2_playBeat_5 cb_24 rfl ?_
    refine x_icmp_lt 10 11 C dX2_playBeat_7 (by decide) rfl (fun _ => ?_) (fun _ => ?_)
    · refine x_aload_n 12 C dX2_playBeat_11 0 rfl rfl rfl ?_
      refine x_aload_n 13 C dX2_playBeat_12 0 rfl rfl rfl ?_
      refine x_getR (c := (S + 1)) 16 C dX2_playBeat_13 fl_X2_12 hS rfl (of_2_0 hS) rfl ?_
      refine x_getR (c := ((S + 1) + 3)) 19 C dX2_playBeat_16 fl_X2_98 (ok_2_0 hS) rfl (of_6_2 (ok_2_0 hS)) rfl ?_
      refine x_iload_n 20 C dX2_playBeat_19 3 rfl rfl rfl ?_
      refine x_iald 21 C dX2_playBeat_20 (ok_6_2 (ok_2_0 hS)) (ol_6_2 (ok_2_0 hS)) rfl ?_
      refine x_cvV 24 [.int (ia h ((S + 1) + 3) a3)] [] C 0 dX2_playBeat_21 v_X2_101 (fun u hu => m_X2_dropPoles hS hu) rfl hS rfl (Nat.le_of_ble_eq_true rfl) (Nat.le_of_ble_eq_true rfl) rfl (fun h1 => ?_)
      refine x_aload_n 25 C dX2_playBeat_24 0 rfl rfl rfl ?_
      refine x_getR (c := (S + 1)) 28 C dX2_playBeat_25 fl_X2_12 hS rfl (of_2_0 hS) rfl ?_
      refine x_getR (c := ((S + 1) + 1)) 31 C dX2_playBeat_28 fl_X2_105 (ok_2_0 hS) rfl (of_6_0 (ok_2_0 hS)) rfl ?_
      refine x_iload_n 32 C dX2_playBeat_31 3 rfl rfl rfl ?_
      refine x_iald 33 C dX2_playBeat_32 (ok_6_0 (ok_2_0 hS)) (ol_6_0 (ok_2_0 hS)) rfl ?_
      refine x_iload 35 C dX2_playBeat_33 4 rfl rfl ?_
      refine x_iadd 36 C dX2_playBeat_35 rfl ?_
      refine x_ni (fun x2 => ?_)
      refine x_istore 38 [(5, .int x2), (0, .ref S), (1, .ref 5), (2, .ref a2), (3, .int a3), (4, .int a4)] C dX2_playBeat_36 n5 rfl rfl ?_
      refine x_sipush 41 C dX2_playBeat_38 cs_1000 rfl ?_
      refine x_istore 43 [(6, .int (1000 : Int32)), (5, .int x2), (0, .ref S), (1, .ref 5), (2, .ref a2), (3, .int a3), (4, .int a4)] C dX2_playBeat_41 n6 rfl rfl ?_
      refine x_iconst 44 C dX2_playBeat_43 ci_0 rfl ?_
      refine x_istore 46 [(7, .int (0 : Int32)), (6, .int (1000 : Int32)), (5, .int x2), (0, .ref S), (1, .ref 5), (2, .ref a2), (3, .int a3), (4, .int a4)] C dX2_playBeat_44 n7 rfl rfl ?_
      refine x_lt2 (q := 200) (ls := fun h3 x4 => [(0, .ref S), (1, .ref 5), (3, .int a3), (6, .int x4)]) (st := fun h3 x4 => []) (hh := fun h3 x4 => h3) (fun h3 x4 => ?_) (fun k1 J1 => ?_)
      · refine x_iload 202 C dX2_playBeat_200 3 rfl rfl ?_
        refine x_if_le 205 211 C dX2_playBeat_202 (by decide) rfl (fun _ => ?_) (fun _ => ?_)
        · exact x_vret C E dX2_playBeat_211 rfl
        · refine x_aload_n 206 C dX2_playBeat_205 0 rfl rfl rfl ?_
          refine x_aload_n 207 C dX2_playBeat_206 1 rfl rfl rfl ?_
          refine x_iload_n 208 C dX2_playBeat_207 2 rfl rfl rfl ?_
          refine x_cvV 211 [.ref 5, .int a3] [] C 0 dX2_playBeat_208 v_X2_119 (fun u hu => m_X2_startNext hS hu) rfl hS rfl (Nat.le_of_ble_eq_true rfl) (Nat.le_of_ble_eq_true rfl) rfl (fun h5 => ?_)
          exact x_vret C E dX2_playBeat_211 rfl
      refine x_ls [3, 4, 5, 6, 2, 1, 0] rfl (x_fx3 (ls := fun h6 x7 x8 => [(0, .ref S), (1, .ref 5), (2, .ref a2), (3, .int a3), (5, .int x2), (6, .int x7), (7, .int x8)]) (st := fun h6 x7 x8 => []) (hh := fun h6 x7 x8 => h6) (fun s2 J2 h6 x7 x8 => ?_))
      refine x_iload 48 C dX2_playBeat_46 6 rfl rfl ?_
      refine x_aload_n 49 C dX2_playBeat_48 0 rfl rfl rfl ?_
      refine x_getI 52 C dX2_playBeat_49 fl_X2_53 hS rfl rfl ?_
      refine x_icmp_ge 55 200 C dX2_playBeat_52 (by decide) rfl (fun _ => ?_) (fun _ => ?_)
      · exact x_ls [0, 1, 3, 5] rfl (J1 h6 x7)
      · refine x_iload 57 C dX2_playBeat_55 6 rfl rfl ?_
        refine x_bipush 59 C dX2_playBeat_57 cb_6 rfl ?_
        refine x_icmp_ge 62 200 C dX2_playBeat_59 (by decide) rfl (fun _ => ?_) (fun _ => ?_)
        · exact x_ls [0, 1, 3, 5] rfl (J1 h6 x7)
        · refine x_aload_n 63 C dX2_playBeat_62 0 rfl rfl rfl ?_
          refine x_getR (c := (S + 18)) 66 C dX2_playBeat_63 fl_X2_50 hS rfl (of_2_10 hS) rfl ?_
          refine x_iload 68 C dX2_playBeat_66 6 rfl rfl ?_
          refine x_iald 69 C dX2_playBeat_68 (ok_2_10 hS) (ol_2_10 hS) rfl ?_
          refine x_ni (fun x9 => ?_)
          refine x_istore 71 [(8, .int x9), (0, .ref S), (1, .ref 5), (2, .ref a2), (3, .int a3), (5, .int x2), (6, .int x7), (7, .int x8)] C dX2_playBeat_69 n8 rfl rfl ?_
          refine x_iload 73 C dX2_playBeat_71 0 rfl rfl ?_
          refine x_lt2 (q := 194) (ls := fun h10 x11 => [(0, .ref S), (1, .ref 5), (2, .ref a2), (3, .int a3), (5, .int x2), (6, .int x11), (7, .int x8)]) (st := fun h10 x11 => []) (hh := fun h10 x11 => h10) (fun h10 x11 => ?_) (fun k3 J3 => ?_)
          · refine x_iinc 197 (fun x12 => [(7, .int x12), (0, .ref S), (1, .ref 5), (2, .ref a2), (3, .int a3), (5, .int x2), (6, .int x11)]) C dX2_playBeat_194 6 rfl ci_1 n7 (fun _ => rfl) rfl (fun x12 => ?_)
            refine x_goto 46 C dX2_playBeat_197 (by decide) ?_
            exact x_ls [1, 2, 3, 4, 5, 6, 0] rfl (J2 h10 x11 x12)
          refine x_if_lt 76 194 C dX2_playBeat_73 (by decide) rfl (fun _ => ?_) (fun _ => ?_)
          · exact x_ls [1, 2, 3, 4, 5, 6, 7] rfl (J3 h6 x7)
          · refine x_iload 78 C dX2_playBeat_76 0 rfl rfl ?_
            refine x_bipush 80 C dX2_playBeat_78 cb_6 rfl ?_
            refine x_icmp_ge 83 194 C dX2_playBeat_80 (by decide) rfl (fun _ => ?_) (fun _ => ?_)
            · exact x_ls [1, 2, 3, 4, 5, 6, 7] rfl (J3 h6 x7)
            · refine x_aload_n 84 C dX2_playBeat_83 1 rfl rfl rfl ?_
              refine x_getR (c := (S + 10)) 87 C dX2_playBeat_84 fl_X2_25 hS rfl (of_2_2 hS) rfl ?_
              refine x_iload 89 C dX2_playBeat_87 0 rfl rfl ?_
              refine x_iald 90 C dX2_playBeat_89 (ok_2_2 hS) (ol_2_2 hS) rfl ?_
              refine x_iconst 91 C dX2_playBeat_90 ci_1 rfl ?_
              refine x_icmp_ne 94 194 C dX2_playBeat_91 (by decide) rfl (fun _ => ?_) (fun _ => ?_)
              · exact x_ls [1, 2, 3, 4, 5, 6, 7] rfl (J3 h6 x7)
              · refine x_aload_n 95 C dX2_playBeat_94 1 rfl rfl rfl ?_
                refine x_getR (c := (S + 12)) 98 C dX2_playBeat_95 fl_X2_32 hS rfl (of_2_4 hS) rfl ?_
                refine x_iload 100 C dX2_playBeat_98 0 rfl rfl ?_
                refine x_dup2 101 C dX2_playBeat_100 rfl rfl rfl ?_
                refine x_iald 102 C dX2_playBeat_101 (ok_2_4 hS) (ol_2_4 hS) rfl ?_
                refine x_iload 104 C dX2_playBeat_102 5 rfl rfl ?_
                refine x_iadd 105 C dX2_playBeat_104 rfl ?_
                refine x_iast 106 C dX2_playBeat_105 (ok_2_4 hS) (ol_2_4 hS) rfl (fun h13 => ?_)
                refine x_iload_n 107 C dX2_playBeat_106 4 rfl rfl rfl ?_
                refine x_aload_n 108 C dX2_playBeat_107 1 rfl rfl rfl ?_
                refine x_getR (c := (S + 14)) 111 C dX2_playBeat_108 fl_X2_38 hS rfl (of_2_6 hS) rfl ?_
                refine x_iload 113 C dX2_playBeat_111 0 rfl rfl ?_
                refine x_iald 114 C dX2_playBeat_113 (ok_2_6 hS) (ol_2_6 hS) rfl ?_
                refine x_isub 115 C dX2_playBeat_114 rfl ?_
                refine x_iconst 116 C dX2_playBeat_115 ci_1 rfl ?_
                refine x_isub 117 C dX2_playBeat_116 rfl ?_
                refine x_ni (fun x14 => ?_)
                refine x_istore 119 [(9, .int x14), (8, .int x9), (0, .ref S), (1, .ref 5), (2, .ref a2), (3, .int a3), (5, .int x2), (6, .int x7), (7, .int x8)] C dX2_playBeat_117 n9 rfl rfl ?_
                refine x_iload 121 C dX2_playBeat_119 0 rfl rfl ?_
                refine x_lt1 (q := 139) (ls := fun x15 => [(0, .ref S), (1, .ref 5), (2, .ref a2), (3, .int a3), (5, .int x2), (6, .int x7), (7, .int x8), (8, .int x9)]) (st := fun x15 => [.int x15]) (hh := fun x15 => h13) (fun x15 => ?_) (fun k4 J4 => ?_)
                · refine x_istore 141 [(10, .int x15), (0, .ref S), (1, .ref 5), (2, .ref a2), (3, .int a3), (5, .int x2), (6, .int x7), (7, .int x8), (8, .int x9)] C dX2_playBeat_139 n10 rfl rfl ?_
                  refine x_aload_n 142 C dX2_playBeat_141 1 rfl rfl rfl ?_
                  refine x_aload_n 143 C dX2_playBeat_142 2 rfl rfl rfl ?_
                  refine x_iload 145 C dX2_playBeat_143 8 rfl rfl ?_
                  refine x_iload 147 C dX2_playBeat_145 0 rfl rfl ?_
                  refine x_aload_n 148 C dX2_playBeat_147 1 rfl rfl rfl ?_
                  refine x_getR (c := (S + 1)) 151 C dX2_playBeat_148 fl_X2_12 hS rfl (of_2_0 hS) rfl ?_
                  refine x_getR (c := ((S + 1) + 2)) 154 C dX2_playBeat_151 fl_X2_108 (ok_2_0 hS) rfl (of_6_1 (ok_2_0 hS)) rfl ?_
                  refine x_iload_n 155 C dX2_playBeat_154 4 rfl rfl rfl ?_
                  refine x_iald 156 C dX2_playBeat_155 (ok_6_1 (ok_2_0 hS)) (ol_6_1 (ok_2_0 hS)) rfl ?_
                  refine x_iload 158 C dX2_playBeat_156 6 rfl rfl ?_
                  refine x_cvV 161 [.ref 5, .int x9, .int x15, .int (ia h13 ((S + 1) + 2) a3), .int x7] [] C 1 dX2_playBeat_158 v_X2_111 (fun u hu => m_X2_perform hS hu) rfl hS rfl (Nat.le_of_ble_eq_true rfl) (Nat.le_of_ble_eq_true rfl) rfl (fun h16 => ?_)
                  refine x_aload_n 162 C dX2_playBeat_161 1 rfl rfl rfl ?_
                  refine x_aload_n 163 C dX2_playBeat_162 2 rfl rfl rfl ?_
                  refine x_iload 165 C dX2_playBeat_163 8 rfl rfl ?_
                  refine x_iload_n 166 C dX2_playBeat_165 4 rfl rfl rfl ?_
                  refine x_cvV 169 [.ref 5, .int x9, .int a3] [] C 1 dX2_playBeat_166 v_X2_115 (fun u hu => m_X2_settle hS hu) rfl hS rfl (Nat.le_of_ble_eq_true rfl) (Nat.le_of_ble_eq_true rfl) rfl (fun h17 => ?_)
                  refine x_aload_n 170 C dX2_playBeat_169 1 rfl rfl rfl ?_
                  refine x_getR (c := (S + 10)) 173 C dX2_playBeat_170 fl_X2_25 hS rfl (of_2_2 hS) rfl ?_
                  refine x_iload 175 C dX2_playBeat_173 8 rfl rfl ?_
                  refine x_iald 176 C dX2_playBeat_175 (ok_2_2 hS) (ol_2_2 hS) rfl ?_
                  refine x_iconst 177 C dX2_playBeat_176 ci_1 rfl ?_
                  refine x_lt1 (q := 192) (ls := fun x18 => [(0, .ref S), (1, .ref 5), (2, .ref a2), (3, .int a3), (5, .int x2), (7, .int x8)]) (st := fun x18 => [.int x18]) (hh := fun x18 => h17) (fun x18 => ?_) (fun k5 J5 => ?_)
                  · refine x_istore 194 [(6, .int x18), (0, .ref S), (1, .ref 5), (2, .ref a2), (3, .int a3), (5, .int x2), (7, .int x8)] C dX2_playBeat_192 n6 rfl rfl ?_
                    exact x_ls [1, 2, 3, 4, 5, 0, 6] rfl (J3 h17 x18)
                  refine x_icmp_ne 180 190 C dX2_playBeat_177 (by decide) rfl (fun _ => ?_) (fun _ => ?_)
                  · refine x_iload 192 C dX2_playBeat_190 6 rfl rfl ?_
                    exact x_ls [1, 2, 3, 4, 5, 7] rfl (J5 x7)
                  · refine x_aload_n 181 C dX2_playBeat_180 1 rfl rfl rfl ?_
                    refine x_getR (c := (S + 11)) 184 C dX2_playBeat_181 fl_X2_29 hS rfl (of_2_3 hS) rfl ?_
                    refine x_iload 186 C dX2_playBeat_184 8 rfl rfl ?_
                    refine x_iald 187 C dX2_playBeat_186 (ok_2_3 hS) (ol_2_3 hS) rfl ?_
                    refine x_goto 192 C dX2_playBeat_187 (by decide) ?_
                    exact x_ls [1, 2, 3, 4, 5, 7] rfl (J5 (ia h17 (S + 11) x9))
                refine x_lt1 (q := 138) (ls := fun u19 => [(0, .ref S), (1, .ref 5), (2, .ref a2), (3, .int a3), (5, .int x2), (6, .int x7), (7, .int x8), (8, .int x9)]) (st := fun u19 => []) (hh := fun u19 => h13) (fun u19 => ?_) (fun k6 J6 => ?_)
                · refine x_iconst 139 C dX2_playBeat_138 ci_0 rfl ?_
                  exact x_ls [0, 1, 2, 3, 4, 5, 6, 7] rfl (J4 (0 : Int32))
                refine x_if_lt 124 138 C dX2_playBeat_121 (by decide) rfl (fun _ => ?_) (fun _ => ?_)
                · exact x_ls [2, 3, 4, 5, 6, 7, 8, 1] rfl (J6 (0 : Int32))
                · refine x_iload 126 C dX2_playBeat_124 0 rfl rfl ?_
                  refine x_aload_n 127 C dX2_playBeat_126 4 rfl rfl rfl ?_
                  refine x_alen 128 C dX2_playBeat_127 ha2 rfl rfl ?_
                  refine x_icmp_ge 131 138 C dX2_playBeat_128 (by decide) rfl (fun _ => ?_) (fun _ => ?_)
                  · exact x_ls [2, 3, 4, 5, 6, 7, 8, 1] rfl (J6 (0 : Int32))
                  · refine x_aload_n 132 C dX2_playBeat_131 4 rfl rfl rfl ?_
                    refine x_iload 134 C dX2_playBeat_132 0 rfl rfl ?_
                    refine x_iald 135 C dX2_playBeat_134 ha2 rfl rfl ?_
                    refine x_goto 139 C dX2_playBeat_135 (by decide) ?_
                    exact x_ls [2, 3, 4, 5, 6, 7, 8, 1] rfl (J4 (ia h13 a2 x14))
    · exact x_vret C E dX2_playBeat_10 rfl

def f_X2_prepare (h : Hp) (S : Nat) (a2 : Int32) : Option Hp :=
  nm (uf h S 11 (0 : Int32)) fun h1 =>
  nm (uf h1 S 12 (0 : Int32)) fun h2 =>
  nm (uf h2 S 13 (0 : Int32)) fun h3 =>
  nm (uf h3 S 14 (0 : Int32)) fun h4 =>
  fx2 FU (fun s1 (h5 : Hp) (x6 : Int32) =>
    if a2 ≤ x6 then (
      some h5)
    else (
      ck x6 6 (nm (ux h5 (S + 10) x6 (0 : Int32)) fun h7 =>
      ck x6 6 (nm (ux h7 (S + 11) x6 (-1 : Int32)) fun h8 =>
      ck x6 6 (nm (ux h8 (S + 12) x6 (0 : Int32)) fun h9 =>
      ck x6 6 (
        ck x6 6 (nm (ux h9 (S + 13) x6 (ia h9 8 x6)) fun h10 =>
        ck x6 6 (nm (ux h10 (S + 14) x6 (-1 : Int32)) fun h11 =>
        ck x6 6 (nm (ux h11 (S + 15) x6 (-1 : Int32)) fun h12 =>
        ck x6 6 (nm (ux h12 (S + 16) x6 (0 : Int32)) fun h13 =>
        ck x6 6 (nm (ux h13 (S + 17) x6 (0 : Int32)) fun h14 =>
        nm (x6 + (1 : Int32)) fun x15 =>
        s1 h14 x15))))))))))) h4 (0 : Int32)
theorem dX2_prepare_0 : decode cX2_prepare 0 = .ok (.aload_n 0, 1) := by decide +kernel
theorem dX2_prepare_1 : decode cX2_prepare 1 = .ok (.iconst 0, 1) := by decide +kernel
theorem dX2_prepare_2 : decode cX2_prepare 2 = .ok (.putfield 53, 3) := by decide +kernel
theorem dX2_prepare_5 : decode cX2_prepare 5 = .ok (.aload_n 0, 1) := by decide +kernel
theorem dX2_prepare_6 : decode cX2_prepare 6 = .ok (.iconst 0, 1) := by decide +kernel
theorem dX2_prepare_7 : decode cX2_prepare 7 = .ok (.putfield 57, 3) := by decide +kernel
theorem dX2_prepare_10 : decode cX2_prepare 10 = .ok (.aload_n 0, 1) := by decide +kernel
theorem dX2_prepare_11 : decode cX2_prepare 11 = .ok (.iconst 0, 1) := by decide +kernel
theorem dX2_prepare_12 : decode cX2_prepare 12 = .ok (.putfield 60, 3) := by decide +kernel
theorem dX2_prepare_15 : decode cX2_prepare 15 = .ok (.aload_n 0, 1) := by decide +kernel
theorem dX2_prepare_16 : decode cX2_prepare 16 = .ok (.iconst 0, 1) := by decide +kernel
theorem dX2_prepare_17 : decode cX2_prepare 17 = .ok (.putfield 63, 3) := by decide +kernel
theorem dX2_prepare_20 : decode cX2_prepare 20 = .ok (.iconst 0, 1) := by decide +kernel
theorem dX2_prepare_21 : decode cX2_prepare 21 = .ok (.istore_n 3, 1) := by decide +kernel
theorem dX2_prepare_22 : decode cX2_prepare 22 = .ok (.iload_n 3, 1) := by decide +kernel
theorem dX2_prepare_23 : decode cX2_prepare 23 = .ok (.iload_n 2, 1) := by decide +kernel
theorem dX2_prepare_24 : decode cX2_prepare 24 = .ok (.if_icmp .ge 70, 3) := by decide +kernel
theorem dX2_prepare_27 : decode cX2_prepare 27 = .ok (.aload_n 0, 1) := by decide +kernel
theorem dX2_prepare_28 : decode cX2_prepare 28 = .ok (.getfield 25, 3) := by decide +kernel
theorem dX2_prepare_31 : decode cX2_prepare 31 = .ok (.iload_n 3, 1) := by decide +kernel
theorem dX2_prepare_32 : decode cX2_prepare 32 = .ok (.iconst 0, 1) := by decide +kernel
theorem dX2_prepare_33 : decode cX2_prepare 33 = .ok (.iastore, 1) := by decide +kernel
theorem dX2_prepare_34 : decode cX2_prepare 34 = .ok (.aload_n 0, 1) := by decide +kernel
theorem dX2_prepare_35 : decode cX2_prepare 35 = .ok (.getfield 29, 3) := by decide +kernel
theorem dX2_prepare_38 : decode cX2_prepare 38 = .ok (.iload_n 3, 1) := by decide +kernel
theorem dX2_prepare_39 : decode cX2_prepare 39 = .ok (.iconst (-1), 1) := by decide +kernel
theorem dX2_prepare_40 : decode cX2_prepare 40 = .ok (.iastore, 1) := by decide +kernel
theorem dX2_prepare_41 : decode cX2_prepare 41 = .ok (.aload_n 0, 1) := by decide +kernel
theorem dX2_prepare_42 : decode cX2_prepare 42 = .ok (.getfield 32, 3) := by decide +kernel
theorem dX2_prepare_45 : decode cX2_prepare 45 = .ok (.iload_n 3, 1) := by decide +kernel
theorem dX2_prepare_46 : decode cX2_prepare 46 = .ok (.iconst 0, 1) := by decide +kernel
theorem dX2_prepare_47 : decode cX2_prepare 47 = .ok (.iastore, 1) := by decide +kernel
theorem dX2_prepare_48 : decode cX2_prepare 48 = .ok (.aload_n 0, 1) := by decide +kernel
theorem dX2_prepare_49 : decode cX2_prepare 49 = .ok (.getfield 35, 3) := by decide +kernel
theorem dX2_prepare_52 : decode cX2_prepare 52 = .ok (.iload_n 3, 1) := by decide +kernel
theorem dX2_prepare_53 : decode cX2_prepare 53 = .ok (.aload_n 1, 1) := by decide +kernel
theorem dX2_prepare_54 : decode cX2_prepare 54 = .ok (.getfield 95, 3) := by decide +kernel
theorem dX2_prepare_57 : decode cX2_prepare 57 = .ok (.iload_n 3, 1) := by decide +kernel
theorem dX2_prepare_58 : decode cX2_prepare 58 = .ok (.iaload, 1) := by decide +kernel
theorem dX2_prepare_59 : decode cX2_prepare 59 = .ok (.iastore, 1) := by decide +kernel
theorem dX2_prepare_60 : decode cX2_prepare 60 = .ok (.aload_n 0, 1) := by decide +kernel
theorem dX2_prepare_61 : decode cX2_prepare 61 = .ok (.getfield 38, 3) := by decide +kernel
theorem dX2_prepare_64 : decode cX2_prepare 64 = .ok (.iload_n 3, 1) := by decide +kernel
theorem dX2_prepare_65 : decode cX2_prepare 65 = .ok (.iconst (-1), 1) := by decide +kernel
theorem dX2_prepare_66 : decode cX2_prepare 66 = .ok (.iastore, 1) := by decide +kernel
theorem dX2_prepare_67 : decode cX2_prepare 67 = .ok (.aload_n 0, 1) := by decide +kernel
theorem dX2_prepare_68 : decode cX2_prepare 68 = .ok (.getfield 41, 3) := by decide +kernel
theorem dX2_prepare_71 : decode cX2_prepare 71 = .ok (.iload_n 3, 1) := by decide +kernel
theorem dX2_prepare_72 : decode cX2_prepare 72 = .ok (.iconst (-1), 1) := by decide +kernel
theorem dX2_prepare_73 : decode cX2_prepare 73 = .ok (.iastore, 1) := by decide +kernel
theorem dX2_prepare_74 : decode cX2_prepare 74 = .ok (.aload_n 0, 1) := by decide +kernel
theorem dX2_prepare_75 : decode cX2_prepare 75 = .ok (.getfield 44, 3) := by decide +kernel
theorem dX2_prepare_78 : decode cX2_prepare 78 = .ok (.iload_n 3, 1) := by decide +kernel
theorem dX2_prepare_79 : decode cX2_prepare 79 = .ok (.iconst 0, 1) := by decide +kernel
theorem dX2_prepare_80 : decode cX2_prepare 80 = .ok (.iastore, 1) := by decide +kernel
theorem dX2_prepare_81 : decode cX2_prepare 81 = .ok (.aload_n 0, 1) := by decide +kernel
theorem dX2_prepare_82 : decode cX2_prepare 82 = .ok (.getfield 47, 3) := by decide +kernel
theorem dX2_prepare_85 : decode cX2_prepare 85 = .ok (.iload_n 3, 1) := by decide +kernel
theorem dX2_prepare_86 : decode cX2_prepare 86 = .ok (.iconst 0, 1) := by decide +kernel
theorem dX2_prepare_87 : decode cX2_prepare 87 = .ok (.iastore, 1) := by decide +kernel
theorem dX2_prepare_88 : decode cX2_prepare 88 = .ok (.iinc 3 1, 3) := by decide +kernel
theorem dX2_prepare_91 : decode cX2_prepare 91 = .ok (.goto (-69), 3) := by decide +kernel
theorem dX2_prepare_94 : decode cX2_prepare 94 = .ok (.return_, 1) := by decide +kernel
set_option maxRecDepth 20000 in
theorem m_X2_prepare {h : Hp} {S : Nat} {a2 : Int32} (hS : sk S = 2) {u : Hp} (hu : f_X2_prepare h S a2 = some u) : Ct yX2_prepare cX2_prepare 4 none 0 [.ref S, .ref 5, .int a2] h (eV u) := by
  refine ct_of eV hu (by decide) (Nat.le_of_ble_eq_true rfl) (fun κ hn C E => ?_)
  have n3 : 3 < kn κ := by rw [hn]; decide
  unfold f_X2_prepare
  show Xz κ _ 0 [(0, .ref S), (1, .ref 5), (2, .int a2)] [] h
  refine x_aload_n 1 C dX2_prepare_0 0 rfl rfl rfl ?_
  refine x_iconst 2 C dX2_prepare_1 ci_0 rfl ?_
  refine x_put 5 C dX2_prepare_2 fp_X2_53 hS rfl rfl rfl rfl (fun h1 => ?_)
  refine x_aload_n 6 C dX2_prepare_5 0 rfl rfl rfl ?_
  refine x_iconst 7 C dX2_prepare_6 ci_0 rfl ?_
  refine x_put 10 C dX2_prepare_7 fp_X2_57 hS rfl rfl rfl rfl (fun h2 => ?_)
  refine x_aload_n 11 C dX2_prepare_10 0 rfl rfl rfl ?_
  refine x_iconst 12 C dX2_prepare_11 ci_0 rfl ?_
  refine x_put 15 C dX2_prepare_12 fp_X2_60 hS rfl rfl rfl rfl (fun h3 => ?_)
  refine x_aload_n 16 C dX2_prepare_15 0 rfl rfl rfl ?_
  refine x_iconst 17 C dX2_prepare_16 ci_0 rfl ?_
  refine x_put 20 C dX2_prepare_17 fp_X2_63 hS rfl rfl rfl rfl (fun h4 => ?_)
  refine x_iconst 21 C dX2_prepare_20 ci_0 rfl ?_
  refine x_istore_n 22 [(3, .int (0 : Int32)), (0, .ref S), (1, .ref 5), (2, .int a2)] C dX2_prepare_21 n3 rfl rfl rfl ?_
  refine x_ls [1, 2, 3, 0] rfl (x_fx2 (ls := fun h5 x6 => [(0, .ref S), (1, .ref 5), (2, .int a2), (3, .int x6)]) (st := fun h5 x6 => []) (hh := fun h5 x6 => h5) (fun s1 J1 h5 x6 => ?_))
  refine x_iload_n 23 C dX2_prepare_22 3 rfl rfl rfl ?_
  refine x_iload_n 24 C dX2_prepare_23 2 rfl rfl rfl ?_
  refine x_icmp_ge 27 94 C dX2_prepare_24 (by decide) rfl (fun _ => ?_) (fun _ => ?_)
  · exact x_vret C E dX2_prepare_94 rfl
  · refine x_aload_n 28 C dX2_prepare_27 0 rfl rfl rfl ?_
    refine x_getR (c := (S + 10)) 31 C dX2_prepare_28 fl_X2_25 hS rfl (of_2_2 hS) rfl ?_
    refine x_iload_n 32 C dX2_prepare_31 3 rfl rfl rfl ?_
    refine x_iconst 33 C dX2_prepare_32 ci_0 rfl ?_
    refine x_iast 34 C dX2_prepare_33 (ok_2_2 hS) (ol_2_2 hS) rfl (fun h7 => ?_)
    refine x_aload_n 35 C dX2_prepare_34 0 rfl rfl rfl ?_
    refine x_getR (c := (S + 11)) 38 C dX2_prepare_35 fl_X2_29 hS rfl (of_2_3 hS) rfl ?_
    refine x_iload_n 39 C dX2_prepare_38 3 rfl rfl rfl ?_
    refine x_iconst 40 C dX2_prepare_39 ci_m1 rfl ?_
    refine x_iast 41 C dX2_prepare_40 (ok_2_3 hS) (ol_2_3 hS) rfl (fun h8 => ?_)
    refine x_aload_n 42 C dX2_prepare_41 0 rfl rfl rfl ?_
    refine x_getR (c := (S + 12)) 45 C dX2_prepare_42 fl_X2_32 hS rfl (of_2_4 hS) rfl ?_
    refine x_iload_n 46 C dX2_prepare_45 3 rfl rfl rfl ?_
    refine x_iconst 47 C dX2_prepare_46 ci_0 rfl ?_
    refine x_iast 48 C dX2_prepare_47 (ok_2_4 hS) (ol_2_4 hS) rfl (fun h9 => ?_)
    refine x_aload_n 49 C dX2_prepare_48 0 rfl rfl rfl ?_
    refine x_getR (c := (S + 13)) 52 C dX2_prepare_49 fl_X2_35 hS rfl (of_2_5 hS) rfl ?_
    refine x_iload_n 53 C dX2_prepare_52 3 rfl rfl rfl ?_
    refine x_aload_n 54 C dX2_prepare_53 1 rfl rfl rfl ?_
    refine x_getR (c := 8) 57 C dX2_prepare_54 fl_X2_95 sk_5 rfl sr_5_2 rfl ?_
    refine x_iload_n 58 C dX2_prepare_57 3 rfl rfl rfl ?_
    refine x_iald 59 C dX2_prepare_58 sk_8 sl_8 rfl ?_
    refine x_iast 60 C dX2_prepare_59 (ok_2_5 hS) (ol_2_5 hS) rfl (fun h10 => ?_)
    refine x_aload_n 61 C dX2_prepare_60 0 rfl rfl rfl ?_
    refine x_getR (c := (S + 14)) 64 C dX2_prepare_61 fl_X2_38 hS rfl (of_2_6 hS) rfl ?_
    refine x_iload_n 65 C dX2_prepare_64 3 rfl rfl rfl ?_
    refine x_iconst 66 C dX2_prepare_65 ci_m1 rfl ?_
    refine x_iast 67 C dX2_prepare_66 (ok_2_6 hS) (ol_2_6 hS) rfl (fun h11 => ?_)
    refine x_aload_n 68 C dX2_prepare_67 0 rfl rfl rfl ?_
    refine x_getR (c := (S + 15)) 71 C dX2_prepare_68 fl_X2_41 hS rfl (of_2_7 hS) rfl ?_
    refine x_iload_n 72 C dX2_prepare_71 3 rfl rfl rfl ?_
    refine x_iconst 73 C dX2_prepare_72 ci_m1 rfl ?_
    refine x_iast 74 C dX2_prepare_73 (ok_2_7 hS) (ol_2_7 hS) rfl (fun h12 => ?_)
    refine x_aload_n 75 C dX2_prepare_74 0 rfl rfl rfl ?_
    refine x_getR (c := (S + 16)) 78 C dX2_prepare_75 fl_X2_44 hS rfl (of_2_8 hS) rfl ?_
    refine x_iload_n 79 C dX2_prepare_78 3 rfl rfl rfl ?_
    refine x_iconst 80 C dX2_prepare_79 ci_0 rfl ?_
    refine x_iast 81 C dX2_prepare_80 (ok_2_8 hS) (ol_2_8 hS) rfl (fun h13 => ?_)
    refine x_aload_n 82 C dX2_prepare_81 0 rfl rfl rfl ?_
    refine x_getR (c := (S + 17)) 85 C dX2_prepare_82 fl_X2_47 hS rfl (of_2_9 hS) rfl ?_
    refine x_iload_n 86 C dX2_prepare_85 3 rfl rfl rfl ?_
    refine x_iconst 87 C dX2_prepare_86 ci_0 rfl ?_
    refine x_iast 88 C dX2_prepare_87 (ok_2_9 hS) (ol_2_9 hS) rfl (fun h14 => ?_)
    refine x_iinc 91 (fun x15 => [(3, .int x15), (0, .ref S), (1, .ref 5), (2, .int a2)]) C dX2_prepare_88 3 rfl ci_1 n3 (fun _ => rfl) rfl (fun x15 => ?_)
    refine x_goto 22 C dX2_prepare_91 (by decide) ?_
    exact x_ls [1, 2, 3, 0] rfl (J1 h14 x15)

def f_X6_add (h : Hp) (S : Nat) (a1 : Int32) (a2 : Int32) (a3 : Int32) : Option Hp :=
  if a2 < 0 then (
    some h)
  else (
    if a2 < (24 : Int32) then (
      if a1 = 0 then (
        ck a2 24 (
          if (a3 - a3 / (2 : Int32) * (2 : Int32)) = (1 : Int32) then (
            ck a2 24 (nm (ux h (S + 1) a2 ((ia h (S + 1) a2) + (3 : Int32))) fun h4 =>
            some h4))
          else (
            ck a2 24 (nm (ux h (S + 1) a2 ((ia h (S + 1) a2) + (-3 : Int32))) fun h3 =>
            some h3))))
      else (
        if a1 = (1 : Int32) then (
          ck a2 24 (
            ck a2 24 (nm (ux h (S + 3) a2 ((ia h (S + 3) a2) ||| ((1 : Int32) <<< (a3 &&& 31)))) fun h2 =>
            some h2)))
        else (
          ck a2 24 (nm (ux h (S + 2) a2 (1 : Int32)) fun h1 =>
          some h1))))
    else (
      some h))
theorem dX6_add_0 : decode cX6_add 0 = .ok (.iload_n 2, 1) := by decide +kernel
theorem dX6_add_1 : decode cX6_add 1 = .ok (.ifCond .lt 9, 3) := by decide +kernel
theorem dX6_add_4 : decode cX6_add 4 = .ok (.iload_n 2, 1) := by decide +kernel
theorem dX6_add_5 : decode cX6_add 5 = .ok (.bipush 24, 2) := by decide +kernel
theorem dX6_add_7 : decode cX6_add 7 = .ok (.if_icmp .lt 4, 3) := by decide +kernel
theorem dX6_add_10 : decode cX6_add 10 = .ok (.return_, 1) := by decide +kernel
theorem dX6_add_11 : decode cX6_add 11 = .ok (.iload_n 1, 1) := by decide +kernel
theorem dX6_add_12 : decode cX6_add 12 = .ok (.ifCond .ne 28, 3) := by decide +kernel
theorem dX6_add_15 : decode cX6_add 15 = .ok (.aload_n 0, 1) := by decide +kernel
theorem dX6_add_16 : decode cX6_add 16 = .ok (.getfield 9, 3) := by decide +kernel
theorem dX6_add_19 : decode cX6_add 19 = .ok (.iload_n 2, 1) := by decide +kernel
theorem dX6_add_20 : decode cX6_add 20 = .ok (.dup2, 1) := by decide +kernel
theorem dX6_add_21 : decode cX6_add 21 = .ok (.iaload, 1) := by decide +kernel
theorem dX6_add_22 : decode cX6_add 22 = .ok (.iload_n 3, 1) := by decide +kernel
theorem dX6_add_23 : decode cX6_add 23 = .ok (.iconst 2, 1) := by decide +kernel
theorem dX6_add_24 : decode cX6_add 24 = .ok (.irem, 1) := by decide +kernel
theorem dX6_add_25 : decode cX6_add 25 = .ok (.iconst 1, 1) := by decide +kernel
theorem dX6_add_26 : decode cX6_add 26 = .ok (.if_icmp .ne 7, 3) := by decide +kernel
theorem dX6_add_29 : decode cX6_add 29 = .ok (.iconst 3, 1) := by decide +kernel
theorem dX6_add_30 : decode cX6_add 30 = .ok (.goto 5, 3) := by decide +kernel
theorem dX6_add_33 : decode cX6_add 33 = .ok (.bipush (-3), 2) := by decide +kernel
theorem dX6_add_35 : decode cX6_add 35 = .ok (.iadd, 1) := by decide +kernel
theorem dX6_add_36 : decode cX6_add 36 = .ok (.iastore, 1) := by decide +kernel
theorem dX6_add_37 : decode cX6_add 37 = .ok (.goto 30, 3) := by decide +kernel
theorem dX6_add_40 : decode cX6_add 40 = .ok (.iload_n 1, 1) := by decide +kernel
theorem dX6_add_41 : decode cX6_add 41 = .ok (.iconst 1, 1) := by decide +kernel
theorem dX6_add_42 : decode cX6_add 42 = .ok (.if_icmp .ne 18, 3) := by decide +kernel
theorem dX6_add_45 : decode cX6_add 45 = .ok (.aload_n 0, 1) := by decide +kernel
theorem dX6_add_46 : decode cX6_add 46 = .ok (.getfield 18, 3) := by decide +kernel
theorem dX6_add_49 : decode cX6_add 49 = .ok (.iload_n 2, 1) := by decide +kernel
theorem dX6_add_50 : decode cX6_add 50 = .ok (.dup2, 1) := by decide +kernel
theorem dX6_add_51 : decode cX6_add 51 = .ok (.iaload, 1) := by decide +kernel
theorem dX6_add_52 : decode cX6_add 52 = .ok (.iconst 1, 1) := by decide +kernel
theorem dX6_add_53 : decode cX6_add 53 = .ok (.iload_n 3, 1) := by decide +kernel
theorem dX6_add_54 : decode cX6_add 54 = .ok (.ishl, 1) := by decide +kernel
theorem dX6_add_55 : decode cX6_add 55 = .ok (.ior, 1) := by decide +kernel
theorem dX6_add_56 : decode cX6_add 56 = .ok (.iastore, 1) := by decide +kernel
theorem dX6_add_57 : decode cX6_add 57 = .ok (.goto 10, 3) := by decide +kernel
theorem dX6_add_60 : decode cX6_add 60 = .ok (.aload_n 0, 1) := by decide +kernel
theorem dX6_add_61 : decode cX6_add 61 = .ok (.getfield 15, 3) := by decide +kernel
theorem dX6_add_64 : decode cX6_add 64 = .ok (.iload_n 2, 1) := by decide +kernel
theorem dX6_add_65 : decode cX6_add 65 = .ok (.iconst 1, 1) := by decide +kernel
theorem dX6_add_66 : decode cX6_add 66 = .ok (.iastore, 1) := by decide +kernel
theorem dX6_add_67 : decode cX6_add 67 = .ok (.return_, 1) := by decide +kernel
set_option maxRecDepth 20000 in
theorem m_X6_add {h : Hp} {S : Nat} {a1 : Int32} {a2 : Int32} {a3 : Int32} (hS : sk S = 6) {u : Hp} (hu : f_X6_add h S a1 a2 a3 = some u) : Ct yX6_add cX6_add 4 none 0 [.ref S, .int a1, .int a2, .int a3] h (eV u) := by
  refine ct_of eV hu (by decide) (Nat.le_of_ble_eq_true rfl) (fun κ hn C E => ?_)
  unfold f_X6_add
  show Xz κ _ 0 [(0, .ref S), (1, .int a1), (2, .int a2), (3, .int a3)] [] h
  refine x_iload_n 1 C dX6_add_0 2 rfl rfl rfl ?_
  refine x_if_lt 4 10 C dX6_add_1 (by decide) rfl (fun _ => ?_) (fun _ => ?_)
  · exact x_vret C E dX6_add_10 rfl
  · refine x_iload_n 5 C dX6_add_4 2 rfl rfl rfl ?_
    refine x_bipush 7 C dX6_add_5 cb_24 rfl ?_
    refine x_icmp_lt 10 11 C dX6_add_7 (by decide) rfl (fun _ => ?_) (fun _ => ?_)
    · refine x_iload_n 12 C dX6_add_11 1 rfl rfl rfl ?_
      refine x_if_ne 15 40 C dX6_add_12 (by decide) rfl (fun _ => ?_) (fun _ => ?_)
      · refine x_iload_n 41 C dX6_add_40 1 rfl rfl rfl ?_
        refine x_iconst 42 C dX6_add_41 ci_1 rfl ?_
        refine x_icmp_ne 45 60 C dX6_add_42 (by decide) rfl (fun _ => ?_) (fun _ => ?_)
        · refine x_aload_n 61 C dX6_add_60 0 rfl rfl rfl ?_
          refine x_getR (c := (S + 2)) 64 C dX6_add_61 fl_X6_15 hS rfl (of_6_1 hS) rfl ?_
          refine x_iload_n 65 C dX6_add_64 2 rfl rfl rfl ?_
          refine x_iconst 66 C dX6_add_65 ci_1 rfl ?_
          refine x_iast 67 C dX6_add_66 (ok_6_1 hS) (ol_6_1 hS) rfl (fun h1 => ?_)
          exact x_vret C E dX6_add_67 rfl
        · refine x_aload_n 46 C dX6_add_45 0 rfl rfl rfl ?_
          refine x_getR (c := (S + 3)) 49 C dX6_add_46 fl_X6_18 hS rfl (of_6_2 hS) rfl ?_
          refine x_iload_n 50 C dX6_add_49 2 rfl rfl rfl ?_
          refine x_dup2 51 C dX6_add_50 rfl rfl rfl ?_
          refine x_iald 52 C dX6_add_51 (ok_6_2 hS) (ol_6_2 hS) rfl ?_
          refine x_iconst 53 C dX6_add_52 ci_1 rfl ?_
          refine x_iload_n 54 C dX6_add_53 3 rfl rfl rfl ?_
          refine x_ishl 55 C dX6_add_54 rfl ?_
          refine x_ior 56 C dX6_add_55 rfl ?_
          refine x_iast 57 C dX6_add_56 (ok_6_2 hS) (ol_6_2 hS) rfl (fun h2 => ?_)
          refine x_goto 67 C dX6_add_57 (by decide) ?_
          exact x_vret C E dX6_add_67 rfl
      · refine x_aload_n 16 C dX6_add_15 0 rfl rfl rfl ?_
        refine x_getR (c := (S + 1)) 19 C dX6_add_16 fl_X6_9 hS rfl (of_6_0 hS) rfl ?_
        refine x_iload_n 20 C dX6_add_19 2 rfl rfl rfl ?_
        refine x_dup2 21 C dX6_add_20 rfl rfl rfl ?_
        refine x_iald 22 C dX6_add_21 (ok_6_0 hS) (ol_6_0 hS) rfl ?_
        refine x_iload_n 23 C dX6_add_22 3 rfl rfl rfl ?_
        refine x_iconst 24 C dX6_add_23 ci_2 rfl ?_
        refine x_irem 25 C dX6_add_24 nz_2 rfl ?_
        refine x_iconst 26 C dX6_add_25 ci_1 rfl ?_
        refine x_icmp_ne 29 33 C dX6_add_26 (by decide) rfl (fun _ => ?_) (fun _ => ?_)
        · refine x_bipush 35 C dX6_add_33 cb_m3 rfl ?_
          refine x_iadd 36 C dX6_add_35 rfl ?_
          refine x_iast 37 C dX6_add_36 (ok_6_0 hS) (ol_6_0 hS) rfl (fun h3 => ?_)
          refine x_goto 67 C dX6_add_37 (by decide) ?_
          exact x_vret C E dX6_add_67 rfl
        · refine x_iconst 30 C dX6_add_29 ci_3 rfl ?_
          refine x_goto 35 C dX6_add_30 (by decide) ?_
          refine x_iadd 36 C dX6_add_35 rfl ?_
          refine x_iast 37 C dX6_add_36 (ok_6_0 hS) (ol_6_0 hS) rfl (fun h4 => ?_)
          refine x_goto 67 C dX6_add_37 (by decide) ?_
          exact x_vret C E dX6_add_67 rfl
    · exact x_vret C E dX6_add_10 rfl

def f_X6_gather (h : Hp) (S : Nat) (a2 : Int32) : Option Hp :=
  bdv (f_J7_fill_53178 h (S + 1) (0 : Int32)) fun h1 =>
  bdv (f_J7_fill_53178 h1 (S + 2) (0 : Int32)) fun h2 =>
  bdv (f_J7_fill_53178 h2 (S + 3) (0 : Int32)) fun h3 =>
  fx2 FU (fun s1 (h4 : Hp) (x5 : Int32) =>
    if (h4.1 5 8) ≤ x5 then (
      some h4)
    else (
      if (8 : Int32) ≤ x5 then (
        some h4)
      else (
        lt1 (fun (h6 : Hp) =>
          nm (x5 + (1 : Int32)) fun x7 =>
          s1 h6 x7) fun k2 =>
        if ((a2 >>> (x5 &&& 31)) &&& (1 : Int32)) = 0 then (
          ck x5 8 (
            ck x5 8 (
              ck x5 8 (
                bdv (f_X6_add h4 S (ia h4 10 x5) (ia h4 11 x5) (ia h4 12 x5)) fun h8 =>
                k2 h8))))
        else (
          k2 h4)))) h3 (0 : Int32)
theorem dX6_gather_0 : decode cX6_gather 0 = .ok (.aload_n 0, 1) := by decide +kernel
theorem dX6_gather_1 : decode cX6_gather 1 = .ok (.getfield 9, 3) := by decide +kernel
theorem dX6_gather_4 : decode cX6_gather 4 = .ok (.iconst 0, 1) := by decide +kernel
theorem dX6_gather_5 : decode cX6_gather 5 = .ok (.invokestatic 21, 3) := by decide +kernel
theorem dX6_gather_8 : decode cX6_gather 8 = .ok (.aload_n 0, 1) := by decide +kernel
theorem dX6_gather_9 : decode cX6_gather 9 = .ok (.getfield 15, 3) := by decide +kernel
theorem dX6_gather_12 : decode cX6_gather 12 = .ok (.iconst 0, 1) := by decide +kernel
theorem dX6_gather_13 : decode cX6_gather 13 = .ok (.invokestatic 21, 3) := by decide +kernel
theorem dX6_gather_16 : decode cX6_gather 16 = .ok (.aload_n 0, 1) := by decide +kernel
theorem dX6_gather_17 : decode cX6_gather 17 = .ok (.getfield 18, 3) := by decide +kernel
theorem dX6_gather_20 : decode cX6_gather 20 = .ok (.iconst 0, 1) := by decide +kernel
theorem dX6_gather_21 : decode cX6_gather 21 = .ok (.invokestatic 21, 3) := by decide +kernel
theorem dX6_gather_24 : decode cX6_gather 24 = .ok (.iconst 0, 1) := by decide +kernel
theorem dX6_gather_25 : decode cX6_gather 25 = .ok (.istore_n 3, 1) := by decide +kernel
theorem dX6_gather_26 : decode cX6_gather 26 = .ok (.iload_n 3, 1) := by decide +kernel
theorem dX6_gather_27 : decode cX6_gather 27 = .ok (.aload_n 1, 1) := by decide +kernel
theorem dX6_gather_28 : decode cX6_gather 28 = .ok (.getfield 27, 3) := by decide +kernel
theorem dX6_gather_31 : decode cX6_gather 31 = .ok (.if_icmp .ge 45, 3) := by decide +kernel
theorem dX6_gather_34 : decode cX6_gather 34 = .ok (.iload_n 3, 1) := by decide +kernel
theorem dX6_gather_35 : decode cX6_gather 35 = .ok (.bipush 8, 2) := by decide +kernel
theorem dX6_gather_37 : decode cX6_gather 37 = .ok (.if_icmp .ge 39, 3) := by decide +kernel
theorem dX6_gather_40 : decode cX6_gather 40 = .ok (.iload_n 2, 1) := by decide +kernel
theorem dX6_gather_41 : decode cX6_gather 41 = .ok (.iload_n 3, 1) := by decide +kernel
theorem dX6_gather_42 : decode cX6_gather 42 = .ok (.ishr, 1) := by decide +kernel
theorem dX6_gather_43 : decode cX6_gather 43 = .ok (.iconst 1, 1) := by decide +kernel
theorem dX6_gather_44 : decode cX6_gather 44 = .ok (.iand, 1) := by decide +kernel
theorem dX6_gather_45 : decode cX6_gather 45 = .ok (.ifCond .ne 25, 3) := by decide +kernel
theorem dX6_gather_48 : decode cX6_gather 48 = .ok (.aload_n 0, 1) := by decide +kernel
theorem dX6_gather_49 : decode cX6_gather 49 = .ok (.aload_n 1, 1) := by decide +kernel
theorem dX6_gather_50 : decode cX6_gather 50 = .ok (.getfield 33, 3) := by decide +kernel
theorem dX6_gather_53 : decode cX6_gather 53 = .ok (.iload_n 3, 1) := by decide +kernel
theorem dX6_gather_54 : decode cX6_gather 54 = .ok (.iaload, 1) := by decide +kernel
theorem dX6_gather_55 : decode cX6_gather 55 = .ok (.aload_n 1, 1) := by decide +kernel
theorem dX6_gather_56 : decode cX6_gather 56 = .ok (.getfield 36, 3) := by decide +kernel
theorem dX6_gather_59 : decode cX6_gather 59 = .ok (.iload_n 3, 1) := by decide +kernel
theorem dX6_gather_60 : decode cX6_gather 60 = .ok (.iaload, 1) := by decide +kernel
theorem dX6_gather_61 : decode cX6_gather 61 = .ok (.aload_n 1, 1) := by decide +kernel
theorem dX6_gather_62 : decode cX6_gather 62 = .ok (.getfield 39, 3) := by decide +kernel
theorem dX6_gather_65 : decode cX6_gather 65 = .ok (.iload_n 3, 1) := by decide +kernel
theorem dX6_gather_66 : decode cX6_gather 66 = .ok (.iaload, 1) := by decide +kernel
theorem dX6_gather_67 : decode cX6_gather 67 = .ok (.invokevirtual 42, 3) := by decide +kernel
theorem dX6_gather_70 : decode cX6_gather 70 = .ok (.iinc 3 1, 3) := by decide +kernel
theorem dX6_gather_73 : decode cX6_gather 73 = .ok (.goto (-47), 3) := by decide +kernel
theorem dX6_gather_76 : decode cX6_gather 76 = .ok (.return_, 1) := by decide +kernel
set_option maxRecDepth 20000 in
theorem m_X6_gather {h : Hp} {S : Nat} {a2 : Int32} (hS : sk S = 6) {u : Hp} (hu : f_X6_gather h S a2 = some u) : Ct yX6_gather cX6_gather 4 none 1 [.ref S, .ref 5, .int a2] h (eV u) := by
  refine ct_of eV hu (by decide) (Nat.le_of_ble_eq_true rfl) (fun κ hn C E => ?_)
  have n3 : 3 < kn κ := by rw [hn]; decide
  unfold f_X6_gather
  show Xz κ _ 0 [(0, .ref S), (1, .ref 5), (2, .int a2)] [] h
  refine x_aload_n 1 C dX6_gather_0 0 rfl rfl rfl ?_
  refine x_getR (c := (S + 1)) 4 C dX6_gather_1 fl_X6_9 hS rfl (of_6_0 hS) rfl ?_
  refine x_iconst 5 C dX6_gather_4 ci_0 rfl ?_
  refine x_csV 8 [.ref (S + 1), .int (0 : Int32)] [] C 0 dX6_gather_5 s_X6_21 (fun u hu => m_J7_fill_53178 (ok_6_0 hS) hu) rfl rfl (Nat.le_of_ble_eq_true rfl) (Nat.le_of_ble_eq_true rfl) rfl (fun h1 => ?_)
  refine x_aload_n 9 C dX6_gather_8 0 rfl rfl rfl ?_
  refine x_getR (c := (S + 2)) 12 C dX6_gather_9 fl_X6_15 hS rfl (of_6_1 hS) rfl ?_
  refine x_iconst 13 C dX6_gather_12 ci_0 rfl ?_
  refine x_csV 16 [.ref (S + 2), .int (0 : Int32)] [] C 0 dX6_gather_13 s_X6_21 (fun u hu => m_J7_fill_53178 (ok_6_1 hS) hu) rfl rfl (Nat.le_of_ble_eq_true rfl) (Nat.le_of_ble_eq_true rfl) rfl (fun h2 => ?_)
  refine x_aload_n 17 C dX6_gather_16 0 rfl rfl rfl ?_
  refine x_getR (c := (S + 3)) 20 C dX6_gather_17 fl_X6_18 hS rfl (of_6_2 hS) rfl ?_
  refine x_iconst 21 C dX6_gather_20 ci_0 rfl ?_
  refine x_csV 24 [.ref (S + 3), .int (0 : Int32)] [] C 0 dX6_gather_21 s_X6_21 (fun u hu => m_J7_fill_53178 (ok_6_2 hS) hu) rfl rfl (Nat.le_of_ble_eq_true rfl) (Nat.le_of_ble_eq_true rfl) rfl (fun h3 => ?_)
  refine x_iconst 25 C dX6_gather_24 ci_0 rfl ?_
  refine x_istore_n 26 [(3, .int (0 : Int32)), (0, .ref S), (1, .ref 5), (2, .int a2)] C dX6_gather_25 n3 rfl rfl rfl ?_
  refine x_ls [1, 2, 3, 0] rfl (x_fx2 (ls := fun h4 x5 => [(0, .ref S), (1, .ref 5), (2, .int a2), (3, .int x5)]) (st := fun h4 x5 => []) (hh := fun h4 x5 => h4) (fun s1 J1 h4 x5 => ?_))
  refine x_iload_n 27 C dX6_gather_26 3 rfl rfl rfl ?_
  refine x_aload_n 28 C dX6_gather_27 1 rfl rfl rfl ?_
  refine x_getI 31 C dX6_gather_28 fl_X6_27 sk_5 rfl rfl ?_
  refine x_icmp_ge 34 76 C dX6_gather_31 (by decide) rfl (fun _ => ?_) (fun _ => ?_)
  · exact x_vret C E dX6_gather_76 rfl
  · refine x_iload_n 35 C dX6_gather_34 3 rfl rfl rfl ?_
    refine x_bipush 37 C dX6_gather_35 cb_8 rfl ?_
    refine x_icmp_ge 40 76 C dX6_gather_37 (by decide) rfl (fun _ => ?_) (fun _ => ?_)
    · exact x_vret C E dX6_gather_76 rfl
    · refine x_iload_n 41 C dX6_gather_40 2 rfl rfl rfl ?_
      refine x_iload_n 42 C dX6_gather_41 3 rfl rfl rfl ?_
      refine x_ishr 43 C dX6_gather_42 rfl ?_
      refine x_iconst 44 C dX6_gather_43 ci_1 rfl ?_
      refine x_iand 45 C dX6_gather_44 rfl ?_
      refine x_lt1 (q := 70) (ls := fun h6 => [(0, .ref S), (1, .ref 5), (2, .int a2), (3, .int x5)]) (st := fun h6 => []) (hh := fun h6 => h6) (fun h6 => ?_) (fun k2 J2 => ?_)
      · refine x_iinc 73 (fun x7 => [(3, .int x7), (0, .ref S), (1, .ref 5), (2, .int a2)]) C dX6_gather_70 3 rfl ci_1 n3 (fun _ => rfl) rfl (fun x7 => ?_)
        refine x_goto 26 C dX6_gather_73 (by decide) ?_
        exact x_ls [1, 2, 3, 0] rfl (J1 h6 x7)
      refine x_if_ne 48 70 C dX6_gather_45 (by decide) rfl (fun _ => ?_) (fun _ => ?_)
      · exact x_ls [0, 1, 2, 3] rfl (J2 h4)
      · refine x_aload_n 49 C dX6_gather_48 0 rfl rfl rfl ?_
        refine x_aload_n 50 C dX6_gather_49 1 rfl rfl rfl ?_
        refine x_getR (c := 10) 53 C dX6_gather_50 fl_X6_33 sk_5 rfl sr_5_4 rfl ?_
        refine x_iload_n 54 C dX6_gather_53 3 rfl rfl rfl ?_
        refine x_iald 55 C dX6_gather_54 sk_10 sl_10 rfl ?_
        refine x_aload_n 56 C dX6_gather_55 1 rfl rfl rfl ?_
        refine x_getR (c := 11) 59 C dX6_gather_56 fl_X6_36 sk_5 rfl sr_5_5 rfl ?_
        refine x_iload_n 60 C dX6_gather_59 3 rfl rfl rfl ?_
        refine x_iald 61 C dX6_gather_60 sk_11 sl_11 rfl ?_
        refine x_aload_n 62 C dX6_gather_61 1 rfl rfl rfl ?_
        refine x_getR (c := 12) 65 C dX6_gather_62 fl_X6_39 sk_5 rfl sr_5_6 rfl ?_
        refine x_iload_n 66 C dX6_gather_65 3 rfl rfl rfl ?_
        refine x_iald 67 C dX6_gather_66 sk_12 sl_12 rfl ?_
        refine x_cvV 70 [.int (ia h4 10 x5), .int (ia h4 11 x5), .int (ia h4 12 x5)] [] C 0 dX6_gather_67 v_X6_42 (fun u hu => m_X6_add hS hu) rfl hS rfl (Nat.le_of_ble_eq_true rfl) (Nat.le_of_ble_eq_true rfl) rfl (fun h8 => ?_)
        exact x_ls [0, 1, 2, 3] rfl (J2 h8)
