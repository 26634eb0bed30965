def f_X2_playBeat (h : Hp) (S : Nat) (a2 : Nat) (a3 : Int32) (a4 : Int32) : Option Hp :=
  bdr (f_X7_isBeat a3) fun x1 =>
  if x1 = 0 then (
    some h)
  else (
    ck a3 24 (
      bdv (f_X2_dropPoles h S (ia h ((S + 1) + 3) a3)) fun h2 =>
      ck a3 24 (
        nm ((ia h2 ((S + 1) + 1) a3) + a4) fun x3 =>
        lt2 (fun (h4 : Hp) (x5 : Int32) =>
          if x5 ≤ 0 then (
            some h4)
          else (
            bdv (f_X2_startNext h4 S a3) fun h6 =>
            some h6)) fun k1 =>
        fx3 FU (fun s2 (h7 : Hp) (x8 : Int32) (x9 : Int32) =>
          if (h7.1 S 11) ≤ x9 then (
            k1 h7 x8)
          else (
            if (6 : Int32) ≤ x9 then (
              k1 h7 x8)
            else (
              ck x9 6 (
                nm (ia h7 (S + 18) x9) fun x10 =>
                bdr (f_X7_within x10 (0 : Int32) (5 : Int32)) fun x11 =>
                lt2 (fun (h12 : Hp) (x13 : Int32) =>
                  nm (x9 + (1 : Int32)) fun x14 =>
                  s2 h12 x13 x14) fun k3 =>
                if x11 = 0 then (
                  k3 h7 x8)
                else (
                  ck x10 6 (
                    if (ia h7 (S + 10) x10) = (1 : Int32) then (
                      ck x10 6 (
                        ck x10 6 (nm (ux h7 (S + 12) x10 ((ia h7 (S + 12) x10) + x3)) fun h15 =>
                        ck x10 6 (
                          nm ((a3 - (ia h15 (S + 14) x10)) - (1 : Int32)) fun x16 =>
                          lt1 (fun (x17 : Int32) =>
                            ck a3 24 (
                              bdv (f_X2_perform h15 S x10 x17 (ia h15 ((S + 1) + 2) a3) x8) fun h18 =>
                              bdv (f_X2_settle h18 S x10 a3) fun h19 =>
                              ck x10 6 (
                                lt1 (fun (x20 : Int32) =>
                                  k3 h19 x20) fun k5 =>
                                if (ia h19 (S + 10) x10) = (1 : Int32) then (
                                  ck x10 6 (
                                    k5 (ia h19 (S + 11) x10)))
                                else (
                                  k5 x8)))) fun k4 =>
                          lt1 (fun (u21 : Int32) =>
                            k4 (0 : Int32)) fun k6 =>
                          if x16 < 0 then (
                            k6 (0 : Int32))
                          else (
                            if (nI (sl a2)) ≤ x16 then (
                              k6 (0 : Int32))
                            else (
                              ck x16 (sl a2) (
                                k4 (ia h15 a2 x16))))))))
                    else (
                      k3 h7 x8))))))) h2 (1000 : Int32) (0 : Int32))))
theorem dX2_playBeat_0 : decode cX2_playBeat 0 = .ok (.iload_n 3, 1) := by decide +kernel
theorem dX2_playBeat_1 : decode cX2_playBeat 1 = .ok (.invokestatic 98, 3) := by decide +kernel
theorem dX2_playBeat_4 : decode cX2_playBeat 4 = .ok (.ifCond .ne 4, 3) := by decide +kernel
theorem dX2_playBeat_7 : decode cX2_playBeat 7 = .ok (.return_, 1) := by decide +kernel
theorem dX2_playBeat_8 : decode cX2_playBeat 8 = .ok (.aload_n 0, 1) := by decide +kernel
theorem dX2_playBeat_9 : decode cX2_playBeat 9 = .ok (.aload_n 0, 1) := by decide +kernel
theorem dX2_playBeat_10 : decode cX2_playBeat 10 = .ok (.getfield 12, 3) := by decide +kernel
theorem dX2_playBeat_13 : decode cX2_playBeat 13 = .ok (.getfield 102, 3) := by decide +kernel
theorem dX2_playBeat_16 : decode cX2_playBeat 16 = .ok (.iload_n 3, 1) := by decide +kernel
theorem dX2_playBeat_17 : decode cX2_playBeat 17 = .ok (.iaload, 1) := by decide +kernel
theorem dX2_playBeat_18 : decode cX2_playBeat 18 = .ok (.invokevirtual 105, 3) := by decide +kernel
theorem dX2_playBeat_21 : decode cX2_playBeat 21 = .ok (.aload_n 0, 1) := by decide +kernel
theorem dX2_playBeat_22 : decode cX2_playBeat 22 = .ok (.getfield 12, 3) := by decide +kernel
theorem dX2_playBeat_25 : decode cX2_playBeat 25 = .ok (.getfield 109, 3) := by decide +kernel
theorem dX2_playBeat_28 : decode cX2_playBeat 28 = .ok (.iload_n 3, 1) := by decide +kernel
theorem dX2_playBeat_29 : decode cX2_playBeat 29 = .ok (.iaload, 1) := by decide +kernel
theorem dX2_playBeat_30 : decode cX2_playBeat 30 = .ok (.iload 4, 2) := by decide +kernel
theorem dX2_playBeat_32 : decode cX2_playBeat 32 = .ok (.iadd, 1) := by decide +kernel
theorem dX2_playBeat_33 : decode cX2_playBeat 33 = .ok (.istore 5, 2) := by decide +kernel
theorem dX2_playBeat_35 : decode cX2_playBeat 35 = .ok (.sipush 1000, 3) := by decide +kernel
theorem dX2_playBeat_38 : decode cX2_playBeat 38 = .ok (.istore 6, 2) := by decide +kernel
theorem dX2_playBeat_40 : decode cX2_playBeat 40 = .ok (.iconst 0, 1) := by decide +kernel
theorem dX2_playBeat_41 : decode cX2_playBeat 41 = .ok (.istore 7, 2) := by decide +kernel
theorem dX2_playBeat_43 : decode cX2_playBeat 43 = .ok (.iload 7, 2) := by decide +kernel
theorem dX2_playBeat_45 : decode cX2_playBeat 45 = .ok (.aload_n 0, 1) := by decide +kernel
theorem dX2_playBeat_46 : decode cX2_playBeat 46 = .ok (.getfield 53, 3) := by decide +kernel
theorem dX2_playBeat_49 : decode cX2_playBeat 49 = .ok (.if_icmp .ge 146, 3) := by decide +kernel
theorem dX2_playBeat_52 : decode cX2_playBeat 52 = .ok (.iload 7, 2) := by decide +kernel
theorem dX2_playBeat_54 : decode cX2_playBeat 54 = .ok (.bipush 6, 2) := by decide +kernel
theorem dX2_playBeat_56 : decode cX2_playBeat 56 = .ok (.if_icmp .ge 139, 3) := by decide +kernel
theorem dX2_playBeat_59 : decode cX2_playBeat 59 = .ok (.aload_n 0, 1) := by decide +kernel
theorem dX2_playBeat_60 : decode cX2_playBeat 60 = .ok (.getfield 50, 3) := by decide +kernel
theorem dX2_playBeat_63 : decode cX2_playBeat 63 = .ok (.iload 7, 2) := by decide +kernel
theorem dX2_playBeat_65 : decode cX2_playBeat 65 = .ok (.iaload, 1) := by decide +kernel
theorem dX2_playBeat_66 : decode cX2_playBeat 66 = .ok (.istore 8, 2) := by decide +kernel
theorem dX2_playBeat_68 : decode cX2_playBeat 68 = .ok (.iload 8, 2) := by decide +kernel
theorem dX2_playBeat_70 : decode cX2_playBeat 70 = .ok (.iconst 0, 1) := by decide +kernel
theorem dX2_playBeat_71 : decode cX2_playBeat 71 = .ok (.iconst 5, 1) := by decide +kernel
theorem dX2_playBeat_72 : decode cX2_playBeat 72 = .ok (.invokestatic 112, 3) := by decide +kernel
theorem dX2_playBeat_75 : decode cX2_playBeat 75 = .ok (.ifCond .eq 114, 3) := by decide +kernel
theorem dX2_playBeat_78 : decode cX2_playBeat 78 = .ok (.aload_n 0, 1) := by decide +kernel
theorem dX2_playBeat_79 : decode cX2_playBeat 79 = .ok (.getfield 25, 3) := by decide +kernel
theorem dX2_playBeat_82 : decode cX2_playBeat 82 = .ok (.iload 8, 2) := by decide +kernel
theorem dX2_playBeat_84 : decode cX2_playBeat 84 = .ok (.iaload, 1) := by decide +kernel
theorem dX2_playBeat_85 : decode cX2_playBeat 85 = .ok (.iconst 1, 1) := by decide +kernel
theorem dX2_playBeat_86 : decode cX2_playBeat 86 = .ok (.if_icmp .ne 103, 3) := by decide +kernel
theorem dX2_playBeat_89 : decode cX2_playBeat 89 = .ok (.aload_n 0, 1) := by decide +kernel
theorem dX2_playBeat_90 : decode cX2_playBeat 90 = .ok (.getfield 32, 3) := by decide +kernel
theorem dX2_playBeat_93 : decode cX2_playBeat 93 = .ok (.iload 8, 2) := by decide +kernel
theorem dX2_playBeat_95 : decode cX2_playBeat 95 = .ok (.dup2, 1) := by decide +kernel
theorem dX2_playBeat_96 : decode cX2_playBeat 96 = .ok (.iaload, 1) := by decide +kernel
theorem dX2_playBeat_97 : decode cX2_playBeat 97 = .ok (.iload 5, 2) := by decide +kernel
theorem dX2_playBeat_99 : decode cX2_playBeat 99 = .ok (.iadd, 1) := by decide +kernel
theorem dX2_playBeat_100 : decode cX2_playBeat 100 = .ok (.iastore, 1) := by decide +kernel
theorem dX2_playBeat_101 : decode cX2_playBeat 101 = .ok (.iload_n 3, 1) := by decide +kernel
theorem dX2_playBeat_102 : decode cX2_playBeat 102 = .ok (.aload_n 0, 1) := by decide +kernel
theorem dX2_playBeat_103 : decode cX2_playBeat 103 = .ok (.getfield 38, 3) := by decide +kernel
theorem dX2_playBeat_106 : decode cX2_playBeat 106 = .ok (.iload 8, 2) := by decide +kernel
theorem dX2_playBeat_108 : decode cX2_playBeat 108 = .ok (.iaload, 1) := by decide +kernel
theorem dX2_playBeat_109 : decode cX2_playBeat 109 = .ok (.isub, 1) := by decide +kernel
theorem dX2_playBeat_110 : decode cX2_playBeat 110 = .ok (.iconst 1, 1) := by decide +kernel
theorem dX2_playBeat_111 : decode cX2_playBeat 111 = .ok (.isub, 1) := by decide +kernel
theorem dX2_playBeat_112 : decode cX2_playBeat 112 = .ok (.istore 9, 2) := by decide +kernel
theorem dX2_playBeat_114 : decode cX2_playBeat 114 = .ok (.iload 9, 2) := by decide +kernel
theorem dX2_playBeat_116 : decode cX2_playBeat 116 = .ok (.ifCond .lt 17, 3) := by decide +kernel
theorem dX2_playBeat_119 : decode cX2_playBeat 119 = .ok (.iload 9, 2) := by decide +kernel
theorem dX2_playBeat_121 : decode cX2_playBeat 121 = .ok (.aload_n 2, 1) := by decide +kernel
theorem dX2_playBeat_122 : decode cX2_playBeat 122 = .ok (.arraylength, 1) := by decide +kernel
theorem dX2_playBeat_123 : decode cX2_playBeat 123 = .ok (.if_icmp .ge 10, 3) := by decide +kernel
theorem dX2_playBeat_126 : decode cX2_playBeat 126 = .ok (.aload_n 2, 1) := by decide +kernel
theorem dX2_playBeat_127 : decode cX2_playBeat 127 = .ok (.iload 9, 2) := by decide +kernel
theorem dX2_playBeat_129 : decode cX2_playBeat 129 = .ok (.iaload, 1) := by decide +kernel
theorem dX2_playBeat_130 : decode cX2_playBeat 130 = .ok (.goto 4, 3) := by decide +kernel
theorem dX2_playBeat_133 : decode cX2_playBeat 133 = .ok (.iconst 0, 1) := by decide +kernel
theorem dX2_playBeat_134 : decode cX2_playBeat 134 = .ok (.istore 10, 2) := by decide +kernel
theorem dX2_playBeat_136 : decode cX2_playBeat 136 = .ok (.aload_n 0, 1) := by decide +kernel
theorem dX2_playBeat_137 : decode cX2_playBeat 137 = .ok (.aload_n 1, 1) := by decide +kernel
theorem dX2_playBeat_138 : decode cX2_playBeat 138 = .ok (.iload 8, 2) := by decide +kernel
theorem dX2_playBeat_140 : decode cX2_playBeat 140 = .ok (.iload 10, 2) := by decide +kernel
theorem dX2_playBeat_142 : decode cX2_playBeat 142 = .ok (.aload_n 0, 1) := by decide +kernel
theorem dX2_playBeat_143 : decode cX2_playBeat 143 = .ok (.getfield 12, 3) := by decide +kernel
theorem dX2_playBeat_146 : decode cX2_playBeat 146 = .ok (.getfield 116, 3) := by decide +kernel
theorem dX2_playBeat_149 : decode cX2_playBeat 149 = .ok (.iload_n 3, 1) := by decide +kernel
theorem dX2_playBeat_150 : decode cX2_playBeat 150 = .ok (.iaload, 1) := by decide +kernel
theorem dX2_playBeat_151 : decode cX2_playBeat 151 = .ok (.iload 6, 2) := by decide +kernel
theorem dX2_playBeat_153 : decode cX2_playBeat 153 = .ok (.invokevirtual 119, 3) := by decide +kernel
theorem dX2_playBeat_156 : decode cX2_playBeat 156 = .ok (.aload_n 0, 1) := by decide +kernel
theorem dX2_playBeat_157 : decode cX2_playBeat 157 = .ok (.aload_n 1, 1) := by decide +kernel
theorem dX2_playBeat_158 : decode cX2_playBeat 158 = .ok (.iload 8, 2) := by decide +kernel
theorem dX2_playBeat_160 : decode cX2_playBeat 160 = .ok (.iload_n 3, 1) := by decide +kernel
theorem dX2_playBeat_161 : decode cX2_playBeat 161 = .ok (.invokevirtual 123, 3) := by decide +kernel
theorem dX2_playBeat_164 : decode cX2_playBeat 164 = .ok (.aload_n 0, 1) := by decide +kernel
theorem dX2_playBeat_165 : decode cX2_playBeat 165 = .ok (.getfield 25, 3) := by decide +kernel
theorem dX2_playBeat_168 : decode cX2_playBeat 168 = .ok (.iload 8, 2) := by decide +kernel
theorem dX2_playBeat_170 : decode cX2_playBeat 170 = .ok (.iaload, 1) := by decide +kernel
theorem dX2_playBeat_171 : decode cX2_playBeat 171 = .ok (.iconst 1, 1) := by decide +kernel
theorem dX2_playBeat_172 : decode cX2_playBeat 172 = .ok (.if_icmp .ne 13, 3) := by decide +kernel
theorem dX2_playBeat_175 : decode cX2_playBeat 175 = .ok (.aload_n 0, 1) := by decide +kernel
theorem dX2_playBeat_176 : decode cX2_playBeat 176 = .ok (.getfield 29, 3) := by decide +kernel
theorem dX2_playBeat_179 : decode cX2_playBeat 179 = .ok (.iload 8, 2) := by decide +kernel
theorem dX2_playBeat_181 : decode cX2_playBeat 181 = .ok (.iaload, 1) := by decide +kernel
theorem dX2_playBeat_182 : decode cX2_playBeat 182 = .ok (.goto 5, 3) := by decide +kernel
theorem dX2_playBeat_185 : decode cX2_playBeat 185 = .ok (.iload 6, 2) := by decide +kernel
theorem dX2_playBeat_187 : decode cX2_playBeat 187 = .ok (.istore 6, 2) := by decide +kernel
theorem dX2_playBeat_189 : decode cX2_playBeat 189 = .ok (.iinc 7 1, 3) := by decide +kernel
theorem dX2_playBeat_192 : decode cX2_playBeat 192 = .ok (.goto (-149), 3) := by decide +kernel
theorem dX2_playBeat_195 : decode cX2_playBeat 195 = .ok (.iload 6, 2) := by decide +kernel
theorem dX2_playBeat_197 : decode cX2_playBeat 197 = .ok (.ifCond .le 9, 3) := by decide +kernel
theorem dX2_playBeat_200 : decode cX2_playBeat 200 = .ok (.aload_n 0, 1) := by decide +kernel
theorem dX2_playBeat_201 : decode cX2_playBeat 201 = .ok (.aload_n 1, 1) := by decide +kernel
theorem dX2_playBeat_202 : decode cX2_playBeat 202 = .ok (.iload_n 3, 1) := by decide +kernel
theorem dX2_playBeat_203 : decode cX2_playBeat 203 = .ok (.invokevirtual 127, 3) := by decide +kernel
theorem dX2_playBeat_206 : decode cX2_playBeat 206 = .ok (.return_, 1) := by decide +kernel
set_option maxRecDepth 20000 in
theorem m_X2_playBeat {h : Hp} {S : Nat} {a2 : Nat} {a3 : Int32} {a4 : Int32} (hS : sk S = 2) (ha2 : sk a2 = 9) {u : Hp} (hu : f_X2_playBeat h S a2 a3 a4 = some u) : Ct yX2_playBeat cX2_playBeat 11 none 2 [.ref S, .ref 5, .ref a2, .int a3, .int a4] h (eV u) := by
  refine ct_of eV hu (by decide) (Nat.le_of_ble_eq_true rfl) (fun κ hn C E => ?_)
  have n5 : 5 < kn κ := by rw [hn]; decide
  have n6 : 6 < kn κ := by rw [hn]; decide
  have n7 : 7 < kn κ := by rw [hn]; decide
  have n8 : 8 < kn κ := by rw [hn]; decide
  have n9 : 9 < kn κ := by rw [hn]; decide
  have n10 : 10 < kn κ := by rw [hn]; decide
  unfold f_X2_playBeat
  show Xz κ _ 0 [(0, .ref S), (1, .ref 5), (2, .ref a2), (3, .int a3), (4, .int a4)] [] h
  refine x_iload_n 1 C dX2_playBeat_0 3 rfl rfl rfl ?_
  refine x_csi 4 [.int a3] [] C 1 dX2_playBeat_1 s_X2_98 (fun u hu => m_X7_isBeat hu) rfl rfl (Nat.le_of_ble_eq_true rfl) (Nat.le_of_ble_eq_true rfl) rfl (fun x1 => ?_)
  refine x_if_ne 7 8 C dX2_playBeat_4 (by decide) rfl (fun _ => ?_) (fun _ => ?_)
  · refine x_aload_n 9 C dX2_playBeat_8 0 rfl rfl rfl ?_
    refine x_aload_n 10 C dX2_playBeat_9 0 rfl rfl rfl ?_
    refine x_getR (c := (S + 1)) 13 C dX2_playBeat_10 fl_X2_12 hS rfl (of_2_0 hS) rfl ?_
    refine x_getR (c := ((S + 1) + 3)) 16 C dX2_playBeat_13 fl_X2_102 (ok_2_0 hS) rfl (of_6_2 (ok_2_0 hS)) rfl ?_
    refine x_iload_n 17 C dX2_playBeat_16 3 rfl rfl rfl ?_
    refine x_iald 18 C dX2_playBeat_17 (ok_6_2 (ok_2_0 hS)) (ol_6_2 (ok_2_0 hS)) rfl ?_
    refine x_cvV 21 [.int (ia h ((S + 1) + 3) a3)] [] C 0 dX2_playBeat_18 v_X2_105 (fun u hu => m_X2_dropPoles hS hu) rfl hS rfl (Nat.le_of_ble_eq_true rfl) (Nat.le_of_ble_eq_true rfl) rfl (fun h2 => ?_)
    refine x_aload_n 22 C dX2_playBeat_21 0 rfl rfl rfl ?_
    refine x_getR (c := (S + 1)) 25 C dX2_playBeat_22 fl_X2_12 hS rfl (of_2_0 hS) rfl ?_
    refine x_getR (c := ((S + 1) + 1)) 28 C dX2_playBeat_25 fl_X2_109 (ok_2_0 hS) rfl (of_6_0 (ok_2_0 hS)) rfl ?_
    refine x_iload_n 29 C dX2_playBeat_28 3 rfl rfl rfl ?_
    refine x_iald 30 C dX2_playBeat_29 (ok_6_0 (ok_2_0 hS)) (ol_6_0 (ok_2_0 hS)) rfl ?_
    refine x_iload 32 C dX2_playBeat_30 4 rfl rfl ?_
    refine x_iadd 33 C dX2_playBeat_32 rfl ?_
    refine x_ni (fun x3 => ?_)
    refine x_istore 35 [(5, .int x3), (0, .ref S), (1, .ref 5), (2, .ref a2), (3, .int a3), (4, .int a4)] C dX2_playBeat_33 n5 rfl rfl ?_
    refine x_sipush 38 C dX2_playBeat_35 cs_1000 rfl ?_
    refine x_istore 40 [(6, .int (1000 : Int32)), (5, .int x3), (0, .ref S), (1, .ref 5), (2, .ref a2), (3, .int a3), (4, .int a4)] C dX2_playBeat_38 n6 rfl rfl ?_
    refine x_iconst 41 C dX2_playBeat_40 ci_0 rfl ?_
    refine x_istore 43 [(7, .int (0 : Int32)), (6, .int (1000 : Int32)), (5, .int x3), (0, .ref S), (1, .ref 5), (2, .ref a2), (3, .int a3), (4, .int a4)] C dX2_playBeat_41 n7 rfl rfl ?_
    refine x_lt2 (q := 195) (ls := fun h4 x5 => [(0, .ref S), (1, .ref 5), (3, .int a3), (6, .int x5)]) (st := fun h4 x5 => []) (hh := fun h4 x5 => h4) (fun h4 x5 => ?_) (fun k1 J1 => ?_)
    · refine x_iload 197 C dX2_playBeat_195 3 rfl rfl ?_
      refine x_if_le 200 206 C dX2_playBeat_197 (by decide) rfl (fun _ => ?_) (fun _ => ?_)
      · exact x_vret C E dX2_playBeat_206 rfl
      · refine x_aload_n 201 C dX2_playBeat_200 0 rfl rfl rfl ?_
        refine x_aload_n 202 C dX2_playBeat_201 1 rfl rfl rfl ?_
        refine x_iload_n 203 C dX2_playBeat_202 2 rfl rfl rfl ?_
        refine x_cvV 206 [.ref 5, .int a3] [] C 0 dX2_playBeat_203 v_X2_127 (fun u hu => m_X2_startNext hS hu) rfl hS rfl (Nat.le_of_ble_eq_true rfl) (Nat.le_of_ble_eq_true rfl) rfl (fun h6 => ?_)
        exact x_vret C E dX2_playBeat_206 rfl
    refine x_ls [3, 4, 5, 6, 2, 1, 0] rfl (x_fx3 (ls := fun h7 x8 x9 => [(0, .ref S), (1, .ref 5), (2, .ref a2), (3, .int a3), (5, .int x3), (6, .int x8), (7, .int x9)]) (st := fun h7 x8 x9 => []) (hh := fun h7 x8 x9 => h7) (fun s2 J2 h7 x8 x9 => ?_))
    refine x_iload 45 C dX2_playBeat_43 6 rfl rfl ?_
    refine x_aload_n 46 C dX2_playBeat_45 0 rfl rfl rfl ?_
    refine x_getI 49 C dX2_playBeat_46 fl_X2_53 hS rfl rfl ?_
    refine x_icmp_ge 52 195 C dX2_playBeat_49 (by decide) rfl (fun _ => ?_) (fun _ => ?_)
    · exact x_ls [0, 1, 3, 5] rfl (J1 h7 x8)
    · refine x_iload 54 C dX2_playBeat_52 6 rfl rfl ?_
      refine x_bipush 56 C dX2_playBeat_54 cb_6 rfl ?_
      refine x_icmp_ge 59 195 C dX2_playBeat_56 (by decide) rfl (fun _ => ?_) (fun _ => ?_)
      · exact x_ls [0, 1, 3, 5] rfl (J1 h7 x8)
      · refine x_aload_n 60 C dX2_playBeat_59 0 rfl rfl rfl ?_
        refine x_getR (c := (S + 18)) 63 C dX2_playBeat_60 fl_X2_50 hS rfl (of_2_10 hS) rfl ?_
        refine x_iload 65 C dX2_playBeat_63 6 rfl rfl ?_
        refine x_iald 66 C dX2_playBeat_65 (ok_2_10 hS) (ol_2_10 hS) rfl ?_
        refine x_ni (fun x10 => ?_)
        refine x_istore 68 [(8, .int x10), (0, .ref S), (1, .ref 5), (2, .ref a2), (3, .int a3), (5, .int x3), (6, .int x8), (7, .int x9)] C dX2_playBeat_66 n8 rfl rfl ?_
        refine x_iload 70 C dX2_playBeat_68 0 rfl rfl ?_
        refine x_iconst 71 C dX2_playBeat_70 ci_0 rfl ?_
        refine x_iconst 72 C dX2_playBeat_71 ci_5 rfl ?_
        refine x_csi 75 [.int x10, .int (0 : Int32), .int (5 : Int32)] [] C 0 dX2_playBeat_72 s_X2_112 (fun u hu => m_X7_within hu) rfl rfl (Nat.le_of_ble_eq_true rfl) (Nat.le_of_ble_eq_true rfl) rfl (fun x11 => ?_)
        refine x_lt2 (q := 189) (ls := fun h12 x13 => [(0, .ref S), (1, .ref 5), (2, .ref a2), (3, .int a3), (5, .int x3), (6, .int x13), (7, .int x9)]) (st := fun h12 x13 => []) (hh := fun h12 x13 => h12) (fun h12 x13 => ?_) (fun k3 J3 => ?_)
        · refine x_iinc 192 (fun x14 => [(7, .int x14), (0, .ref S), (1, .ref 5), (2, .ref a2), (3, .int a3), (5, .int x3), (6, .int x13)]) C dX2_playBeat_189 6 rfl ci_1 n7 (fun _ => rfl) rfl (fun x14 => ?_)
          refine x_goto 43 C dX2_playBeat_192 (by decide) ?_
          exact x_ls [1, 2, 3, 4, 5, 6, 0] rfl (J2 h12 x13 x14)
        refine x_if_eq 78 189 C dX2_playBeat_75 (by decide) rfl (fun _ => ?_) (fun _ => ?_)
        · exact x_ls [1, 2, 3, 4, 5, 6, 7] rfl (J3 h7 x8)
        · refine x_aload_n 79 C dX2_playBeat_78 1 rfl rfl rfl ?_
          refine x_getR (c := (S + 10)) 82 C dX2_playBeat_79 fl_X2_25 hS rfl (of_2_2 hS) rfl ?_
          refine x_iload 84 C dX2_playBeat_82 0 rfl rfl ?_
          refine x_iald 85 C dX2_playBeat_84 (ok_2_2 hS) (ol_2_2 hS) rfl ?_
          refine x_iconst 86 C dX2_playBeat_85 ci_1 rfl ?_
          refine x_icmp_ne 89 189 C dX2_playBeat_86 (by decide) rfl (fun _ => ?_) (fun _ => ?_)
          · exact x_ls [1, 2, 3, 4, 5, 6, 7] rfl (J3 h7 x8)
          · refine x_aload_n 90 C dX2_playBeat_89 1 rfl rfl rfl ?_
            refine x_getR (c := (S + 12)) 93 C dX2_playBeat_90 fl_X2_32 hS rfl (of_2_4 hS) rfl ?_
            refine x_iload 95 C dX2_playBeat_93 0 rfl rfl ?_
            refine x_dup2 96 C dX2_playBeat_95 rfl rfl rfl ?_
            refine x_iald 97 C dX2_playBeat_96 (ok_2_4 hS) (ol_2_4 hS) rfl ?_
            refine x_iload 99 C dX2_playBeat_97 5 rfl rfl ?_
            refine x_iadd 100 C dX2_playBeat_99 rfl ?_
            refine x_iast 101 C dX2_playBeat_100 (ok_2_4 hS) (ol_2_4 hS) rfl (fun h15 => ?_)
            refine x_iload_n 102 C dX2_playBeat_101 4 rfl rfl rfl ?_
            refine x_aload_n 103 C dX2_playBeat_102 1 rfl rfl rfl ?_
            refine x_getR (c := (S + 14)) 106 C dX2_playBeat_103 fl_X2_38 hS rfl (of_2_6 hS) rfl ?_
            refine x_iload 108 C dX2_playBeat_106 0 rfl rfl ?_
            refine x_iald 109 C dX2_playBeat_108 (ok_2_6 hS) (ol_2_6 hS) rfl ?_
            refine x_isub 110 C dX2_playBeat_109 rfl ?_
            refine x_iconst 111 C dX2_playBeat_110 ci_1 rfl ?_
            refine x_isub 112 C dX2_playBeat_111 rfl ?_
            refine x_ni (fun x16 => ?_)
            refine x_istore 114 [(9, .int x16), (8, .int x10), (0, .ref S), (1, .ref 5), (2, .ref a2), (3, .int a3), (5, .int x3), (6, .int x8), (7, .int x9)] C dX2_playBeat_112 n9 rfl rfl ?_
            refine x_iload 116 C dX2_playBeat_114 0 rfl rfl ?_
            refine x_lt1 (q := 134) (ls := fun x17 => [(0, .ref S), (1, .ref 5), (2, .ref a2), (3, .int a3), (5, .int x3), (6, .int x8), (7, .int x9), (8, .int x10)]) (st := fun x17 => [.int x17]) (hh := fun x17 => h15) (fun x17 => ?_) (fun k4 J4 => ?_)
            · refine x_istore 136 [(10, .int x17), (0, .ref S), (1, .ref 5), (2, .ref a2), (3, .int a3), (5, .int x3), (6, .int x8), (7, .int x9), (8, .int x10)] C dX2_playBeat_134 n10 rfl rfl ?_
              refine x_aload_n 137 C dX2_playBeat_136 1 rfl rfl rfl ?_
              refine x_aload_n 138 C dX2_playBeat_137 2 rfl rfl rfl ?_
              refine x_iload 140 C dX2_playBeat_138 8 rfl rfl ?_
              refine x_iload 142 C dX2_playBeat_140 0 rfl rfl ?_
              refine x_aload_n 143 C dX2_playBeat_142 1 rfl rfl rfl ?_
              refine x_getR (c := (S + 1)) 146 C dX2_playBeat_143 fl_X2_12 hS rfl (of_2_0 hS) rfl ?_
              refine x_getR (c := ((S + 1) + 2)) 149 C dX2_playBeat_146 fl_X2_116 (ok_2_0 hS) rfl (of_6_1 (ok_2_0 hS)) rfl ?_
              refine x_iload_n 150 C dX2_playBeat_149 4 rfl rfl rfl ?_
              refine x_iald 151 C dX2_playBeat_150 (ok_6_1 (ok_2_0 hS)) (ol_6_1 (ok_2_0 hS)) rfl ?_
              refine x_iload 153 C dX2_playBeat_151 6 rfl rfl ?_
              refine x_cvV 156 [.ref 5, .int x10, .int x17, .int (ia h15 ((S + 1) + 2) a3), .int x8] [] C 1 dX2_playBeat_153 v_X2_119 (fun u hu => m_X2_perform hS hu) rfl hS rfl (Nat.le_of_ble_eq_true rfl) (Nat.le_of_ble_eq_true rfl) rfl (fun h18 => ?_)
              refine x_aload_n 157 C dX2_playBeat_156 1 rfl rfl rfl ?_
              refine x_aload_n 158 C dX2_playBeat_157 2 rfl rfl rfl ?_
              refine x_iload 160 C dX2_playBeat_158 8 rfl rfl ?_
              refine x_iload_n 161 C dX2_playBeat_160 4 rfl rfl rfl ?_
              refine x_cvV 164 [.ref 5, .int x10, .int a3] [] C 1 dX2_playBeat_161 v_X2_123 (fun u hu => m_X2_settle hS hu) rfl hS rfl (Nat.le_of_ble_eq_true rfl) (Nat.le_of_ble_eq_true rfl) rfl (fun h19 => ?_)
              refine x_aload_n 165 C dX2_playBeat_164 1 rfl rfl rfl ?_
              refine x_getR (c := (S + 10)) 168 C dX2_playBeat_165 fl_X2_25 hS rfl (of_2_2 hS) rfl ?_
              refine x_iload 170 C dX2_playBeat_168 8 rfl rfl ?_
              refine x_iald 171 C dX2_playBeat_170 (ok_2_2 hS) (ol_2_2 hS) rfl ?_
              refine x_iconst 172 C dX2_playBeat_171 ci_1 rfl ?_
              refine x_lt1 (q := 187) (ls := fun x20 => [(0, .ref S), (1, .ref 5), (2, .ref a2), (3, .int a3), (5, .int x3), (7, .int x9)]) (st := fun x20 => [.int x20]) (hh := fun x20 => h19) (fun x20 => ?_) (fun k5 J5 => ?_)
              · refine x_istore 189 [(6, .int x20), (0, .ref S), (1, .ref 5), (2, .ref a2), (3, .int a3), (5, .int x3), (7, .int x9)] C dX2_playBeat_187 n6 rfl rfl ?_
                exact x_ls [1, 2, 3, 4, 5, 0, 6] rfl (J3 h19 x20)
              refine x_icmp_ne 175 185 C dX2_playBeat_172 (by decide) rfl (fun _ => ?_) (fun _ => ?_)
              · refine x_iload 187 C dX2_playBeat_185 6 rfl rfl ?_
                exact x_ls [1, 2, 3, 4, 5, 7] rfl (J5 x8)
              · refine x_aload_n 176 C dX2_playBeat_175 1 rfl rfl rfl ?_
                refine x_getR (c := (S + 11)) 179 C dX2_playBeat_176 fl_X2_29 hS rfl (of_2_3 hS) rfl ?_
                refine x_iload 181 C dX2_playBeat_179 8 rfl rfl ?_
                refine x_iald 182 C dX2_playBeat_181 (ok_2_3 hS) (ol_2_3 hS) rfl ?_
                refine x_goto 187 C dX2_playBeat_182 (by decide) ?_
                exact x_ls [1, 2, 3, 4, 5, 7] rfl (J5 (ia h19 (S + 11) x10))
            refine x_lt1 (q := 133) (ls := fun u21 => [(0, .ref S), (1, .ref 5), (2, .ref a2), (3, .int a3), (5, .int x3), (6, .int x8), (7, .int x9), (8, .int x10)]) (st := fun u21 => []) (hh := fun u21 => h15) (fun u21 => ?_) (fun k6 J6 => ?_)
            · refine x_iconst 134 C dX2_playBeat_133 ci_0 rfl ?_
              exact x_ls [0, 1, 2, 3, 4, 5, 6, 7] rfl (J4 (0 : Int32))
            refine x_if_lt 119 133 C dX2_playBeat_116 (by decide) rfl (fun _ => ?_) (fun _ => ?_)
            · exact x_ls [2, 3, 4, 5, 6, 7, 8, 1] rfl (J6 (0 : Int32))
            · refine x_iload 121 C dX2_playBeat_119 0 rfl rfl ?_
              refine x_aload_n 122 C dX2_playBeat_121 4 rfl rfl rfl ?_
              refine x_alen 123 C dX2_playBeat_122 ha2 rfl rfl ?_
              refine x_icmp_ge 126 133 C dX2_playBeat_123 (by decide) rfl (fun _ => ?_) (fun _ => ?_)
              · exact x_ls [2, 3, 4, 5, 6, 7, 8, 1] rfl (J6 (0 : Int32))
              · refine x_aload_n 127 C dX2_playBeat_126 4 rfl rfl rfl ?_
                refine x_iload 129 C dX2_playBeat_127 0 rfl rfl ?_
                refine x_iald 130 C dX2_playBeat_129 ha2 rfl rfl ?_
                refine x_goto 134 C dX2_playBeat_130 (by decide) ?_
                exact x_ls [2, 3, 4, 5, 6, 7, 8, 1] rfl (J4 (ia h15 a2 x16))
  · exact x_vret C E dX2_playBeat_7 rfl

def f_X2_prepare (h : Hp) (S : Nat) (a2 : Int32) : Option Hp :=
  nm (uf h S 11 (0 : Int32)) fun h1 =>
  nm (uf h1 S 12 (0 : Int32)) fun h2 =>
  nm (uf h2 S 13 (0 : Int32)) fun h3 =>
  nm (uf h3 S 14 (0 : Int32)) fun h4 =>
  fx2 FU (fun s1 (h5 : Hp) (x6 : Int32) =>
    if a2 ≤ x6 then (
      some h5)
    else (
      ck x6 6 (nm (ux h5 (S + 10) x6 (0 : Int32)) fun h7 =>
      ck x6 6 (nm (ux h7 (S + 11) x6 (-1 : Int32)) fun h8 =>
      ck x6 6 (nm (ux h8 (S + 12) x6 (0 : Int32)) fun h9 =>
      ck x6 6 (
        ck x6 6 (nm (ux h9 (S + 13) x6 (ia h9 8 x6)) fun h10 =>
        ck x6 6 (nm (ux h10 (S + 14) x6 (-1 : Int32)) fun h11 =>
        ck x6 6 (nm (ux h11 (S + 15) x6 (-1 : Int32)) fun h12 =>
        ck x6 6 (nm (ux h12 (S + 16) x6 (0 : Int32)) fun h13 =>
        ck x6 6 (nm (ux h13 (S + 17) x6 (0 : Int32)) fun h14 =>
        nm (x6 + (1 : Int32)) fun x15 =>
        s1 h14 x15))))))))))) h4 (0 : Int32)
theorem dX2_prepare_0 : decode cX2_prepare 0 = .ok (.aload_n 0, 1) := by decide +kernel
theorem dX2_prepare_1 : decode cX2_prepare 1 = .ok (.iconst 0, 1) := by decide +kernel
theorem dX2_prepare_2 : decode cX2_prepare 2 = .ok (.putfield 53, 3) := by decide +kernel
theorem dX2_prepare_5 : decode cX2_prepare 5 = .ok (.aload_n 0, 1) := by decide +kernel
theorem dX2_prepare_6 : decode cX2_prepare 6 = .ok (.iconst 0, 1) := by decide +kernel
theorem dX2_prepare_7 : decode cX2_prepare 7 = .ok (.putfield 57, 3) := by decide +kernel
theorem dX2_prepare_10 : decode cX2_prepare 10 = .ok (.aload_n 0, 1) := by decide +kernel
theorem dX2_prepare_11 : decode cX2_prepare 11 = .ok (.iconst 0, 1) := by decide +kernel
theorem dX2_prepare_12 : decode cX2_prepare 12 = .ok (.putfield 60, 3) := by decide +kernel
theorem dX2_prepare_15 : decode cX2_prepare 15 = .ok (.aload_n 0, 1) := by decide +kernel
theorem dX2_prepare_16 : decode cX2_prepare 16 = .ok (.iconst 0, 1) := by decide +kernel
theorem dX2_prepare_17 : decode cX2_prepare 17 = .ok (.putfield 63, 3) := by decide +kernel
theorem dX2_prepare_20 : decode cX2_prepare 20 = .ok (.iconst 0, 1) := by decide +kernel
theorem dX2_prepare_21 : decode cX2_prepare 21 = .ok (.istore_n 3, 1) := by decide +kernel
theorem dX2_prepare_22 : decode cX2_prepare 22 = .ok (.iload_n 3, 1) := by decide +kernel
theorem dX2_prepare_23 : decode cX2_prepare 23 = .ok (.iload_n 2, 1) := by decide +kernel
theorem dX2_prepare_24 : decode cX2_prepare 24 = .ok (.if_icmp .ge 70, 3) := by decide +kernel
theorem dX2_prepare_27 : decode cX2_prepare 27 = .ok (.aload_n 0, 1) := by decide +kernel
theorem dX2_prepare_28 : decode cX2_prepare 28 = .ok (.getfield 25, 3) := by decide +kernel
theorem dX2_prepare_31 : decode cX2_prepare 31 = .ok (.iload_n 3, 1) := by decide +kernel
theorem dX2_prepare_32 : decode cX2_prepare 32 = .ok (.iconst 0, 1) := by decide +kernel
theorem dX2_prepare_33 : decode cX2_prepare 33 = .ok (.iastore, 1) := by decide +kernel
theorem dX2_prepare_34 : decode cX2_prepare 34 = .ok (.aload_n 0, 1) := by decide +kernel
theorem dX2_prepare_35 : decode cX2_prepare 35 = .ok (.getfield 29, 3) := by decide +kernel
theorem dX2_prepare_38 : decode cX2_prepare 38 = .ok (.iload_n 3, 1) := by decide +kernel
theorem dX2_prepare_39 : decode cX2_prepare 39 = .ok (.iconst (-1), 1) := by decide +kernel
theorem dX2_prepare_40 : decode cX2_prepare 40 = .ok (.iastore, 1) := by decide +kernel
theorem dX2_prepare_41 : decode cX2_prepare 41 = .ok (.aload_n 0, 1) := by decide +kernel
theorem dX2_prepare_42 : decode cX2_prepare 42 = .ok (.getfield 32, 3) := by decide +kernel
theorem dX2_prepare_45 : decode cX2_prepare 45 = .ok (.iload_n 3, 1) := by decide +kernel
theorem dX2_prepare_46 : decode cX2_prepare 46 = .ok (.iconst 0, 1) := by decide +kernel
theorem dX2_prepare_47 : decode cX2_prepare 47 = .ok (.iastore, 1) := by decide +kernel
theorem dX2_prepare_48 : decode cX2_prepare 48 = .ok (.aload_n 0, 1) := by decide +kernel
theorem dX2_prepare_49 : decode cX2_prepare 49 = .ok (.getfield 35, 3) := by decide +kernel
theorem dX2_prepare_52 : decode cX2_prepare 52 = .ok (.iload_n 3, 1) := by decide +kernel
theorem dX2_prepare_53 : decode cX2_prepare 53 = .ok (.aload_n 1, 1) := by decide +kernel
theorem dX2_prepare_54 : decode cX2_prepare 54 = .ok (.getfield 95, 3) := by decide +kernel
theorem dX2_prepare_57 : decode cX2_prepare 57 = .ok (.iload_n 3, 1) := by decide +kernel
theorem dX2_prepare_58 : decode cX2_prepare 58 = .ok (.iaload, 1) := by decide +kernel
theorem dX2_prepare_59 : decode cX2_prepare 59 = .ok (.iastore, 1) := by decide +kernel
theorem dX2_prepare_60 : decode cX2_prepare 60 = .ok (.aload_n 0, 1) := by decide +kernel
theorem dX2_prepare_61 : decode cX2_prepare 61 = .ok (.getfield 38, 3) := by decide +kernel
theorem dX2_prepare_64 : decode cX2_prepare 64 = .ok (.iload_n 3, 1) := by decide +kernel
theorem dX2_prepare_65 : decode cX2_prepare 65 = .ok (.iconst (-1), 1) := by decide +kernel
theorem dX2_prepare_66 : decode cX2_prepare 66 = .ok (.iastore, 1) := by decide +kernel
theorem dX2_prepare_67 : decode cX2_prepare 67 = .ok (.aload_n 0, 1) := by decide +kernel
theorem dX2_prepare_68 : decode cX2_prepare 68 = .ok (.getfield 41, 3) := by decide +kernel
theorem dX2_prepare_71 : decode cX2_prepare 71 = .ok (.iload_n 3, 1) := by decide +kernel
theorem dX2_prepare_72 : decode cX2_prepare 72 = .ok (.iconst (-1), 1) := by decide +kernel
theorem dX2_prepare_73 : decode cX2_prepare 73 = .ok (.iastore, 1) := by decide +kernel
theorem dX2_prepare_74 : decode cX2_prepare 74 = .ok (.aload_n 0, 1) := by decide +kernel
theorem dX2_prepare_75 : decode cX2_prepare 75 = .ok (.getfield 44, 3) := by decide +kernel
theorem dX2_prepare_78 : decode cX2_prepare 78 = .ok (.iload_n 3, 1) := by decide +kernel
theorem dX2_prepare_79 : decode cX2_prepare 79 = .ok (.iconst 0, 1) := by decide +kernel
theorem dX2_prepare_80 : decode cX2_prepare 80 = .ok (.iastore, 1) := by decide +kernel
theorem dX2_prepare_81 : decode cX2_prepare 81 = .ok (.aload_n 0, 1) := by decide +kernel
theorem dX2_prepare_82 : decode cX2_prepare 82 = .ok (.getfield 47, 3) := by decide +kernel
theorem dX2_prepare_85 : decode cX2_prepare 85 = .ok (.iload_n 3, 1) := by decide +kernel
theorem dX2_prepare_86 : decode cX2_prepare 86 = .ok (.iconst 0, 1) := by decide +kernel
theorem dX2_prepare_87 : decode cX2_prepare 87 = .ok (.iastore, 1) := by decide +kernel
theorem dX2_prepare_88 : decode cX2_prepare 88 = .ok (.iinc 3 1, 3) := by decide +kernel
theorem dX2_prepare_91 : decode cX2_prepare 91 = .ok (.goto (-69), 3) := by decide +kernel
theorem dX2_prepare_94 : decode cX2_prepare 94 = .ok (.return_, 1) := by decide +kernel
set_option maxRecDepth 20000 in
theorem m_X2_prepare {h : Hp} {S : Nat} {a2 : Int32} (hS : sk S = 2) {u : Hp} (hu : f_X2_prepare h S a2 = some u) : Ct yX2_prepare cX2_prepare 4 none 0 [.ref S, .ref 5, .int a2] h (eV u) := by
  refine ct_of eV hu (by decide) (Nat.le_of_ble_eq_true rfl) (fun κ hn C E => ?_)
  have n3 : 3 < kn κ := by rw [hn]; decide
  unfold f_X2_prepare
  show Xz κ _ 0 [(0, .ref S), (1, .ref 5), (2, .int a2)] [] h
  refine x_aload_n 1 C dX2_prepare_0 0 rfl rfl rfl ?_
  refine x_iconst 2 C dX2_prepare_1 ci_0 rfl ?_
  refine x_put 5 C dX2_prepare_2 fp_X2_53 hS rfl rfl rfl rfl (fun h1 => ?_)
  refine x_aload_n 6 C dX2_prepare_5 0 rfl rfl rfl ?_
  refine x_iconst 7 C dX2_prepare_6 ci_0 rfl ?_
  refine x_put 10 C dX2_prepare_7 fp_X2_57 hS rfl rfl rfl rfl (fun h2 => ?_)
  refine x_aload_n 11 C dX2_prepare_10 0 rfl rfl rfl ?_
  refine x_iconst 12 C dX2_prepare_11 ci_0 rfl ?_
  refine x_put 15 C dX2_prepare_12 fp_X2_60 hS rfl rfl rfl rfl (fun h3 => ?_)
  refine x_aload_n 16 C dX2_prepare_15 0 rfl rfl rfl ?_
  refine x_iconst 17 C dX2_prepare_16 ci_0 rfl ?_
  refine x_put 20 C dX2_prepare_17 fp_X2_63 hS rfl rfl rfl rfl (fun h4 => ?_)
  refine x_iconst 21 C dX2_prepare_20 ci_0 rfl ?_
  refine x_istore_n 22 [(3, .int (0 : Int32)), (0, .ref S), (1, .ref 5), (2, .int a2)] C dX2_prepare_21 n3 rfl rfl rfl ?_
  refine x_ls [1, 2, 3, 0] rfl (x_fx2 (ls := fun h5 x6 => [(0, .ref S), (1, .ref 5), (2, .int a2), (3, .int x6)]) (st := fun h5 x6 => []) (hh := fun h5 x6 => h5) (fun s1 J1 h5 x6 => ?_))
  refine x_iload_n 23 C dX2_prepare_22 3 rfl rfl rfl ?_
  refine x_iload_n 24 C dX2_prepare_23 2 rfl rfl rfl ?_
  refine x_icmp_ge 27 94 C dX2_prepare_24 (by decide) rfl (fun _ => ?_) (fun _ => ?_)
  · exact x_vret C E dX2_prepare_94 rfl
  · refine x_aload_n 28 C dX2_prepare_27 0 rfl rfl rfl ?_
    refine x_getR (c := (S + 10)) 31 C dX2_prepare_28 fl_X2_25 hS rfl (of_2_2 hS) rfl ?_
    refine x_iload_n 32 C dX2_prepare_31 3 rfl rfl rfl ?_
    refine x_iconst 33 C dX2_prepare_32 ci_0 rfl ?_
    refine x_iast 34 C dX2_prepare_33 (ok_2_2 hS) (ol_2_2 hS) rfl (fun h7 => ?_)
    refine x_aload_n 35 C dX2_prepare_34 0 rfl rfl rfl ?_
    refine x_getR (c := (S + 11)) 38 C dX2_prepare_35 fl_X2_29 hS rfl (of_2_3 hS) rfl ?_
    refine x_iload_n 39 C dX2_prepare_38 3 rfl rfl rfl ?_
    refine x_iconst 40 C dX2_prepare_39 ci_m1 rfl ?_
    refine x_iast 41 C dX2_prepare_40 (ok_2_3 hS) (ol_2_3 hS) rfl (fun h8 => ?_)
    refine x_aload_n 42 C dX2_prepare_41 0 rfl rfl rfl ?_
    refine x_getR (c := (S + 12)) 45 C dX2_prepare_42 fl_X2_32 hS rfl (of_2_4 hS) rfl ?_
    refine x_iload_n 46 C dX2_prepare_45 3 rfl rfl rfl ?_
    refine x_iconst 47 C dX2_prepare_46 ci_0 rfl ?_
    refine x_iast 48 C dX2_prepare_47 (ok_2_4 hS) (ol_2_4 hS) rfl (fun h9 => ?_)
    refine x_aload_n 49 C dX2_prepare_48 0 rfl rfl rfl ?_
    refine x_getR (c := (S + 13)) 52 C dX2_prepare_49 fl_X2_35 hS rfl (of_2_5 hS) rfl ?_
    refine x_iload_n 53 C dX2_prepare_52 3 rfl rfl rfl ?_
    refine x_aload_n 54 C dX2_prepare_53 1 rfl rfl rfl ?_
    refine x_getR (c := 8) 57 C dX2_prepare_54 fl_X2_95 sk_5 rfl sr_5_2 rfl ?_
    refine x_iload_n 58 C dX2_prepare_57 3 rfl rfl rfl ?_
    refine x_iald 59 C dX2_prepare_58 sk_8 sl_8 rfl ?_
    refine x_iast 60 C dX2_prepare_59 (ok_2_5 hS) (ol_2_5 hS) rfl (fun h10 => ?_)
    refine x_aload_n 61 C dX2_prepare_60 0 rfl rfl rfl ?_
    refine x_getR (c := (S + 14)) 64 C dX2_prepare_61 fl_X2_38 hS rfl (of_2_6 hS) rfl ?_
    refine x_iload_n 65 C dX2_prepare_64 3 rfl rfl rfl ?_
    refine x_iconst 66 C dX2_prepare_65 ci_m1 rfl ?_
    refine x_iast 67 C dX2_prepare_66 (ok_2_6 hS) (ol_2_6 hS) rfl (fun h11 => ?_)
    refine x_aload_n 68 C dX2_prepare_67 0 rfl rfl rfl ?_
    refine x_getR (c := (S + 15)) 71 C dX2_prepare_68 fl_X2_41 hS rfl (of_2_7 hS) rfl ?_
    refine x_iload_n 72 C dX2_prepare_71 3 rfl rfl rfl ?_
    refine x_iconst 73 C dX2_prepare_72 ci_m1 rfl ?_
    refine x_iast 74 C dX2_prepare_73 (ok_2_7 hS) (ol_2_7 hS) rfl (fun h12 => ?_)
    refine x_aload_n 75 C dX2_prepare_74 0 rfl rfl rfl ?_
    refine x_getR (c := (S + 16)) 78 C dX2_prepare_75 fl_X2_44 hS rfl (of_2_8 hS) rfl ?_
    refine x_iload_n 79 C dX2_prepare_78 3 rfl rfl rfl ?_
    refine x_iconst 80 C dX2_prepare_79 ci_0 rfl ?_
    refine x_iast 81 C dX2_prepare_80 (ok_2_8 hS) (ol_2_8 hS) rfl (fun h13 => ?_)
    refine x_aload_n 82 C dX2_prepare_81 0 rfl rfl rfl ?_
    refine x_getR (c := (S + 17)) 85 C dX2_prepare_82 fl_X2_47 hS rfl (of_2_9 hS) rfl ?_
    refine x_iload_n 86 C dX2_prepare_85 3 rfl rfl rfl ?_
    refine x_iconst 87 C dX2_prepare_86 ci_0 rfl ?_
    refine x_iast 88 C dX2_prepare_87 (ok_2_9 hS) (ol_2_9 hS) rfl (fun h14 => ?_)
    refine x_iinc 91 (fun x15 => [(3, .int x15), (0, .ref S), (1, .ref 5), (2, .int a2)]) C dX2_prepare_88 3 rfl ci_1 n3 (fun _ => rfl) rfl (fun x15 => ?_)
    refine x_goto 22 C dX2_prepare_91 (by decide) ?_
    exact x_ls [1, 2, 3, 0] rfl (J1 h14 x15)

def f_X6_add (h : Hp) (S : Nat) (a1 : Int32) (a2 : Int32) (a3 : Int32) : Option Hp :=
  bdr (f_X7_isBeat a2) fun x1 =>
  if x1 = 0 then (
    some h)
  else (
    if a1 = 0 then (
      ck a2 24 (
        if (a3 - a3 / (2 : Int32) * (2 : Int32)) = (1 : Int32) then (
          ck a2 24 (nm (ux h (S + 1) a2 ((ia h (S + 1) a2) + (3 : Int32))) fun h5 =>
          some h5))
        else (
          ck a2 24 (nm (ux h (S + 1) a2 ((ia h (S + 1) a2) + (-3 : Int32))) fun h4 =>
          some h4))))
    else (
      if a1 = (1 : Int32) then (
        ck a2 24 (
          ck a2 24 (nm (ux h (S + 3) a2 ((ia h (S + 3) a2) ||| ((1 : Int32) <<< (a3 &&& 31)))) fun h3 =>
          some h3)))
      else (
        ck a2 24 (nm (ux h (S + 2) a2 (1 : Int32)) fun h2 =>
        some h2))))
theorem dX6_add_0 : decode cX6_add 0 = .ok (.iload_n 2, 1) := by decide +kernel
theorem dX6_add_1 : decode cX6_add 1 = .ok (.invokestatic 36, 3) := by decide +kernel
theorem dX6_add_4 : decode cX6_add 4 = .ok (.ifCond .ne 4, 3) := by decide +kernel
theorem dX6_add_7 : decode cX6_add 7 = .ok (.return_, 1) := by decide +kernel
theorem dX6_add_8 : decode cX6_add 8 = .ok (.iload_n 1, 1) := by decide +kernel
theorem dX6_add_9 : decode cX6_add 9 = .ok (.ifCond .ne 28, 3) := by decide +kernel
theorem dX6_add_12 : decode cX6_add 12 = .ok (.aload_n 0, 1) := by decide +kernel
theorem dX6_add_13 : decode cX6_add 13 = .ok (.getfield 9, 3) := by decide +kernel
theorem dX6_add_16 : decode cX6_add 16 = .ok (.iload_n 2, 1) := by decide +kernel
theorem dX6_add_17 : decode cX6_add 17 = .ok (.dup2, 1) := by decide +kernel
theorem dX6_add_18 : decode cX6_add 18 = .ok (.iaload, 1) := by decide +kernel
theorem dX6_add_19 : decode cX6_add 19 = .ok (.iload_n 3, 1) := by decide +kernel
theorem dX6_add_20 : decode cX6_add 20 = .ok (.iconst 2, 1) := by decide +kernel
theorem dX6_add_21 : decode cX6_add 21 = .ok (.irem, 1) := by decide +kernel
theorem dX6_add_22 : decode cX6_add 22 = .ok (.iconst 1, 1) := by decide +kernel
theorem dX6_add_23 : decode cX6_add 23 = .ok (.if_icmp .ne 7, 3) := by decide +kernel
theorem dX6_add_26 : decode cX6_add 26 = .ok (.iconst 3, 1) := by decide +kernel
theorem dX6_add_27 : decode cX6_add 27 = .ok (.goto 5, 3) := by decide +kernel
theorem dX6_add_30 : decode cX6_add 30 = .ok (.bipush (-3), 2) := by decide +kernel
theorem dX6_add_32 : decode cX6_add 32 = .ok (.iadd, 1) := by decide +kernel
theorem dX6_add_33 : decode cX6_add 33 = .ok (.iastore, 1) := by decide +kernel
theorem dX6_add_34 : decode cX6_add 34 = .ok (.goto 30, 3) := by decide +kernel
theorem dX6_add_37 : decode cX6_add 37 = .ok (.iload_n 1, 1) := by decide +kernel
theorem dX6_add_38 : decode cX6_add 38 = .ok (.iconst 1, 1) := by decide +kernel
theorem dX6_add_39 : decode cX6_add 39 = .ok (.if_icmp .ne 18, 3) := by decide +kernel
theorem dX6_add_42 : decode cX6_add 42 = .ok (.aload_n 0, 1) := by decide +kernel
theorem dX6_add_43 : decode cX6_add 43 = .ok (.getfield 18, 3) := by decide +kernel
theorem dX6_add_46 : decode cX6_add 46 = .ok (.iload_n 2, 1) := by decide +kernel
theorem dX6_add_47 : decode cX6_add 47 = .ok (.dup2, 1) := by decide +kernel
theorem dX6_add_48 : decode cX6_add 48 = .ok (.iaload, 1) := by decide +kernel
theorem dX6_add_49 : decode cX6_add 49 = .ok (.iconst 1, 1) := by decide +kernel
theorem dX6_add_50 : decode cX6_add 50 = .ok (.iload_n 3, 1) := by decide +kernel
theorem dX6_add_51 : decode cX6_add 51 = .ok (.ishl, 1) := by decide +kernel
theorem dX6_add_52 : decode cX6_add 52 = .ok (.ior, 1) := by decide +kernel
theorem dX6_add_53 : decode cX6_add 53 = .ok (.iastore, 1) := by decide +kernel
theorem dX6_add_54 : decode cX6_add 54 = .ok (.goto 10, 3) := by decide +kernel
theorem dX6_add_57 : decode cX6_add 57 = .ok (.aload_n 0, 1) := by decide +kernel
theorem dX6_add_58 : decode cX6_add 58 = .ok (.getfield 15, 3) := by decide +kernel
theorem dX6_add_61 : decode cX6_add 61 = .ok (.iload_n 2, 1) := by decide +kernel
theorem dX6_add_62 : decode cX6_add 62 = .ok (.iconst 1, 1) := by decide +kernel
theorem dX6_add_63 : decode cX6_add 63 = .ok (.iastore, 1) := by decide +kernel
theorem dX6_add_64 : decode cX6_add 64 = .ok (.return_, 1) := by decide +kernel
set_option maxRecDepth 20000 in
theorem m_X6_add {h : Hp} {S : Nat} {a1 : Int32} {a2 : Int32} {a3 : Int32} (hS : sk S = 6) {u : Hp} (hu : f_X6_add h S a1 a2 a3 = some u) : Ct yX6_add cX6_add 4 none 2 [.ref S, .int a1, .int a2, .int a3] h (eV u) := by
  refine ct_of eV hu (by decide) (Nat.le_of_ble_eq_true rfl) (fun κ hn C E => ?_)
  unfold f_X6_add
  show Xz κ _ 0 [(0, .ref S), (1, .int a1), (2, .int a2), (3, .int a3)] [] h
  refine x_iload_n 1 C dX6_add_0 2 rfl rfl rfl ?_
  refine x_csi 4 [.int a2] [] C 1 dX6_add_1 s_X6_36 (fun u hu => m_X7_isBeat hu) rfl rfl (Nat.le_of_ble_eq_true rfl) (Nat.le_of_ble_eq_true rfl) rfl (fun x1 => ?_)
  refine x_if_ne 7 8 C dX6_add_4 (by decide) rfl (fun _ => ?_) (fun _ => ?_)
  · refine x_iload_n 9 C dX6_add_8 1 rfl rfl rfl ?_
    refine x_if_ne 12 37 C dX6_add_9 (by decide) rfl (fun _ => ?_) (fun _ => ?_)
    · refine x_iload_n 38 C dX6_add_37 1 rfl rfl rfl ?_
      refine x_iconst 39 C dX6_add_38 ci_1 rfl ?_
      refine x_icmp_ne 42 57 C dX6_add_39 (by decide) rfl (fun _ => ?_) (fun _ => ?_)
      · refine x_aload_n 58 C dX6_add_57 0 rfl rfl rfl ?_
        refine x_getR (c := (S + 2)) 61 C dX6_add_58 fl_X6_15 hS rfl (of_6_1 hS) rfl ?_
        refine x_iload_n 62 C dX6_add_61 2 rfl rfl rfl ?_
        refine x_iconst 63 C dX6_add_62 ci_1 rfl ?_
        refine x_iast 64 C dX6_add_63 (ok_6_1 hS) (ol_6_1 hS) rfl (fun h2 => ?_)
        exact x_vret C E dX6_add_64 rfl
      · refine x_aload_n 43 C dX6_add_42 0 rfl rfl rfl ?_
        refine x_getR (c := (S + 3)) 46 C dX6_add_43 fl_X6_18 hS rfl (of_6_2 hS) rfl ?_
        refine x_iload_n 47 C dX6_add_46 2 rfl rfl rfl ?_
        refine x_dup2 48 C dX6_add_47 rfl rfl rfl ?_
        refine x_iald 49 C dX6_add_48 (ok_6_2 hS) (ol_6_2 hS) rfl ?_
        refine x_iconst 50 C dX6_add_49 ci_1 rfl ?_
        refine x_iload_n 51 C dX6_add_50 3 rfl rfl rfl ?_
        refine x_ishl 52 C dX6_add_51 rfl ?_
        refine x_ior 53 C dX6_add_52 rfl ?_
        refine x_iast 54 C dX6_add_53 (ok_6_2 hS) (ol_6_2 hS) rfl (fun h3 => ?_)
        refine x_goto 64 C dX6_add_54 (by decide) ?_
        exact x_vret C E dX6_add_64 rfl
    · refine x_aload_n 13 C dX6_add_12 0 rfl rfl rfl ?_
      refine x_getR (c := (S + 1)) 16 C dX6_add_13 fl_X6_9 hS rfl (of_6_0 hS) rfl ?_
      refine x_iload_n 17 C dX6_add_16 2 rfl rfl rfl ?_
      refine x_dup2 18 C dX6_add_17 rfl rfl rfl ?_
      refine x_iald 19 C dX6_add_18 (ok_6_0 hS) (ol_6_0 hS) rfl ?_
      refine x_iload_n 20 C dX6_add_19 3 rfl rfl rfl ?_
      refine x_iconst 21 C dX6_add_20 ci_2 rfl ?_
      refine x_irem 22 C dX6_add_21 nz_2 rfl ?_
      refine x_iconst 23 C dX6_add_22 ci_1 rfl ?_
      refine x_icmp_ne 26 30 C dX6_add_23 (by decide) rfl (fun _ => ?_) (fun _ => ?_)
      · refine x_bipush 32 C dX6_add_30 cb_m3 rfl ?_
        refine x_iadd 33 C dX6_add_32 rfl ?_
        refine x_iast 34 C dX6_add_33 (ok_6_0 hS) (ol_6_0 hS) rfl (fun h4 => ?_)
        refine x_goto 64 C dX6_add_34 (by decide) ?_
        exact x_vret C E dX6_add_64 rfl
      · refine x_iconst 27 C dX6_add_26 ci_3 rfl ?_
        refine x_goto 32 C dX6_add_27 (by decide) ?_
        refine x_iadd 33 C dX6_add_32 rfl ?_
        refine x_iast 34 C dX6_add_33 (ok_6_0 hS) (ol_6_0 hS) rfl (fun h5 => ?_)
        refine x_goto 64 C dX6_add_34 (by decide) ?_
        exact x_vret C E dX6_add_64 rfl
  · exact x_vret C E dX6_add_7 rfl

def f_X6_gather (h : Hp) (S : Nat) (a2 : Int32) : Option Hp :=
  bdv (f_J7_fill_53178 h (S + 1) (0 : Int32)) fun h1 =>
  bdv (f_J7_fill_53178 h1 (S + 2) (0 : Int32)) fun h2 =>
  bdv (f_J7_fill_53178 h2 (S + 3) (0 : Int32)) fun h3 =>
  fx2 FU (fun s1 (h4 : Hp) (x5 : Int32) =>
    if (h4.1 5 8) ≤ x5 then (
      some h4)
    else (
      if (8 : Int32) ≤ x5 then (
        some h4)
      else (
        lt1 (fun (h6 : Hp) =>
          nm (x5 + (1 : Int32)) fun x7 =>
          s1 h6 x7) fun k2 =>
        if ((a2 >>> (x5 &&& 31)) &&& (1 : Int32)) = 0 then (
          ck x5 8 (
            bdr (f_X7_isBeat (ia h4 11 x5)) fun x8 =>
            if x8 = 0 then (
              k2 h4)
            else (
              ck x5 8 (
                ck x5 8 (
                  ck x5 8 (
                    bdv (f_X6_add h4 S (ia h4 10 x5) (ia h4 11 x5) (ia h4 12 x5)) fun h9 =>
                    k2 h9))))))
        else (
          k2 h4)))) h3 (0 : Int32)
theorem dX6_gather_0 : decode cX6_gather 0 = .ok (.aload_n 0, 1) := by decide +kernel
theorem dX6_gather_1 : decode cX6_gather 1 = .ok (.getfield 9, 3) := by decide +kernel
theorem dX6_gather_4 : decode cX6_gather 4 = .ok (.iconst 0, 1) := by decide +kernel
theorem dX6_gather_5 : decode cX6_gather 5 = .ok (.invokestatic 21, 3) := by decide +kernel
theorem dX6_gather_8 : decode cX6_gather 8 = .ok (.aload_n 0, 1) := by decide +kernel
theorem dX6_gather_9 : decode cX6_gather 9 = .ok (.getfield 15, 3) := by decide +kernel
theorem dX6_gather_12 : decode cX6_gather 12 = .ok (.iconst 0, 1) := by decide +kernel
theorem dX6_gather_13 : decode cX6_gather 13 = .ok (.invokestatic 21, 3) := by decide +kernel
theorem dX6_gather_16 : decode cX6_gather 16 = .ok (.aload_n 0, 1) := by decide +kernel
theorem dX6_gather_17 : decode cX6_gather 17 = .ok (.getfield 18, 3) := by decide +kernel
theorem dX6_gather_20 : decode cX6_gather 20 = .ok (.iconst 0, 1) := by decide +kernel
theorem dX6_gather_21 : decode cX6_gather 21 = .ok (.invokestatic 21, 3) := by decide +kernel
theorem dX6_gather_24 : decode cX6_gather 24 = .ok (.iconst 0, 1) := by decide +kernel
theorem dX6_gather_25 : decode cX6_gather 25 = .ok (.istore_n 3, 1) := by decide +kernel
theorem dX6_gather_26 : decode cX6_gather 26 = .ok (.iload_n 3, 1) := by decide +kernel
theorem dX6_gather_27 : decode cX6_gather 27 = .ok (.aload_n 1, 1) := by decide +kernel
theorem dX6_gather_28 : decode cX6_gather 28 = .ok (.getfield 27, 3) := by decide +kernel
theorem dX6_gather_31 : decode cX6_gather 31 = .ok (.if_icmp .ge 57, 3) := by decide +kernel
theorem dX6_gather_34 : decode cX6_gather 34 = .ok (.iload_n 3, 1) := by decide +kernel
theorem dX6_gather_35 : decode cX6_gather 35 = .ok (.bipush 8, 2) := by decide +kernel
theorem dX6_gather_37 : decode cX6_gather 37 = .ok (.if_icmp .ge 51, 3) := by decide +kernel
theorem dX6_gather_40 : decode cX6_gather 40 = .ok (.iload_n 2, 1) := by decide +kernel
theorem dX6_gather_41 : decode cX6_gather 41 = .ok (.iload_n 3, 1) := by decide +kernel
theorem dX6_gather_42 : decode cX6_gather 42 = .ok (.ishr, 1) := by decide +kernel
theorem dX6_gather_43 : decode cX6_gather 43 = .ok (.iconst 1, 1) := by decide +kernel
theorem dX6_gather_44 : decode cX6_gather 44 = .ok (.iand, 1) := by decide +kernel
theorem dX6_gather_45 : decode cX6_gather 45 = .ok (.ifCond .ne 37, 3) := by decide +kernel
theorem dX6_gather_48 : decode cX6_gather 48 = .ok (.aload_n 1, 1) := by decide +kernel
theorem dX6_gather_49 : decode cX6_gather 49 = .ok (.getfield 33, 3) := by decide +kernel
theorem dX6_gather_52 : decode cX6_gather 52 = .ok (.iload_n 3, 1) := by decide +kernel
theorem dX6_gather_53 : decode cX6_gather 53 = .ok (.iaload, 1) := by decide +kernel
theorem dX6_gather_54 : decode cX6_gather 54 = .ok (.invokestatic 36, 3) := by decide +kernel
theorem dX6_gather_57 : decode cX6_gather 57 = .ok (.ifCond .eq 25, 3) := by decide +kernel
theorem dX6_gather_60 : decode cX6_gather 60 = .ok (.aload_n 0, 1) := by decide +kernel
theorem dX6_gather_61 : decode cX6_gather 61 = .ok (.aload_n 1, 1) := by decide +kernel
theorem dX6_gather_62 : decode cX6_gather 62 = .ok (.getfield 40, 3) := by decide +kernel
theorem dX6_gather_65 : decode cX6_gather 65 = .ok (.iload_n 3, 1) := by decide +kernel
theorem dX6_gather_66 : decode cX6_gather 66 = .ok (.iaload, 1) := by decide +kernel
theorem dX6_gather_67 : decode cX6_gather 67 = .ok (.aload_n 1, 1) := by decide +kernel
theorem dX6_gather_68 : decode cX6_gather 68 = .ok (.getfield 33, 3) := by decide +kernel
theorem dX6_gather_71 : decode cX6_gather 71 = .ok (.iload_n 3, 1) := by decide +kernel
theorem dX6_gather_72 : decode cX6_gather 72 = .ok (.iaload, 1) := by decide +kernel
theorem dX6_gather_73 : decode cX6_gather 73 = .ok (.aload_n 1, 1) := by decide +kernel
theorem dX6_gather_74 : decode cX6_gather 74 = .ok (.getfield 43, 3) := by decide +kernel
theorem dX6_gather_77 : decode cX6_gather 77 = .ok (.iload_n 3, 1) := by decide +kernel
theorem dX6_gather_78 : decode cX6_gather 78 = .ok (.iaload, 1) := by decide +kernel
theorem dX6_gather_79 : decode cX6_gather 79 = .ok (.invokevirtual 46, 3) := by decide +kernel
theorem dX6_gather_82 : decode cX6_gather 82 = .ok (.iinc 3 1, 3) := by decide +kernel
theorem dX6_gather_85 : decode cX6_gather 85 = .ok (.goto (-59), 3) := by decide +kernel
theorem dX6_gather_88 : decode cX6_gather 88 = .ok (.return_, 1) := by decide +kernel
set_option maxRecDepth 20000 in
theorem m_X6_gather {h : Hp} {S : Nat} {a2 : Int32} (hS : sk S = 6) {u : Hp} (hu : f_X6_gather h S a2 = some u) : Ct yX6_gather cX6_gather 4 none 3 [.ref S, .ref 5, .int a2] h (eV u) := by
  refine ct_of eV hu (by decide) (Nat.le_of_ble_eq_true rfl) (fun κ hn C E => ?_)
  have n3 : 3 < kn κ := by rw [hn]; decide
  unfold f_X6_gather
  show Xz κ _ 0 [(0, .ref S), (1, .ref 5), (2, .int a2)] [] h
  refine x_aload_n 1 C dX6_gather_0 0 rfl rfl rfl ?_
  refine x_getR (c := (S + 1)) 4 C dX6_gather_1 fl_X6_9 hS rfl (of_6_0 hS) rfl ?_
  refine x_iconst 5 C dX6_gather_4 ci_0 rfl ?_
  refine x_csV 8 [.ref (S + 1), .int (0 : Int32)] [] C 0 dX6_gather_5 s_X6_21 (fun u hu => m_J7_fill_53178 (ok_6_0 hS) hu) rfl rfl (Nat.le_of_ble_eq_true rfl) (Nat.le_of_ble_eq_true rfl) rfl (fun h1 => ?_)
  refine x_aload_n 9 C dX6_gather_8 0 rfl rfl rfl ?_
  refine x_getR (c := (S + 2)) 12 C dX6_gather_9 fl_X6_15 hS rfl (of_6_1 hS) rfl ?_
  refine x_iconst 13 C dX6_gather_12 ci_0 rfl ?_
  refine x_csV 16 [.ref (S + 2), .int (0 : Int32)] [] C 0 dX6_gather_13 s_X6_21 (fun u hu => m_J7_fill_53178 (ok_6_1 hS) hu) rfl rfl (Nat.le_of_ble_eq_true rfl) (Nat.le_of_ble_eq_true rfl) rfl (fun h2 => ?_)
  refine x_aload_n 17 C dX6_gather_16 0 rfl rfl rfl ?_
  refine x_getR (c := (S + 3)) 20 C dX6_gather_17 fl_X6_18 hS rfl (of_6_2 hS) rfl ?_
  refine x_iconst 21 C dX6_gather_20 ci_0 rfl ?_
  refine x_csV 24 [.ref (S + 3), .int (0 : Int32)] [] C 0 dX6_gather_21 s_X6_21 (fun u hu => m_J7_fill_53178 (ok_6_2 hS) hu) rfl rfl (Nat.le_of_ble_eq_true rfl) (Nat.le_of_ble_eq_true rfl) rfl (fun h3 => ?_)
  refine x_iconst 25 C dX6_gather_24 ci_0 rfl ?_
  refine x_istore_n 26 [(3, .int (0 : Int32)), (0, .ref S), (1, .ref 5), (2, .int a2)] C dX6_gather_25 n3 rfl rfl rfl ?_
  refine x_ls [1, 2, 3, 0] rfl (x_fx2 (ls := fun h4 x5 => [(0, .ref S), (1, .ref 5), (2, .int a2), (3, .int x5)]) (st := fun h4 x5 => []) (hh := fun h4 x5 => h4) (fun s1 J1 h4 x5 => ?_))
  refine x_iload_n 27 C dX6_gather_26 3 rfl rfl rfl ?_
  refine x_aload_n 28 C dX6_gather_27 1 rfl rfl rfl ?_
  refine x_getI 31 C dX6_gather_28 fl_X6_27 sk_5 rfl rfl ?_
  refine x_icmp_ge 34 88 C dX6_gather_31 (by decide) rfl (fun _ => ?_) (fun _ => ?_)
  · exact x_vret C E dX6_gather_88 rfl
  · refine x_iload_n 35 C dX6_gather_34 3 rfl rfl rfl ?_
    refine x_bipush 37 C dX6_gather_35 cb_8 rfl ?_
    refine x_icmp_ge 40 88 C dX6_gather_37 (by decide) rfl (fun _ => ?_) (fun _ => ?_)
    · exact x_vret C E dX6_gather_88 rfl
    · refine x_iload_n 41 C dX6_gather_40 2 rfl rfl rfl ?_
      refine x_iload_n 42 C dX6_gather_41 3 rfl rfl rfl ?_
      refine x_ishr 43 C dX6_gather_42 rfl ?_
      refine x_iconst 44 C dX6_gather_43 ci_1 rfl ?_
      refine x_iand 45 C dX6_gather_44 rfl ?_
      refine x_lt1 (q := 82) (ls := fun h6 => [(0, .ref S), (1, .ref 5), (2, .int a2), (3, .int x5)]) (st := fun h6 => []) (hh := fun h6 => h6) (fun h6 => ?_) (fun k2 J2 => ?_)
      · refine x_iinc 85 (fun x7 => [(3, .int x7), (0, .ref S), (1, .ref 5), (2, .int a2)]) C dX6_gather_82 3 rfl ci_1 n3 (fun _ => rfl) rfl (fun x7 => ?_)
        refine x_goto 26 C dX6_gather_85 (by decide) ?_
        exact x_ls [1, 2, 3, 0] rfl (J1 h6 x7)
      refine x_if_ne 48 82 C dX6_gather_45 (by decide) rfl (fun _ => ?_) (fun _ => ?_)
      · exact x_ls [0, 1, 2, 3] rfl (J2 h4)
      · refine x_aload_n 49 C dX6_gather_48 1 rfl rfl rfl ?_
        refine x_getR (c := 11) 52 C dX6_gather_49 fl_X6_33 sk_5 rfl sr_5_5 rfl ?_
        refine x_iload_n 53 C dX6_gather_52 3 rfl rfl rfl ?_
        refine x_iald 54 C dX6_gather_53 sk_11 sl_11 rfl ?_
        refine x_csi 57 [.int (ia h4 11 x5)] [] C 1 dX6_gather_54 s_X6_36 (fun u hu => m_X7_isBeat hu) rfl rfl (Nat.le_of_ble_eq_true rfl) (Nat.le_of_ble_eq_true rfl) rfl (fun x8 => ?_)
        refine x_if_eq 60 82 C dX6_gather_57 (by decide) rfl (fun _ => ?_) (fun _ => ?_)
        · exact x_ls [0, 1, 2, 3] rfl (J2 h4)
        · refine x_aload_n 61 C dX6_gather_60 0 rfl rfl rfl ?_
          refine x_aload_n 62 C dX6_gather_61 1 rfl rfl rfl ?_
          refine x_getR (c := 10) 65 C dX6_gather_62 fl_X6_40 sk_5 rfl sr_5_4 rfl ?_
          refine x_iload_n 66 C dX6_gather_65 3 rfl rfl rfl ?_
          refine x_iald 67 C dX6_gather_66 sk_10 sl_10 rfl ?_
          refine x_aload_n 68 C dX6_gather_67 1 rfl rfl rfl ?_
          refine x_getR (c := 11) 71 C dX6_gather_68 fl_X6_33 sk_5 rfl sr_5_5 rfl ?_
          refine x_iload_n 72 C dX6_gather_71 3 rfl rfl rfl ?_
          refine x_iald 73 C dX6_gather_72 sk_11 sl_11 rfl ?_
          refine x_aload_n 74 C dX6_gather_73 1 rfl rfl rfl ?_
          refine x_getR (c := 12) 77 C dX6_gather_74 fl_X6_43 sk_5 rfl sr_5_6 rfl ?_
          refine x_iload_n 78 C dX6_gather_77 3 rfl rfl rfl ?_
          refine x_iald 79 C dX6_gather_78 sk_12 sl_12 rfl ?_
          refine x_cvV 82 [.int (ia h4 10 x5), .int (ia h4 11 x5), .int (ia h4 12 x5)] [] C 2 dX6_gather_79 v_X6_46 (fun u hu => m_X6_add hS hu) rfl hS rfl (Nat.le_of_ble_eq_true rfl) (Nat.le_of_ble_eq_true rfl) rfl (fun h9 => ?_)
          exact x_ls [0, 1, 2, 3] rfl (J2 h9)
