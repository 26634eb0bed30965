def f_X2_perform (h : Hp) (S : Nat) (a2 : Int32) (a3 : Int32) (a4 : Int32) (a5 : Int32) : Option Hp :=
  bdr (f_X7_within a2 (0 : Int32) (5 : Int32)) fun x1 =>
  if x1 = 0 then (
    some h)
  else (
    ck a2 6 (
      nm (ia h 7 a2) fun x2 =>
      lt1 (fun (h3 : Hp) =>
        lt1 (fun (u4 : Int32) =>
          ck a2 6 (
            ck a2 6 (
              bdr (f_X2_signOf (ia h3 (S + 12) a2)) fun x5 =>
              ck a2 6 (nm (ux h3 (S + 12) a2 ((ia h3 (S + 12) a2) + x5)) fun h6 =>
              some h6)))) fun k2 =>
        if x2 = 0 then (
          ck a2 6 (
            if (jabs (ia h3 (S + 12) a2)) ≤ (2 : Int32) then (
              some h3)
            else (
              k2 (0 : Int32))))
        else (
          k2 (0 : Int32))) fun k1 =>
      if a3 = 0 then (
        ck a2 6 (
          lt1 (fun (x13 : Int32) =>
            nm ((((ia h (S + 11) a2) + (1 : Int32)) + x13) + a4) fun x14 =>
            ck a2 6 (
              nm ((jmin x14 (jmin (h.1 5 9) (a5 - (1 : Int32)))) - (ia h (S + 11) a2)) fun x15 =>
              ck a2 6 (
                ck a2 6 (nm (ux h (S + 11) a2 ((ia h (S + 11) a2) + x15)) fun h16 =>
                nm (uf h16 S 12 ((h16.1 S 12) + x15)) fun h17 =>
                ck a2 6 (
                  lt1 (fun (x18 : Int32) =>
                    ck a2 6 (nm (ux h17 (S + 16) a2 ((ia h17 (S + 16) a2) + x18)) fun h19 =>
                    ck a2 6 (
                      lt1 (fun (x20 : Int32) =>
                        ck a2 6 (nm (ux h19 (S + 12) a2 ((ia h19 (S + 12) a2) + x20)) fun h21 =>
                        k1 h21)) fun k7 =>
                      if x2 = (1 : Int32) then (
                        k7 x15)
                      else (
                        k7 (0 : Int32))))) fun k6 =>
                  if x15 = 0 then (
                    k6 (1 : Int32))
                  else (
                    k6 (0 : Int32))))))) fun k5 =>
          if x2 = (1 : Int32) then (
            k5 (1 : Int32))
          else (
            k5 (0 : Int32))))
      else (
        if a3 = (1 : Int32) then (
          ck a2 6 (
            ck a2 6 (
              bdr (f_X2_signOf (ia h (S + 12) a2)) fun x11 =>
              ck a2 6 (nm (ux h (S + 12) a2 ((ia h (S + 12) a2) - x11)) fun h12 =>
              k1 h12))))
        else (
          ck a2 6 (
            lt1 (fun (x7 : Int32) =>
              nm (((1 : Int32) + ((ia h (S + 13) a2) / (3 : Int32))) + x7) fun x8 =>
              ck a2 6 (
                lt1 (fun (x9 : Int32) =>
                  ck a2 6 (nm (ux h (S + 12) a2 ((ia h (S + 12) a2) + x9)) fun h10 =>
                  k1 h10)) fun k4 =>
                if a3 = (3 : Int32) then (
                  k4 x8)
                else (
                  k4 (0 - x8)))) fun k3 =>
            if x2 = (2 : Int32) then (
              k3 (1 : Int32))
            else (
              k3 (0 : Int32)))))))
theorem dX2_perform_0 : decode cX2_perform 0 = .ok (.iload_n 2, 1) := by decide +kernel
theorem dX2_perform_1 : decode cX2_perform 1 = .ok (.iconst 0, 1) := by decide +kernel
theorem dX2_perform_2 : decode cX2_perform 2 = .ok (.iconst 5, 1) := by decide +kernel
theorem dX2_perform_3 : decode cX2_perform 3 = .ok (.invokestatic 112, 3) := by decide +kernel
theorem dX2_perform_6 : decode cX2_perform 6 = .ok (.ifCond .ne 4, 3) := by decide +kernel
theorem dX2_perform_9 : decode cX2_perform 9 = .ok (.return_, 1) := by decide +kernel
theorem dX2_perform_10 : decode cX2_perform 10 = .ok (.aload_n 1, 1) := by decide +kernel
theorem dX2_perform_11 : decode cX2_perform 11 = .ok (.getfield 130, 3) := by decide +kernel
theorem dX2_perform_14 : decode cX2_perform 14 = .ok (.iload_n 2, 1) := by decide +kernel
theorem dX2_perform_15 : decode cX2_perform 15 = .ok (.iaload, 1) := by decide +kernel
theorem dX2_perform_16 : decode cX2_perform 16 = .ok (.istore 6, 2) := by decide +kernel
theorem dX2_perform_18 : decode cX2_perform 18 = .ok (.iload_n 3, 1) := by decide +kernel
theorem dX2_perform_19 : decode cX2_perform 19 = .ok (.ifCond .ne 118, 3) := by decide +kernel
theorem dX2_perform_22 : decode cX2_perform 22 = .ok (.aload_n 0, 1) := by decide +kernel
theorem dX2_perform_23 : decode cX2_perform 23 = .ok (.getfield 29, 3) := by decide +kernel
theorem dX2_perform_26 : decode cX2_perform 26 = .ok (.iload_n 2, 1) := by decide +kernel
theorem dX2_perform_27 : decode cX2_perform 27 = .ok (.iaload, 1) := by decide +kernel
theorem dX2_perform_28 : decode cX2_perform 28 = .ok (.iconst 1, 1) := by decide +kernel
theorem dX2_perform_29 : decode cX2_perform 29 = .ok (.iadd, 1) := by decide +kernel
theorem dX2_perform_30 : decode cX2_perform 30 = .ok (.iload 6, 2) := by decide +kernel
theorem dX2_perform_32 : decode cX2_perform 32 = .ok (.iconst 1, 1) := by decide +kernel
theorem dX2_perform_33 : decode cX2_perform 33 = .ok (.if_icmp .ne 7, 3) := by decide +kernel
theorem dX2_perform_36 : decode cX2_perform 36 = .ok (.iconst 1, 1) := by decide +kernel
theorem dX2_perform_37 : decode cX2_perform 37 = .ok (.goto 4, 3) := by decide +kernel
theorem dX2_perform_40 : decode cX2_perform 40 = .ok (.iconst 0, 1) := by decide +kernel
theorem dX2_perform_41 : decode cX2_perform 41 = .ok (.iadd, 1) := by decide +kernel
theorem dX2_perform_42 : decode cX2_perform 42 = .ok (.iload 4, 2) := by decide +kernel
theorem dX2_perform_44 : decode cX2_perform 44 = .ok (.iadd, 1) := by decide +kernel
theorem dX2_perform_45 : decode cX2_perform 45 = .ok (.istore 7, 2) := by decide +kernel
theorem dX2_perform_47 : decode cX2_perform 47 = .ok (.iload 7, 2) := by decide +kernel
theorem dX2_perform_49 : decode cX2_perform 49 = .ok (.aload_n 1, 1) := by decide +kernel
theorem dX2_perform_50 : decode cX2_perform 50 = .ok (.getfield 133, 3) := by decide +kernel
theorem dX2_perform_53 : decode cX2_perform 53 = .ok (.iload 5, 2) := by decide +kernel
theorem dX2_perform_55 : decode cX2_perform 55 = .ok (.iconst 1, 1) := by decide +kernel
theorem dX2_perform_56 : decode cX2_perform 56 = .ok (.isub, 1) := by decide +kernel
theorem dX2_perform_57 : decode cX2_perform 57 = .ok (.invokestatic 71, 3) := by decide +kernel
theorem dX2_perform_60 : decode cX2_perform 60 = .ok (.invokestatic 71, 3) := by decide +kernel
theorem dX2_perform_63 : decode cX2_perform 63 = .ok (.aload_n 0, 1) := by decide +kernel
theorem dX2_perform_64 : decode cX2_perform 64 = .ok (.getfield 29, 3) := by decide +kernel
theorem dX2_perform_67 : decode cX2_perform 67 = .ok (.iload_n 2, 1) := by decide +kernel
theorem dX2_perform_68 : decode cX2_perform 68 = .ok (.iaload, 1) := by decide +kernel
theorem dX2_perform_69 : decode cX2_perform 69 = .ok (.isub, 1) := by decide +kernel
theorem dX2_perform_70 : decode cX2_perform 70 = .ok (.istore 8, 2) := by decide +kernel
theorem dX2_perform_72 : decode cX2_perform 72 = .ok (.aload_n 0, 1) := by decide +kernel
theorem dX2_perform_73 : decode cX2_perform 73 = .ok (.getfield 29, 3) := by decide +kernel
theorem dX2_perform_76 : decode cX2_perform 76 = .ok (.iload_n 2, 1) := by decide +kernel
theorem dX2_perform_77 : decode cX2_perform 77 = .ok (.dup2, 1) := by decide +kernel
theorem dX2_perform_78 : decode cX2_perform 78 = .ok (.iaload, 1) := by decide +kernel
theorem dX2_perform_79 : decode cX2_perform 79 = .ok (.iload 8, 2) := by decide +kernel
theorem dX2_perform_81 : decode cX2_perform 81 = .ok (.iadd, 1) := by decide +kernel
theorem dX2_perform_82 : decode cX2_perform 82 = .ok (.iastore, 1) := by decide +kernel
theorem dX2_perform_83 : decode cX2_perform 83 = .ok (.aload_n 0, 1) := by decide +kernel
theorem dX2_perform_84 : decode cX2_perform 84 = .ok (.dup, 1) := by decide +kernel
theorem dX2_perform_85 : decode cX2_perform 85 = .ok (.getfield 57, 3) := by decide +kernel
theorem dX2_perform_88 : decode cX2_perform 88 = .ok (.iload 8, 2) := by decide +kernel
theorem dX2_perform_90 : decode cX2_perform 90 = .ok (.iadd, 1) := by decide +kernel
theorem dX2_perform_91 : decode cX2_perform 91 = .ok (.putfield 57, 3) := by decide +kernel
theorem dX2_perform_94 : decode cX2_perform 94 = .ok (.aload_n 0, 1) := by decide +kernel
theorem dX2_perform_95 : decode cX2_perform 95 = .ok (.getfield 44, 3) := by decide +kernel
theorem dX2_perform_98 : decode cX2_perform 98 = .ok (.iload_n 2, 1) := by decide +kernel
theorem dX2_perform_99 : decode cX2_perform 99 = .ok (.dup2, 1) := by decide +kernel
theorem dX2_perform_100 : decode cX2_perform 100 = .ok (.iaload, 1) := by decide +kernel
theorem dX2_perform_101 : decode cX2_perform 101 = .ok (.iload 8, 2) := by decide +kernel
theorem dX2_perform_103 : decode cX2_perform 103 = .ok (.ifCond .ne 7, 3) := by decide +kernel
theorem dX2_perform_106 : decode cX2_perform 106 = .ok (.iconst 1, 1) := by decide +kernel
theorem dX2_perform_107 : decode cX2_perform 107 = .ok (.goto 4, 3) := by decide +kernel
theorem dX2_perform_110 : decode cX2_perform 110 = .ok (.iconst 0, 1) := by decide +kernel
theorem dX2_perform_111 : decode cX2_perform 111 = .ok (.iadd, 1) := by decide +kernel
theorem dX2_perform_112 : decode cX2_perform 112 = .ok (.iastore, 1) := by decide +kernel
theorem dX2_perform_113 : decode cX2_perform 113 = .ok (.aload_n 0, 1) := by decide +kernel
theorem dX2_perform_114 : decode cX2_perform 114 = .ok (.getfield 32, 3) := by decide +kernel
theorem dX2_perform_117 : decode cX2_perform 117 = .ok (.iload_n 2, 1) := by decide +kernel
theorem dX2_perform_118 : decode cX2_perform 118 = .ok (.dup2, 1) := by decide +kernel
theorem dX2_perform_119 : decode cX2_perform 119 = .ok (.iaload, 1) := by decide +kernel
theorem dX2_perform_120 : decode cX2_perform 120 = .ok (.iload 6, 2) := by decide +kernel
theorem dX2_perform_122 : decode cX2_perform 122 = .ok (.iconst 1, 1) := by decide +kernel
theorem dX2_perform_123 : decode cX2_perform 123 = .ok (.if_icmp .ne 8, 3) := by decide +kernel
theorem dX2_perform_126 : decode cX2_perform 126 = .ok (.iload 8, 2) := by decide +kernel
theorem dX2_perform_128 : decode cX2_perform 128 = .ok (.goto 4, 3) := by decide +kernel
theorem dX2_perform_131 : decode cX2_perform 131 = .ok (.iconst 0, 1) := by decide +kernel
theorem dX2_perform_132 : decode cX2_perform 132 = .ok (.iadd, 1) := by decide +kernel
theorem dX2_perform_133 : decode cX2_perform 133 = .ok (.iastore, 1) := by decide +kernel
theorem dX2_perform_134 : decode cX2_perform 134 = .ok (.goto 75, 3) := by decide +kernel
theorem dX2_perform_137 : decode cX2_perform 137 = .ok (.iload_n 3, 1) := by decide +kernel
theorem dX2_perform_138 : decode cX2_perform 138 = .ok (.iconst 1, 1) := by decide +kernel
theorem dX2_perform_139 : decode cX2_perform 139 = .ok (.if_icmp .ne 24, 3) := by decide +kernel
theorem dX2_perform_142 : decode cX2_perform 142 = .ok (.aload_n 0, 1) := by decide +kernel
theorem dX2_perform_143 : decode cX2_perform 143 = .ok (.getfield 32, 3) := by decide +kernel
theorem dX2_perform_146 : decode cX2_perform 146 = .ok (.iload_n 2, 1) := by decide +kernel
theorem dX2_perform_147 : decode cX2_perform 147 = .ok (.dup2, 1) := by decide +kernel
theorem dX2_perform_148 : decode cX2_perform 148 = .ok (.iaload, 1) := by decide +kernel
theorem dX2_perform_149 : decode cX2_perform 149 = .ok (.aload_n 0, 1) := by decide +kernel
theorem dX2_perform_150 : decode cX2_perform 150 = .ok (.getfield 32, 3) := by decide +kernel
theorem dX2_perform_153 : decode cX2_perform 153 = .ok (.iload_n 2, 1) := by decide +kernel
theorem dX2_perform_154 : decode cX2_perform 154 = .ok (.iaload, 1) := by decide +kernel
theorem dX2_perform_155 : decode cX2_perform 155 = .ok (.invokestatic 136, 3) := by decide +kernel
theorem dX2_perform_158 : decode cX2_perform 158 = .ok (.isub, 1) := by decide +kernel
theorem dX2_perform_159 : decode cX2_perform 159 = .ok (.iastore, 1) := by decide +kernel
theorem dX2_perform_160 : decode cX2_perform 160 = .ok (.goto 49, 3) := by decide +kernel
theorem dX2_perform_163 : decode cX2_perform 163 = .ok (.iconst 1, 1) := by decide +kernel
theorem dX2_perform_164 : decode cX2_perform 164 = .ok (.aload_n 0, 1) := by decide +kernel
theorem dX2_perform_165 : decode cX2_perform 165 = .ok (.getfield 35, 3) := by decide +kernel
theorem dX2_perform_168 : decode cX2_perform 168 = .ok (.iload_n 2, 1) := by decide +kernel
theorem dX2_perform_169 : decode cX2_perform 169 = .ok (.iaload, 1) := by decide +kernel
theorem dX2_perform_170 : decode cX2_perform 170 = .ok (.iconst 3, 1) := by decide +kernel
theorem dX2_perform_171 : decode cX2_perform 171 = .ok (.idiv, 1) := by decide +kernel
theorem dX2_perform_172 : decode cX2_perform 172 = .ok (.iadd, 1) := by decide +kernel
theorem dX2_perform_173 : decode cX2_perform 173 = .ok (.iload 6, 2) := by decide +kernel
theorem dX2_perform_175 : decode cX2_perform 175 = .ok (.iconst 2, 1) := by decide +kernel
theorem dX2_perform_176 : decode cX2_perform 176 = .ok (.if_icmp .ne 7, 3) := by decide +kernel
theorem dX2_perform_179 : decode cX2_perform 179 = .ok (.iconst 1, 1) := by decide +kernel
theorem dX2_perform_180 : decode cX2_perform 180 = .ok (.goto 4, 3) := by decide +kernel
theorem dX2_perform_183 : decode cX2_perform 183 = .ok (.iconst 0, 1) := by decide +kernel
theorem dX2_perform_184 : decode cX2_perform 184 = .ok (.iadd, 1) := by decide +kernel
theorem dX2_perform_185 : decode cX2_perform 185 = .ok (.istore 7, 2) := by decide +kernel
theorem dX2_perform_187 : decode cX2_perform 187 = .ok (.aload_n 0, 1) := by decide +kernel
theorem dX2_perform_188 : decode cX2_perform 188 = .ok (.getfield 32, 3) := by decide +kernel
theorem dX2_perform_191 : decode cX2_perform 191 = .ok (.iload_n 2, 1) := by decide +kernel
theorem dX2_perform_192 : decode cX2_perform 192 = .ok (.dup2, 1) := by decide +kernel
theorem dX2_perform_193 : decode cX2_perform 193 = .ok (.iaload, 1) := by decide +kernel
theorem dX2_perform_194 : decode cX2_perform 194 = .ok (.iload_n 3, 1) := by decide +kernel
theorem dX2_perform_195 : decode cX2_perform 195 = .ok (.iconst 3, 1) := by decide +kernel
theorem dX2_perform_196 : decode cX2_perform 196 = .ok (.if_icmp .ne 8, 3) := by decide +kernel
theorem dX2_perform_199 : decode cX2_perform 199 = .ok (.iload 7, 2) := by decide +kernel
theorem dX2_perform_201 : decode cX2_perform 201 = .ok (.goto 6, 3) := by decide +kernel
theorem dX2_perform_204 : decode cX2_perform 204 = .ok (.iload 7, 2) := by decide +kernel
theorem dX2_perform_206 : decode cX2_perform 206 = .ok (.ineg, 1) := by decide +kernel
theorem dX2_perform_207 : decode cX2_perform 207 = .ok (.iadd, 1) := by decide +kernel
theorem dX2_perform_208 : decode cX2_perform 208 = .ok (.iastore, 1) := by decide +kernel
theorem dX2_perform_209 : decode cX2_perform 209 = .ok (.iload 6, 2) := by decide +kernel
theorem dX2_perform_211 : decode cX2_perform 211 = .ok (.ifCond .ne 16, 3) := by decide +kernel
theorem dX2_perform_214 : decode cX2_perform 214 = .ok (.aload_n 0, 1) := by decide +kernel
theorem dX2_perform_215 : decode cX2_perform 215 = .ok (.getfield 32, 3) := by decide +kernel
theorem dX2_perform_218 : decode cX2_perform 218 = .ok (.iload_n 2, 1) := by decide +kernel
theorem dX2_perform_219 : decode cX2_perform 219 = .ok (.iaload, 1) := by decide +kernel
theorem dX2_perform_220 : decode cX2_perform 220 = .ok (.invokestatic 140, 3) := by decide +kernel
theorem dX2_perform_223 : decode cX2_perform 223 = .ok (.iconst 2, 1) := by decide +kernel
theorem dX2_perform_224 : decode cX2_perform 224 = .ok (.if_icmp .le 21, 3) := by decide +kernel
theorem dX2_perform_227 : decode cX2_perform 227 = .ok (.aload_n 0, 1) := by decide +kernel
theorem dX2_perform_228 : decode cX2_perform 228 = .ok (.getfield 32, 3) := by decide +kernel
theorem dX2_perform_231 : decode cX2_perform 231 = .ok (.iload_n 2, 1) := by decide +kernel
theorem dX2_perform_232 : decode cX2_perform 232 = .ok (.dup2, 1) := by decide +kernel
theorem dX2_perform_233 : decode cX2_perform 233 = .ok (.iaload, 1) := by decide +kernel
theorem dX2_perform_234 : decode cX2_perform 234 = .ok (.aload_n 0, 1) := by decide +kernel
theorem dX2_perform_235 : decode cX2_perform 235 = .ok (.getfield 32, 3) := by decide +kernel
theorem dX2_perform_238 : decode cX2_perform 238 = .ok (.iload_n 2, 1) := by decide +kernel
theorem dX2_perform_239 : decode cX2_perform 239 = .ok (.iaload, 1) := by decide +kernel
theorem dX2_perform_240 : decode cX2_perform 240 = .ok (.invokestatic 136, 3) := by decide +kernel
theorem dX2_perform_243 : decode cX2_perform 243 = .ok (.iadd, 1) := by decide +kernel
theorem dX2_perform_244 : decode cX2_perform 244 = .ok (.iastore, 1) := by decide +kernel
theorem dX2_perform_245 : decode cX2_perform 245 = .ok (.return_, 1) := by decide +kernel
set_option maxRecDepth 20000 in
theorem m_X2_perform {h : Hp} {S : Nat} {a2 : Int32} {a3 : Int32} {a4 : Int32} {a5 : Int32} (hS : sk S = 2) {u : Hp} (hu : f_X2_perform h S a2 a3 a4 a5 = some u) : Ct yX2_perform cX2_perform 9 none 1 [.ref S, .ref 5, .int a2, .int a3, .int a4, .int a5] h (eV u) := by
  refine ct_of eV hu (by decide) (Nat.le_of_ble_eq_true rfl) (fun κ hn C E => ?_)
  have n6 : 6 < kn κ := by rw [hn]; decide
  have n7 : 7 < kn κ := by rw [hn]; decide
  have n8 : 8 < kn κ := by rw [hn]; decide
  unfold f_X2_perform
  show Xz κ _ 0 [(0, .ref S), (1, .ref 5), (2, .int a2), (3, .int a3), (4, .int a4), (5, .int a5)] [] h
  refine x_iload_n 1 C dX2_perform_0 2 rfl rfl rfl ?_
  refine x_iconst 2 C dX2_perform_1 ci_0 rfl ?_
  refine x_iconst 3 C dX2_perform_2 ci_5 rfl ?_
  refine x_csi 6 [.int a2, .int (0 : Int32), .int (5 : Int32)] [] C 0 dX2_perform_3 s_X2_112 (fun u hu => m_X7_within hu) rfl rfl (Nat.le_of_ble_eq_true rfl) (Nat.le_of_ble_eq_true rfl) rfl (fun x1 => ?_)
  refine x_if_ne 9 10 C dX2_perform_6 (by decide) rfl (fun _ => ?_) (fun _ => ?_)
  · refine x_aload_n 11 C dX2_perform_10 1 rfl rfl rfl ?_
    refine x_getR (c := 7) 14 C dX2_perform_11 fl_X2_130 sk_5 rfl sr_5_1 rfl ?_
    refine x_iload_n 15 C dX2_perform_14 2 rfl rfl rfl ?_
    refine x_iald 16 C dX2_perform_15 sk_7 sl_7 rfl ?_
    refine x_ni (fun x2 => ?_)
    refine x_istore 18 [(6, .int x2), (0, .ref S), (1, .ref 5), (2, .int a2), (3, .int a3), (4, .int a4), (5, .int a5)] C dX2_perform_16 n6 rfl rfl ?_
    refine x_iload_n 19 C dX2_perform_18 4 rfl rfl rfl ?_
    refine x_lt1 (q := 209) (ls := fun h3 => [(0, .ref S), (2, .int a2), (6, .int x2)]) (st := fun h3 => []) (hh := fun h3 => h3) (fun h3 => ?_) (fun k1 J1 => ?_)
    · refine x_iload 211 C dX2_perform_209 2 rfl rfl ?_
      refine x_lt1 (q := 227) (ls := fun u4 => [(0, .ref S), (2, .int a2)]) (st := fun u4 => []) (hh := fun u4 => h3) (fun u4 => ?_) (fun k2 J2 => ?_)
      · refine x_aload_n 228 C dX2_perform_227 0 rfl rfl rfl ?_
        refine x_getR (c := (S + 12)) 231 C dX2_perform_228 fl_X2_32 hS rfl (of_2_4 hS) rfl ?_
        refine x_iload_n 232 C dX2_perform_231 1 rfl rfl rfl ?_
        refine x_dup2 233 C dX2_perform_232 rfl rfl rfl ?_
        refine x_iald 234 C dX2_perform_233 (ok_2_4 hS) (ol_2_4 hS) rfl ?_
        refine x_aload_n 235 C dX2_perform_234 0 rfl rfl rfl ?_
        refine x_getR (c := (S + 12)) 238 C dX2_perform_235 fl_X2_32 hS rfl (of_2_4 hS) rfl ?_
        refine x_iload_n 239 C dX2_perform_238 1 rfl rfl rfl ?_
        refine x_iald 240 C dX2_perform_239 (ok_2_4 hS) (ol_2_4 hS) rfl ?_
        refine x_csi 243 [.int (ia h3 (S + 12) a2)] [.int (ia h3 (S + 12) a2), .int a2, .ref (S + 12)] C 0 dX2_perform_240 s_X2_136 (fun u hu => m_X2_signOf hu) rfl rfl (Nat.le_of_ble_eq_true rfl) (Nat.le_of_ble_eq_true rfl) rfl (fun x5 => ?_)
        refine x_iadd 244 C dX2_perform_243 rfl ?_
        refine x_iast 245 C dX2_perform_244 (ok_2_4 hS) (ol_2_4 hS) rfl (fun h6 => ?_)
        exact x_vret C E dX2_perform_245 rfl
      refine x_if_ne 214 227 C dX2_perform_211 (by decide) rfl (fun _ => ?_) (fun _ => ?_)
      · exact x_ls [0, 1] rfl (J2 (0 : Int32))
      · refine x_aload_n 215 C dX2_perform_214 0 rfl rfl rfl ?_
        refine x_getR (c := (S + 12)) 218 C dX2_perform_215 fl_X2_32 hS rfl (of_2_4 hS) rfl ?_
        refine x_iload_n 219 C dX2_perform_218 1 rfl rfl rfl ?_
        refine x_iald 220 C dX2_perform_219 (ok_2_4 hS) (ol_2_4 hS) rfl ?_
        refine x_mabs 223 C dX2_perform_220 mw_X2_140 w_st_abs w_in_Math w_co_abs (Nat.le_of_ble_eq_true rfl) (Nat.le_of_ble_eq_true rfl) rfl ?_
        refine x_iconst 224 C dX2_perform_223 ci_2 rfl ?_
        refine x_icmp_le 227 245 C dX2_perform_224 (by decide) rfl (fun _ => ?_) (fun _ => ?_)
        · exact x_vret C E dX2_perform_245 rfl
        · exact x_ls [0, 1] rfl (J2 (0 : Int32))
    refine x_if_ne 22 137 C dX2_perform_19 (by decide) rfl (fun _ => ?_) (fun _ => ?_)
    · refine x_iload_n 138 C dX2_perform_137 4 rfl rfl rfl ?_
      refine x_iconst 139 C dX2_perform_138 ci_1 rfl ?_
      refine x_icmp_ne 142 163 C dX2_perform_139 (by decide) rfl (fun _ => ?_) (fun _ => ?_)
      · refine x_iconst 164 C dX2_perform_163 ci_1 rfl ?_
        refine x_aload_n 165 C dX2_perform_164 1 rfl rfl rfl ?_
        refine x_getR (c := (S + 13)) 168 C dX2_perform_165 fl_X2_35 hS rfl (of_2_5 hS) rfl ?_
        refine x_iload_n 169 C dX2_perform_168 3 rfl rfl rfl ?_
        refine x_iald 170 C dX2_perform_169 (ok_2_5 hS) (ol_2_5 hS) rfl ?_
        refine x_iconst 171 C dX2_perform_170 ci_3 rfl ?_
        refine x_idiv 172 C dX2_perform_171 nz_3 rfl ?_
        refine x_iadd 173 C dX2_perform_172 rfl ?_
        refine x_iload 175 C dX2_perform_173 0 rfl rfl ?_
        refine x_iconst 176 C dX2_perform_175 ci_2 rfl ?_
        refine x_lt1 (q := 184) (ls := fun x7 => [(0, .ref S), (2, .int a2), (3, .int a3), (6, .int x2)]) (st := fun x7 => [.int x7, .int ((1 : Int32) + ((ia h (S + 13) a2) / (3 : Int32)))]) (hh := fun x7 => h) (fun x7 => ?_) (fun k3 J3 => ?_)
        · refine x_iadd 185 C dX2_perform_184 rfl ?_
          refine x_ni (fun x8 => ?_)
          refine x_istore 187 [(7, .int x8), (0, .ref S), (2, .int a2), (3, .int a3), (6, .int x2)] C dX2_perform_185 n7 rfl rfl ?_
          refine x_aload_n 188 C dX2_perform_187 1 rfl rfl rfl ?_
          refine x_getR (c := (S + 12)) 191 C dX2_perform_188 fl_X2_32 hS rfl (of_2_4 hS) rfl ?_
          refine x_iload_n 192 C dX2_perform_191 2 rfl rfl rfl ?_
          refine x_dup2 193 C dX2_perform_192 rfl rfl rfl ?_
          refine x_iald 194 C dX2_perform_193 (ok_2_4 hS) (ol_2_4 hS) rfl ?_
          refine x_iload_n 195 C dX2_perform_194 3 rfl rfl rfl ?_
          refine x_iconst 196 C dX2_perform_195 ci_3 rfl ?_
          refine x_lt1 (q := 207) (ls := fun x9 => [(0, .ref S), (2, .int a2), (6, .int x2)]) (st := fun x9 => [.int x9, .int (ia h (S + 12) a2), .int a2, .ref (S + 12)]) (hh := fun x9 => h) (fun x9 => ?_) (fun k4 J4 => ?_)
          · refine x_iadd 208 C dX2_perform_207 rfl ?_
            refine x_iast 209 C dX2_perform_208 (ok_2_4 hS) (ol_2_4 hS) rfl (fun h10 => ?_)
            exact x_ls [0, 1, 2] rfl (J1 h10)
          refine x_icmp_ne 199 204 C dX2_perform_196 (by decide) rfl (fun _ => ?_) (fun _ => ?_)
          · refine x_iload 206 C dX2_perform_204 0 rfl rfl ?_
            refine x_ineg 207 C dX2_perform_206 rfl ?_
            exact x_ls [1, 2, 4] rfl (J4 (0 - x8))
          · refine x_iload 201 C dX2_perform_199 0 rfl rfl ?_
            refine x_goto 207 C dX2_perform_201 (by decide) ?_
            exact x_ls [1, 2, 4] rfl (J4 x8)
        refine x_icmp_ne 179 183 C dX2_perform_176 (by decide) rfl (fun _ => ?_) (fun _ => ?_)
        · refine x_iconst 184 C dX2_perform_183 ci_0 rfl ?_
          exact x_ls [1, 3, 4, 0] rfl (J3 (0 : Int32))
        · refine x_iconst 180 C dX2_perform_179 ci_1 rfl ?_
          refine x_goto 184 C dX2_perform_180 (by decide) ?_
          exact x_ls [1, 3, 4, 0] rfl (J3 (1 : Int32))
      · refine x_aload_n 143 C dX2_perform_142 1 rfl rfl rfl ?_
        refine x_getR (c := (S + 12)) 146 C dX2_perform_143 fl_X2_32 hS rfl (of_2_4 hS) rfl ?_
        refine x_iload_n 147 C dX2_perform_146 3 rfl rfl rfl ?_
        refine x_dup2 148 C dX2_perform_147 rfl rfl rfl ?_
        refine x_iald 149 C dX2_perform_148 (ok_2_4 hS) (ol_2_4 hS) rfl ?_
        refine x_aload_n 150 C dX2_perform_149 1 rfl rfl rfl ?_
        refine x_getR (c := (S + 12)) 153 C dX2_perform_150 fl_X2_32 hS rfl (of_2_4 hS) rfl ?_
        refine x_iload_n 154 C dX2_perform_153 3 rfl rfl rfl ?_
        refine x_iald 155 C dX2_perform_154 (ok_2_4 hS) (ol_2_4 hS) rfl ?_
        refine x_csi 158 [.int (ia h (S + 12) a2)] [.int (ia h (S + 12) a2), .int a2, .ref (S + 12)] C 0 dX2_perform_155 s_X2_136 (fun u hu => m_X2_signOf hu) rfl rfl (Nat.le_of_ble_eq_true rfl) (Nat.le_of_ble_eq_true rfl) rfl (fun x11 => ?_)
        refine x_isub 159 C dX2_perform_158 rfl ?_
        refine x_iast 160 C dX2_perform_159 (ok_2_4 hS) (ol_2_4 hS) rfl (fun h12 => ?_)
        refine x_goto 209 C dX2_perform_160 (by decide) ?_
        exact x_ls [1, 3, 0] rfl (J1 h12)
    · refine x_aload_n 23 C dX2_perform_22 1 rfl rfl rfl ?_
      refine x_getR (c := (S + 11)) 26 C dX2_perform_23 fl_X2_29 hS rfl (of_2_3 hS) rfl ?_
      refine x_iload_n 27 C dX2_perform_26 3 rfl rfl rfl ?_
      refine x_iald 28 C dX2_perform_27 (ok_2_3 hS) (ol_2_3 hS) rfl ?_
      refine x_iconst 29 C dX2_perform_28 ci_1 rfl ?_
      refine x_iadd 30 C dX2_perform_29 rfl ?_
      refine x_iload 32 C dX2_perform_30 0 rfl rfl ?_
      refine x_iconst 33 C dX2_perform_32 ci_1 rfl ?_
      refine x_lt1 (q := 41) (ls := fun x13 => [(0, .ref S), (1, .ref 5), (2, .int a2), (4, .int a4), (5, .int a5), (6, .int x2)]) (st := fun x13 => [.int x13, .int ((ia h (S + 11) a2) + (1 : Int32))]) (hh := fun x13 => h) (fun x13 => ?_) (fun k5 J5 => ?_)
      · refine x_iadd 42 C dX2_perform_41 rfl ?_
        refine x_iload 44 C dX2_perform_42 3 rfl rfl ?_
        refine x_iadd 45 C dX2_perform_44 rfl ?_
        refine x_ni (fun x14 => ?_)
        refine x_istore 47 [(7, .int x14), (0, .ref S), (1, .ref 5), (2, .int a2), (4, .int a4), (5, .int a5), (6, .int x2)] C dX2_perform_45 n7 rfl rfl ?_
        refine x_iload 49 C dX2_perform_47 0 rfl rfl ?_
        refine x_aload_n 50 C dX2_perform_49 2 rfl rfl rfl ?_
        refine x_getI 53 C dX2_perform_50 fl_X2_133 sk_5 rfl rfl ?_
        refine x_iload 55 C dX2_perform_53 5 rfl rfl ?_
        refine x_iconst 56 C dX2_perform_55 ci_1 rfl ?_
        refine x_isub 57 C dX2_perform_56 rfl ?_
        refine x_mmin 60 C dX2_perform_57 mw_X2_71 w_st_min w_in_Math w_co_min (Nat.le_of_ble_eq_true rfl) (Nat.le_of_ble_eq_true rfl) rfl ?_
        refine x_mmin 63 C dX2_perform_60 mw_X2_71 w_st_min w_in_Math w_co_min (Nat.le_of_ble_eq_true rfl) (Nat.le_of_ble_eq_true rfl) rfl ?_
        refine x_aload_n 64 C dX2_perform_63 1 rfl rfl rfl ?_
        refine x_getR (c := (S + 11)) 67 C dX2_perform_64 fl_X2_29 hS rfl (of_2_3 hS) rfl ?_
        refine x_iload_n 68 C dX2_perform_67 3 rfl rfl rfl ?_
        refine x_iald 69 C dX2_perform_68 (ok_2_3 hS) (ol_2_3 hS) rfl ?_
        refine x_isub 70 C dX2_perform_69 rfl ?_
        refine x_ni (fun x15 => ?_)
        refine x_istore 72 [(8, .int x15), (7, .int x14), (0, .ref S), (1, .ref 5), (2, .int a2), (4, .int a4), (5, .int a5), (6, .int x2)] C dX2_perform_70 n8 rfl rfl ?_
        refine x_aload_n 73 C dX2_perform_72 2 rfl rfl rfl ?_
        refine x_getR (c := (S + 11)) 76 C dX2_perform_73 fl_X2_29 hS rfl (of_2_3 hS) rfl ?_
        refine x_iload_n 77 C dX2_perform_76 4 rfl rfl rfl ?_
        refine x_dup2 78 C dX2_perform_77 rfl rfl rfl ?_
        refine x_iald 79 C dX2_perform_78 (ok_2_3 hS) (ol_2_3 hS) rfl ?_
        refine x_iload 81 C dX2_perform_79 0 rfl rfl ?_
        refine x_iadd 82 C dX2_perform_81 rfl ?_
        refine x_iast 83 C dX2_perform_82 (ok_2_3 hS) (ol_2_3 hS) rfl (fun h16 => ?_)
        refine x_aload_n 84 C dX2_perform_83 2 rfl rfl rfl ?_
        refine x_dup 85 C dX2_perform_84 rfl rfl ?_
        refine x_getI 88 C dX2_perform_85 fl_X2_57 hS rfl rfl ?_
        refine x_iload 90 C dX2_perform_88 0 rfl rfl ?_
        refine x_iadd 91 C dX2_perform_90 rfl ?_
        refine x_put 94 C dX2_perform_91 fp_X2_57 hS rfl rfl rfl rfl (fun h17 => ?_)
        refine x_aload_n 95 C dX2_perform_94 2 rfl rfl rfl ?_
        refine x_getR (c := (S + 16)) 98 C dX2_perform_95 fl_X2_44 hS rfl (of_2_8 hS) rfl ?_
        refine x_iload_n 99 C dX2_perform_98 4 rfl rfl rfl ?_
        refine x_dup2 100 C dX2_perform_99 rfl rfl rfl ?_
        refine x_iald 101 C dX2_perform_100 (ok_2_8 hS) (ol_2_8 hS) rfl ?_
        refine x_iload 103 C dX2_perform_101 0 rfl rfl ?_
        refine x_lt1 (q := 111) (ls := fun x18 => [(0, .ref S), (2, .int a2), (6, .int x2), (8, .int x15)]) (st := fun x18 => [.int x18, .int (ia h17 (S + 16) a2), .int a2, .ref (S + 16)]) (hh := fun x18 => h17) (fun x18 => ?_) (fun k6 J6 => ?_)
        · refine x_iadd 112 C dX2_perform_111 rfl ?_
          refine x_iast 113 C dX2_perform_112 (ok_2_8 hS) (ol_2_8 hS) rfl (fun h19 => ?_)
          refine x_aload_n 114 C dX2_perform_113 0 rfl rfl rfl ?_
          refine x_getR (c := (S + 12)) 117 C dX2_perform_114 fl_X2_32 hS rfl (of_2_4 hS) rfl ?_
          refine x_iload_n 118 C dX2_perform_117 1 rfl rfl rfl ?_
          refine x_dup2 119 C dX2_perform_118 rfl rfl rfl ?_
          refine x_iald 120 C dX2_perform_119 (ok_2_4 hS) (ol_2_4 hS) rfl ?_
          refine x_iload 122 C dX2_perform_120 2 rfl rfl ?_
          refine x_iconst 123 C dX2_perform_122 ci_1 rfl ?_
          refine x_lt1 (q := 132) (ls := fun x20 => [(0, .ref S), (2, .int a2), (6, .int x2)]) (st := fun x20 => [.int x20, .int (ia h19 (S + 12) a2), .int a2, .ref (S + 12)]) (hh := fun x20 => h19) (fun x20 => ?_) (fun k7 J7 => ?_)
          · refine x_iadd 133 C dX2_perform_132 rfl ?_
            refine x_iast 134 C dX2_perform_133 (ok_2_4 hS) (ol_2_4 hS) rfl (fun h21 => ?_)
            refine x_goto 209 C dX2_perform_134 (by decide) ?_
            exact x_ls [0, 1, 2] rfl (J1 h21)
          refine x_icmp_ne 126 131 C dX2_perform_123 (by decide) rfl (fun _ => ?_) (fun _ => ?_)
          · refine x_iconst 132 C dX2_perform_131 ci_0 rfl ?_
            exact x_ls [0, 1, 2] rfl (J7 (0 : Int32))
          · refine x_iload 128 C dX2_perform_126 3 rfl rfl ?_
            refine x_goto 132 C dX2_perform_128 (by decide) ?_
            exact x_ls [0, 1, 2] rfl (J7 x15)
        refine x_if_ne 106 110 C dX2_perform_103 (by decide) rfl (fun _ => ?_) (fun _ => ?_)
        · refine x_iconst 111 C dX2_perform_110 ci_0 rfl ?_
          exact x_ls [2, 4, 7, 0] rfl (J6 (0 : Int32))
        · refine x_iconst 107 C dX2_perform_106 ci_1 rfl ?_
          refine x_goto 111 C dX2_perform_107 (by decide) ?_
          exact x_ls [2, 4, 7, 0] rfl (J6 (1 : Int32))
      refine x_icmp_ne 36 40 C dX2_perform_33 (by decide) rfl (fun _ => ?_) (fun _ => ?_)
      · refine x_iconst 41 C dX2_perform_40 ci_0 rfl ?_
        exact x_ls [1, 2, 3, 5, 6, 0] rfl (J5 (0 : Int32))
      · refine x_iconst 37 C dX2_perform_36 ci_1 rfl ?_
        refine x_goto 41 C dX2_perform_37 (by decide) ?_
        exact x_ls [1, 2, 3, 5, 6, 0] rfl (J5 (1 : Int32))
  · exact x_vret C E dX2_perform_9 rfl

def f_X2_settle (h : Hp) (S : Nat) (a2 : Int32) (a3 : Int32) : Option Hp :=
  bdr (f_X7_within a2 (0 : Int32) (5 : Int32)) fun x1 =>
  if x1 = 0 then (
    some h)
  else (
    ck a2 6 (
      lt1 (fun (h2 : Hp) =>
        ck a2 6 (
          ck a2 6 (
            ck a2 6 (nm (ux h2 (S + 17) a2 (jmax (ia h2 (S + 17) a2) (jabs (ia h2 (S + 12) a2)))) fun h3 =>
            some h3)))) fun k1 =>
      if (ia h (S + 11) a2) < (h.1 5 9) then (
        ck a2 6 (
          if (jabs (ia h (S + 12) a2)) < (h.1 5 11) then (
            k1 h)
          else (
            ck a2 6 (nm (ux h (S + 10) a2 (3 : Int32)) fun h4 =>
            ck a2 6 (nm (ux h4 (S + 15) a2 a3) fun h5 =>
            nm (uf h5 S 14 ((h5.1 S 14) + (1 : Int32))) fun h6 =>
            k1 h6)))))
      else (
        ck a2 6 (nm (ux h (S + 10) a2 (2 : Int32)) fun h7 =>
        ck a2 6 (nm (ux h7 (S + 12) a2 (0 : Int32)) fun h8 =>
        ck a2 6 (nm (ux h8 (S + 15) a2 a3) fun h9 =>
        nm (uf h9 S 13 ((h9.1 S 13) + (1 : Int32))) fun h10 =>
        k1 h10))))))
theorem dX2_settle_0 : decode cX2_settle 0 = .ok (.iload_n 2, 1) := by decide +kernel
theorem dX2_settle_1 : decode cX2_settle 1 = .ok (.iconst 0, 1) := by decide +kernel
theorem dX2_settle_2 : decode cX2_settle 2 = .ok (.iconst 5, 1) := by decide +kernel
theorem dX2_settle_3 : decode cX2_settle 3 = .ok (.invokestatic 112, 3) := by decide +kernel
theorem dX2_settle_6 : decode cX2_settle 6 = .ok (.ifCond .ne 4, 3) := by decide +kernel
theorem dX2_settle_9 : decode cX2_settle 9 = .ok (.return_, 1) := by decide +kernel
theorem dX2_settle_10 : decode cX2_settle 10 = .ok (.aload_n 0, 1) := by decide +kernel
theorem dX2_settle_11 : decode cX2_settle 11 = .ok (.getfield 29, 3) := by decide +kernel
theorem dX2_settle_14 : decode cX2_settle 14 = .ok (.iload_n 2, 1) := by decide +kernel
theorem dX2_settle_15 : decode cX2_settle 15 = .ok (.iaload, 1) := by decide +kernel
theorem dX2_settle_16 : decode cX2_settle 16 = .ok (.aload_n 1, 1) := by decide +kernel
theorem dX2_settle_17 : decode cX2_settle 17 = .ok (.getfield 133, 3) := by decide +kernel
theorem dX2_settle_20 : decode cX2_settle 20 = .ok (.if_icmp .lt 37, 3) := by decide +kernel
theorem dX2_settle_23 : decode cX2_settle 23 = .ok (.aload_n 0, 1) := by decide +kernel
theorem dX2_settle_24 : decode cX2_settle 24 = .ok (.getfield 25, 3) := by decide +kernel
theorem dX2_settle_27 : decode cX2_settle 27 = .ok (.iload_n 2, 1) := by decide +kernel
theorem dX2_settle_28 : decode cX2_settle 28 = .ok (.iconst 2, 1) := by decide +kernel
theorem dX2_settle_29 : decode cX2_settle 29 = .ok (.iastore, 1) := by decide +kernel
theorem dX2_settle_30 : decode cX2_settle 30 = .ok (.aload_n 0, 1) := by decide +kernel
theorem dX2_settle_31 : decode cX2_settle 31 = .ok (.getfield 32, 3) := by decide +kernel
theorem dX2_settle_34 : decode cX2_settle 34 = .ok (.iload_n 2, 1) := by decide +kernel
theorem dX2_settle_35 : decode cX2_settle 35 = .ok (.iconst 0, 1) := by decide +kernel
theorem dX2_settle_36 : decode cX2_settle 36 = .ok (.iastore, 1) := by decide +kernel
theorem dX2_settle_37 : decode cX2_settle 37 = .ok (.aload_n 0, 1) := by decide +kernel
theorem dX2_settle_38 : decode cX2_settle 38 = .ok (.getfield 41, 3) := by decide +kernel
theorem dX2_settle_41 : decode cX2_settle 41 = .ok (.iload_n 2, 1) := by decide +kernel
theorem dX2_settle_42 : decode cX2_settle 42 = .ok (.iload_n 3, 1) := by decide +kernel
theorem dX2_settle_43 : decode cX2_settle 43 = .ok (.iastore, 1) := by decide +kernel
theorem dX2_settle_44 : decode cX2_settle 44 = .ok (.aload_n 0, 1) := by decide +kernel
theorem dX2_settle_45 : decode cX2_settle 45 = .ok (.dup, 1) := by decide +kernel
theorem dX2_settle_46 : decode cX2_settle 46 = .ok (.getfield 60, 3) := by decide +kernel
theorem dX2_settle_49 : decode cX2_settle 49 = .ok (.iconst 1, 1) := by decide +kernel
theorem dX2_settle_50 : decode cX2_settle 50 = .ok (.iadd, 1) := by decide +kernel
theorem dX2_settle_51 : decode cX2_settle 51 = .ok (.putfield 60, 3) := by decide +kernel
theorem dX2_settle_54 : decode cX2_settle 54 = .ok (.goto 43, 3) := by decide +kernel
theorem dX2_settle_57 : decode cX2_settle 57 = .ok (.aload_n 0, 1) := by decide +kernel
theorem dX2_settle_58 : decode cX2_settle 58 = .ok (.getfield 32, 3) := by decide +kernel
theorem dX2_settle_61 : decode cX2_settle 61 = .ok (.iload_n 2, 1) := by decide +kernel
theorem dX2_settle_62 : decode cX2_settle 62 = .ok (.iaload, 1) := by decide +kernel
theorem dX2_settle_63 : decode cX2_settle 63 = .ok (.invokestatic 140, 3) := by decide +kernel
theorem dX2_settle_66 : decode cX2_settle 66 = .ok (.aload_n 1, 1) := by decide +kernel
theorem dX2_settle_67 : decode cX2_settle 67 = .ok (.getfield 143, 3) := by decide +kernel
theorem dX2_settle_70 : decode cX2_settle 70 = .ok (.if_icmp .lt 27, 3) := by decide +kernel
theorem dX2_settle_73 : decode cX2_settle 73 = .ok (.aload_n 0, 1) := by decide +kernel
theorem dX2_settle_74 : decode cX2_settle 74 = .ok (.getfield 25, 3) := by decide +kernel
theorem dX2_settle_77 : decode cX2_settle 77 = .ok (.iload_n 2, 1) := by decide +kernel
theorem dX2_settle_78 : decode cX2_settle 78 = .ok (.iconst 3, 1) := by decide +kernel
theorem dX2_settle_79 : decode cX2_settle 79 = .ok (.iastore, 1) := by decide +kernel
theorem dX2_settle_80 : decode cX2_settle 80 = .ok (.aload_n 0, 1) := by decide +kernel
theorem dX2_settle_81 : decode cX2_settle 81 = .ok (.getfield 41, 3) := by decide +kernel
theorem dX2_settle_84 : decode cX2_settle 84 = .ok (.iload_n 2, 1) := by decide +kernel
theorem dX2_settle_85 : decode cX2_settle 85 = .ok (.iload_n 3, 1) := by decide +kernel
theorem dX2_settle_86 : decode cX2_settle 86 = .ok (.iastore, 1) := by decide +kernel
theorem dX2_settle_87 : decode cX2_settle 87 = .ok (.aload_n 0, 1) := by decide +kernel
theorem dX2_settle_88 : decode cX2_settle 88 = .ok (.dup, 1) := by decide +kernel
theorem dX2_settle_89 : decode cX2_settle 89 = .ok (.getfield 63, 3) := by decide +kernel
theorem dX2_settle_92 : decode cX2_settle 92 = .ok (.iconst 1, 1) := by decide +kernel
theorem dX2_settle_93 : decode cX2_settle 93 = .ok (.iadd, 1) := by decide +kernel
theorem dX2_settle_94 : decode cX2_settle 94 = .ok (.putfield 63, 3) := by decide +kernel
theorem dX2_settle_97 : decode cX2_settle 97 = .ok (.aload_n 0, 1) := by decide +kernel
theorem dX2_settle_98 : decode cX2_settle 98 = .ok (.getfield 47, 3) := by decide +kernel
theorem dX2_settle_101 : decode cX2_settle 101 = .ok (.iload_n 2, 1) := by decide +kernel
theorem dX2_settle_102 : decode cX2_settle 102 = .ok (.aload_n 0, 1) := by decide +kernel
theorem dX2_settle_103 : decode cX2_settle 103 = .ok (.getfield 47, 3) := by decide +kernel
theorem dX2_settle_106 : decode cX2_settle 106 = .ok (.iload_n 2, 1) := by decide +kernel
theorem dX2_settle_107 : decode cX2_settle 107 = .ok (.iaload, 1) := by decide +kernel
theorem dX2_settle_108 : decode cX2_settle 108 = .ok (.aload_n 0, 1) := by decide +kernel
theorem dX2_settle_109 : decode cX2_settle 109 = .ok (.getfield 32, 3) := by decide +kernel
theorem dX2_settle_112 : decode cX2_settle 112 = .ok (.iload_n 2, 1) := by decide +kernel
theorem dX2_settle_113 : decode cX2_settle 113 = .ok (.iaload, 1) := by decide +kernel
theorem dX2_settle_114 : decode cX2_settle 114 = .ok (.invokestatic 140, 3) := by decide +kernel
theorem dX2_settle_117 : decode cX2_settle 117 = .ok (.invokestatic 146, 3) := by decide +kernel
theorem dX2_settle_120 : decode cX2_settle 120 = .ok (.iastore, 1) := by decide +kernel
theorem dX2_settle_121 : decode cX2_settle 121 = .ok (.return_, 1) := by decide +kernel
set_option maxRecDepth 20000 in
theorem m_X2_settle {h : Hp} {S : Nat} {a2 : Int32} {a3 : Int32} (hS : sk S = 2) {u : Hp} (hu : f_X2_settle h S a2 a3 = some u) : Ct yX2_settle cX2_settle 4 none 1 [.ref S, .ref 5, .int a2, .int a3] h (eV u) := by
  refine ct_of eV hu (by decide) (Nat.le_of_ble_eq_true rfl) (fun κ hn C E => ?_)
  unfold f_X2_settle
  show Xz κ _ 0 [(0, .ref S), (1, .ref 5), (2, .int a2), (3, .int a3)] [] h
  refine x_iload_n 1 C dX2_settle_0 2 rfl rfl rfl ?_
  refine x_iconst 2 C dX2_settle_1 ci_0 rfl ?_
  refine x_iconst 3 C dX2_settle_2 ci_5 rfl ?_
  refine x_csi 6 [.int a2, .int (0 : Int32), .int (5 : Int32)] [] C 0 dX2_settle_3 s_X2_112 (fun u hu => m_X7_within hu) rfl rfl (Nat.le_of_ble_eq_true rfl) (Nat.le_of_ble_eq_true rfl) rfl (fun x1 => ?_)
  refine x_if_ne 9 10 C dX2_settle_6 (by decide) rfl (fun _ => ?_) (fun _ => ?_)
  · refine x_aload_n 11 C dX2_settle_10 0 rfl rfl rfl ?_
    refine x_getR (c := (S + 11)) 14 C dX2_settle_11 fl_X2_29 hS rfl (of_2_3 hS) rfl ?_
    refine x_iload_n 15 C dX2_settle_14 2 rfl rfl rfl ?_
    refine x_iald 16 C dX2_settle_15 (ok_2_3 hS) (ol_2_3 hS) rfl ?_
    refine x_aload_n 17 C dX2_settle_16 1 rfl rfl rfl ?_
    refine x_getI 20 C dX2_settle_17 fl_X2_133 sk_5 rfl rfl ?_
    refine x_lt1 (q := 97) (ls := fun h2 => [(0, .ref S), (2, .int a2)]) (st := fun h2 => []) (hh := fun h2 => h2) (fun h2 => ?_) (fun k1 J1 => ?_)
    · refine x_aload_n 98 C dX2_settle_97 0 rfl rfl rfl ?_
      refine x_getR (c := (S + 17)) 101 C dX2_settle_98 fl_X2_47 hS rfl (of_2_9 hS) rfl ?_
      refine x_iload_n 102 C dX2_settle_101 1 rfl rfl rfl ?_
      refine x_aload_n 103 C dX2_settle_102 0 rfl rfl rfl ?_
      refine x_getR (c := (S + 17)) 106 C dX2_settle_103 fl_X2_47 hS rfl (of_2_9 hS) rfl ?_
      refine x_iload_n 107 C dX2_settle_106 1 rfl rfl rfl ?_
      refine x_iald 108 C dX2_settle_107 (ok_2_9 hS) (ol_2_9 hS) rfl ?_
      refine x_aload_n 109 C dX2_settle_108 0 rfl rfl rfl ?_
      refine x_getR (c := (S + 12)) 112 C dX2_settle_109 fl_X2_32 hS rfl (of_2_4 hS) rfl ?_
      refine x_iload_n 113 C dX2_settle_112 1 rfl rfl rfl ?_
      refine x_iald 114 C dX2_settle_113 (ok_2_4 hS) (ol_2_4 hS) rfl ?_
      refine x_mabs 117 C dX2_settle_114 mw_X2_140 w_st_abs w_in_Math w_co_abs (Nat.le_of_ble_eq_true rfl) (Nat.le_of_ble_eq_true rfl) rfl ?_
      refine x_mmax 120 C dX2_settle_117 mw_X2_146 w_st_max w_in_Math w_co_max (Nat.le_of_ble_eq_true rfl) (Nat.le_of_ble_eq_true rfl) rfl ?_
      refine x_iast 121 C dX2_settle_120 (ok_2_9 hS) (ol_2_9 hS) rfl (fun h3 => ?_)
      exact x_vret C E dX2_settle_121 rfl
    refine x_icmp_lt 23 57 C dX2_settle_20 (by decide) rfl (fun _ => ?_) (fun _ => ?_)
    · refine x_aload_n 58 C dX2_settle_57 0 rfl rfl rfl ?_
      refine x_getR (c := (S + 12)) 61 C dX2_settle_58 fl_X2_32 hS rfl (of_2_4 hS) rfl ?_
      refine x_iload_n 62 C dX2_settle_61 2 rfl rfl rfl ?_
      refine x_iald 63 C dX2_settle_62 (ok_2_4 hS) (ol_2_4 hS) rfl ?_
      refine x_mabs 66 C dX2_settle_63 mw_X2_140 w_st_abs w_in_Math w_co_abs (Nat.le_of_ble_eq_true rfl) (Nat.le_of_ble_eq_true rfl) rfl ?_
      refine x_aload_n 67 C dX2_settle_66 1 rfl rfl rfl ?_
      refine x_getI 70 C dX2_settle_67 fl_X2_143 sk_5 rfl rfl ?_
      refine x_icmp_lt 73 97 C dX2_settle_70 (by decide) rfl (fun _ => ?_) (fun _ => ?_)
      · exact x_ls [0, 2] rfl (J1 h)
      · refine x_aload_n 74 C dX2_settle_73 0 rfl rfl rfl ?_
        refine x_getR (c := (S + 10)) 77 C dX2_settle_74 fl_X2_25 hS rfl (of_2_2 hS) rfl ?_
        refine x_iload_n 78 C dX2_settle_77 2 rfl rfl rfl ?_
        refine x_iconst 79 C dX2_settle_78 ci_3 rfl ?_
        refine x_iast 80 C dX2_settle_79 (ok_2_2 hS) (ol_2_2 hS) rfl (fun h4 => ?_)
        refine x_aload_n 81 C dX2_settle_80 0 rfl rfl rfl ?_
        refine x_getR (c := (S + 15)) 84 C dX2_settle_81 fl_X2_41 hS rfl (of_2_7 hS) rfl ?_
        refine x_iload_n 85 C dX2_settle_84 2 rfl rfl rfl ?_
        refine x_iload_n 86 C dX2_settle_85 3 rfl rfl rfl ?_
        refine x_iast 87 C dX2_settle_86 (ok_2_7 hS) (ol_2_7 hS) rfl (fun h5 => ?_)
        refine x_aload_n 88 C dX2_settle_87 0 rfl rfl rfl ?_
        refine x_dup 89 C dX2_settle_88 rfl rfl ?_
        refine x_getI 92 C dX2_settle_89 fl_X2_63 hS rfl rfl ?_
        refine x_iconst 93 C dX2_settle_92 ci_1 rfl ?_
        refine x_iadd 94 C dX2_settle_93 rfl ?_
        refine x_put 97 C dX2_settle_94 fp_X2_63 hS rfl rfl rfl rfl (fun h6 => ?_)
        exact x_ls [0, 2] rfl (J1 h6)
    · refine x_aload_n 24 C dX2_settle_23 0 rfl rfl rfl ?_
      refine x_getR (c := (S + 10)) 27 C dX2_settle_24 fl_X2_25 hS rfl (of_2_2 hS) rfl ?_
      refine x_iload_n 28 C dX2_settle_27 2 rfl rfl rfl ?_
      refine x_iconst 29 C dX2_settle_28 ci_2 rfl ?_
      refine x_iast 30 C dX2_settle_29 (ok_2_2 hS) (ol_2_2 hS) rfl (fun h7 => ?_)
      refine x_aload_n 31 C dX2_settle_30 0 rfl rfl rfl ?_
      refine x_getR (c := (S + 12)) 34 C dX2_settle_31 fl_X2_32 hS rfl (of_2_4 hS) rfl ?_
      refine x_iload_n 35 C dX2_settle_34 2 rfl rfl rfl ?_
      refine x_iconst 36 C dX2_settle_35 ci_0 rfl ?_
      refine x_iast 37 C dX2_settle_36 (ok_2_4 hS) (ol_2_4 hS) rfl (fun h8 => ?_)
      refine x_aload_n 38 C dX2_settle_37 0 rfl rfl rfl ?_
      refine x_getR (c := (S + 15)) 41 C dX2_settle_38 fl_X2_41 hS rfl (of_2_7 hS) rfl ?_
      refine x_iload_n 42 C dX2_settle_41 2 rfl rfl rfl ?_
      refine x_iload_n 43 C dX2_settle_42 3 rfl rfl rfl ?_
      refine x_iast 44 C dX2_settle_43 (ok_2_7 hS) (ol_2_7 hS) rfl (fun h9 => ?_)
      refine x_aload_n 45 C dX2_settle_44 0 rfl rfl rfl ?_
      refine x_dup 46 C dX2_settle_45 rfl rfl ?_
      refine x_getI 49 C dX2_settle_46 fl_X2_60 hS rfl rfl ?_
      refine x_iconst 50 C dX2_settle_49 ci_1 rfl ?_
      refine x_iadd 51 C dX2_settle_50 rfl ?_
      refine x_put 54 C dX2_settle_51 fp_X2_60 hS rfl rfl rfl rfl (fun h10 => ?_)
      refine x_goto 97 C dX2_settle_54 (by decide) ?_
      exact x_ls [0, 2] rfl (J1 h10)
  · exact x_vret C E dX2_settle_9 rfl

def f_X2_startNext (h : Hp) (S : Nat) (a2 : Int32) : Option Hp :=
  fx1 FU (fun s1 (x1 : Int32) =>
    if (h.1 5 7) ≤ x1 then (
      some h)
    else (
      if (6 : Int32) ≤ x1 then (
        some h)
      else (
        ck x1 6 (
          lt1 (fun (u2 : Int32) =>
            nm (x1 + (1 : Int32)) fun x3 =>
            s1 x3) fun k2 =>
          if (ia h (S + 10) x1) = 0 then (
            ck x1 6 (
              if a2 < (ia h 6 x1) then (
                k2 (0 : Int32))
              else (
                ck x1 6 (nm (ux h (S + 10) x1 (1 : Int32)) fun h4 =>
                ck x1 6 (nm (ux h4 (S + 11) x1 (0 : Int32)) fun h5 =>
                ck x1 6 (nm (ux h5 (S + 14) x1 a2) fun h6 =>
                if (h6.1 S 11) < 0 then (
                  some h6)
                else (
                  if (6 : Int32) ≤ (h6.1 S 11) then (
                    some h6)
                  else (
                    ck (h6.1 S 11) 6 (nm (ux h6 (S + 18) (h6.1 S 11) x1) fun h7 =>
                    nm (uf h7 S 11 ((h7.1 S 11) + (1 : Int32))) fun h8 =>
                    some h8)))))))))
          else (
            k2 (0 : Int32)))))) (0 : Int32)
theorem dX2_startNext_0 : decode cX2_startNext 0 = .ok (.iconst 0, 1) := by decide +kernel
theorem dX2_startNext_1 : decode cX2_startNext 1 = .ok (.istore_n 3, 1) := by decide +kernel
theorem dX2_startNext_2 : decode cX2_startNext 2 = .ok (.iload_n 3, 1) := by decide +kernel
theorem dX2_startNext_3 : decode cX2_startNext 3 = .ok (.aload_n 1, 1) := by decide +kernel
theorem dX2_startNext_4 : decode cX2_startNext 4 = .ok (.getfield 66, 3) := by decide +kernel
theorem dX2_startNext_7 : decode cX2_startNext 7 = .ok (.if_icmp .ge 92, 3) := by decide +kernel
theorem dX2_startNext_10 : decode cX2_startNext 10 = .ok (.iload_n 3, 1) := by decide +kernel
theorem dX2_startNext_11 : decode cX2_startNext 11 = .ok (.bipush 6, 2) := by decide +kernel
theorem dX2_startNext_13 : decode cX2_startNext 13 = .ok (.if_icmp .ge 86, 3) := by decide +kernel
theorem dX2_startNext_16 : decode cX2_startNext 16 = .ok (.aload_n 0, 1) := by decide +kernel
theorem dX2_startNext_17 : decode cX2_startNext 17 = .ok (.getfield 25, 3) := by decide +kernel
theorem dX2_startNext_20 : decode cX2_startNext 20 = .ok (.iload_n 3, 1) := by decide +kernel
theorem dX2_startNext_21 : decode cX2_startNext 21 = .ok (.iaload, 1) := by decide +kernel
theorem dX2_startNext_22 : decode cX2_startNext 22 = .ok (.ifCond .ne 71, 3) := by decide +kernel
theorem dX2_startNext_25 : decode cX2_startNext 25 = .ok (.aload_n 1, 1) := by decide +kernel
theorem dX2_startNext_26 : decode cX2_startNext 26 = .ok (.getfield 149, 3) := by decide +kernel
theorem dX2_startNext_29 : decode cX2_startNext 29 = .ok (.iload_n 3, 1) := by decide +kernel
theorem dX2_startNext_30 : decode cX2_startNext 30 = .ok (.iaload, 1) := by decide +kernel
theorem dX2_startNext_31 : decode cX2_startNext 31 = .ok (.iload_n 2, 1) := by decide +kernel
theorem dX2_startNext_32 : decode cX2_startNext 32 = .ok (.if_icmp .gt 61, 3) := by decide +kernel
theorem dX2_startNext_35 : decode cX2_startNext 35 = .ok (.aload_n 0, 1) := by decide +kernel
theorem dX2_startNext_36 : decode cX2_startNext 36 = .ok (.getfield 25, 3) := by decide +kernel
theorem dX2_startNext_39 : decode cX2_startNext 39 = .ok (.iload_n 3, 1) := by decide +kernel
theorem dX2_startNext_40 : decode cX2_startNext 40 = .ok (.iconst 1, 1) := by decide +kernel
theorem dX2_startNext_41 : decode cX2_startNext 41 = .ok (.iastore, 1) := by decide +kernel
theorem dX2_startNext_42 : decode cX2_startNext 42 = .ok (.aload_n 0, 1) := by decide +kernel
theorem dX2_startNext_43 : decode cX2_startNext 43 = .ok (.getfield 29, 3) := by decide +kernel
theorem dX2_startNext_46 : decode cX2_startNext 46 = .ok (.iload_n 3, 1) := by decide +kernel
theorem dX2_startNext_47 : decode cX2_startNext 47 = .ok (.iconst 0, 1) := by decide +kernel
theorem dX2_startNext_48 : decode cX2_startNext 48 = .ok (.iastore, 1) := by decide +kernel
theorem dX2_startNext_49 : decode cX2_startNext 49 = .ok (.aload_n 0, 1) := by decide +kernel
theorem dX2_startNext_50 : decode cX2_startNext 50 = .ok (.getfield 38, 3) := by decide +kernel
theorem dX2_startNext_53 : decode cX2_startNext 53 = .ok (.iload_n 3, 1) := by decide +kernel
theorem dX2_startNext_54 : decode cX2_startNext 54 = .ok (.iload_n 2, 1) := by decide +kernel
theorem dX2_startNext_55 : decode cX2_startNext 55 = .ok (.iastore, 1) := by decide +kernel
theorem dX2_startNext_56 : decode cX2_startNext 56 = .ok (.aload_n 0, 1) := by decide +kernel
theorem dX2_startNext_57 : decode cX2_startNext 57 = .ok (.getfield 53, 3) := by decide +kernel
theorem dX2_startNext_60 : decode cX2_startNext 60 = .ok (.ifCond .lt 32, 3) := by decide +kernel
theorem dX2_startNext_63 : decode cX2_startNext 63 = .ok (.aload_n 0, 1) := by decide +kernel
theorem dX2_startNext_64 : decode cX2_startNext 64 = .ok (.getfield 53, 3) := by decide +kernel
theorem dX2_startNext_67 : decode cX2_startNext 67 = .ok (.bipush 6, 2) := by decide +kernel
theorem dX2_startNext_69 : decode cX2_startNext 69 = .ok (.if_icmp .ge 23, 3) := by decide +kernel
theorem dX2_startNext_72 : decode cX2_startNext 72 = .ok (.aload_n 0, 1) := by decide +kernel
theorem dX2_startNext_73 : decode cX2_startNext 73 = .ok (.getfield 50, 3) := by decide +kernel
theorem dX2_startNext_76 : decode cX2_startNext 76 = .ok (.aload_n 0, 1) := by decide +kernel
theorem dX2_startNext_77 : decode cX2_startNext 77 = .ok (.getfield 53, 3) := by decide +kernel
theorem dX2_startNext_80 : decode cX2_startNext 80 = .ok (.iload_n 3, 1) := by decide +kernel
theorem dX2_startNext_81 : decode cX2_startNext 81 = .ok (.iastore, 1) := by decide +kernel
theorem dX2_startNext_82 : decode cX2_startNext 82 = .ok (.aload_n 0, 1) := by decide +kernel
theorem dX2_startNext_83 : decode cX2_startNext 83 = .ok (.dup, 1) := by decide +kernel
theorem dX2_startNext_84 : decode cX2_startNext 84 = .ok (.getfield 53, 3) := by decide +kernel
theorem dX2_startNext_87 : decode cX2_startNext 87 = .ok (.iconst 1, 1) := by decide +kernel
theorem dX2_startNext_88 : decode cX2_startNext 88 = .ok (.iadd, 1) := by decide +kernel
theorem dX2_startNext_89 : decode cX2_startNext 89 = .ok (.putfield 53, 3) := by decide +kernel
theorem dX2_startNext_92 : decode cX2_startNext 92 = .ok (.return_, 1) := by decide +kernel
theorem dX2_startNext_93 : decode cX2_startNext 93 = .ok (.iinc 3 1, 3) := by decide +kernel
theorem dX2_startNext_96 : decode cX2_startNext 96 = .ok (.goto (-94), 3) := by decide +kernel
theorem dX2_startNext_99 : decode cX2_startNext 99 = .ok (.return_, 1) := by decide +kernel
set_option maxRecDepth 20000 in
theorem m_X2_startNext {h : Hp} {S : Nat} {a2 : Int32} (hS : sk S = 2) {u : Hp} (hu : f_X2_startNext h S a2 = some u) : Ct yX2_startNext cX2_startNext 4 none 0 [.ref S, .ref 5, .int a2] h (eV u) := by
  refine ct_of eV hu (by decide) (Nat.le_of_ble_eq_true rfl) (fun κ hn C E => ?_)
  have n3 : 3 < kn κ := by rw [hn]; decide
  unfold f_X2_startNext
  show Xz κ _ 0 [(0, .ref S), (1, .ref 5), (2, .int a2)] [] h
  refine x_iconst 1 C dX2_startNext_0 ci_0 rfl ?_
  refine x_istore_n 2 [(3, .int (0 : Int32)), (0, .ref S), (1, .ref 5), (2, .int a2)] C dX2_startNext_1 n3 rfl rfl rfl ?_
  refine x_ls [1, 2, 3, 0] rfl (x_fx1 (ls := fun x1 => [(0, .ref S), (1, .ref 5), (2, .int a2), (3, .int x1)]) (st := fun x1 => []) (hh := fun x1 => h) (fun s1 J1 x1 => ?_))
  refine x_iload_n 3 C dX2_startNext_2 3 rfl rfl rfl ?_
  refine x_aload_n 4 C dX2_startNext_3 1 rfl rfl rfl ?_
  refine x_getI 7 C dX2_startNext_4 fl_X2_66 sk_5 rfl rfl ?_
  refine x_icmp_ge 10 99 C dX2_startNext_7 (by decide) rfl (fun _ => ?_) (fun _ => ?_)
  · exact x_vret C E dX2_startNext_99 rfl
  · refine x_iload_n 11 C dX2_startNext_10 3 rfl rfl rfl ?_
    refine x_bipush 13 C dX2_startNext_11 cb_6 rfl ?_
    refine x_icmp_ge 16 99 C dX2_startNext_13 (by decide) rfl (fun _ => ?_) (fun _ => ?_)
    · exact x_vret C E dX2_startNext_99 rfl
    · refine x_aload_n 17 C dX2_startNext_16 0 rfl rfl rfl ?_
      refine x_getR (c := (S + 10)) 20 C dX2_startNext_17 fl_X2_25 hS rfl (of_2_2 hS) rfl ?_
      refine x_iload_n 21 C dX2_startNext_20 3 rfl rfl rfl ?_
      refine x_iald 22 C dX2_startNext_21 (ok_2_2 hS) (ol_2_2 hS) rfl ?_
      refine x_lt1 (q := 93) (ls := fun u2 => [(0, .ref S), (1, .ref 5), (2, .int a2), (3, .int x1)]) (st := fun u2 => []) (hh := fun u2 => h) (fun u2 => ?_) (fun k2 J2 => ?_)
      · refine x_iinc 96 (fun x3 => [(3, .int x3), (0, .ref S), (1, .ref 5), (2, .int a2)]) C dX2_startNext_93 3 rfl ci_1 n3 (fun _ => rfl) rfl (fun x3 => ?_)
        refine x_goto 2 C dX2_startNext_96 (by decide) ?_
        exact x_ls [1, 2, 3, 0] rfl (J1 x3)
      refine x_if_ne 25 93 C dX2_startNext_22 (by decide) rfl (fun _ => ?_) (fun _ => ?_)
      · exact x_ls [0, 1, 2, 3] rfl (J2 (0 : Int32))
      · refine x_aload_n 26 C dX2_startNext_25 1 rfl rfl rfl ?_
        refine x_getR (c := 6) 29 C dX2_startNext_26 fl_X2_149 sk_5 rfl sr_5_0 rfl ?_
        refine x_iload_n 30 C dX2_startNext_29 3 rfl rfl rfl ?_
        refine x_iald 31 C dX2_startNext_30 sk_6 sl_6 rfl ?_
        refine x_iload_n 32 C dX2_startNext_31 2 rfl rfl rfl ?_
        refine x_icmp_gt 35 93 C dX2_startNext_32 (by decide) rfl (fun _ => ?_) (fun _ => ?_)
        · exact x_ls [0, 1, 2, 3] rfl (J2 (0 : Int32))
        · refine x_aload_n 36 C dX2_startNext_35 0 rfl rfl rfl ?_
          refine x_getR (c := (S + 10)) 39 C dX2_startNext_36 fl_X2_25 hS rfl (of_2_2 hS) rfl ?_
          refine x_iload_n 40 C dX2_startNext_39 3 rfl rfl rfl ?_
          refine x_iconst 41 C dX2_startNext_40 ci_1 rfl ?_
          refine x_iast 42 C dX2_startNext_41 (ok_2_2 hS) (ol_2_2 hS) rfl (fun h4 => ?_)
          refine x_aload_n 43 C dX2_startNext_42 0 rfl rfl rfl ?_
          refine x_getR (c := (S + 11)) 46 C dX2_startNext_43 fl_X2_29 hS rfl (of_2_3 hS) rfl ?_
          refine x_iload_n 47 C dX2_startNext_46 3 rfl rfl rfl ?_
          refine x_iconst 48 C dX2_startNext_47 ci_0 rfl ?_
          refine x_iast 49 C dX2_startNext_48 (ok_2_3 hS) (ol_2_3 hS) rfl (fun h5 => ?_)
          refine x_aload_n 50 C dX2_startNext_49 0 rfl rfl rfl ?_
          refine x_getR (c := (S + 14)) 53 C dX2_startNext_50 fl_X2_38 hS rfl (of_2_6 hS) rfl ?_
          refine x_iload_n 54 C dX2_startNext_53 3 rfl rfl rfl ?_
          refine x_iload_n 55 C dX2_startNext_54 2 rfl rfl rfl ?_
          refine x_iast 56 C dX2_startNext_55 (ok_2_6 hS) (ol_2_6 hS) rfl (fun h6 => ?_)
          refine x_aload_n 57 C dX2_startNext_56 0 rfl rfl rfl ?_
          refine x_getI 60 C dX2_startNext_57 fl_X2_53 hS rfl rfl ?_
          refine x_if_lt 63 92 C dX2_startNext_60 (by decide) rfl (fun _ => ?_) (fun _ => ?_)
          · exact x_vret C E dX2_startNext_92 rfl
          · refine x_aload_n 64 C dX2_startNext_63 0 rfl rfl rfl ?_
            refine x_getI 67 C dX2_startNext_64 fl_X2_53 hS rfl rfl ?_
            refine x_bipush 69 C dX2_startNext_67 cb_6 rfl ?_
            refine x_icmp_ge 72 92 C dX2_startNext_69 (by decide) rfl (fun _ => ?_) (fun _ => ?_)
            · exact x_vret C E dX2_startNext_92 rfl
            · refine x_aload_n 73 C dX2_startNext_72 0 rfl rfl rfl ?_
              refine x_getR (c := (S + 18)) 76 C dX2_startNext_73 fl_X2_50 hS rfl (of_2_10 hS) rfl ?_
              refine x_aload_n 77 C dX2_startNext_76 0 rfl rfl rfl ?_
              refine x_getI 80 C dX2_startNext_77 fl_X2_53 hS rfl rfl ?_
              refine x_iload_n 81 C dX2_startNext_80 3 rfl rfl rfl ?_
              refine x_iast 82 C dX2_startNext_81 (ok_2_10 hS) (ol_2_10 hS) rfl (fun h7 => ?_)
              refine x_aload_n 83 C dX2_startNext_82 0 rfl rfl rfl ?_
              refine x_dup 84 C dX2_startNext_83 rfl rfl ?_
              refine x_getI 87 C dX2_startNext_84 fl_X2_53 hS rfl rfl ?_
              refine x_iconst 88 C dX2_startNext_87 ci_1 rfl ?_
              refine x_iadd 89 C dX2_startNext_88 rfl ?_
              refine x_put 92 C dX2_startNext_89 fp_X2_53 hS rfl rfl rfl rfl (fun h8 => ?_)
              exact x_vret C E dX2_startNext_92 rfl
