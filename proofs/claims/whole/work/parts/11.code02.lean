def f_X2_perform (h : Hp) (S : Nat) (a2 : Int32) (a3 : Int32) (a4 : Int32) (a5 : Int32) : Option Hp :=
  if a2 < 0 then (
    some h)
  else (
    if a2 < (6 : Int32) then (
      ck a2 6 (
        nm (ia h 7 a2) fun x1 =>
        lt1 (fun (h2 : Hp) =>
          lt1 (fun (x3 : Int32) =>
            ck a2 6 (
              ck a2 6 (
                if (ia h2 (S + 12) a2) ≤ x3 then (
                  ck a2 6 (
                    if (0 - x3) ≤ (ia h2 (S + 12) a2) then (
                      ck a2 6 (nm (ux h2 (S + 12) a2 ((ia h2 (S + 12) a2) + (0 : Int32))) fun h4 =>
                      some h4))
                    else (
                      ck a2 6 (nm (ux h2 (S + 12) a2 ((ia h2 (S + 12) a2) + (-1 : Int32))) fun h5 =>
                      some h5))))
                else (
                  ck a2 6 (nm (ux h2 (S + 12) a2 ((ia h2 (S + 12) a2) + (1 : Int32))) fun h6 =>
                  some h6))))) fun k2 =>
          if x1 = 0 then (
            k2 (2 : Int32))
          else (
            k2 (0 : Int32))) fun k1 =>
        if a3 = 0 then (
          ck a2 6 (
            lt1 (fun (x13 : Int32) =>
              nm ((((ia h (S + 11) a2) + (1 : Int32)) + x13) + a4) fun x14 =>
              ck a2 6 (
                nm ((jmin x14 (jmin (h.1 5 9) (a5 - (1 : Int32)))) - (ia h (S + 11) a2)) fun x15 =>
                ck a2 6 (
                  ck a2 6 (nm (ux h (S + 11) a2 ((ia h (S + 11) a2) + x15)) fun h16 =>
                  nm (uf h16 S 12 ((h16.1 S 12) + x15)) fun h17 =>
                  ck a2 6 (
                    lt1 (fun (x18 : Int32) =>
                      ck a2 6 (nm (ux h17 (S + 16) a2 ((ia h17 (S + 16) a2) + x18)) fun h19 =>
                      ck a2 6 (
                        lt1 (fun (x20 : Int32) =>
                          ck a2 6 (nm (ux h19 (S + 12) a2 ((ia h19 (S + 12) a2) + x20)) fun h21 =>
                          k1 h21)) fun k8 =>
                        if x1 = (1 : Int32) then (
                          k8 x15)
                        else (
                          k8 (0 : Int32))))) fun k7 =>
                    if x15 = 0 then (
                      k7 (1 : Int32))
                    else (
                      k7 (0 : Int32))))))) fun k6 =>
            if x1 = (1 : Int32) then (
              k6 (1 : Int32))
            else (
              k6 (0 : Int32))))
        else (
          if a3 = (1 : Int32) then (
            ck a2 6 (
              ck a2 6 (
                lt1 (fun (x11 : Int32) =>
                  ck a2 6 (nm (ux h (S + 12) a2 ((ia h (S + 12) a2) + x11)) fun h12 =>
                  k1 h12)) fun k5 =>
                if (ia h (S + 12) a2) ≤ 0 then (
                  ck a2 6 (
                    if 0 ≤ (ia h (S + 12) a2) then (
                      k5 (0 : Int32))
                    else (
                      k5 (1 : Int32))))
                else (
                  k5 (-1 : Int32)))))
          else (
            ck a2 6 (
              lt1 (fun (x7 : Int32) =>
                nm (((1 : Int32) + ((ia h (S + 13) a2) / (3 : Int32))) + x7) fun x8 =>
                ck a2 6 (
                  lt1 (fun (x9 : Int32) =>
                    ck a2 6 (nm (ux h (S + 12) a2 ((ia h (S + 12) a2) + x9)) fun h10 =>
                    k1 h10)) fun k4 =>
                  if a3 = (3 : Int32) then (
                    k4 x8)
                  else (
                    k4 (0 - x8)))) fun k3 =>
              if x1 = (2 : Int32) then (
                k3 (1 : Int32))
              else (
                k3 (0 : Int32)))))))
    else (
      some h))
theorem dX2_perform_0 : decode cX2_perform 0 = .ok (.iload_n 2, 1) := by decide +kernel
theorem dX2_perform_1 : decode cX2_perform 1 = .ok (.ifCond .lt 9, 3) := by decide +kernel
theorem dX2_perform_4 : decode cX2_perform 4 = .ok (.iload_n 2, 1) := by decide +kernel
theorem dX2_perform_5 : decode cX2_perform 5 = .ok (.bipush 6, 2) := by decide +kernel
theorem dX2_perform_7 : decode cX2_perform 7 = .ok (.if_icmp .lt 4, 3) := by decide +kernel
theorem dX2_perform_10 : decode cX2_perform 10 = .ok (.return_, 1) := by decide +kernel
theorem dX2_perform_11 : decode cX2_perform 11 = .ok (.aload_n 1, 1) := by decide +kernel
theorem dX2_perform_12 : decode cX2_perform 12 = .ok (.getfield 122, 3) := by decide +kernel
theorem dX2_perform_15 : decode cX2_perform 15 = .ok (.iload_n 2, 1) := by decide +kernel
theorem dX2_perform_16 : decode cX2_perform 16 = .ok (.iaload, 1) := by decide +kernel
theorem dX2_perform_17 : decode cX2_perform 17 = .ok (.istore 6, 2) := by decide +kernel
theorem dX2_perform_19 : decode cX2_perform 19 = .ok (.iload_n 3, 1) := by decide +kernel
theorem dX2_perform_20 : decode cX2_perform 20 = .ok (.ifCond .ne 118, 3) := by decide +kernel
theorem dX2_perform_23 : decode cX2_perform 23 = .ok (.aload_n 0, 1) := by decide +kernel
theorem dX2_perform_24 : decode cX2_perform 24 = .ok (.getfield 29, 3) := by decide +kernel
theorem dX2_perform_27 : decode cX2_perform 27 = .ok (.iload_n 2, 1) := by decide +kernel
theorem dX2_perform_28 : decode cX2_perform 28 = .ok (.iaload, 1) := by decide +kernel
theorem dX2_perform_29 : decode cX2_perform 29 = .ok (.iconst 1, 1) := by decide +kernel
theorem dX2_perform_30 : decode cX2_perform 30 = .ok (.iadd, 1) := by decide +kernel
theorem dX2_perform_31 : decode cX2_perform 31 = .ok (.iload 6, 2) := by decide +kernel
theorem dX2_perform_33 : decode cX2_perform 33 = .ok (.iconst 1, 1) := by decide +kernel
theorem dX2_perform_34 : decode cX2_perform 34 = .ok (.if_icmp .ne 7, 3) := by decide +kernel
theorem dX2_perform_37 : decode cX2_perform 37 = .ok (.iconst 1, 1) := by decide +kernel
theorem dX2_perform_38 : decode cX2_perform 38 = .ok (.goto 4, 3) := by decide +kernel
theorem dX2_perform_41 : decode cX2_perform 41 = .ok (.iconst 0, 1) := by decide +kernel
theorem dX2_perform_42 : decode cX2_perform 42 = .ok (.iadd, 1) := by decide +kernel
theorem dX2_perform_43 : decode cX2_perform 43 = .ok (.iload 4, 2) := by decide +kernel
theorem dX2_perform_45 : decode cX2_perform 45 = .ok (.iadd, 1) := by decide +kernel
theorem dX2_perform_46 : decode cX2_perform 46 = .ok (.istore 7, 2) := by decide +kernel
theorem dX2_perform_48 : decode cX2_perform 48 = .ok (.iload 7, 2) := by decide +kernel
theorem dX2_perform_50 : decode cX2_perform 50 = .ok (.aload_n 1, 1) := by decide +kernel
theorem dX2_perform_51 : decode cX2_perform 51 = .ok (.getfield 125, 3) := by decide +kernel
theorem dX2_perform_54 : decode cX2_perform 54 = .ok (.iload 5, 2) := by decide +kernel
theorem dX2_perform_56 : decode cX2_perform 56 = .ok (.iconst 1, 1) := by decide +kernel
theorem dX2_perform_57 : decode cX2_perform 57 = .ok (.isub, 1) := by decide +kernel
theorem dX2_perform_58 : decode cX2_perform 58 = .ok (.invokestatic 71, 3) := by decide +kernel
theorem dX2_perform_61 : decode cX2_perform 61 = .ok (.invokestatic 71, 3) := by decide +kernel
theorem dX2_perform_64 : decode cX2_perform 64 = .ok (.aload_n 0, 1) := by decide +kernel
theorem dX2_perform_65 : decode cX2_perform 65 = .ok (.getfield 29, 3) := by decide +kernel
theorem dX2_perform_68 : decode cX2_perform 68 = .ok (.iload_n 2, 1) := by decide +kernel
theorem dX2_perform_69 : decode cX2_perform 69 = .ok (.iaload, 1) := by decide +kernel
theorem dX2_perform_70 : decode cX2_perform 70 = .ok (.isub, 1) := by decide +kernel
theorem dX2_perform_71 : decode cX2_perform 71 = .ok (.istore 8, 2) := by decide +kernel
theorem dX2_perform_73 : decode cX2_perform 73 = .ok (.aload_n 0, 1) := by decide +kernel
theorem dX2_perform_74 : decode cX2_perform 74 = .ok (.getfield 29, 3) := by decide +kernel
theorem dX2_perform_77 : decode cX2_perform 77 = .ok (.iload_n 2, 1) := by decide +kernel
theorem dX2_perform_78 : decode cX2_perform 78 = .ok (.dup2, 1) := by decide +kernel
theorem dX2_perform_79 : decode cX2_perform 79 = .ok (.iaload, 1) := by decide +kernel
theorem dX2_perform_80 : decode cX2_perform 80 = .ok (.iload 8, 2) := by decide +kernel
theorem dX2_perform_82 : decode cX2_perform 82 = .ok (.iadd, 1) := by decide +kernel
theorem dX2_perform_83 : decode cX2_perform 83 = .ok (.iastore, 1) := by decide +kernel
theorem dX2_perform_84 : decode cX2_perform 84 = .ok (.aload_n 0, 1) := by decide +kernel
theorem dX2_perform_85 : decode cX2_perform 85 = .ok (.dup, 1) := by decide +kernel
theorem dX2_perform_86 : decode cX2_perform 86 = .ok (.getfield 57, 3) := by decide +kernel
theorem dX2_perform_89 : decode cX2_perform 89 = .ok (.iload 8, 2) := by decide +kernel
theorem dX2_perform_91 : decode cX2_perform 91 = .ok (.iadd, 1) := by decide +kernel
theorem dX2_perform_92 : decode cX2_perform 92 = .ok (.putfield 57, 3) := by decide +kernel
theorem dX2_perform_95 : decode cX2_perform 95 = .ok (.aload_n 0, 1) := by decide +kernel
theorem dX2_perform_96 : decode cX2_perform 96 = .ok (.getfield 44, 3) := by decide +kernel
theorem dX2_perform_99 : decode cX2_perform 99 = .ok (.iload_n 2, 1) := by decide +kernel
theorem dX2_perform_100 : decode cX2_perform 100 = .ok (.dup2, 1) := by decide +kernel
theorem dX2_perform_101 : decode cX2_perform 101 = .ok (.iaload, 1) := by decide +kernel
theorem dX2_perform_102 : decode cX2_perform 102 = .ok (.iload 8, 2) := by decide +kernel
theorem dX2_perform_104 : decode cX2_perform 104 = .ok (.ifCond .ne 7, 3) := by decide +kernel
theorem dX2_perform_107 : decode cX2_perform 107 = .ok (.iconst 1, 1) := by decide +kernel
theorem dX2_perform_108 : decode cX2_perform 108 = .ok (.goto 4, 3) := by decide +kernel
theorem dX2_perform_111 : decode cX2_perform 111 = .ok (.iconst 0, 1) := by decide +kernel
theorem dX2_perform_112 : decode cX2_perform 112 = .ok (.iadd, 1) := by decide +kernel
theorem dX2_perform_113 : decode cX2_perform 113 = .ok (.iastore, 1) := by decide +kernel
theorem dX2_perform_114 : decode cX2_perform 114 = .ok (.aload_n 0, 1) := by decide +kernel
theorem dX2_perform_115 : decode cX2_perform 115 = .ok (.getfield 32, 3) := by decide +kernel
theorem dX2_perform_118 : decode cX2_perform 118 = .ok (.iload_n 2, 1) := by decide +kernel
theorem dX2_perform_119 : decode cX2_perform 119 = .ok (.dup2, 1) := by decide +kernel
theorem dX2_perform_120 : decode cX2_perform 120 = .ok (.iaload, 1) := by decide +kernel
theorem dX2_perform_121 : decode cX2_perform 121 = .ok (.iload 6, 2) := by decide +kernel
theorem dX2_perform_123 : decode cX2_perform 123 = .ok (.iconst 1, 1) := by decide +kernel
theorem dX2_perform_124 : decode cX2_perform 124 = .ok (.if_icmp .ne 8, 3) := by decide +kernel
theorem dX2_perform_127 : decode cX2_perform 127 = .ok (.iload 8, 2) := by decide +kernel
theorem dX2_perform_129 : decode cX2_perform 129 = .ok (.goto 4, 3) := by decide +kernel
theorem dX2_perform_132 : decode cX2_perform 132 = .ok (.iconst 0, 1) := by decide +kernel
theorem dX2_perform_133 : decode cX2_perform 133 = .ok (.iadd, 1) := by decide +kernel
theorem dX2_perform_134 : decode cX2_perform 134 = .ok (.iastore, 1) := by decide +kernel
theorem dX2_perform_135 : decode cX2_perform 135 = .ok (.goto 93, 3) := by decide +kernel
theorem dX2_perform_138 : decode cX2_perform 138 = .ok (.iload_n 3, 1) := by decide +kernel
theorem dX2_perform_139 : decode cX2_perform 139 = .ok (.iconst 1, 1) := by decide +kernel
theorem dX2_perform_140 : decode cX2_perform 140 = .ok (.if_icmp .ne 42, 3) := by decide +kernel
theorem dX2_perform_143 : decode cX2_perform 143 = .ok (.aload_n 0, 1) := by decide +kernel
theorem dX2_perform_144 : decode cX2_perform 144 = .ok (.getfield 32, 3) := by decide +kernel
theorem dX2_perform_147 : decode cX2_perform 147 = .ok (.iload_n 2, 1) := by decide +kernel
theorem dX2_perform_148 : decode cX2_perform 148 = .ok (.dup2, 1) := by decide +kernel
theorem dX2_perform_149 : decode cX2_perform 149 = .ok (.iaload, 1) := by decide +kernel
theorem dX2_perform_150 : decode cX2_perform 150 = .ok (.aload_n 0, 1) := by decide +kernel
theorem dX2_perform_151 : decode cX2_perform 151 = .ok (.getfield 32, 3) := by decide +kernel
theorem dX2_perform_154 : decode cX2_perform 154 = .ok (.iload_n 2, 1) := by decide +kernel
theorem dX2_perform_155 : decode cX2_perform 155 = .ok (.iaload, 1) := by decide +kernel
theorem dX2_perform_156 : decode cX2_perform 156 = .ok (.ifCond .le 7, 3) := by decide +kernel
theorem dX2_perform_159 : decode cX2_perform 159 = .ok (.iconst (-1), 1) := by decide +kernel
theorem dX2_perform_160 : decode cX2_perform 160 = .ok (.goto 17, 3) := by decide +kernel
theorem dX2_perform_163 : decode cX2_perform 163 = .ok (.aload_n 0, 1) := by decide +kernel
theorem dX2_perform_164 : decode cX2_perform 164 = .ok (.getfield 32, 3) := by decide +kernel
theorem dX2_perform_167 : decode cX2_perform 167 = .ok (.iload_n 2, 1) := by decide +kernel
theorem dX2_perform_168 : decode cX2_perform 168 = .ok (.iaload, 1) := by decide +kernel
theorem dX2_perform_169 : decode cX2_perform 169 = .ok (.ifCond .ge 7, 3) := by decide +kernel
theorem dX2_perform_172 : decode cX2_perform 172 = .ok (.iconst 1, 1) := by decide +kernel
theorem dX2_perform_173 : decode cX2_perform 173 = .ok (.goto 4, 3) := by decide +kernel
theorem dX2_perform_176 : decode cX2_perform 176 = .ok (.iconst 0, 1) := by decide +kernel
theorem dX2_perform_177 : decode cX2_perform 177 = .ok (.iadd, 1) := by decide +kernel
theorem dX2_perform_178 : decode cX2_perform 178 = .ok (.iastore, 1) := by decide +kernel
theorem dX2_perform_179 : decode cX2_perform 179 = .ok (.goto 49, 3) := by decide +kernel
theorem dX2_perform_182 : decode cX2_perform 182 = .ok (.iconst 1, 1) := by decide +kernel
theorem dX2_perform_183 : decode cX2_perform 183 = .ok (.aload_n 0, 1) := by decide +kernel
theorem dX2_perform_184 : decode cX2_perform 184 = .ok (.getfield 35, 3) := by decide +kernel
theorem dX2_perform_187 : decode cX2_perform 187 = .ok (.iload_n 2, 1) := by decide +kernel
theorem dX2_perform_188 : decode cX2_perform 188 = .ok (.iaload, 1) := by decide +kernel
theorem dX2_perform_189 : decode cX2_perform 189 = .ok (.iconst 3, 1) := by decide +kernel
theorem dX2_perform_190 : decode cX2_perform 190 = .ok (.idiv, 1) := by decide +kernel
theorem dX2_perform_191 : decode cX2_perform 191 = .ok (.iadd, 1) := by decide +kernel
theorem dX2_perform_192 : decode cX2_perform 192 = .ok (.iload 6, 2) := by decide +kernel
theorem dX2_perform_194 : decode cX2_perform 194 = .ok (.iconst 2, 1) := by decide +kernel
theorem dX2_perform_195 : decode cX2_perform 195 = .ok (.if_icmp .ne 7, 3) := by decide +kernel
theorem dX2_perform_198 : decode cX2_perform 198 = .ok (.iconst 1, 1) := by decide +kernel
theorem dX2_perform_199 : decode cX2_perform 199 = .ok (.goto 4, 3) := by decide +kernel
theorem dX2_perform_202 : decode cX2_perform 202 = .ok (.iconst 0, 1) := by decide +kernel
theorem dX2_perform_203 : decode cX2_perform 203 = .ok (.iadd, 1) := by decide +kernel
theorem dX2_perform_204 : decode cX2_perform 204 = .ok (.istore 7, 2) := by decide +kernel
theorem dX2_perform_206 : decode cX2_perform 206 = .ok (.aload_n 0, 1) := by decide +kernel
theorem dX2_perform_207 : decode cX2_perform 207 = .ok (.getfield 32, 3) := by decide +kernel
theorem dX2_perform_210 : decode cX2_perform 210 = .ok (.iload_n 2, 1) := by decide +kernel
theorem dX2_perform_211 : decode cX2_perform 211 = .ok (.dup2, 1) := by decide +kernel
theorem dX2_perform_212 : decode cX2_perform 212 = .ok (.iaload, 1) := by decide +kernel
theorem dX2_perform_213 : decode cX2_perform 213 = .ok (.iload_n 3, 1) := by decide +kernel
theorem dX2_perform_214 : decode cX2_perform 214 = .ok (.iconst 3, 1) := by decide +kernel
theorem dX2_perform_215 : decode cX2_perform 215 = .ok (.if_icmp .ne 8, 3) := by decide +kernel
theorem dX2_perform_218 : decode cX2_perform 218 = .ok (.iload 7, 2) := by decide +kernel
theorem dX2_perform_220 : decode cX2_perform 220 = .ok (.goto 6, 3) := by decide +kernel
theorem dX2_perform_223 : decode cX2_perform 223 = .ok (.iload 7, 2) := by decide +kernel
theorem dX2_perform_225 : decode cX2_perform 225 = .ok (.ineg, 1) := by decide +kernel
theorem dX2_perform_226 : decode cX2_perform 226 = .ok (.iadd, 1) := by decide +kernel
theorem dX2_perform_227 : decode cX2_perform 227 = .ok (.iastore, 1) := by decide +kernel
theorem dX2_perform_228 : decode cX2_perform 228 = .ok (.iload 6, 2) := by decide +kernel
theorem dX2_perform_230 : decode cX2_perform 230 = .ok (.ifCond .ne 7, 3) := by decide +kernel
theorem dX2_perform_233 : decode cX2_perform 233 = .ok (.iconst 2, 1) := by decide +kernel
theorem dX2_perform_234 : decode cX2_perform 234 = .ok (.goto 4, 3) := by decide +kernel
theorem dX2_perform_237 : decode cX2_perform 237 = .ok (.iconst 0, 1) := by decide +kernel
theorem dX2_perform_238 : decode cX2_perform 238 = .ok (.istore 7, 2) := by decide +kernel
theorem dX2_perform_240 : decode cX2_perform 240 = .ok (.aload_n 0, 1) := by decide +kernel
theorem dX2_perform_241 : decode cX2_perform 241 = .ok (.getfield 32, 3) := by decide +kernel
theorem dX2_perform_244 : decode cX2_perform 244 = .ok (.iload_n 2, 1) := by decide +kernel
theorem dX2_perform_245 : decode cX2_perform 245 = .ok (.dup2, 1) := by decide +kernel
theorem dX2_perform_246 : decode cX2_perform 246 = .ok (.iaload, 1) := by decide +kernel
theorem dX2_perform_247 : decode cX2_perform 247 = .ok (.aload_n 0, 1) := by decide +kernel
theorem dX2_perform_248 : decode cX2_perform 248 = .ok (.getfield 32, 3) := by decide +kernel
theorem dX2_perform_251 : decode cX2_perform 251 = .ok (.iload_n 2, 1) := by decide +kernel
theorem dX2_perform_252 : decode cX2_perform 252 = .ok (.iaload, 1) := by decide +kernel
theorem dX2_perform_253 : decode cX2_perform 253 = .ok (.iload 7, 2) := by decide +kernel
theorem dX2_perform_255 : decode cX2_perform 255 = .ok (.if_icmp .le 7, 3) := by decide +kernel
theorem dX2_perform_258 : decode cX2_perform 258 = .ok (.iconst 1, 1) := by decide +kernel
theorem dX2_perform_259 : decode cX2_perform 259 = .ok (.goto 20, 3) := by decide +kernel
theorem dX2_perform_262 : decode cX2_perform 262 = .ok (.aload_n 0, 1) := by decide +kernel
theorem dX2_perform_263 : decode cX2_perform 263 = .ok (.getfield 32, 3) := by decide +kernel
theorem dX2_perform_266 : decode cX2_perform 266 = .ok (.iload_n 2, 1) := by decide +kernel
theorem dX2_perform_267 : decode cX2_perform 267 = .ok (.iaload, 1) := by decide +kernel
theorem dX2_perform_268 : decode cX2_perform 268 = .ok (.iload 7, 2) := by decide +kernel
theorem dX2_perform_270 : decode cX2_perform 270 = .ok (.ineg, 1) := by decide +kernel
theorem dX2_perform_271 : decode cX2_perform 271 = .ok (.if_icmp .ge 7, 3) := by decide +kernel
theorem dX2_perform_274 : decode cX2_perform 274 = .ok (.iconst (-1), 1) := by decide +kernel
theorem dX2_perform_275 : decode cX2_perform 275 = .ok (.goto 4, 3) := by decide +kernel
theorem dX2_perform_278 : decode cX2_perform 278 = .ok (.iconst 0, 1) := by decide +kernel
theorem dX2_perform_279 : decode cX2_perform 279 = .ok (.iadd, 1) := by decide +kernel
theorem dX2_perform_280 : decode cX2_perform 280 = .ok (.iastore, 1) := by decide +kernel
theorem dX2_perform_281 : decode cX2_perform 281 = .ok (.return_, 1) := by decide +kernel
set_option maxRecDepth 20000 in
theorem m_X2_perform {h : Hp} {S : Nat} {a2 : Int32} {a3 : Int32} {a4 : Int32} {a5 : Int32} (hS : sk S = 2) {u : Hp} (hu : f_X2_perform h S a2 a3 a4 a5 = some u) : Ct yX2_perform cX2_perform 9 none 1 [.ref S, .ref 5, .int a2, .int a3, .int a4, .int a5] h (eV u) := by
  refine ct_of eV hu (by decide) (Nat.le_of_ble_eq_true rfl) (fun κ hn C E => ?_)
  have n6 : 6 < kn κ := by rw [hn]; decide
  have n7 : 7 < kn κ := by rw [hn]; decide
  have n8 : 8 < kn κ := by rw [hn]; decide
  unfold f_X2_perform
  show Xz κ _ 0 [(0, .ref S), (1, .ref 5), (2, .int a2), (3, .int a3), (4, .int a4), (5, .int a5)] [] h
  refine x_iload_n 1 C dX2_perform_0 2 rfl rfl rfl ?_
  refine x_if_lt 4 10 C dX2_perform_1 (by decide) rfl (fun _ => ?_) (fun _ => ?_)
  · exact x_vret C E dX2_perform_10 rfl
  · refine x_iload_n 5 C dX2_perform_4 2 rfl rfl rfl ?_
    refine x_bipush 7 C dX2_perform_5 cb_6 rfl ?_
    refine x_icmp_lt 10 11 C dX2_perform_7 (by decide) rfl (fun _ => ?_) (fun _ => ?_)
    · refine x_aload_n 12 C dX2_perform_11 1 rfl rfl rfl ?_
      refine x_getR (c := 7) 15 C dX2_perform_12 fl_X2_122 sk_5 rfl sr_5_1 rfl ?_
      refine x_iload_n 16 C dX2_perform_15 2 rfl rfl rfl ?_
      refine x_iald 17 C dX2_perform_16 sk_7 sl_7 rfl ?_
      refine x_ni (fun x1 => ?_)
      refine x_istore 19 [(6, .int x1), (0, .ref S), (1, .ref 5), (2, .int a2), (3, .int a3), (4, .int a4), (5, .int a5)] C dX2_perform_17 n6 rfl rfl ?_
      refine x_iload_n 20 C dX2_perform_19 4 rfl rfl rfl ?_
      refine x_lt1 (q := 228) (ls := fun h2 => [(0, .ref S), (2, .int a2), (6, .int x1)]) (st := fun h2 => []) (hh := fun h2 => h2) (fun h2 => ?_) (fun k1 J1 => ?_)
      · refine x_iload 230 C dX2_perform_228 2 rfl rfl ?_
        refine x_lt1 (q := 238) (ls := fun x3 => [(0, .ref S), (2, .int a2)]) (st := fun x3 => [.int x3]) (hh := fun x3 => h2) (fun x3 => ?_) (fun k2 J2 => ?_)
        · refine x_istore 240 [(7, .int x3), (0, .ref S), (2, .int a2)] C dX2_perform_238 n7 rfl rfl ?_
          refine x_aload_n 241 C dX2_perform_240 1 rfl rfl rfl ?_
          refine x_getR (c := (S + 12)) 244 C dX2_perform_241 fl_X2_32 hS rfl (of_2_4 hS) rfl ?_
          refine x_iload_n 245 C dX2_perform_244 2 rfl rfl rfl ?_
          refine x_dup2 246 C dX2_perform_245 rfl rfl rfl ?_
          refine x_iald 247 C dX2_perform_246 (ok_2_4 hS) (ol_2_4 hS) rfl ?_
          refine x_aload_n 248 C dX2_perform_247 1 rfl rfl rfl ?_
          refine x_getR (c := (S + 12)) 251 C dX2_perform_248 fl_X2_32 hS rfl (of_2_4 hS) rfl ?_
          refine x_iload_n 252 C dX2_perform_251 2 rfl rfl rfl ?_
          refine x_iald 253 C dX2_perform_252 (ok_2_4 hS) (ol_2_4 hS) rfl ?_
          refine x_iload 255 C dX2_perform_253 0 rfl rfl ?_
          refine x_icmp_le 258 262 C dX2_perform_255 (by decide) rfl (fun _ => ?_) (fun _ => ?_)
          · refine x_aload_n 263 C dX2_perform_262 1 rfl rfl rfl ?_
            refine x_getR (c := (S + 12)) 266 C dX2_perform_263 fl_X2_32 hS rfl (of_2_4 hS) rfl ?_
            refine x_iload_n 267 C dX2_perform_266 2 rfl rfl rfl ?_
            refine x_iald 268 C dX2_perform_267 (ok_2_4 hS) (ol_2_4 hS) rfl ?_
            refine x_iload 270 C dX2_perform_268 0 rfl rfl ?_
            refine x_ineg 271 C dX2_perform_270 rfl ?_
            refine x_icmp_ge 274 278 C dX2_perform_271 (by decide) rfl (fun _ => ?_) (fun _ => ?_)
            · refine x_iconst 279 C dX2_perform_278 ci_0 rfl ?_
              refine x_iadd 280 C dX2_perform_279 rfl ?_
              refine x_iast 281 C dX2_perform_280 (ok_2_4 hS) (ol_2_4 hS) rfl (fun h4 => ?_)
              exact x_vret C E dX2_perform_281 rfl
            · refine x_iconst 275 C dX2_perform_274 ci_m1 rfl ?_
              refine x_goto 279 C dX2_perform_275 (by decide) ?_
              refine x_iadd 280 C dX2_perform_279 rfl ?_
              refine x_iast 281 C dX2_perform_280 (ok_2_4 hS) (ol_2_4 hS) rfl (fun h5 => ?_)
              exact x_vret C E dX2_perform_281 rfl
          · refine x_iconst 259 C dX2_perform_258 ci_1 rfl ?_
            refine x_goto 279 C dX2_perform_259 (by decide) ?_
            refine x_iadd 280 C dX2_perform_279 rfl ?_
            refine x_iast 281 C dX2_perform_280 (ok_2_4 hS) (ol_2_4 hS) rfl (fun h6 => ?_)
            exact x_vret C E dX2_perform_281 rfl
        refine x_if_ne 233 237 C dX2_perform_230 (by decide) rfl (fun _ => ?_) (fun _ => ?_)
        · refine x_iconst 238 C dX2_perform_237 ci_0 rfl ?_
          exact x_ls [0, 1] rfl (J2 (0 : Int32))
        · refine x_iconst 234 C dX2_perform_233 ci_2 rfl ?_
          refine x_goto 238 C dX2_perform_234 (by decide) ?_
          exact x_ls [0, 1] rfl (J2 (2 : Int32))
      refine x_if_ne 23 138 C dX2_perform_20 (by decide) rfl (fun _ => ?_) (fun _ => ?_)
      · refine x_iload_n 139 C dX2_perform_138 4 rfl rfl rfl ?_
        refine x_iconst 140 C dX2_perform_139 ci_1 rfl ?_
        refine x_icmp_ne 143 182 C dX2_perform_140 (by decide) rfl (fun _ => ?_) (fun _ => ?_)
        · refine x_iconst 183 C dX2_perform_182 ci_1 rfl ?_
          refine x_aload_n 184 C dX2_perform_183 1 rfl rfl rfl ?_
          refine x_getR (c := (S + 13)) 187 C dX2_perform_184 fl_X2_35 hS rfl (of_2_5 hS) rfl ?_
          refine x_iload_n 188 C dX2_perform_187 3 rfl rfl rfl ?_
          refine x_iald 189 C dX2_perform_188 (ok_2_5 hS) (ol_2_5 hS) rfl ?_
          refine x_iconst 190 C dX2_perform_189 ci_3 rfl ?_
          refine x_idiv 191 C dX2_perform_190 nz_3 rfl ?_
          refine x_iadd 192 C dX2_perform_191 rfl ?_
          refine x_iload 194 C dX2_perform_192 0 rfl rfl ?_
          refine x_iconst 195 C dX2_perform_194 ci_2 rfl ?_
          refine x_lt1 (q := 203) (ls := fun x7 => [(0, .ref S), (2, .int a2), (3, .int a3), (6, .int x1)]) (st := fun x7 => [.int x7, .int ((1 : Int32) + ((ia h (S + 13) a2) / (3 : Int32)))]) (hh := fun x7 => h) (fun x7 => ?_) (fun k3 J3 => ?_)
          · refine x_iadd 204 C dX2_perform_203 rfl ?_
            refine x_ni (fun x8 => ?_)
            refine x_istore 206 [(7, .int x8), (0, .ref S), (2, .int a2), (3, .int a3), (6, .int x1)] C dX2_perform_204 n7 rfl rfl ?_
            refine x_aload_n 207 C dX2_perform_206 1 rfl rfl rfl ?_
            refine x_getR (c := (S + 12)) 210 C dX2_perform_207 fl_X2_32 hS rfl (of_2_4 hS) rfl ?_
            refine x_iload_n 211 C dX2_perform_210 2 rfl rfl rfl ?_
            refine x_dup2 212 C dX2_perform_211 rfl rfl rfl ?_
            refine x_iald 213 C dX2_perform_212 (ok_2_4 hS) (ol_2_4 hS) rfl ?_
            refine x_iload_n 214 C dX2_perform_213 3 rfl rfl rfl ?_
            refine x_iconst 215 C dX2_perform_214 ci_3 rfl ?_
            refine x_lt1 (q := 226) (ls := fun x9 => [(0, .ref S), (2, .int a2), (6, .int x1)]) (st := fun x9 => [.int x9, .int (ia h (S + 12) a2), .int a2, .ref (S + 12)]) (hh := fun x9 => h) (fun x9 => ?_) (fun k4 J4 => ?_)
            · refine x_iadd 227 C dX2_perform_226 rfl ?_
              refine x_iast 228 C dX2_perform_227 (ok_2_4 hS) (ol_2_4 hS) rfl (fun h10 => ?_)
              exact x_ls [0, 1, 2] rfl (J1 h10)
            refine x_icmp_ne 218 223 C dX2_perform_215 (by decide) rfl (fun _ => ?_) (fun _ => ?_)
            · refine x_iload 225 C dX2_perform_223 0 rfl rfl ?_
              refine x_ineg 226 C dX2_perform_225 rfl ?_
              exact x_ls [1, 2, 4] rfl (J4 (0 - x8))
            · refine x_iload 220 C dX2_perform_218 0 rfl rfl ?_
              refine x_goto 226 C dX2_perform_220 (by decide) ?_
              exact x_ls [1, 2, 4] rfl (J4 x8)
          refine x_icmp_ne 198 202 C dX2_perform_195 (by decide) rfl (fun _ => ?_) (fun _ => ?_)
          · refine x_iconst 203 C dX2_perform_202 ci_0 rfl ?_
            exact x_ls [1, 3, 4, 0] rfl (J3 (0 : Int32))
          · refine x_iconst 199 C dX2_perform_198 ci_1 rfl ?_
            refine x_goto 203 C dX2_perform_199 (by decide) ?_
            exact x_ls [1, 3, 4, 0] rfl (J3 (1 : Int32))
        · refine x_aload_n 144 C dX2_perform_143 1 rfl rfl rfl ?_
          refine x_getR (c := (S + 12)) 147 C dX2_perform_144 fl_X2_32 hS rfl (of_2_4 hS) rfl ?_
          refine x_iload_n 148 C dX2_perform_147 3 rfl rfl rfl ?_
          refine x_dup2 149 C dX2_perform_148 rfl rfl rfl ?_
          refine x_iald 150 C dX2_perform_149 (ok_2_4 hS) (ol_2_4 hS) rfl ?_
          refine x_aload_n 151 C dX2_perform_150 1 rfl rfl rfl ?_
          refine x_getR (c := (S + 12)) 154 C dX2_perform_151 fl_X2_32 hS rfl (of_2_4 hS) rfl ?_
          refine x_iload_n 155 C dX2_perform_154 3 rfl rfl rfl ?_
          refine x_iald 156 C dX2_perform_155 (ok_2_4 hS) (ol_2_4 hS) rfl ?_
          refine x_lt1 (q := 177) (ls := fun x11 => [(0, .ref S), (2, .int a2), (6, .int x1)]) (st := fun x11 => [.int x11, .int (ia h (S + 12) a2), .int a2, .ref (S + 12)]) (hh := fun x11 => h) (fun x11 => ?_) (fun k5 J5 => ?_)
          · refine x_iadd 178 C dX2_perform_177 rfl ?_
            refine x_iast 179 C dX2_perform_178 (ok_2_4 hS) (ol_2_4 hS) rfl (fun h12 => ?_)
            refine x_goto 228 C dX2_perform_179 (by decide) ?_
            exact x_ls [0, 1, 2] rfl (J1 h12)
          refine x_if_le 159 163 C dX2_perform_156 (by decide) rfl (fun _ => ?_) (fun _ => ?_)
          · refine x_aload_n 164 C dX2_perform_163 1 rfl rfl rfl ?_
            refine x_getR (c := (S + 12)) 167 C dX2_perform_164 fl_X2_32 hS rfl (of_2_4 hS) rfl ?_
            refine x_iload_n 168 C dX2_perform_167 3 rfl rfl rfl ?_
            refine x_iald 169 C dX2_perform_168 (ok_2_4 hS) (ol_2_4 hS) rfl ?_
            refine x_if_ge 172 176 C dX2_perform_169 (by decide) rfl (fun _ => ?_) (fun _ => ?_)
            · refine x_iconst 177 C dX2_perform_176 ci_0 rfl ?_
              exact x_ls [1, 3, 0] rfl (J5 (0 : Int32))
            · refine x_iconst 173 C dX2_perform_172 ci_1 rfl ?_
              refine x_goto 177 C dX2_perform_173 (by decide) ?_
              exact x_ls [1, 3, 0] rfl (J5 (1 : Int32))
          · refine x_iconst 160 C dX2_perform_159 ci_m1 rfl ?_
            refine x_goto 177 C dX2_perform_160 (by decide) ?_
            exact x_ls [1, 3, 0] rfl (J5 (-1 : Int32))
      · refine x_aload_n 24 C dX2_perform_23 1 rfl rfl rfl ?_
        refine x_getR (c := (S + 11)) 27 C dX2_perform_24 fl_X2_29 hS rfl (of_2_3 hS) rfl ?_
        refine x_iload_n 28 C dX2_perform_27 3 rfl rfl rfl ?_
        refine x_iald 29 C dX2_perform_28 (ok_2_3 hS) (ol_2_3 hS) rfl ?_
        refine x_iconst 30 C dX2_perform_29 ci_1 rfl ?_
        refine x_iadd 31 C dX2_perform_30 rfl ?_
        refine x_iload 33 C dX2_perform_31 0 rfl rfl ?_
        refine x_iconst 34 C dX2_perform_33 ci_1 rfl ?_
        refine x_lt1 (q := 42) (ls := fun x13 => [(0, .ref S), (1, .ref 5), (2, .int a2), (4, .int a4), (5, .int a5), (6, .int x1)]) (st := fun x13 => [.int x13, .int ((ia h (S + 11) a2) + (1 : Int32))]) (hh := fun x13 => h) (fun x13 => ?_) (fun k6 J6 => ?_)
        · refine x_iadd 43 C dX2_perform_42 rfl ?_
          refine x_iload 45 C dX2_perform_43 3 rfl rfl ?_
          refine x_iadd 46 C dX2_perform_45 rfl ?_
          refine x_ni (fun x14 => ?_)
          refine x_istore 48 [(7, .int x14), (0, .ref S), (1, .ref 5), (2, .int a2), (4, .int a4), (5, .int a5), (6, .int x1)] C dX2_perform_46 n7 rfl rfl ?_
          refine x_iload 50 C dX2_perform_48 0 rfl rfl ?_
          refine x_aload_n 51 C dX2_perform_50 2 rfl rfl rfl ?_
          refine x_getI 54 C dX2_perform_51 fl_X2_125 sk_5 rfl rfl ?_
          refine x_iload 56 C dX2_perform_54 5 rfl rfl ?_
          refine x_iconst 57 C dX2_perform_56 ci_1 rfl ?_
          refine x_isub 58 C dX2_perform_57 rfl ?_
          refine x_mmin 61 C dX2_perform_58 mw_X2_71 w_st_min w_in_Math w_co_min (Nat.le_of_ble_eq_true rfl) (Nat.le_of_ble_eq_true rfl) rfl ?_
          refine x_mmin 64 C dX2_perform_61 mw_X2_71 w_st_min w_in_Math w_co_min (Nat.le_of_ble_eq_true rfl) (Nat.le_of_ble_eq_true rfl) rfl ?_
          refine x_aload_n 65 C dX2_perform_64 1 rfl rfl rfl ?_
          refine x_getR (c := (S + 11)) 68 C dX2_perform_65 fl_X2_29 hS rfl (of_2_3 hS) rfl ?_
          refine x_iload_n 69 C dX2_perform_68 3 rfl rfl rfl ?_
          refine x_iald 70 C dX2_perform_69 (ok_2_3 hS) (ol_2_3 hS) rfl ?_
          refine x_isub 71 C dX2_perform_70 rfl ?_
          refine x_ni (fun x15 => ?_)
          refine x_istore 73 [(8, .int x15), (7, .int x14), (0, .ref S), (1, .ref 5), (2, .int a2), (4, .int a4), (5, .int a5), (6, .int x1)] C dX2_perform_71 n8 rfl rfl ?_
          refine x_aload_n 74 C dX2_perform_73 2 rfl rfl rfl ?_
          refine x_getR (c := (S + 11)) 77 C dX2_perform_74 fl_X2_29 hS rfl (of_2_3 hS) rfl ?_
          refine x_iload_n 78 C dX2_perform_77 4 rfl rfl rfl ?_
          refine x_dup2 79 C dX2_perform_78 rfl rfl rfl ?_
          refine x_iald 80 C dX2_perform_79 (ok_2_3 hS) (ol_2_3 hS) rfl ?_
          refine x_iload 82 C dX2_perform_80 0 rfl rfl ?_
          refine x_iadd 83 C dX2_perform_82 rfl ?_
          refine x_iast 84 C dX2_perform_83 (ok_2_3 hS) (ol_2_3 hS) rfl (fun h16 => ?_)
          refine x_aload_n 85 C dX2_perform_84 2 rfl rfl rfl ?_
          refine x_dup 86 C dX2_perform_85 rfl rfl ?_
          refine x_getI 89 C dX2_perform_86 fl_X2_57 hS rfl rfl ?_
          refine x_iload 91 C dX2_perform_89 0 rfl rfl ?_
          refine x_iadd 92 C dX2_perform_91 rfl ?_
          refine x_put 95 C dX2_perform_92 fp_X2_57 hS rfl rfl rfl rfl (fun h17 => ?_)
          refine x_aload_n 96 C dX2_perform_95 2 rfl rfl rfl ?_
          refine x_getR (c := (S + 16)) 99 C dX2_perform_96 fl_X2_44 hS rfl (of_2_8 hS) rfl ?_
          refine x_iload_n 100 C dX2_perform_99 4 rfl rfl rfl ?_
          refine x_dup2 101 C dX2_perform_100 rfl rfl rfl ?_
          refine x_iald 102 C dX2_perform_101 (ok_2_8 hS) (ol_2_8 hS) rfl ?_
          refine x_iload 104 C dX2_perform_102 0 rfl rfl ?_
          refine x_lt1 (q := 112) (ls := fun x18 => [(0, .ref S), (2, .int a2), (6, .int x1), (8, .int x15)]) (st := fun x18 => [.int x18, .int (ia h17 (S + 16) a2), .int a2, .ref (S + 16)]) (hh := fun x18 => h17) (fun x18 => ?_) (fun k7 J7 => ?_)
          · refine x_iadd 113 C dX2_perform_112 rfl ?_
            refine x_iast 114 C dX2_perform_113 (ok_2_8 hS) (ol_2_8 hS) rfl (fun h19 => ?_)
            refine x_aload_n 115 C dX2_perform_114 0 rfl rfl rfl ?_
            refine x_getR (c := (S + 12)) 118 C dX2_perform_115 fl_X2_32 hS rfl (of_2_4 hS) rfl ?_
            refine x_iload_n 119 C dX2_perform_118 1 rfl rfl rfl ?_
            refine x_dup2 120 C dX2_perform_119 rfl rfl rfl ?_
            refine x_iald 121 C dX2_perform_120 (ok_2_4 hS) (ol_2_4 hS) rfl ?_
            refine x_iload 123 C dX2_perform_121 2 rfl rfl ?_
            refine x_iconst 124 C dX2_perform_123 ci_1 rfl ?_
            refine x_lt1 (q := 133) (ls := fun x20 => [(0, .ref S), (2, .int a2), (6, .int x1)]) (st := fun x20 => [.int x20, .int (ia h19 (S + 12) a2), .int a2, .ref (S + 12)]) (hh := fun x20 => h19) (fun x20 => ?_) (fun k8 J8 => ?_)
            · refine x_iadd 134 C dX2_perform_133 rfl ?_
              refine x_iast 135 C dX2_perform_134 (ok_2_4 hS) (ol_2_4 hS) rfl (fun h21 => ?_)
              refine x_goto 228 C dX2_perform_135 (by decide) ?_
              exact x_ls [0, 1, 2] rfl (J1 h21)
            refine x_icmp_ne 127 132 C dX2_perform_124 (by decide) rfl (fun _ => ?_) (fun _ => ?_)
            · refine x_iconst 133 C dX2_perform_132 ci_0 rfl ?_
              exact x_ls [0, 1, 2] rfl (J8 (0 : Int32))
            · refine x_iload 129 C dX2_perform_127 3 rfl rfl ?_
              refine x_goto 133 C dX2_perform_129 (by decide) ?_
              exact x_ls [0, 1, 2] rfl (J8 x15)
          refine x_if_ne 107 111 C dX2_perform_104 (by decide) rfl (fun _ => ?_) (fun _ => ?_)
          · refine x_iconst 112 C dX2_perform_111 ci_0 rfl ?_
            exact x_ls [2, 4, 7, 0] rfl (J7 (0 : Int32))
          · refine x_iconst 108 C dX2_perform_107 ci_1 rfl ?_
            refine x_goto 112 C dX2_perform_108 (by decide) ?_
            exact x_ls [2, 4, 7, 0] rfl (J7 (1 : Int32))
        refine x_icmp_ne 37 41 C dX2_perform_34 (by decide) rfl (fun _ => ?_) (fun _ => ?_)
        · refine x_iconst 42 C dX2_perform_41 ci_0 rfl ?_
          exact x_ls [1, 2, 3, 5, 6, 0] rfl (J6 (0 : Int32))
        · refine x_iconst 38 C dX2_perform_37 ci_1 rfl ?_
          refine x_goto 42 C dX2_perform_38 (by decide) ?_
          exact x_ls [1, 2, 3, 5, 6, 0] rfl (J6 (1 : Int32))
    · exact x_vret C E dX2_perform_10 rfl

def f_X2_settle (h : Hp) (S : Nat) (a2 : Int32) (a3 : Int32) : Option Hp :=
  if a2 < 0 then (
    some h)
  else (
    if a2 < (6 : Int32) then (
      ck a2 6 (
        lt1 (fun (h1 : Hp) =>
          ck a2 6 (
            ck a2 6 (
              ck a2 6 (nm (ux h1 (S + 17) a2 (jmax (ia h1 (S + 17) a2) (jabs (ia h1 (S + 12) a2)))) fun h2 =>
              some h2)))) fun k1 =>
        if (ia h (S + 11) a2) < (h.1 5 9) then (
          ck a2 6 (
            if (jabs (ia h (S + 12) a2)) < (h.1 5 11) then (
              k1 h)
            else (
              ck a2 6 (nm (ux h (S + 10) a2 (3 : Int32)) fun h3 =>
              ck a2 6 (nm (ux h3 (S + 15) a2 a3) fun h4 =>
              nm (uf h4 S 14 ((h4.1 S 14) + (1 : Int32))) fun h5 =>
              k1 h5)))))
        else (
          ck a2 6 (nm (ux h (S + 10) a2 (2 : Int32)) fun h6 =>
          ck a2 6 (nm (ux h6 (S + 12) a2 (0 : Int32)) fun h7 =>
          ck a2 6 (nm (ux h7 (S + 15) a2 a3) fun h8 =>
          nm (uf h8 S 13 ((h8.1 S 13) + (1 : Int32))) fun h9 =>
          k1 h9))))))
    else (
      some h))
theorem dX2_settle_0 : decode cX2_settle 0 = .ok (.iload_n 2, 1) := by decide +kernel
theorem dX2_settle_1 : decode cX2_settle 1 = .ok (.ifCond .lt 9, 3) := by decide +kernel
theorem dX2_settle_4 : decode cX2_settle 4 = .ok (.iload_n 2, 1) := by decide +kernel
theorem dX2_settle_5 : decode cX2_settle 5 = .ok (.bipush 6, 2) := by decide +kernel
theorem dX2_settle_7 : decode cX2_settle 7 = .ok (.if_icmp .lt 4, 3) := by decide +kernel
theorem dX2_settle_10 : decode cX2_settle 10 = .ok (.return_, 1) := by decide +kernel
theorem dX2_settle_11 : decode cX2_settle 11 = .ok (.aload_n 0, 1) := by decide +kernel
theorem dX2_settle_12 : decode cX2_settle 12 = .ok (.getfield 29, 3) := by decide +kernel
theorem dX2_settle_15 : decode cX2_settle 15 = .ok (.iload_n 2, 1) := by decide +kernel
theorem dX2_settle_16 : decode cX2_settle 16 = .ok (.iaload, 1) := by decide +kernel
theorem dX2_settle_17 : decode cX2_settle 17 = .ok (.aload_n 1, 1) := by decide +kernel
theorem dX2_settle_18 : decode cX2_settle 18 = .ok (.getfield 125, 3) := by decide +kernel
theorem dX2_settle_21 : decode cX2_settle 21 = .ok (.if_icmp .lt 37, 3) := by decide +kernel
theorem dX2_settle_24 : decode cX2_settle 24 = .ok (.aload_n 0, 1) := by decide +kernel
theorem dX2_settle_25 : decode cX2_settle 25 = .ok (.getfield 25, 3) := by decide +kernel
theorem dX2_settle_28 : decode cX2_settle 28 = .ok (.iload_n 2, 1) := by decide +kernel
theorem dX2_settle_29 : decode cX2_settle 29 = .ok (.iconst 2, 1) := by decide +kernel
theorem dX2_settle_30 : decode cX2_settle 30 = .ok (.iastore, 1) := by decide +kernel
theorem dX2_settle_31 : decode cX2_settle 31 = .ok (.aload_n 0, 1) := by decide +kernel
theorem dX2_settle_32 : decode cX2_settle 32 = .ok (.getfield 32, 3) := by decide +kernel
theorem dX2_settle_35 : decode cX2_settle 35 = .ok (.iload_n 2, 1) := by decide +kernel
theorem dX2_settle_36 : decode cX2_settle 36 = .ok (.iconst 0, 1) := by decide +kernel
theorem dX2_settle_37 : decode cX2_settle 37 = .ok (.iastore, 1) := by decide +kernel
theorem dX2_settle_38 : decode cX2_settle 38 = .ok (.aload_n 0, 1) := by decide +kernel
theorem dX2_settle_39 : decode cX2_settle 39 = .ok (.getfield 41, 3) := by decide +kernel
theorem dX2_settle_42 : decode cX2_settle 42 = .ok (.iload_n 2, 1) := by decide +kernel
theorem dX2_settle_43 : decode cX2_settle 43 = .ok (.iload_n 3, 1) := by decide +kernel
theorem dX2_settle_44 : decode cX2_settle 44 = .ok (.iastore, 1) := by decide +kernel
theorem dX2_settle_45 : decode cX2_settle 45 = .ok (.aload_n 0, 1) := by decide +kernel
theorem dX2_settle_46 : decode cX2_settle 46 = .ok (.dup, 1) := by decide +kernel
theorem dX2_settle_47 : decode cX2_settle 47 = .ok (.getfield 60, 3) := by decide +kernel
theorem dX2_settle_50 : decode cX2_settle 50 = .ok (.iconst 1, 1) := by decide +kernel
theorem dX2_settle_51 : decode cX2_settle 51 = .ok (.iadd, 1) := by decide +kernel
theorem dX2_settle_52 : decode cX2_settle 52 = .ok (.putfield 60, 3) := by decide +kernel
theorem dX2_settle_55 : decode cX2_settle 55 = .ok (.goto 43, 3) := by decide +kernel
theorem dX2_settle_58 : decode cX2_settle 58 = .ok (.aload_n 0, 1) := by decide +kernel
theorem dX2_settle_59 : decode cX2_settle 59 = .ok (.getfield 32, 3) := by decide +kernel
theorem dX2_settle_62 : decode cX2_settle 62 = .ok (.iload_n 2, 1) := by decide +kernel
theorem dX2_settle_63 : decode cX2_settle 63 = .ok (.iaload, 1) := by decide +kernel
theorem dX2_settle_64 : decode cX2_settle 64 = .ok (.invokestatic 128, 3) := by decide +kernel
theorem dX2_settle_67 : decode cX2_settle 67 = .ok (.aload_n 1, 1) := by decide +kernel
theorem dX2_settle_68 : decode cX2_settle 68 = .ok (.getfield 132, 3) := by decide +kernel
theorem dX2_settle_71 : decode cX2_settle 71 = .ok (.if_icmp .lt 27, 3) := by decide +kernel
theorem dX2_settle_74 : decode cX2_settle 74 = .ok (.aload_n 0, 1) := by decide +kernel
theorem dX2_settle_75 : decode cX2_settle 75 = .ok (.getfield 25, 3) := by decide +kernel
theorem dX2_settle_78 : decode cX2_settle 78 = .ok (.iload_n 2, 1) := by decide +kernel
theorem dX2_settle_79 : decode cX2_settle 79 = .ok (.iconst 3, 1) := by decide +kernel
theorem dX2_settle_80 : decode cX2_settle 80 = .ok (.iastore, 1) := by decide +kernel
theorem dX2_settle_81 : decode cX2_settle 81 = .ok (.aload_n 0, 1) := by decide +kernel
theorem dX2_settle_82 : decode cX2_settle 82 = .ok (.getfield 41, 3) := by decide +kernel
theorem dX2_settle_85 : decode cX2_settle 85 = .ok (.iload_n 2, 1) := by decide +kernel
theorem dX2_settle_86 : decode cX2_settle 86 = .ok (.iload_n 3, 1) := by decide +kernel
theorem dX2_settle_87 : decode cX2_settle 87 = .ok (.iastore, 1) := by decide +kernel
theorem dX2_settle_88 : decode cX2_settle 88 = .ok (.aload_n 0, 1) := by decide +kernel
theorem dX2_settle_89 : decode cX2_settle 89 = .ok (.dup, 1) := by decide +kernel
theorem dX2_settle_90 : decode cX2_settle 90 = .ok (.getfield 63, 3) := by decide +kernel
theorem dX2_settle_93 : decode cX2_settle 93 = .ok (.iconst 1, 1) := by decide +kernel
theorem dX2_settle_94 : decode cX2_settle 94 = .ok (.iadd, 1) := by decide +kernel
theorem dX2_settle_95 : decode cX2_settle 95 = .ok (.putfield 63, 3) := by decide +kernel
theorem dX2_settle_98 : decode cX2_settle 98 = .ok (.aload_n 0, 1) := by decide +kernel
theorem dX2_settle_99 : decode cX2_settle 99 = .ok (.getfield 47, 3) := by decide +kernel
theorem dX2_settle_102 : decode cX2_settle 102 = .ok (.iload_n 2, 1) := by decide +kernel
theorem dX2_settle_103 : decode cX2_settle 103 = .ok (.aload_n 0, 1) := by decide +kernel
theorem dX2_settle_104 : decode cX2_settle 104 = .ok (.getfield 47, 3) := by decide +kernel
theorem dX2_settle_107 : decode cX2_settle 107 = .ok (.iload_n 2, 1) := by decide +kernel
theorem dX2_settle_108 : decode cX2_settle 108 = .ok (.iaload, 1) := by decide +kernel
theorem dX2_settle_109 : decode cX2_settle 109 = .ok (.aload_n 0, 1) := by decide +kernel
theorem dX2_settle_110 : decode cX2_settle 110 = .ok (.getfield 32, 3) := by decide +kernel
theorem dX2_settle_113 : decode cX2_settle 113 = .ok (.iload_n 2, 1) := by decide +kernel
theorem dX2_settle_114 : decode cX2_settle 114 = .ok (.iaload, 1) := by decide +kernel
theorem dX2_settle_115 : decode cX2_settle 115 = .ok (.invokestatic 128, 3) := by decide +kernel
theorem dX2_settle_118 : decode cX2_settle 118 = .ok (.invokestatic 135, 3) := by decide +kernel
theorem dX2_settle_121 : decode cX2_settle 121 = .ok (.iastore, 1) := by decide +kernel
theorem dX2_settle_122 : decode cX2_settle 122 = .ok (.return_, 1) := by decide +kernel
set_option maxRecDepth 20000 in
theorem m_X2_settle {h : Hp} {S : Nat} {a2 : Int32} {a3 : Int32} (hS : sk S = 2) {u : Hp} (hu : f_X2_settle h S a2 a3 = some u) : Ct yX2_settle cX2_settle 4 none 1 [.ref S, .ref 5, .int a2, .int a3] h (eV u) := by
  refine ct_of eV hu (by decide) (Nat.le_of_ble_eq_true rfl) (fun κ hn C E => ?_)
  unfold f_X2_settle
  show Xz κ _ 0 [(0, .ref S), (1, .ref 5), (2, .int a2), (3, .int a3)] [] h
  refine x_iload_n 1 C dX2_settle_0 2 rfl rfl rfl ?_
  refine x_if_lt 4 10 C dX2_settle_1 (by decide) rfl (fun _ => ?_) (fun _ => ?_)
  · exact x_vret C E dX2_settle_10 rfl
  · refine x_iload_n 5 C dX2_settle_4 2 rfl rfl rfl ?_
    refine x_bipush 7 C dX2_settle_5 cb_6 rfl ?_
    refine x_icmp_lt 10 11 C dX2_settle_7 (by decide) rfl (fun _ => ?_) (fun _ => ?_)
    · refine x_aload_n 12 C dX2_settle_11 0 rfl rfl rfl ?_
      refine x_getR (c := (S + 11)) 15 C dX2_settle_12 fl_X2_29 hS rfl (of_2_3 hS) rfl ?_
      refine x_iload_n 16 C dX2_settle_15 2 rfl rfl rfl ?_
      refine x_iald 17 C dX2_settle_16 (ok_2_3 hS) (ol_2_3 hS) rfl ?_
      refine x_aload_n 18 C dX2_settle_17 1 rfl rfl rfl ?_
      refine x_getI 21 C dX2_settle_18 fl_X2_125 sk_5 rfl rfl ?_
      refine x_lt1 (q := 98) (ls := fun h1 => [(0, .ref S), (2, .int a2)]) (st := fun h1 => []) (hh := fun h1 => h1) (fun h1 => ?_) (fun k1 J1 => ?_)
      · refine x_aload_n 99 C dX2_settle_98 0 rfl rfl rfl ?_
        refine x_getR (c := (S + 17)) 102 C dX2_settle_99 fl_X2_47 hS rfl (of_2_9 hS) rfl ?_
        refine x_iload_n 103 C dX2_settle_102 1 rfl rfl rfl ?_
        refine x_aload_n 104 C dX2_settle_103 0 rfl rfl rfl ?_
        refine x_getR (c := (S + 17)) 107 C dX2_settle_104 fl_X2_47 hS rfl (of_2_9 hS) rfl ?_
        refine x_iload_n 108 C dX2_settle_107 1 rfl rfl rfl ?_
        refine x_iald 109 C dX2_settle_108 (ok_2_9 hS) (ol_2_9 hS) rfl ?_
        refine x_aload_n 110 C dX2_settle_109 0 rfl rfl rfl ?_
        refine x_getR (c := (S + 12)) 113 C dX2_settle_110 fl_X2_32 hS rfl (of_2_4 hS) rfl ?_
        refine x_iload_n 114 C dX2_settle_113 1 rfl rfl rfl ?_
        refine x_iald 115 C dX2_settle_114 (ok_2_4 hS) (ol_2_4 hS) rfl ?_
        refine x_mabs 118 C dX2_settle_115 mw_X2_128 w_st_abs w_in_Math w_co_abs (Nat.le_of_ble_eq_true rfl) (Nat.le_of_ble_eq_true rfl) rfl ?_
        refine x_mmax 121 C dX2_settle_118 mw_X2_135 w_st_max w_in_Math w_co_max (Nat.le_of_ble_eq_true rfl) (Nat.le_of_ble_eq_true rfl) rfl ?_
        refine x_iast 122 C dX2_settle_121 (ok_2_9 hS) (ol_2_9 hS) rfl (fun h2 => ?_)
        exact x_vret C E dX2_settle_122 rfl
      refine x_icmp_lt 24 58 C dX2_settle_21 (by decide) rfl (fun _ => ?_) (fun _ => ?_)
      · refine x_aload_n 59 C dX2_settle_58 0 rfl rfl rfl ?_
        refine x_getR (c := (S + 12)) 62 C dX2_settle_59 fl_X2_32 hS rfl (of_2_4 hS) rfl ?_
        refine x_iload_n 63 C dX2_settle_62 2 rfl rfl rfl ?_
        refine x_iald 64 C dX2_settle_63 (ok_2_4 hS) (ol_2_4 hS) rfl ?_
        refine x_mabs 67 C dX2_settle_64 mw_X2_128 w_st_abs w_in_Math w_co_abs (Nat.le_of_ble_eq_true rfl) (Nat.le_of_ble_eq_true rfl) rfl ?_
        refine x_aload_n 68 C dX2_settle_67 1 rfl rfl rfl ?_
        refine x_getI 71 C dX2_settle_68 fl_X2_132 sk_5 rfl rfl ?_
        refine x_icmp_lt 74 98 C dX2_settle_71 (by decide) rfl (fun _ => ?_) (fun _ => ?_)
        · exact x_ls [0, 2] rfl (J1 h)
        · refine x_aload_n 75 C dX2_settle_74 0 rfl rfl rfl ?_
          refine x_getR (c := (S + 10)) 78 C dX2_settle_75 fl_X2_25 hS rfl (of_2_2 hS) rfl ?_
          refine x_iload_n 79 C dX2_settle_78 2 rfl rfl rfl ?_
          refine x_iconst 80 C dX2_settle_79 ci_3 rfl ?_
          refine x_iast 81 C dX2_settle_80 (ok_2_2 hS) (ol_2_2 hS) rfl (fun h3 => ?_)
          refine x_aload_n 82 C dX2_settle_81 0 rfl rfl rfl ?_
          refine x_getR (c := (S + 15)) 85 C dX2_settle_82 fl_X2_41 hS rfl (of_2_7 hS) rfl ?_
          refine x_iload_n 86 C dX2_settle_85 2 rfl rfl rfl ?_
          refine x_iload_n 87 C dX2_settle_86 3 rfl rfl rfl ?_
          refine x_iast 88 C dX2_settle_87 (ok_2_7 hS) (ol_2_7 hS) rfl (fun h4 => ?_)
          refine x_aload_n 89 C dX2_settle_88 0 rfl rfl rfl ?_
          refine x_dup 90 C dX2_settle_89 rfl rfl ?_
          refine x_getI 93 C dX2_settle_90 fl_X2_63 hS rfl rfl ?_
          refine x_iconst 94 C dX2_settle_93 ci_1 rfl ?_
          refine x_iadd 95 C dX2_settle_94 rfl ?_
          refine x_put 98 C dX2_settle_95 fp_X2_63 hS rfl rfl rfl rfl (fun h5 => ?_)
          exact x_ls [0, 2] rfl (J1 h5)
      · refine x_aload_n 25 C dX2_settle_24 0 rfl rfl rfl ?_
        refine x_getR (c := (S + 10)) 28 C dX2_settle_25 fl_X2_25 hS rfl (of_2_2 hS) rfl ?_
        refine x_iload_n 29 C dX2_settle_28 2 rfl rfl rfl ?_
        refine x_iconst 30 C dX2_settle_29 ci_2 rfl ?_
        refine x_iast 31 C dX2_settle_30 (ok_2_2 hS) (ol_2_2 hS) rfl (fun h6 => ?_)
        refine x_aload_n 32 C dX2_settle_31 0 rfl rfl rfl ?_
        refine x_getR (c := (S + 12)) 35 C dX2_settle_32 fl_X2_32 hS rfl (of_2_4 hS) rfl ?_
        refine x_iload_n 36 C dX2_settle_35 2 rfl rfl rfl ?_
        refine x_iconst 37 C dX2_settle_36 ci_0 rfl ?_
        refine x_iast 38 C dX2_settle_37 (ok_2_4 hS) (ol_2_4 hS) rfl (fun h7 => ?_)
        refine x_aload_n 39 C dX2_settle_38 0 rfl rfl rfl ?_
        refine x_getR (c := (S + 15)) 42 C dX2_settle_39 fl_X2_41 hS rfl (of_2_7 hS) rfl ?_
        refine x_iload_n 43 C dX2_settle_42 2 rfl rfl rfl ?_
        refine x_iload_n 44 C dX2_settle_43 3 rfl rfl rfl ?_
        refine x_iast 45 C dX2_settle_44 (ok_2_7 hS) (ol_2_7 hS) rfl (fun h8 => ?_)
        refine x_aload_n 46 C dX2_settle_45 0 rfl rfl rfl ?_
        refine x_dup 47 C dX2_settle_46 rfl rfl ?_
        refine x_getI 50 C dX2_settle_47 fl_X2_60 hS rfl rfl ?_
        refine x_iconst 51 C dX2_settle_50 ci_1 rfl ?_
        refine x_iadd 52 C dX2_settle_51 rfl ?_
        refine x_put 55 C dX2_settle_52 fp_X2_60 hS rfl rfl rfl rfl (fun h9 => ?_)
        refine x_goto 98 C dX2_settle_55 (by decide) ?_
        exact x_ls [0, 2] rfl (J1 h9)
    · exact x_vret C E dX2_settle_10 rfl

def f_X2_startNext (h : Hp) (S : Nat) (a2 : Int32) : Option Hp :=
  fx1 FU (fun s1 (x1 : Int32) =>
    if (h.1 5 7) ≤ x1 then (
      some h)
    else (
      if (6 : Int32) ≤ x1 then (
        some h)
      else (
        ck x1 6 (
          lt1 (fun (u2 : Int32) =>
            nm (x1 + (1 : Int32)) fun x3 =>
            s1 x3) fun k2 =>
          if (ia h (S + 10) x1) = 0 then (
            ck x1 6 (
              if a2 < (ia h 6 x1) then (
                k2 (0 : Int32))
              else (
                ck x1 6 (nm (ux h (S + 10) x1 (1 : Int32)) fun h4 =>
                ck x1 6 (nm (ux h4 (S + 11) x1 (0 : Int32)) fun h5 =>
                ck x1 6 (nm (ux h5 (S + 14) x1 a2) fun h6 =>
                if (h6.1 S 11) < 0 then (
                  some h6)
                else (
                  if (6 : Int32) ≤ (h6.1 S 11) then (
                    some h6)
                  else (
                    ck (h6.1 S 11) 6 (nm (ux h6 (S + 18) (h6.1 S 11) x1) fun h7 =>
                    nm (uf h7 S 11 ((h7.1 S 11) + (1 : Int32))) fun h8 =>
                    some h8)))))))))
          else (
            k2 (0 : Int32)))))) (0 : Int32)
theorem dX2_startNext_0 : decode cX2_startNext 0 = .ok (.iconst 0, 1) := by decide +kernel
theorem dX2_startNext_1 : decode cX2_startNext 1 = .ok (.istore_n 3, 1) := by decide +kernel
theorem dX2_startNext_2 : decode cX2_startNext 2 = .ok (.iload_n 3, 1) := by decide +kernel
theorem dX2_startNext_3 : decode cX2_startNext 3 = .ok (.aload_n 1, 1) := by decide +kernel
theorem dX2_startNext_4 : decode cX2_startNext 4 = .ok (.getfield 66, 3) := by decide +kernel
theorem dX2_startNext_7 : decode cX2_startNext 7 = .ok (.if_icmp .ge 92, 3) := by decide +kernel
theorem dX2_startNext_10 : decode cX2_startNext 10 = .ok (.iload_n 3, 1) := by decide +kernel
theorem dX2_startNext_11 : decode cX2_startNext 11 = .ok (.bipush 6, 2) := by decide +kernel
theorem dX2_startNext_13 : decode cX2_startNext 13 = .ok (.if_icmp .ge 86, 3) := by decide +kernel
theorem dX2_startNext_16 : decode cX2_startNext 16 = .ok (.aload_n 0, 1) := by decide +kernel
theorem dX2_startNext_17 : decode cX2_startNext 17 = .ok (.getfield 25, 3) := by decide +kernel
theorem dX2_startNext_20 : decode cX2_startNext 20 = .ok (.iload_n 3, 1) := by decide +kernel
theorem dX2_startNext_21 : decode cX2_startNext 21 = .ok (.iaload, 1) := by decide +kernel
theorem dX2_startNext_22 : decode cX2_startNext 22 = .ok (.ifCond .ne 71, 3) := by decide +kernel
theorem dX2_startNext_25 : decode cX2_startNext 25 = .ok (.aload_n 1, 1) := by decide +kernel
theorem dX2_startNext_26 : decode cX2_startNext 26 = .ok (.getfield 138, 3) := by decide +kernel
theorem dX2_startNext_29 : decode cX2_startNext 29 = .ok (.iload_n 3, 1) := by decide +kernel
theorem dX2_startNext_30 : decode cX2_startNext 30 = .ok (.iaload, 1) := by decide +kernel
theorem dX2_startNext_31 : decode cX2_startNext 31 = .ok (.iload_n 2, 1) := by decide +kernel
theorem dX2_startNext_32 : decode cX2_startNext 32 = .ok (.if_icmp .gt 61, 3) := by decide +kernel
theorem dX2_startNext_35 : decode cX2_startNext 35 = .ok (.aload_n 0, 1) := by decide +kernel
theorem dX2_startNext_36 : decode cX2_startNext 36 = .ok (.getfield 25, 3) := by decide +kernel
theorem dX2_startNext_39 : decode cX2_startNext 39 = .ok (.iload_n 3, 1) := by decide +kernel
theorem dX2_startNext_40 : decode cX2_startNext 40 = .ok (.iconst 1, 1) := by decide +kernel
theorem dX2_startNext_41 : decode cX2_startNext 41 = .ok (.iastore, 1) := by decide +kernel
theorem dX2_startNext_42 : decode cX2_startNext 42 = .ok (.aload_n 0, 1) := by decide +kernel
theorem dX2_startNext_43 : decode cX2_startNext 43 = .ok (.getfield 29, 3) := by decide +kernel
theorem dX2_startNext_46 : decode cX2_startNext 46 = .ok (.iload_n 3, 1) := by decide +kernel
theorem dX2_startNext_47 : decode cX2_startNext 47 = .ok (.iconst 0, 1) := by decide +kernel
theorem dX2_startNext_48 : decode cX2_startNext 48 = .ok (.iastore, 1) := by decide +kernel
theorem dX2_startNext_49 : decode cX2_startNext 49 = .ok (.aload_n 0, 1) := by decide +kernel
theorem dX2_startNext_50 : decode cX2_startNext 50 = .ok (.getfield 38, 3) := by decide +kernel
theorem dX2_startNext_53 : decode cX2_startNext 53 = .ok (.iload_n 3, 1) := by decide +kernel
theorem dX2_startNext_54 : decode cX2_startNext 54 = .ok (.iload_n 2, 1) := by decide +kernel
theorem dX2_startNext_55 : decode cX2_startNext 55 = .ok (.iastore, 1) := by decide +kernel
theorem dX2_startNext_56 : decode cX2_startNext 56 = .ok (.aload_n 0, 1) := by decide +kernel
theorem dX2_startNext_57 : decode cX2_startNext 57 = .ok (.getfield 53, 3) := by decide +kernel
theorem dX2_startNext_60 : decode cX2_startNext 60 = .ok (.ifCond .lt 32, 3) := by decide +kernel
theorem dX2_startNext_63 : decode cX2_startNext 63 = .ok (.aload_n 0, 1) := by decide +kernel
theorem dX2_startNext_64 : decode cX2_startNext 64 = .ok (.getfield 53, 3) := by decide +kernel
theorem dX2_startNext_67 : decode cX2_startNext 67 = .ok (.bipush 6, 2) := by decide +kernel
theorem dX2_startNext_69 : decode cX2_startNext 69 = .ok (.if_icmp .ge 23, 3) := by decide +kernel
theorem dX2_startNext_72 : decode cX2_startNext 72 = .ok (.aload_n 0, 1) := by decide +kernel
theorem dX2_startNext_73 : decode cX2_startNext 73 = .ok (.getfield 50, 3) := by decide +kernel
theorem dX2_startNext_76 : decode cX2_startNext 76 = .ok (.aload_n 0, 1) := by decide +kernel
theorem dX2_startNext_77 : decode cX2_startNext 77 = .ok (.getfield 53, 3) := by decide +kernel
theorem dX2_startNext_80 : decode cX2_startNext 80 = .ok (.iload_n 3, 1) := by decide +kernel
theorem dX2_startNext_81 : decode cX2_startNext 81 = .ok (.iastore, 1) := by decide +kernel
theorem dX2_startNext_82 : decode cX2_startNext 82 = .ok (.aload_n 0, 1) := by decide +kernel
theorem dX2_startNext_83 : decode cX2_startNext 83 = .ok (.dup, 1) := by decide +kernel
theorem dX2_startNext_84 : decode cX2_startNext 84 = .ok (.getfield 53, 3) := by decide +kernel
theorem dX2_startNext_87 : decode cX2_startNext 87 = .ok (.iconst 1, 1) := by decide +kernel
theorem dX2_startNext_88 : decode cX2_startNext 88 = .ok (.iadd, 1) := by decide +kernel
theorem dX2_startNext_89 : decode cX2_startNext 89 = .ok (.putfield 53, 3) := by decide +kernel
theorem dX2_startNext_92 : decode cX2_startNext 92 = .ok (.return_, 1) := by decide +kernel
theorem dX2_startNext_93 : decode cX2_startNext 93 = .ok (.iinc 3 1, 3) := by decide +kernel
theorem dX2_startNext_96 : decode cX2_startNext 96 = .ok (.goto (-94), 3) := by decide +kernel
theorem dX2_startNext_99 : decode cX2_startNext 99 = .ok (.return_, 1) := by decide +kernel
set_option maxRecDepth 20000 in
theorem m_X2_startNext {h : Hp} {S : Nat} {a2 : Int32} (hS : sk S = 2) {u : Hp} (hu : f_X2_startNext h S a2 = some u) : Ct yX2_startNext cX2_startNext 4 none 0 [.ref S, .ref 5, .int a2] h (eV u) := by
  refine ct_of eV hu (by decide) (Nat.le_of_ble_eq_true rfl) (fun κ hn C E => ?_)
  have n3 : 3 < kn κ := by rw [hn]; decide
  unfold f_X2_startNext
  show Xz κ _ 0 [(0, .ref S), (1, .ref 5), (2, .int a2)] [] h
  refine x_iconst 1 C dX2_startNext_0 ci_0 rfl ?_
  refine x_istore_n 2 [(3, .int (0 : Int32)), (0, .ref S), (1, .ref 5), (2, .int a2)] C dX2_startNext_1 n3 rfl rfl rfl ?_
  refine x_ls [1, 2, 3, 0] rfl (x_fx1 (ls := fun x1 => [(0, .ref S), (1, .ref 5), (2, .int a2), (3, .int x1)]) (st := fun x1 => []) (hh := fun x1 => h) (fun s1 J1 x1 => ?_))
  refine x_iload_n 3 C dX2_startNext_2 3 rfl rfl rfl ?_
  refine x_aload_n 4 C dX2_startNext_3 1 rfl rfl rfl ?_
  refine x_getI 7 C dX2_startNext_4 fl_X2_66 sk_5 rfl rfl ?_
  refine x_icmp_ge 10 99 C dX2_startNext_7 (by decide) rfl (fun _ => ?_) (fun _ => ?_)
  · exact x_vret C E dX2_startNext_99 rfl
  · refine x_iload_n 11 C dX2_startNext_10 3 rfl rfl rfl ?_
    refine x_bipush 13 C dX2_startNext_11 cb_6 rfl ?_
    refine x_icmp_ge 16 99 C dX2_startNext_13 (by decide) rfl (fun _ => ?_) (fun _ => ?_)
    · exact x_vret C E dX2_startNext_99 rfl
    · refine x_aload_n 17 C dX2_startNext_16 0 rfl rfl rfl ?_
      refine x_getR (c := (S + 10)) 20 C dX2_startNext_17 fl_X2_25 hS rfl (of_2_2 hS) rfl ?_
      refine x_iload_n 21 C dX2_startNext_20 3 rfl rfl rfl ?_
      refine x_iald 22 C dX2_startNext_21 (ok_2_2 hS) (ol_2_2 hS) rfl ?_
      refine x_lt1 (q := 93) (ls := fun u2 => [(0, .ref S), (1, .ref 5), (2, .int a2), (3, .int x1)]) (st := fun u2 => []) (hh := fun u2 => h) (fun u2 => ?_) (fun k2 J2 => ?_)
      · refine x_iinc 96 (fun x3 => [(3, .int x3), (0, .ref S), (1, .ref 5), (2, .int a2)]) C dX2_startNext_93 3 rfl ci_1 n3 (fun _ => rfl) rfl (fun x3 => ?_)
        refine x_goto 2 C dX2_startNext_96 (by decide) ?_
        exact x_ls [1, 2, 3, 0] rfl (J1 x3)
      refine x_if_ne 25 93 C dX2_startNext_22 (by decide) rfl (fun _ => ?_) (fun _ => ?_)
      · exact x_ls [0, 1, 2, 3] rfl (J2 (0 : Int32))
      · refine x_aload_n 26 C dX2_startNext_25 1 rfl rfl rfl ?_
        refine x_getR (c := 6) 29 C dX2_startNext_26 fl_X2_138 sk_5 rfl sr_5_0 rfl ?_
        refine x_iload_n 30 C dX2_startNext_29 3 rfl rfl rfl ?_
        refine x_iald 31 C dX2_startNext_30 sk_6 sl_6 rfl ?_
        refine x_iload_n 32 C dX2_startNext_31 2 rfl rfl rfl ?_
        refine x_icmp_gt 35 93 C dX2_startNext_32 (by decide) rfl (fun _ => ?_) (fun _ => ?_)
        · exact x_ls [0, 1, 2, 3] rfl (J2 (0 : Int32))
        · refine x_aload_n 36 C dX2_startNext_35 0 rfl rfl rfl ?_
          refine x_getR (c := (S + 10)) 39 C dX2_startNext_36 fl_X2_25 hS rfl (of_2_2 hS) rfl ?_
          refine x_iload_n 40 C dX2_startNext_39 3 rfl rfl rfl ?_
          refine x_iconst 41 C dX2_startNext_40 ci_1 rfl ?_
          refine x_iast 42 C dX2_startNext_41 (ok_2_2 hS) (ol_2_2 hS) rfl (fun h4 => ?_)
          refine x_aload_n 43 C dX2_startNext_42 0 rfl rfl rfl ?_
          refine x_getR (c := (S + 11)) 46 C dX2_startNext_43 fl_X2_29 hS rfl (of_2_3 hS) rfl ?_
          refine x_iload_n 47 C dX2_startNext_46 3 rfl rfl rfl ?_
          refine x_iconst 48 C dX2_startNext_47 ci_0 rfl ?_
          refine x_iast 49 C dX2_startNext_48 (ok_2_3 hS) (ol_2_3 hS) rfl (fun h5 => ?_)
          refine x_aload_n 50 C dX2_startNext_49 0 rfl rfl rfl ?_
          refine x_getR (c := (S + 14)) 53 C dX2_startNext_50 fl_X2_38 hS rfl (of_2_6 hS) rfl ?_
          refine x_iload_n 54 C dX2_startNext_53 3 rfl rfl rfl ?_
          refine x_iload_n 55 C dX2_startNext_54 2 rfl rfl rfl ?_
          refine x_iast 56 C dX2_startNext_55 (ok_2_6 hS) (ol_2_6 hS) rfl (fun h6 => ?_)
          refine x_aload_n 57 C dX2_startNext_56 0 rfl rfl rfl ?_
          refine x_getI 60 C dX2_startNext_57 fl_X2_53 hS rfl rfl ?_
          refine x_if_lt 63 92 C dX2_startNext_60 (by decide) rfl (fun _ => ?_) (fun _ => ?_)
          · exact x_vret C E dX2_startNext_92 rfl
          · refine x_aload_n 64 C dX2_startNext_63 0 rfl rfl rfl ?_
            refine x_getI 67 C dX2_startNext_64 fl_X2_53 hS rfl rfl ?_
            refine x_bipush 69 C dX2_startNext_67 cb_6 rfl ?_
            refine x_icmp_ge 72 92 C dX2_startNext_69 (by decide) rfl (fun _ => ?_) (fun _ => ?_)
            · exact x_vret C E dX2_startNext_92 rfl
            · refine x_aload_n 73 C dX2_startNext_72 0 rfl rfl rfl ?_
              refine x_getR (c := (S + 18)) 76 C dX2_startNext_73 fl_X2_50 hS rfl (of_2_10 hS) rfl ?_
              refine x_aload_n 77 C dX2_startNext_76 0 rfl rfl rfl ?_
              refine x_getI 80 C dX2_startNext_77 fl_X2_53 hS rfl rfl ?_
              refine x_iload_n 81 C dX2_startNext_80 3 rfl rfl rfl ?_
              refine x_iast 82 C dX2_startNext_81 (ok_2_10 hS) (ol_2_10 hS) rfl (fun h7 => ?_)
              refine x_aload_n 83 C dX2_startNext_82 0 rfl rfl rfl ?_
              refine x_dup 84 C dX2_startNext_83 rfl rfl ?_
              refine x_getI 87 C dX2_startNext_84 fl_X2_53 hS rfl rfl ?_
              refine x_iconst 88 C dX2_startNext_87 ci_1 rfl ?_
              refine x_iadd 89 C dX2_startNext_88 rfl ?_
              refine x_put 92 C dX2_startNext_89 fp_X2_53 hS rfl rfl rfl rfl (fun h8 => ?_)
              exact x_vret C E dX2_startNext_92 rfl
