def f_X8_passes (h : Hp) (a1 : Int32) (a2 : Int32) : Option Hp :=
  bdv (f_X8_happens h a1) fun h1 =>
  lt1 (fun (x2 : Int32) =>
    lt1 (fun (x3 : Int32) =>
      ck a1 24 (nm (ux h1 90 a1 x3) fun h4 =>
      ck a1 24 (
        bdv (f_X8_leans h4 (ia h4 90 a1)) fun h5 =>
        lt1 (fun (h6 : Hp) =>
          lt1 (fun (h7 : Hp) =>
            fx2 FU (fun s5 (h8 : Hp) (x9 : Int32) =>
              if (h8.1 68 7) ≤ x9 then (
                some h8)
              else (
                ck x9 6 (
                  bdr (f_X8_size (ia h8 81 x9)) fun x10 =>
                  ck x9 6 (
                    bdr (f_X8_greater x10 (ia h8 86 x9)) fun x11 =>
                    ck x9 6 (nm (ux h8 86 x9 x11) fun h12 =>
                    ck x9 6 (
                      ck (((6 : Int32) * a1) + x9) 144 (nm (ux h12 87 (((6 : Int32) * a1) + x9) (ia h12 79 x9)) fun h13 =>
                      ck x9 6 (
                        ck (((6 : Int32) * a1) + x9) 144 (nm (ux h13 88 (((6 : Int32) * a1) + x9) (ia h13 80 x9)) fun h14 =>
                        ck x9 6 (
                          ck (((6 : Int32) * a1) + x9) 144 (nm (ux h14 89 (((6 : Int32) * a1) + x9) (ia h14 81 x9)) fun h15 =>
                          nm (x9 + (1 : Int32)) fun x16 =>
                          s5 h15 x16))))))))))) h7 (0 : Int32)) fun k4 =>
          fx2 FU (fun s6 (h17 : Hp) (x18 : Int32) =>
            if (h17.1 68 7) ≤ x18 then (
              k4 h17)
            else (
              ck x18 6 (
                lt1 (fun (h19 : Hp) =>
                  nm (x18 + (1 : Int32)) fun x20 =>
                  s6 h19 x20) fun k7 =>
                if (ia h17 79 x18) = 0 then (
                  ck ((3 : Int32) * x18) 18 (
                    if a1 < (ia h17 75 ((3 : Int32) * x18)) then (
                      k7 h17)
                    else (
                      bdr (f_X8_whoAt h17 (0 : Int32)) fun x21 =>
                      if x21 = (-1 : Int32) then (
                        ck x18 6 (nm (ux h17 79 x18 (1 : Int32)) fun h22 =>
                        ck x18 6 (nm (ux h22 80 x18 (0 : Int32)) fun h23 =>
                        k7 h23)))
                      else (
                        k7 h17))))
                else (
                  k7 h17)))) h6 (0 : Int32)) fun k3 =>
        fx3 FU (fun s8 (h24 : Hp) (x25 : Int32) (x26 : Int32) =>
          if x26 < 0 then (
            k3 h24)
          else (
            lt2 (fun (h27 : Hp) (x28 : Int32) =>
              nm (x26 + (-1 : Int32)) fun x29 =>
              s8 h27 x28 x29) fun k9 =>
            fx3 FU (fun s10 (h30 : Hp) (x31 : Int32) (x32 : Int32) =>
              if (h30.1 68 7) ≤ x32 then (
                k9 h30 x31)
              else (
                ck x32 6 (
                  lt2 (fun (h33 : Hp) (x34 : Int32) =>
                    nm (x32 + (1 : Int32)) fun x35 =>
                    s10 h33 x34 x35) fun k11 =>
                  if (ia h30 79 x32) = (1 : Int32) then (
                    ck x32 6 (
                      if (ia h30 80 x32) = x26 then (
                        bdr (f_X8_isIn x31 x32) fun x36 =>
                        if x36 = 0 then (
                          nm (x31 ||| ((1 : Int32) <<< (x32 &&& 31))) fun x37 =>
                          bdv (f_X8_moves h30 a1 x32) fun h38 =>
                          k11 h38 x37)
                        else (
                          k11 h30 x31))
                      else (
                        k11 h30 x31)))
                  else (
                    k11 h30 x31)))) h24 x25 (0 : Int32))) h5 (0 : Int32) (40 : Int32)))) fun k2 =>
    if (a1 - a1 / (2 : Int32) * (2 : Int32)) = 0 then (
      k2 x2)
    else (
      k2 ((0 : Int32) - x2))) fun k1 =>
  if a2 = 0 then (
    k1 (0 : Int32))
  else (
    k1 ((h1.1 77 1) / (2 : Int32)))
theorem dX8_passes_0 : decode cX8_passes 0 = .ok (.aload_n 0, 1) := by decide +kernel
theorem dX8_passes_1 : decode cX8_passes 1 = .ok (.iload_n 1, 1) := by decide +kernel
theorem dX8_passes_2 : decode cX8_passes 2 = .ok (.invokevirtual 204, 3) := by decide +kernel
theorem dX8_passes_5 : decode cX8_passes 5 = .ok (.iload_n 2, 1) := by decide +kernel
theorem dX8_passes_6 : decode cX8_passes 6 = .ok (.ifCond .eq 14, 3) := by decide +kernel
theorem dX8_passes_9 : decode cX8_passes 9 = .ok (.aload_n 0, 1) := by decide +kernel
theorem dX8_passes_10 : decode cX8_passes 10 = .ok (.getfield 34, 3) := by decide +kernel
theorem dX8_passes_13 : decode cX8_passes 13 = .ok (.iconst 1, 1) := by decide +kernel
theorem dX8_passes_14 : decode cX8_passes 14 = .ok (.iaload, 1) := by decide +kernel
theorem dX8_passes_15 : decode cX8_passes 15 = .ok (.iconst 2, 1) := by decide +kernel
theorem dX8_passes_16 : decode cX8_passes 16 = .ok (.idiv, 1) := by decide +kernel
theorem dX8_passes_17 : decode cX8_passes 17 = .ok (.goto 4, 3) := by decide +kernel
theorem dX8_passes_20 : decode cX8_passes 20 = .ok (.iconst 0, 1) := by decide +kernel
theorem dX8_passes_21 : decode cX8_passes 21 = .ok (.istore_n 3, 1) := by decide +kernel
theorem dX8_passes_22 : decode cX8_passes 22 = .ok (.aload_n 0, 1) := by decide +kernel
theorem dX8_passes_23 : decode cX8_passes 23 = .ok (.getfield 73, 3) := by decide +kernel
theorem dX8_passes_26 : decode cX8_passes 26 = .ok (.iload_n 1, 1) := by decide +kernel
theorem dX8_passes_27 : decode cX8_passes 27 = .ok (.iload_n 1, 1) := by decide +kernel
theorem dX8_passes_28 : decode cX8_passes 28 = .ok (.iconst 2, 1) := by decide +kernel
theorem dX8_passes_29 : decode cX8_passes 29 = .ok (.irem, 1) := by decide +kernel
theorem dX8_passes_30 : decode cX8_passes 30 = .ok (.ifCond .ne 7, 3) := by decide +kernel
theorem dX8_passes_33 : decode cX8_passes 33 = .ok (.iload_n 3, 1) := by decide +kernel
theorem dX8_passes_34 : decode cX8_passes 34 = .ok (.goto 6, 3) := by decide +kernel
theorem dX8_passes_37 : decode cX8_passes 37 = .ok (.iconst 0, 1) := by decide +kernel
theorem dX8_passes_38 : decode cX8_passes 38 = .ok (.iload_n 3, 1) := by decide +kernel
theorem dX8_passes_39 : decode cX8_passes 39 = .ok (.isub, 1) := by decide +kernel
theorem dX8_passes_40 : decode cX8_passes 40 = .ok (.iastore, 1) := by decide +kernel
theorem dX8_passes_41 : decode cX8_passes 41 = .ok (.aload_n 0, 1) := by decide +kernel
theorem dX8_passes_42 : decode cX8_passes 42 = .ok (.aload_n 0, 1) := by decide +kernel
theorem dX8_passes_43 : decode cX8_passes 43 = .ok (.getfield 73, 3) := by decide +kernel
theorem dX8_passes_46 : decode cX8_passes 46 = .ok (.iload_n 1, 1) := by decide +kernel
theorem dX8_passes_47 : decode cX8_passes 47 = .ok (.iaload, 1) := by decide +kernel
theorem dX8_passes_48 : decode cX8_passes 48 = .ok (.invokevirtual 184, 3) := by decide +kernel
theorem dX8_passes_51 : decode cX8_passes 51 = .ok (.iconst 0, 1) := by decide +kernel
theorem dX8_passes_52 : decode cX8_passes 52 = .ok (.istore 4, 2) := by decide +kernel
theorem dX8_passes_54 : decode cX8_passes 54 = .ok (.bipush 40, 2) := by decide +kernel
theorem dX8_passes_56 : decode cX8_passes 56 = .ok (.istore 5, 2) := by decide +kernel
theorem dX8_passes_58 : decode cX8_passes 58 = .ok (.iload 5, 2) := by decide +kernel
theorem dX8_passes_60 : decode cX8_passes 60 = .ok (.ifCond .lt 76, 3) := by decide +kernel
theorem dX8_passes_63 : decode cX8_passes 63 = .ok (.iconst 0, 1) := by decide +kernel
theorem dX8_passes_64 : decode cX8_passes 64 = .ok (.istore 6, 2) := by decide +kernel
theorem dX8_passes_66 : decode cX8_passes 66 = .ok (.iload 6, 2) := by decide +kernel
theorem dX8_passes_68 : decode cX8_passes 68 = .ok (.aload_n 0, 1) := by decide +kernel
theorem dX8_passes_69 : decode cX8_passes 69 = .ok (.getfield 127, 3) := by decide +kernel
theorem dX8_passes_72 : decode cX8_passes 72 = .ok (.if_icmp .ge 58, 3) := by decide +kernel
theorem dX8_passes_75 : decode cX8_passes 75 = .ok (.aload_n 0, 1) := by decide +kernel
theorem dX8_passes_76 : decode cX8_passes 76 = .ok (.getfield 40, 3) := by decide +kernel
theorem dX8_passes_79 : decode cX8_passes 79 = .ok (.iload 6, 2) := by decide +kernel
theorem dX8_passes_81 : decode cX8_passes 81 = .ok (.iaload, 1) := by decide +kernel
theorem dX8_passes_82 : decode cX8_passes 82 = .ok (.iconst 1, 1) := by decide +kernel
theorem dX8_passes_83 : decode cX8_passes 83 = .ok (.if_icmp .ne 41, 3) := by decide +kernel
theorem dX8_passes_86 : decode cX8_passes 86 = .ok (.aload_n 0, 1) := by decide +kernel
theorem dX8_passes_87 : decode cX8_passes 87 = .ok (.getfield 43, 3) := by decide +kernel
theorem dX8_passes_90 : decode cX8_passes 90 = .ok (.iload 6, 2) := by decide +kernel
theorem dX8_passes_92 : decode cX8_passes 92 = .ok (.iaload, 1) := by decide +kernel
theorem dX8_passes_93 : decode cX8_passes 93 = .ok (.iload 5, 2) := by decide +kernel
theorem dX8_passes_95 : decode cX8_passes 95 = .ok (.if_icmp .ne 29, 3) := by decide +kernel
theorem dX8_passes_98 : decode cX8_passes 98 = .ok (.iload 4, 2) := by decide +kernel
theorem dX8_passes_100 : decode cX8_passes 100 = .ok (.iload 6, 2) := by decide +kernel
theorem dX8_passes_102 : decode cX8_passes 102 = .ok (.invokestatic 181, 3) := by decide +kernel
theorem dX8_passes_105 : decode cX8_passes 105 = .ok (.ifCond .ne 19, 3) := by decide +kernel
theorem dX8_passes_108 : decode cX8_passes 108 = .ok (.iload 4, 2) := by decide +kernel
theorem dX8_passes_110 : decode cX8_passes 110 = .ok (.iconst 1, 1) := by decide +kernel
theorem dX8_passes_111 : decode cX8_passes 111 = .ok (.iload 6, 2) := by decide +kernel
theorem dX8_passes_113 : decode cX8_passes 113 = .ok (.ishl, 1) := by decide +kernel
theorem dX8_passes_114 : decode cX8_passes 114 = .ok (.ior, 1) := by decide +kernel
theorem dX8_passes_115 : decode cX8_passes 115 = .ok (.istore 4, 2) := by decide +kernel
theorem dX8_passes_117 : decode cX8_passes 117 = .ok (.aload_n 0, 1) := by decide +kernel
theorem dX8_passes_118 : decode cX8_passes 118 = .ok (.iload_n 1, 1) := by decide +kernel
theorem dX8_passes_119 : decode cX8_passes 119 = .ok (.iload 6, 2) := by decide +kernel
theorem dX8_passes_121 : decode cX8_passes 121 = .ok (.invokevirtual 207, 3) := by decide +kernel
theorem dX8_passes_124 : decode cX8_passes 124 = .ok (.iinc 6 1, 3) := by decide +kernel
theorem dX8_passes_127 : decode cX8_passes 127 = .ok (.goto (-61), 3) := by decide +kernel
theorem dX8_passes_130 : decode cX8_passes 130 = .ok (.iinc 5 (-1), 3) := by decide +kernel
theorem dX8_passes_133 : decode cX8_passes 133 = .ok (.goto (-75), 3) := by decide +kernel
theorem dX8_passes_136 : decode cX8_passes 136 = .ok (.iconst 0, 1) := by decide +kernel
theorem dX8_passes_137 : decode cX8_passes 137 = .ok (.istore 5, 2) := by decide +kernel
theorem dX8_passes_139 : decode cX8_passes 139 = .ok (.iload 5, 2) := by decide +kernel
theorem dX8_passes_141 : decode cX8_passes 141 = .ok (.aload_n 0, 1) := by decide +kernel
theorem dX8_passes_142 : decode cX8_passes 142 = .ok (.getfield 127, 3) := by decide +kernel
theorem dX8_passes_145 : decode cX8_passes 145 = .ok (.if_icmp .ge 57, 3) := by decide +kernel
theorem dX8_passes_148 : decode cX8_passes 148 = .ok (.aload_n 0, 1) := by decide +kernel
theorem dX8_passes_149 : decode cX8_passes 149 = .ok (.getfield 40, 3) := by decide +kernel
theorem dX8_passes_152 : decode cX8_passes 152 = .ok (.iload 5, 2) := by decide +kernel
theorem dX8_passes_154 : decode cX8_passes 154 = .ok (.iaload, 1) := by decide +kernel
theorem dX8_passes_155 : decode cX8_passes 155 = .ok (.ifCond .ne 41, 3) := by decide +kernel
theorem dX8_passes_158 : decode cX8_passes 158 = .ok (.iload_n 1, 1) := by decide +kernel
theorem dX8_passes_159 : decode cX8_passes 159 = .ok (.aload_n 0, 1) := by decide +kernel
theorem dX8_passes_160 : decode cX8_passes 160 = .ok (.getfield 28, 3) := by decide +kernel
theorem dX8_passes_163 : decode cX8_passes 163 = .ok (.iconst 3, 1) := by decide +kernel
theorem dX8_passes_164 : decode cX8_passes 164 = .ok (.iload 5, 2) := by decide +kernel
theorem dX8_passes_166 : decode cX8_passes 166 = .ok (.imul, 1) := by decide +kernel
theorem dX8_passes_167 : decode cX8_passes 167 = .ok (.iaload, 1) := by decide +kernel
theorem dX8_passes_168 : decode cX8_passes 168 = .ok (.if_icmp .lt 28, 3) := by decide +kernel
theorem dX8_passes_171 : decode cX8_passes 171 = .ok (.aload_n 0, 1) := by decide +kernel
theorem dX8_passes_172 : decode cX8_passes 172 = .ok (.iconst 0, 1) := by decide +kernel
theorem dX8_passes_173 : decode cX8_passes 173 = .ok (.invokevirtual 188, 3) := by decide +kernel
theorem dX8_passes_176 : decode cX8_passes 176 = .ok (.iconst (-1), 1) := by decide +kernel
theorem dX8_passes_177 : decode cX8_passes 177 = .ok (.if_icmp .ne 19, 3) := by decide +kernel
theorem dX8_passes_180 : decode cX8_passes 180 = .ok (.aload_n 0, 1) := by decide +kernel
theorem dX8_passes_181 : decode cX8_passes 181 = .ok (.getfield 40, 3) := by decide +kernel
theorem dX8_passes_184 : decode cX8_passes 184 = .ok (.iload 5, 2) := by decide +kernel
theorem dX8_passes_186 : decode cX8_passes 186 = .ok (.iconst 1, 1) := by decide +kernel
theorem dX8_passes_187 : decode cX8_passes 187 = .ok (.iastore, 1) := by decide +kernel
theorem dX8_passes_188 : decode cX8_passes 188 = .ok (.aload_n 0, 1) := by decide +kernel
theorem dX8_passes_189 : decode cX8_passes 189 = .ok (.getfield 43, 3) := by decide +kernel
theorem dX8_passes_192 : decode cX8_passes 192 = .ok (.iload 5, 2) := by decide +kernel
theorem dX8_passes_194 : decode cX8_passes 194 = .ok (.iconst 0, 1) := by decide +kernel
theorem dX8_passes_195 : decode cX8_passes 195 = .ok (.iastore, 1) := by decide +kernel
theorem dX8_passes_196 : decode cX8_passes 196 = .ok (.iinc 5 1, 3) := by decide +kernel
theorem dX8_passes_199 : decode cX8_passes 199 = .ok (.goto (-60), 3) := by decide +kernel
theorem dX8_passes_202 : decode cX8_passes 202 = .ok (.iconst 0, 1) := by decide +kernel
theorem dX8_passes_203 : decode cX8_passes 203 = .ok (.istore 5, 2) := by decide +kernel
theorem dX8_passes_205 : decode cX8_passes 205 = .ok (.iload 5, 2) := by decide +kernel
theorem dX8_passes_207 : decode cX8_passes 207 = .ok (.aload_n 0, 1) := by decide +kernel
theorem dX8_passes_208 : decode cX8_passes 208 = .ok (.getfield 127, 3) := by decide +kernel
theorem dX8_passes_211 : decode cX8_passes 211 = .ok (.if_icmp .ge 93, 3) := by decide +kernel
theorem dX8_passes_214 : decode cX8_passes 214 = .ok (.aload_n 0, 1) := by decide +kernel
theorem dX8_passes_215 : decode cX8_passes 215 = .ok (.getfield 61, 3) := by decide +kernel
theorem dX8_passes_218 : decode cX8_passes 218 = .ok (.iload 5, 2) := by decide +kernel
theorem dX8_passes_220 : decode cX8_passes 220 = .ok (.aload_n 0, 1) := by decide +kernel
theorem dX8_passes_221 : decode cX8_passes 221 = .ok (.getfield 46, 3) := by decide +kernel
theorem dX8_passes_224 : decode cX8_passes 224 = .ok (.iload 5, 2) := by decide +kernel
theorem dX8_passes_226 : decode cX8_passes 226 = .ok (.iaload, 1) := by decide +kernel
theorem dX8_passes_227 : decode cX8_passes 227 = .ok (.invokestatic 201, 3) := by decide +kernel
theorem dX8_passes_230 : decode cX8_passes 230 = .ok (.aload_n 0, 1) := by decide +kernel
theorem dX8_passes_231 : decode cX8_passes 231 = .ok (.getfield 61, 3) := by decide +kernel
theorem dX8_passes_234 : decode cX8_passes 234 = .ok (.iload 5, 2) := by decide +kernel
theorem dX8_passes_236 : decode cX8_passes 236 = .ok (.iaload, 1) := by decide +kernel
theorem dX8_passes_237 : decode cX8_passes 237 = .ok (.invokestatic 210, 3) := by decide +kernel
theorem dX8_passes_240 : decode cX8_passes 240 = .ok (.iastore, 1) := by decide +kernel
theorem dX8_passes_241 : decode cX8_passes 241 = .ok (.aload_n 0, 1) := by decide +kernel
theorem dX8_passes_242 : decode cX8_passes 242 = .ok (.getfield 64, 3) := by decide +kernel
theorem dX8_passes_245 : decode cX8_passes 245 = .ok (.bipush 6, 2) := by decide +kernel
theorem dX8_passes_247 : decode cX8_passes 247 = .ok (.iload_n 1, 1) := by decide +kernel
theorem dX8_passes_248 : decode cX8_passes 248 = .ok (.imul, 1) := by decide +kernel
theorem dX8_passes_249 : decode cX8_passes 249 = .ok (.iload 5, 2) := by decide +kernel
theorem dX8_passes_251 : decode cX8_passes 251 = .ok (.iadd, 1) := by decide +kernel
theorem dX8_passes_252 : decode cX8_passes 252 = .ok (.aload_n 0, 1) := by decide +kernel
theorem dX8_passes_253 : decode cX8_passes 253 = .ok (.getfield 40, 3) := by decide +kernel
theorem dX8_passes_256 : decode cX8_passes 256 = .ok (.iload 5, 2) := by decide +kernel
theorem dX8_passes_258 : decode cX8_passes 258 = .ok (.iaload, 1) := by decide +kernel
theorem dX8_passes_259 : decode cX8_passes 259 = .ok (.iastore, 1) := by decide +kernel
theorem dX8_passes_260 : decode cX8_passes 260 = .ok (.aload_n 0, 1) := by decide +kernel
theorem dX8_passes_261 : decode cX8_passes 261 = .ok (.getfield 67, 3) := by decide +kernel
theorem dX8_passes_264 : decode cX8_passes 264 = .ok (.bipush 6, 2) := by decide +kernel
theorem dX8_passes_266 : decode cX8_passes 266 = .ok (.iload_n 1, 1) := by decide +kernel
theorem dX8_passes_267 : decode cX8_passes 267 = .ok (.imul, 1) := by decide +kernel
theorem dX8_passes_268 : decode cX8_passes 268 = .ok (.iload 5, 2) := by decide +kernel
theorem dX8_passes_270 : decode cX8_passes 270 = .ok (.iadd, 1) := by decide +kernel
theorem dX8_passes_271 : decode cX8_passes 271 = .ok (.aload_n 0, 1) := by decide +kernel
theorem dX8_passes_272 : decode cX8_passes 272 = .ok (.getfield 43, 3) := by decide +kernel
theorem dX8_passes_275 : decode cX8_passes 275 = .ok (.iload 5, 2) := by decide +kernel
theorem dX8_passes_277 : decode cX8_passes 277 = .ok (.iaload, 1) := by decide +kernel
theorem dX8_passes_278 : decode cX8_passes 278 = .ok (.iastore, 1) := by decide +kernel
theorem dX8_passes_279 : decode cX8_passes 279 = .ok (.aload_n 0, 1) := by decide +kernel
theorem dX8_passes_280 : decode cX8_passes 280 = .ok (.getfield 70, 3) := by decide +kernel
theorem dX8_passes_283 : decode cX8_passes 283 = .ok (.bipush 6, 2) := by decide +kernel
theorem dX8_passes_285 : decode cX8_passes 285 = .ok (.iload_n 1, 1) := by decide +kernel
theorem dX8_passes_286 : decode cX8_passes 286 = .ok (.imul, 1) := by decide +kernel
theorem dX8_passes_287 : decode cX8_passes 287 = .ok (.iload 5, 2) := by decide +kernel
theorem dX8_passes_289 : decode cX8_passes 289 = .ok (.iadd, 1) := by decide +kernel
theorem dX8_passes_290 : decode cX8_passes 290 = .ok (.aload_n 0, 1) := by decide +kernel
theorem dX8_passes_291 : decode cX8_passes 291 = .ok (.getfield 46, 3) := by decide +kernel
theorem dX8_passes_294 : decode cX8_passes 294 = .ok (.iload 5, 2) := by decide +kernel
theorem dX8_passes_296 : decode cX8_passes 296 = .ok (.iaload, 1) := by decide +kernel
theorem dX8_passes_297 : decode cX8_passes 297 = .ok (.iastore, 1) := by decide +kernel
theorem dX8_passes_298 : decode cX8_passes 298 = .ok (.iinc 5 1, 3) := by decide +kernel
theorem dX8_passes_301 : decode cX8_passes 301 = .ok (.goto (-96), 3) := by decide +kernel
theorem dX8_passes_304 : decode cX8_passes 304 = .ok (.return_, 1) := by decide +kernel
set_option maxRecDepth 20000 in
theorem m_X8_passes {h : Hp} {a1 : Int32} {a2 : Int32}  {u : Hp} (hu : f_X8_passes h a1 a2 = some u) : Ct yX8_passes cX8_passes 7 none 4 [.ref 68, .int a1, .int a2] h (eV u) := by
  refine ct_of eV hu (by decide) (Nat.le_of_ble_eq_true rfl) (fun κ hn C E => ?_)
  have n3 : 3 < kn κ := by rw [hn]; decide
  have n4 : 4 < kn κ := by rw [hn]; decide
  have n5 : 5 < kn κ := by rw [hn]; decide
  have n6 : 6 < kn κ := by rw [hn]; decide
  unfold f_X8_passes
  show Xz κ _ 0 [(0, .ref 68), (1, .int a1), (2, .int a2)] [] h
  refine x_aload_n 1 C dX8_passes_0 0 rfl rfl rfl ?_
  refine x_iload_n 2 C dX8_passes_1 1 rfl rfl rfl ?_
  refine x_cvV 5 [.int a1] [] C 1 dX8_passes_2 v_X8_204 (fun u hu => m_X8_happens hu) rfl sk_68 rfl (Nat.le_of_ble_eq_true rfl) (Nat.le_of_ble_eq_true rfl) rfl (fun h1 => ?_)
  refine x_iload_n 6 C dX8_passes_5 2 rfl rfl rfl ?_
  refine x_lt1 (q := 21) (ls := fun x2 => [(0, .ref 68), (1, .int a1)]) (st := fun x2 => [.int x2]) (hh := fun x2 => h1) (fun x2 => ?_) (fun k1 J1 => ?_)
  · refine x_istore_n 22 [(3, .int x2), (0, .ref 68), (1, .int a1)] C dX8_passes_21 n3 rfl rfl rfl ?_
    refine x_aload_n 23 C dX8_passes_22 1 rfl rfl rfl ?_
    refine x_getR (c := 90) 26 C dX8_passes_23 fl_X8_73 sk_68 rfl sr_68_26 rfl ?_
    refine x_iload_n 27 C dX8_passes_26 2 rfl rfl rfl ?_
    refine x_iload_n 28 C dX8_passes_27 2 rfl rfl rfl ?_
    refine x_iconst 29 C dX8_passes_28 ci_2 rfl ?_
    refine x_irem 30 C dX8_passes_29 nz_2 rfl ?_
    refine x_lt1 (q := 40) (ls := fun x3 => [(0, .ref 68), (1, .int a1)]) (st := fun x3 => [.int x3, .int a1, .ref 90]) (hh := fun x3 => h1) (fun x3 => ?_) (fun k2 J2 => ?_)
    · refine x_iast 41 C dX8_passes_40 sk_90 sl_90 rfl (fun h4 => ?_)
      refine x_aload_n 42 C dX8_passes_41 0 rfl rfl rfl ?_
      refine x_aload_n 43 C dX8_passes_42 0 rfl rfl rfl ?_
      refine x_getR (c := 90) 46 C dX8_passes_43 fl_X8_73 sk_68 rfl sr_68_26 rfl ?_
      refine x_iload_n 47 C dX8_passes_46 1 rfl rfl rfl ?_
      refine x_iald 48 C dX8_passes_47 sk_90 sl_90 rfl ?_
      refine x_cvV 51 [.int (ia h4 90 a1)] [] C 0 dX8_passes_48 v_X8_184 (fun u hu => m_X8_leans hu) rfl sk_68 rfl (Nat.le_of_ble_eq_true rfl) (Nat.le_of_ble_eq_true rfl) rfl (fun h5 => ?_)
      refine x_iconst 52 C dX8_passes_51 ci_0 rfl ?_
      refine x_istore 54 [(4, .int (0 : Int32)), (0, .ref 68), (1, .int a1)] C dX8_passes_52 n4 rfl rfl ?_
      refine x_bipush 56 C dX8_passes_54 cb_40 rfl ?_
      refine x_istore 58 [(5, .int (40 : Int32)), (4, .int (0 : Int32)), (0, .ref 68), (1, .int a1)] C dX8_passes_56 n5 rfl rfl ?_
      refine x_lt1 (q := 136) (ls := fun h6 => [(0, .ref 68), (1, .int a1)]) (st := fun h6 => []) (hh := fun h6 => h6) (fun h6 => ?_) (fun k3 J3 => ?_)
      · refine x_iconst 137 C dX8_passes_136 ci_0 rfl ?_
        refine x_istore 139 [(5, .int (0 : Int32)), (0, .ref 68), (1, .int a1)] C dX8_passes_137 n5 rfl rfl ?_
        refine x_lt1 (q := 202) (ls := fun h7 => [(0, .ref 68), (1, .int a1)]) (st := fun h7 => []) (hh := fun h7 => h7) (fun h7 => ?_) (fun k4 J4 => ?_)
        · refine x_iconst 203 C dX8_passes_202 ci_0 rfl ?_
          refine x_istore 205 [(5, .int (0 : Int32)), (0, .ref 68), (1, .int a1)] C dX8_passes_203 n5 rfl rfl ?_
          refine x_ls [1, 2, 0] rfl (x_fx2 (ls := fun h8 x9 => [(0, .ref 68), (1, .int a1), (5, .int x9)]) (st := fun h8 x9 => []) (hh := fun h8 x9 => h8) (fun s5 J5 h8 x9 => ?_))
          refine x_iload 207 C dX8_passes_205 2 rfl rfl ?_
          refine x_aload_n 208 C dX8_passes_207 0 rfl rfl rfl ?_
          refine x_getI 211 C dX8_passes_208 fl_X8_127 sk_68 rfl rfl ?_
          refine x_icmp_ge 214 304 C dX8_passes_211 (by decide) rfl (fun _ => ?_) (fun _ => ?_)
          · exact x_vret C E dX8_passes_304 rfl
          · refine x_aload_n 215 C dX8_passes_214 0 rfl rfl rfl ?_
            refine x_getR (c := 86) 218 C dX8_passes_215 fl_X8_61 sk_68 rfl sr_68_22 rfl ?_
            refine x_iload 220 C dX8_passes_218 2 rfl rfl ?_
            refine x_aload_n 221 C dX8_passes_220 0 rfl rfl rfl ?_
            refine x_getR (c := 81) 224 C dX8_passes_221 fl_X8_46 sk_68 rfl sr_68_17 rfl ?_
            refine x_iload 226 C dX8_passes_224 2 rfl rfl ?_
            refine x_iald 227 C dX8_passes_226 sk_81 sl_81 rfl ?_
            refine x_csi 230 [.int (ia h8 81 x9)] [.int x9, .ref 86] C 0 dX8_passes_227 s_X8_201 (fun u hu => m_X8_size hu) rfl rfl (Nat.le_of_ble_eq_true rfl) (Nat.le_of_ble_eq_true rfl) rfl (fun x10 => ?_)
            refine x_aload_n 231 C dX8_passes_230 0 rfl rfl rfl ?_
            refine x_getR (c := 86) 234 C dX8_passes_231 fl_X8_61 sk_68 rfl sr_68_22 rfl ?_
            refine x_iload 236 C dX8_passes_234 2 rfl rfl ?_
            refine x_iald 237 C dX8_passes_236 sk_86 sl_86 rfl ?_
            refine x_csi 240 [.int x10, .int (ia h8 86 x9)] [.int x9, .ref 86] C 0 dX8_passes_237 s_X8_210 (fun u hu => m_X8_greater hu) rfl rfl (Nat.le_of_ble_eq_true rfl) (Nat.le_of_ble_eq_true rfl) rfl (fun x11 => ?_)
            refine x_iast 241 C dX8_passes_240 sk_86 sl_86 rfl (fun h12 => ?_)
            refine x_aload_n 242 C dX8_passes_241 0 rfl rfl rfl ?_
            refine x_getR (c := 87) 245 C dX8_passes_242 fl_X8_64 sk_68 rfl sr_68_23 rfl ?_
            refine x_bipush 247 C dX8_passes_245 cb_6 rfl ?_
            refine x_iload_n 248 C dX8_passes_247 1 rfl rfl rfl ?_
            refine x_imul 249 C dX8_passes_248 rfl ?_
            refine x_iload 251 C dX8_passes_249 2 rfl rfl ?_
            refine x_iadd 252 C dX8_passes_251 rfl ?_
            refine x_aload_n 253 C dX8_passes_252 0 rfl rfl rfl ?_
            refine x_getR (c := 79) 256 C dX8_passes_253 fl_X8_40 sk_68 rfl sr_68_15 rfl ?_
            refine x_iload 258 C dX8_passes_256 2 rfl rfl ?_
            refine x_iald 259 C dX8_passes_258 sk_79 sl_79 rfl ?_
            refine x_iast 260 C dX8_passes_259 sk_87 sl_87 rfl (fun h13 => ?_)
            refine x_aload_n 261 C dX8_passes_260 0 rfl rfl rfl ?_
            refine x_getR (c := 88) 264 C dX8_passes_261 fl_X8_67 sk_68 rfl sr_68_24 rfl ?_
            refine x_bipush 266 C dX8_passes_264 cb_6 rfl ?_
            refine x_iload_n 267 C dX8_passes_266 1 rfl rfl rfl ?_
            refine x_imul 268 C dX8_passes_267 rfl ?_
            refine x_iload 270 C dX8_passes_268 2 rfl rfl ?_
            refine x_iadd 271 C dX8_passes_270 rfl ?_
            refine x_aload_n 272 C dX8_passes_271 0 rfl rfl rfl ?_
            refine x_getR (c := 80) 275 C dX8_passes_272 fl_X8_43 sk_68 rfl sr_68_16 rfl ?_
            refine x_iload 277 C dX8_passes_275 2 rfl rfl ?_
            refine x_iald 278 C dX8_passes_277 sk_80 sl_80 rfl ?_
            refine x_iast 279 C dX8_passes_278 sk_88 sl_88 rfl (fun h14 => ?_)
            refine x_aload_n 280 C dX8_passes_279 0 rfl rfl rfl ?_
            refine x_getR (c := 89) 283 C dX8_passes_280 fl_X8_70 sk_68 rfl sr_68_25 rfl ?_
            refine x_bipush 285 C dX8_passes_283 cb_6 rfl ?_
            refine x_iload_n 286 C dX8_passes_285 1 rfl rfl rfl ?_
            refine x_imul 287 C dX8_passes_286 rfl ?_
            refine x_iload 289 C dX8_passes_287 2 rfl rfl ?_
            refine x_iadd 290 C dX8_passes_289 rfl ?_
            refine x_aload_n 291 C dX8_passes_290 0 rfl rfl rfl ?_
            refine x_getR (c := 81) 294 C dX8_passes_291 fl_X8_46 sk_68 rfl sr_68_17 rfl ?_
            refine x_iload 296 C dX8_passes_294 2 rfl rfl ?_
            refine x_iald 297 C dX8_passes_296 sk_81 sl_81 rfl ?_
            refine x_iast 298 C dX8_passes_297 sk_89 sl_89 rfl (fun h15 => ?_)
            refine x_iinc 301 (fun x16 => [(5, .int x16), (0, .ref 68), (1, .int a1)]) C dX8_passes_298 2 rfl ci_1 n5 (fun _ => rfl) rfl (fun x16 => ?_)
            refine x_goto 205 C dX8_passes_301 (by decide) ?_
            exact x_ls [1, 2, 0] rfl (J5 h15 x16)
        refine x_ls [1, 2, 0] rfl (x_fx2 (ls := fun h17 x18 => [(0, .ref 68), (1, .int a1), (5, .int x18)]) (st := fun h17 x18 => []) (hh := fun h17 x18 => h17) (fun s6 J6 h17 x18 => ?_))
        refine x_iload 141 C dX8_passes_139 2 rfl rfl ?_
        refine x_aload_n 142 C dX8_passes_141 0 rfl rfl rfl ?_
        refine x_getI 145 C dX8_passes_142 fl_X8_127 sk_68 rfl rfl ?_
        refine x_icmp_ge 148 202 C dX8_passes_145 (by decide) rfl (fun _ => ?_) (fun _ => ?_)
        · exact x_ls [0, 1] rfl (J4 h17)
        · refine x_aload_n 149 C dX8_passes_148 0 rfl rfl rfl ?_
          refine x_getR (c := 79) 152 C dX8_passes_149 fl_X8_40 sk_68 rfl sr_68_15 rfl ?_
          refine x_iload 154 C dX8_passes_152 2 rfl rfl ?_
          refine x_iald 155 C dX8_passes_154 sk_79 sl_79 rfl ?_
          refine x_lt1 (q := 196) (ls := fun h19 => [(0, .ref 68), (1, .int a1), (5, .int x18)]) (st := fun h19 => []) (hh := fun h19 => h19) (fun h19 => ?_) (fun k7 J7 => ?_)
          · refine x_iinc 199 (fun x20 => [(5, .int x20), (0, .ref 68), (1, .int a1)]) C dX8_passes_196 2 rfl ci_1 n5 (fun _ => rfl) rfl (fun x20 => ?_)
            refine x_goto 139 C dX8_passes_199 (by decide) ?_
            exact x_ls [1, 2, 0] rfl (J6 h19 x20)
          refine x_if_ne 158 196 C dX8_passes_155 (by decide) rfl (fun _ => ?_) (fun _ => ?_)
          · exact x_ls [0, 1, 2] rfl (J7 h17)
          · refine x_iload_n 159 C dX8_passes_158 1 rfl rfl rfl ?_
            refine x_aload_n 160 C dX8_passes_159 0 rfl rfl rfl ?_
            refine x_getR (c := 75) 163 C dX8_passes_160 fl_X8_28 sk_68 rfl sr_68_8 rfl ?_
            refine x_iconst 164 C dX8_passes_163 ci_3 rfl ?_
            refine x_iload 166 C dX8_passes_164 2 rfl rfl ?_
            refine x_imul 167 C dX8_passes_166 rfl ?_
            refine x_iald 168 C dX8_passes_167 sk_75 sl_75 rfl ?_
            refine x_icmp_lt 171 196 C dX8_passes_168 (by decide) rfl (fun _ => ?_) (fun _ => ?_)
            · exact x_ls [0, 1, 2] rfl (J7 h17)
            · refine x_aload_n 172 C dX8_passes_171 0 rfl rfl rfl ?_
              refine x_iconst 173 C dX8_passes_172 ci_0 rfl ?_
              refine x_cvi 176 [.int (0 : Int32)] [] C 0 dX8_passes_173 v_X8_188 (fun u hu => m_X8_whoAt hu) rfl sk_68 rfl (Nat.le_of_ble_eq_true rfl) (Nat.le_of_ble_eq_true rfl) rfl (fun x21 => ?_)
              refine x_iconst 177 C dX8_passes_176 ci_m1 rfl ?_
              refine x_icmp_ne 180 196 C dX8_passes_177 (by decide) rfl (fun _ => ?_) (fun _ => ?_)
              · exact x_ls [0, 1, 2] rfl (J7 h17)
              · refine x_aload_n 181 C dX8_passes_180 0 rfl rfl rfl ?_
                refine x_getR (c := 79) 184 C dX8_passes_181 fl_X8_40 sk_68 rfl sr_68_15 rfl ?_
                refine x_iload 186 C dX8_passes_184 2 rfl rfl ?_
                refine x_iconst 187 C dX8_passes_186 ci_1 rfl ?_
                refine x_iast 188 C dX8_passes_187 sk_79 sl_79 rfl (fun h22 => ?_)
                refine x_aload_n 189 C dX8_passes_188 0 rfl rfl rfl ?_
                refine x_getR (c := 80) 192 C dX8_passes_189 fl_X8_43 sk_68 rfl sr_68_16 rfl ?_
                refine x_iload 194 C dX8_passes_192 2 rfl rfl ?_
                refine x_iconst 195 C dX8_passes_194 ci_0 rfl ?_
                refine x_iast 196 C dX8_passes_195 sk_80 sl_80 rfl (fun h23 => ?_)
                exact x_ls [0, 1, 2] rfl (J7 h23)
      refine x_ls [2, 3, 1, 0] rfl (x_fx3 (ls := fun h24 x25 x26 => [(0, .ref 68), (1, .int a1), (4, .int x25), (5, .int x26)]) (st := fun h24 x25 x26 => []) (hh := fun h24 x25 x26 => h24) (fun s8 J8 h24 x25 x26 => ?_))
      refine x_iload 60 C dX8_passes_58 3 rfl rfl ?_
      refine x_if_lt 63 136 C dX8_passes_60 (by decide) rfl (fun _ => ?_) (fun _ => ?_)
      · exact x_ls [0, 1] rfl (J3 h24)
      · refine x_iconst 64 C dX8_passes_63 ci_0 rfl ?_
        refine x_istore 66 [(6, .int (0 : Int32)), (0, .ref 68), (1, .int a1), (4, .int x25), (5, .int x26)] C dX8_passes_64 n6 rfl rfl ?_
        refine x_lt2 (q := 130) (ls := fun h27 x28 => [(0, .ref 68), (1, .int a1), (4, .int x28), (5, .int x26)]) (st := fun h27 x28 => []) (hh := fun h27 x28 => h27) (fun h27 x28 => ?_) (fun k9 J9 => ?_)
        · refine x_iinc 133 (fun x29 => [(5, .int x29), (0, .ref 68), (1, .int a1), (4, .int x28)]) C dX8_passes_130 3 rfl ci_m1 n5 (fun _ => rfl) rfl (fun x29 => ?_)
          refine x_goto 58 C dX8_passes_133 (by decide) ?_
          exact x_ls [1, 2, 3, 0] rfl (J8 h27 x28 x29)
        refine x_ls [1, 2, 3, 4, 0] rfl (x_fx3 (ls := fun h30 x31 x32 => [(0, .ref 68), (1, .int a1), (4, .int x31), (5, .int x26), (6, .int x32)]) (st := fun h30 x31 x32 => []) (hh := fun h30 x31 x32 => h30) (fun s10 J10 h30 x31 x32 => ?_))
        refine x_iload 68 C dX8_passes_66 4 rfl rfl ?_
        refine x_aload_n 69 C dX8_passes_68 0 rfl rfl rfl ?_
        refine x_getI 72 C dX8_passes_69 fl_X8_127 sk_68 rfl rfl ?_
        refine x_icmp_ge 75 130 C dX8_passes_72 (by decide) rfl (fun _ => ?_) (fun _ => ?_)
        · exact x_ls [0, 1, 2, 3] rfl (J9 h30 x31)
        · refine x_aload_n 76 C dX8_passes_75 0 rfl rfl rfl ?_
          refine x_getR (c := 79) 79 C dX8_passes_76 fl_X8_40 sk_68 rfl sr_68_15 rfl ?_
          refine x_iload 81 C dX8_passes_79 4 rfl rfl ?_
          refine x_iald 82 C dX8_passes_81 sk_79 sl_79 rfl ?_
          refine x_iconst 83 C dX8_passes_82 ci_1 rfl ?_
          refine x_lt2 (q := 124) (ls := fun h33 x34 => [(0, .ref 68), (1, .int a1), (4, .int x34), (5, .int x26), (6, .int x32)]) (st := fun h33 x34 => []) (hh := fun h33 x34 => h33) (fun h33 x34 => ?_) (fun k11 J11 => ?_)
          · refine x_iinc 127 (fun x35 => [(6, .int x35), (0, .ref 68), (1, .int a1), (4, .int x34), (5, .int x26)]) C dX8_passes_124 4 rfl ci_1 n6 (fun _ => rfl) rfl (fun x35 => ?_)
            refine x_goto 66 C dX8_passes_127 (by decide) ?_
            exact x_ls [1, 2, 3, 4, 0] rfl (J10 h33 x34 x35)
          refine x_icmp_ne 86 124 C dX8_passes_83 (by decide) rfl (fun _ => ?_) (fun _ => ?_)
          · exact x_ls [0, 1, 2, 3, 4] rfl (J11 h30 x31)
          · refine x_aload_n 87 C dX8_passes_86 0 rfl rfl rfl ?_
            refine x_getR (c := 80) 90 C dX8_passes_87 fl_X8_43 sk_68 rfl sr_68_16 rfl ?_
            refine x_iload 92 C dX8_passes_90 4 rfl rfl ?_
            refine x_iald 93 C dX8_passes_92 sk_80 sl_80 rfl ?_
            refine x_iload 95 C dX8_passes_93 3 rfl rfl ?_
            refine x_icmp_ne 98 124 C dX8_passes_95 (by decide) rfl (fun _ => ?_) (fun _ => ?_)
            · exact x_ls [0, 1, 2, 3, 4] rfl (J11 h30 x31)
            · refine x_iload 100 C dX8_passes_98 2 rfl rfl ?_
              refine x_iload 102 C dX8_passes_100 4 rfl rfl ?_
              refine x_csi 105 [.int x31, .int x32] [] C 0 dX8_passes_102 s_X8_181 (fun u hu => m_X8_isIn hu) rfl rfl (Nat.le_of_ble_eq_true rfl) (Nat.le_of_ble_eq_true rfl) rfl (fun x36 => ?_)
              refine x_if_ne 108 124 C dX8_passes_105 (by decide) rfl (fun _ => ?_) (fun _ => ?_)
              · exact x_ls [0, 1, 2, 3, 4] rfl (J11 h30 x31)
              · refine x_iload 110 C dX8_passes_108 2 rfl rfl ?_
                refine x_iconst 111 C dX8_passes_110 ci_1 rfl ?_
                refine x_iload 113 C dX8_passes_111 4 rfl rfl ?_
                refine x_ishl 114 C dX8_passes_113 rfl ?_
                refine x_ior 115 C dX8_passes_114 rfl ?_
                refine x_ni (fun x37 => ?_)
                refine x_istore 117 [(4, .int x37), (0, .ref 68), (1, .int a1), (5, .int x26), (6, .int x32)] C dX8_passes_115 n4 rfl rfl ?_
                refine x_aload_n 118 C dX8_passes_117 1 rfl rfl rfl ?_
                refine x_iload_n 119 C dX8_passes_118 2 rfl rfl rfl ?_
                refine x_iload 121 C dX8_passes_119 4 rfl rfl ?_
                refine x_cvV 124 [.int a1, .int x32] [] C 3 dX8_passes_121 v_X8_207 (fun u hu => m_X8_moves hu) rfl sk_68 rfl (Nat.le_of_ble_eq_true rfl) (Nat.le_of_ble_eq_true rfl) rfl (fun h38 => ?_)
                exact x_ls [1, 2, 0, 3, 4] rfl (J11 h38 x37)
    refine x_if_ne 33 37 C dX8_passes_30 (by decide) rfl (fun _ => ?_) (fun _ => ?_)
    · refine x_iconst 38 C dX8_passes_37 ci_0 rfl ?_
      refine x_iload_n 39 C dX8_passes_38 0 rfl rfl rfl ?_
      refine x_isub 40 C dX8_passes_39 rfl ?_
      exact x_ls [1, 2] rfl (J2 ((0 : Int32) - x2))
    · refine x_iload_n 34 C dX8_passes_33 0 rfl rfl rfl ?_
      refine x_goto 40 C dX8_passes_34 (by decide) ?_
      exact x_ls [1, 2] rfl (J2 x2)
  refine x_if_eq 9 20 C dX8_passes_6 (by decide) rfl (fun _ => ?_) (fun _ => ?_)
  · refine x_iconst 21 C dX8_passes_20 ci_0 rfl ?_
    exact x_ls [0, 1] rfl (J1 (0 : Int32))
  · refine x_aload_n 10 C dX8_passes_9 0 rfl rfl rfl ?_
    refine x_getR (c := 77) 13 C dX8_passes_10 fl_X8_34 sk_68 rfl sr_68_11 rfl ?_
    refine x_iconst 14 C dX8_passes_13 ci_1 rfl ?_
    refine x_ialc 15 C dX8_passes_14 sk_77 sl_77 vi_1_3 vj_1 rfl ?_
    refine x_iconst 16 C dX8_passes_15 ci_2 rfl ?_
    refine x_idiv 17 C dX8_passes_16 nz_2 rfl ?_
    refine x_goto 21 C dX8_passes_17 (by decide) ?_
    exact x_ls [0, 1] rfl (J1 ((h1.1 77 1) / (2 : Int32)))

def f_X8_lives (h : Hp) : Option Hp :=
  lt1 (fun (h1 : Hp) =>
    nm (uf h1 68 27 (0 : Int32)) fun h2 =>
    fx3 FU (fun s2 (h3 : Hp) (x4 : Int32) (x5 : Int32) =>
      if (24 : Int32) ≤ x5 then (
        some h3)
      else (
        nm (h3.1 68 27) fun x6 =>
        lt1 (fun (x7 : Int32) =>
          bdv (f_X8_passes h3 x5 x7) fun h8 =>
          nm (x5 + (1 : Int32)) fun x9 =>
          s2 h8 x6 x9) fun k3 =>
        if x6 ≤ x4 then (
          k3 (0 : Int32))
        else (
          k3 (1 : Int32)))) h2 (0 : Int32) (0 : Int32)) fun k1 =>
  fx2 FU (fun s4 (h10 : Hp) (x11 : Int32) =>
    if (6 : Int32) ≤ x11 then (
      k1 h10)
    else (
      ck x11 6 (nm (ux h10 79 x11 (0 : Int32)) fun h12 =>
      ck x11 6 (nm (ux h12 80 x11 (-1 : Int32)) fun h13 =>
      ck x11 6 (nm (ux h13 81 x11 (0 : Int32)) fun h14 =>
      ck (((3 : Int32) * x11) + (2 : Int32)) 18 (
        ck x11 6 (nm (ux h14 82 x11 (ia h14 75 (((3 : Int32) * x11) + (2 : Int32)))) fun h15 =>
        ck x11 6 (nm (ux h15 83 x11 (0 : Int32)) fun h16 =>
        ck x11 6 (nm (ux h16 84 x11 (-1 : Int32)) fun h17 =>
        ck x11 6 (nm (ux h17 85 x11 (0 : Int32)) fun h18 =>
        ck x11 6 (nm (ux h18 86 x11 (0 : Int32)) fun h19 =>
        nm (x11 + (1 : Int32)) fun x20 =>
        s4 h19 x20))))))))))) h (0 : Int32)
theorem dX8_lives_0 : decode cX8_lives 0 = .ok (.iconst 0, 1) := by decide +kernel
theorem dX8_lives_1 : decode cX8_lives 1 = .ok (.istore_n 1, 1) := by decide +kernel
theorem dX8_lives_2 : decode cX8_lives 2 = .ok (.iload_n 1, 1) := by decide +kernel
theorem dX8_lives_3 : decode cX8_lives 3 = .ok (.bipush 6, 2) := by decide +kernel
theorem dX8_lives_5 : decode cX8_lives 5 = .ok (.if_icmp .ge 74, 3) := by decide +kernel
theorem dX8_lives_8 : decode cX8_lives 8 = .ok (.aload_n 0, 1) := by decide +kernel
theorem dX8_lives_9 : decode cX8_lives 9 = .ok (.getfield 40, 3) := by decide +kernel
theorem dX8_lives_12 : decode cX8_lives 12 = .ok (.iload_n 1, 1) := by decide +kernel
theorem dX8_lives_13 : decode cX8_lives 13 = .ok (.iconst 0, 1) := by decide +kernel
theorem dX8_lives_14 : decode cX8_lives 14 = .ok (.iastore, 1) := by decide +kernel
theorem dX8_lives_15 : decode cX8_lives 15 = .ok (.aload_n 0, 1) := by decide +kernel
theorem dX8_lives_16 : decode cX8_lives 16 = .ok (.getfield 43, 3) := by decide +kernel
theorem dX8_lives_19 : decode cX8_lives 19 = .ok (.iload_n 1, 1) := by decide +kernel
theorem dX8_lives_20 : decode cX8_lives 20 = .ok (.iconst (-1), 1) := by decide +kernel
theorem dX8_lives_21 : decode cX8_lives 21 = .ok (.iastore, 1) := by decide +kernel
theorem dX8_lives_22 : decode cX8_lives 22 = .ok (.aload_n 0, 1) := by decide +kernel
theorem dX8_lives_23 : decode cX8_lives 23 = .ok (.getfield 46, 3) := by decide +kernel
theorem dX8_lives_26 : decode cX8_lives 26 = .ok (.iload_n 1, 1) := by decide +kernel
theorem dX8_lives_27 : decode cX8_lives 27 = .ok (.iconst 0, 1) := by decide +kernel
theorem dX8_lives_28 : decode cX8_lives 28 = .ok (.iastore, 1) := by decide +kernel
theorem dX8_lives_29 : decode cX8_lives 29 = .ok (.aload_n 0, 1) := by decide +kernel
theorem dX8_lives_30 : decode cX8_lives 30 = .ok (.getfield 49, 3) := by decide +kernel
theorem dX8_lives_33 : decode cX8_lives 33 = .ok (.iload_n 1, 1) := by decide +kernel
theorem dX8_lives_34 : decode cX8_lives 34 = .ok (.aload_n 0, 1) := by decide +kernel
theorem dX8_lives_35 : decode cX8_lives 35 = .ok (.getfield 28, 3) := by decide +kernel
theorem dX8_lives_38 : decode cX8_lives 38 = .ok (.iconst 3, 1) := by decide +kernel
theorem dX8_lives_39 : decode cX8_lives 39 = .ok (.iload_n 1, 1) := by decide +kernel
theorem dX8_lives_40 : decode cX8_lives 40 = .ok (.imul, 1) := by decide +kernel
theorem dX8_lives_41 : decode cX8_lives 41 = .ok (.iconst 2, 1) := by decide +kernel
theorem dX8_lives_42 : decode cX8_lives 42 = .ok (.iadd, 1) := by decide +kernel
theorem dX8_lives_43 : decode cX8_lives 43 = .ok (.iaload, 1) := by decide +kernel
theorem dX8_lives_44 : decode cX8_lives 44 = .ok (.iastore, 1) := by decide +kernel
theorem dX8_lives_45 : decode cX8_lives 45 = .ok (.aload_n 0, 1) := by decide +kernel
theorem dX8_lives_46 : decode cX8_lives 46 = .ok (.getfield 52, 3) := by decide +kernel
theorem dX8_lives_49 : decode cX8_lives 49 = .ok (.iload_n 1, 1) := by decide +kernel
theorem dX8_lives_50 : decode cX8_lives 50 = .ok (.iconst 0, 1) := by decide +kernel
theorem dX8_lives_51 : decode cX8_lives 51 = .ok (.iastore, 1) := by decide +kernel
theorem dX8_lives_52 : decode cX8_lives 52 = .ok (.aload_n 0, 1) := by decide +kernel
theorem dX8_lives_53 : decode cX8_lives 53 = .ok (.getfield 55, 3) := by decide +kernel
theorem dX8_lives_56 : decode cX8_lives 56 = .ok (.iload_n 1, 1) := by decide +kernel
theorem dX8_lives_57 : decode cX8_lives 57 = .ok (.iconst (-1), 1) := by decide +kernel
theorem dX8_lives_58 : decode cX8_lives 58 = .ok (.iastore, 1) := by decide +kernel
theorem dX8_lives_59 : decode cX8_lives 59 = .ok (.aload_n 0, 1) := by decide +kernel
theorem dX8_lives_60 : decode cX8_lives 60 = .ok (.getfield 58, 3) := by decide +kernel
theorem dX8_lives_63 : decode cX8_lives 63 = .ok (.iload_n 1, 1) := by decide +kernel
theorem dX8_lives_64 : decode cX8_lives 64 = .ok (.iconst 0, 1) := by decide +kernel
theorem dX8_lives_65 : decode cX8_lives 65 = .ok (.iastore, 1) := by decide +kernel
theorem dX8_lives_66 : decode cX8_lives 66 = .ok (.aload_n 0, 1) := by decide +kernel
theorem dX8_lives_67 : decode cX8_lives 67 = .ok (.getfield 61, 3) := by decide +kernel
theorem dX8_lives_70 : decode cX8_lives 70 = .ok (.iload_n 1, 1) := by decide +kernel
theorem dX8_lives_71 : decode cX8_lives 71 = .ok (.iconst 0, 1) := by decide +kernel
theorem dX8_lives_72 : decode cX8_lives 72 = .ok (.iastore, 1) := by decide +kernel
theorem dX8_lives_73 : decode cX8_lives 73 = .ok (.iinc 1 1, 3) := by decide +kernel
theorem dX8_lives_76 : decode cX8_lives 76 = .ok (.goto (-74), 3) := by decide +kernel
theorem dX8_lives_79 : decode cX8_lives 79 = .ok (.aload_n 0, 1) := by decide +kernel
theorem dX8_lives_80 : decode cX8_lives 80 = .ok (.iconst 0, 1) := by decide +kernel
theorem dX8_lives_81 : decode cX8_lives 81 = .ok (.putfield 191, 3) := by decide +kernel
theorem dX8_lives_84 : decode cX8_lives 84 = .ok (.iconst 0, 1) := by decide +kernel
theorem dX8_lives_85 : decode cX8_lives 85 = .ok (.istore_n 1, 1) := by decide +kernel
theorem dX8_lives_86 : decode cX8_lives 86 = .ok (.iconst 0, 1) := by decide +kernel
theorem dX8_lives_87 : decode cX8_lives 87 = .ok (.istore_n 2, 1) := by decide +kernel
theorem dX8_lives_88 : decode cX8_lives 88 = .ok (.iload_n 2, 1) := by decide +kernel
theorem dX8_lives_89 : decode cX8_lives 89 = .ok (.bipush 24, 2) := by decide +kernel
theorem dX8_lives_91 : decode cX8_lives 91 = .ok (.if_icmp .ge 31, 3) := by decide +kernel
theorem dX8_lives_94 : decode cX8_lives 94 = .ok (.aload_n 0, 1) := by decide +kernel
theorem dX8_lives_95 : decode cX8_lives 95 = .ok (.getfield 191, 3) := by decide +kernel
theorem dX8_lives_98 : decode cX8_lives 98 = .ok (.istore_n 3, 1) := by decide +kernel
theorem dX8_lives_99 : decode cX8_lives 99 = .ok (.aload_n 0, 1) := by decide +kernel
theorem dX8_lives_100 : decode cX8_lives 100 = .ok (.iload_n 2, 1) := by decide +kernel
theorem dX8_lives_101 : decode cX8_lives 101 = .ok (.iload_n 3, 1) := by decide +kernel
theorem dX8_lives_102 : decode cX8_lives 102 = .ok (.iload_n 1, 1) := by decide +kernel
theorem dX8_lives_103 : decode cX8_lives 103 = .ok (.if_icmp .le 7, 3) := by decide +kernel
theorem dX8_lives_106 : decode cX8_lives 106 = .ok (.iconst 1, 1) := by decide +kernel
theorem dX8_lives_107 : decode cX8_lives 107 = .ok (.goto 4, 3) := by decide +kernel
theorem dX8_lives_110 : decode cX8_lives 110 = .ok (.iconst 0, 1) := by decide +kernel
theorem dX8_lives_111 : decode cX8_lives 111 = .ok (.invokevirtual 213, 3) := by decide +kernel
theorem dX8_lives_114 : decode cX8_lives 114 = .ok (.iload_n 3, 1) := by decide +kernel
theorem dX8_lives_115 : decode cX8_lives 115 = .ok (.istore_n 1, 1) := by decide +kernel
theorem dX8_lives_116 : decode cX8_lives 116 = .ok (.iinc 2 1, 3) := by decide +kernel
theorem dX8_lives_119 : decode cX8_lives 119 = .ok (.goto (-31), 3) := by decide +kernel
theorem dX8_lives_122 : decode cX8_lives 122 = .ok (.return_, 1) := by decide +kernel
set_option maxRecDepth 20000 in
theorem m_X8_lives {h : Hp}  {u : Hp} (hu : f_X8_lives h = some u) : Ct yX8_lives cX8_lives 4 none 5 [.ref 68] h (eV u) := by
  refine ct_of eV hu (by decide) (Nat.le_of_ble_eq_true rfl) (fun κ hn C E => ?_)
  have n1 : 1 < kn κ := by rw [hn]; decide
  have n2 : 2 < kn κ := by rw [hn]; decide
  have n3 : 3 < kn κ := by rw [hn]; decide
  unfold f_X8_lives
  show Xz κ _ 0 [(0, .ref 68)] [] h
  refine x_iconst 1 C dX8_lives_0 ci_0 rfl ?_
  refine x_istore_n 2 [(1, .int (0 : Int32)), (0, .ref 68)] C dX8_lives_1 n1 rfl rfl rfl ?_
  refine x_lt1 (q := 79) (ls := fun h1 => [(0, .ref 68)]) (st := fun h1 => []) (hh := fun h1 => h1) (fun h1 => ?_) (fun k1 J1 => ?_)
  · refine x_aload_n 80 C dX8_lives_79 0 rfl rfl rfl ?_
    refine x_iconst 81 C dX8_lives_80 ci_0 rfl ?_
    refine x_put 84 C dX8_lives_81 fp_X8_191 sk_68 rfl rfl rfl rfl (fun h2 => ?_)
    refine x_iconst 85 C dX8_lives_84 ci_0 rfl ?_
    refine x_istore_n 86 [(1, .int (0 : Int32)), (0, .ref 68)] C dX8_lives_85 n1 rfl rfl rfl ?_
    refine x_iconst 87 C dX8_lives_86 ci_0 rfl ?_
    refine x_istore_n 88 [(2, .int (0 : Int32)), (1, .int (0 : Int32)), (0, .ref 68)] C dX8_lives_87 n2 rfl rfl rfl ?_
    refine x_ls [2, 1, 0] rfl (x_fx3 (ls := fun h3 x4 x5 => [(0, .ref 68), (1, .int x4), (2, .int x5)]) (st := fun h3 x4 x5 => []) (hh := fun h3 x4 x5 => h3) (fun s2 J2 h3 x4 x5 => ?_))
    refine x_iload_n 89 C dX8_lives_88 2 rfl rfl rfl ?_
    refine x_bipush 91 C dX8_lives_89 cb_24 rfl ?_
    refine x_icmp_ge 94 122 C dX8_lives_91 (by decide) rfl (fun _ => ?_) (fun _ => ?_)
    · exact x_vret C E dX8_lives_122 rfl
    · refine x_aload_n 95 C dX8_lives_94 0 rfl rfl rfl ?_
      refine x_getI 98 C dX8_lives_95 fl_X8_191 sk_68 rfl rfl ?_
      refine x_ni (fun x6 => ?_)
      refine x_istore_n 99 [(3, .int x6), (0, .ref 68), (1, .int x4), (2, .int x5)] C dX8_lives_98 n3 rfl rfl rfl ?_
      refine x_aload_n 100 C dX8_lives_99 1 rfl rfl rfl ?_
      refine x_iload_n 101 C dX8_lives_100 3 rfl rfl rfl ?_
      refine x_iload_n 102 C dX8_lives_101 0 rfl rfl rfl ?_
      refine x_iload_n 103 C dX8_lives_102 2 rfl rfl rfl ?_
      refine x_lt1 (q := 111) (ls := fun x7 => [(0, .ref 68), (2, .int x5), (3, .int x6)]) (st := fun x7 => [.int x7, .int x5, .ref 68]) (hh := fun x7 => h3) (fun x7 => ?_) (fun k3 J3 => ?_)
      · refine x_cvV 114 [.int x5, .int x7] [] C 4 dX8_lives_111 v_X8_213 (fun u hu => m_X8_passes hu) rfl sk_68 rfl (Nat.le_of_ble_eq_true rfl) (Nat.le_of_ble_eq_true rfl) rfl (fun h8 => ?_)
        refine x_iload_n 115 C dX8_lives_114 2 rfl rfl rfl ?_
        refine x_istore_n 116 [(1, .int x6), (0, .ref 68), (2, .int x5), (3, .int x6)] C dX8_lives_115 n1 rfl rfl rfl ?_
        refine x_iinc 119 (fun x9 => [(2, .int x9), (1, .int x6), (0, .ref 68), (3, .int x6)]) C dX8_lives_116 2 rfl ci_1 n2 (fun _ => rfl) rfl (fun x9 => ?_)
        refine x_goto 88 C dX8_lives_119 (by decide) ?_
        exact x_ls [2, 1, 0] rfl (J2 h8 x6 x9)
      refine x_icmp_le 106 110 C dX8_lives_103 (by decide) rfl (fun _ => ?_) (fun _ => ?_)
      · refine x_iconst 111 C dX8_lives_110 ci_0 rfl ?_
        exact x_ls [1, 3, 0] rfl (J3 (0 : Int32))
      · refine x_iconst 107 C dX8_lives_106 ci_1 rfl ?_
        refine x_goto 111 C dX8_lives_107 (by decide) ?_
        exact x_ls [1, 3, 0] rfl (J3 (1 : Int32))
  refine x_ls [1, 0] rfl (x_fx2 (ls := fun h10 x11 => [(0, .ref 68), (1, .int x11)]) (st := fun h10 x11 => []) (hh := fun h10 x11 => h10) (fun s4 J4 h10 x11 => ?_))
  refine x_iload_n 3 C dX8_lives_2 1 rfl rfl rfl ?_
  refine x_bipush 5 C dX8_lives_3 cb_6 rfl ?_
  refine x_icmp_ge 8 79 C dX8_lives_5 (by decide) rfl (fun _ => ?_) (fun _ => ?_)
  · exact x_ls [0] rfl (J1 h10)
  · refine x_aload_n 9 C dX8_lives_8 0 rfl rfl rfl ?_
    refine x_getR (c := 79) 12 C dX8_lives_9 fl_X8_40 sk_68 rfl sr_68_15 rfl ?_
    refine x_iload_n 13 C dX8_lives_12 1 rfl rfl rfl ?_
    refine x_iconst 14 C dX8_lives_13 ci_0 rfl ?_
    refine x_iast 15 C dX8_lives_14 sk_79 sl_79 rfl (fun h12 => ?_)
    refine x_aload_n 16 C dX8_lives_15 0 rfl rfl rfl ?_
    refine x_getR (c := 80) 19 C dX8_lives_16 fl_X8_43 sk_68 rfl sr_68_16 rfl ?_
    refine x_iload_n 20 C dX8_lives_19 1 rfl rfl rfl ?_
    refine x_iconst 21 C dX8_lives_20 ci_m1 rfl ?_
    refine x_iast 22 C dX8_lives_21 sk_80 sl_80 rfl (fun h13 => ?_)
    refine x_aload_n 23 C dX8_lives_22 0 rfl rfl rfl ?_
    refine x_getR (c := 81) 26 C dX8_lives_23 fl_X8_46 sk_68 rfl sr_68_17 rfl ?_
    refine x_iload_n 27 C dX8_lives_26 1 rfl rfl rfl ?_
    refine x_iconst 28 C dX8_lives_27 ci_0 rfl ?_
    refine x_iast 29 C dX8_lives_28 sk_81 sl_81 rfl (fun h14 => ?_)
    refine x_aload_n 30 C dX8_lives_29 0 rfl rfl rfl ?_
    refine x_getR (c := 82) 33 C dX8_lives_30 fl_X8_49 sk_68 rfl sr_68_18 rfl ?_
    refine x_iload_n 34 C dX8_lives_33 1 rfl rfl rfl ?_
    refine x_aload_n 35 C dX8_lives_34 0 rfl rfl rfl ?_
    refine x_getR (c := 75) 38 C dX8_lives_35 fl_X8_28 sk_68 rfl sr_68_8 rfl ?_
    refine x_iconst 39 C dX8_lives_38 ci_3 rfl ?_
    refine x_iload_n 40 C dX8_lives_39 1 rfl rfl rfl ?_
    refine x_imul 41 C dX8_lives_40 rfl ?_
    refine x_iconst 42 C dX8_lives_41 ci_2 rfl ?_
    refine x_iadd 43 C dX8_lives_42 rfl ?_
    refine x_iald 44 C dX8_lives_43 sk_75 sl_75 rfl ?_
    refine x_iast 45 C dX8_lives_44 sk_82 sl_82 rfl (fun h15 => ?_)
    refine x_aload_n 46 C dX8_lives_45 0 rfl rfl rfl ?_
    refine x_getR (c := 83) 49 C dX8_lives_46 fl_X8_52 sk_68 rfl sr_68_19 rfl ?_
    refine x_iload_n 50 C dX8_lives_49 1 rfl rfl rfl ?_
    refine x_iconst 51 C dX8_lives_50 ci_0 rfl ?_
    refine x_iast 52 C dX8_lives_51 sk_83 sl_83 rfl (fun h16 => ?_)
    refine x_aload_n 53 C dX8_lives_52 0 rfl rfl rfl ?_
    refine x_getR (c := 84) 56 C dX8_lives_53 fl_X8_55 sk_68 rfl sr_68_20 rfl ?_
    refine x_iload_n 57 C dX8_lives_56 1 rfl rfl rfl ?_
    refine x_iconst 58 C dX8_lives_57 ci_m1 rfl ?_
    refine x_iast 59 C dX8_lives_58 sk_84 sl_84 rfl (fun h17 => ?_)
    refine x_aload_n 60 C dX8_lives_59 0 rfl rfl rfl ?_
    refine x_getR (c := 85) 63 C dX8_lives_60 fl_X8_58 sk_68 rfl sr_68_21 rfl ?_
    refine x_iload_n 64 C dX8_lives_63 1 rfl rfl rfl ?_
    refine x_iconst 65 C dX8_lives_64 ci_0 rfl ?_
    refine x_iast 66 C dX8_lives_65 sk_85 sl_85 rfl (fun h18 => ?_)
    refine x_aload_n 67 C dX8_lives_66 0 rfl rfl rfl ?_
    refine x_getR (c := 86) 70 C dX8_lives_67 fl_X8_61 sk_68 rfl sr_68_22 rfl ?_
    refine x_iload_n 71 C dX8_lives_70 1 rfl rfl rfl ?_
    refine x_iconst 72 C dX8_lives_71 ci_0 rfl ?_
    refine x_iast 73 C dX8_lives_72 sk_86 sl_86 rfl (fun h19 => ?_)
    refine x_iinc 76 (fun x20 => [(1, .int x20), (0, .ref 68)]) C dX8_lives_73 1 rfl ci_1 n1 (fun _ => rfl) rfl (fun x20 => ?_)
    refine x_goto 2 C dX8_lives_76 (by decide) ?_
    exact x_ls [1, 0] rfl (J4 h19 x20)

def f_X8_find (h : Hp) : Option Hp :=
  bnd (f_X8_readsWalkers h) fun h1 x2 =>
  bnd (f_X8_readsRoutine h1) fun h3 x4 =>
  bdv (f_X8_lives h3) fun h5 =>
  some h5
theorem dX8_find_0 : decode cX8_find 0 = .ok (.aload_n 0, 1) := by decide +kernel
theorem dX8_find_1 : decode cX8_find 1 = .ok (.invokevirtual 139, 3) := by decide +kernel
theorem dX8_find_4 : decode cX8_find 4 = .ok (.pop, 1) := by decide +kernel
theorem dX8_find_5 : decode cX8_find 5 = .ok (.aload_n 0, 1) := by decide +kernel
theorem dX8_find_6 : decode cX8_find 6 = .ok (.invokevirtual 143, 3) := by decide +kernel
theorem dX8_find_9 : decode cX8_find 9 = .ok (.pop, 1) := by decide +kernel
theorem dX8_find_10 : decode cX8_find 10 = .ok (.aload_n 0, 1) := by decide +kernel
theorem dX8_find_11 : decode cX8_find 11 = .ok (.invokevirtual 217, 3) := by decide +kernel
theorem dX8_find_14 : decode cX8_find 14 = .ok (.return_, 1) := by decide +kernel
set_option maxRecDepth 20000 in
theorem m_X8_find {h : Hp}  {u : Hp} (hu : f_X8_find h = some u) : Ct yX8_find cX8_find 1 none 6 [.ref 68] h (eV u) := by
  refine ct_of eV hu (by decide) (Nat.le_of_ble_eq_true rfl) (fun κ hn C E => ?_)
  unfold f_X8_find
  show Xz κ _ 0 [(0, .ref 68)] [] h
  refine x_aload_n 1 C dX8_find_0 0 rfl rfl rfl ?_
  refine x_cvI 4 [] [] C 2 dX8_find_1 v_X8_139 (fun u hu => m_X8_readsWalkers hu) rfl sk_68 rfl (Nat.le_of_ble_eq_true rfl) (Nat.le_of_ble_eq_true rfl) rfl (fun h1 x2 => ?_)
  refine x_pop 5 C dX8_find_4 rfl rfl ?_
  refine x_aload_n 6 C dX8_find_5 0 rfl rfl rfl ?_
  refine x_cvI 9 [] [] C 1 dX8_find_6 v_X8_143 (fun u hu => m_X8_readsRoutine hu) rfl sk_68 rfl (Nat.le_of_ble_eq_true rfl) (Nat.le_of_ble_eq_true rfl) rfl (fun h3 x4 => ?_)
  refine x_pop 10 C dX8_find_9 rfl rfl ?_
  refine x_aload_n 11 C dX8_find_10 0 rfl rfl rfl ?_
  refine x_cvV 14 [] [] C 5 dX8_find_11 v_X8_217 (fun u hu => m_X8_lives hu) rfl sk_68 rfl (Nat.le_of_ble_eq_true rfl) (Nat.le_of_ble_eq_true rfl) rfl (fun h5 => ?_)
  exact x_vret C E dX8_find_14 rfl

def f_X8_at (h : Hp) (a1 : Int32) (a2 : Int32) (a3 : Int32) : Option (Hp × Int32) :=
  bdv (f_X8_find h) fun h1 =>
  bdr (f_X8_isBeat a1) fun x2 =>
  if x2 = 0 then (
    some (h1, (-2 : Int32)))
  else (
    bdr (f_X8_isWalker h1 a2) fun x3 =>
    if x3 = 0 then (
      some (h1, (-2 : Int32)))
    else (
      bdr (f_X8_isTwo a3) fun x4 =>
      if x4 = 0 then (
        some (h1, (-2 : Int32)))
      else (
        if a3 = 0 then (
          ck (((6 : Int32) * a1) + a2) 144 (
            some (h1, (ia h1 87 (((6 : Int32) * a1) + a2)))))
        else (
          ck (((6 : Int32) * a1) + a2) 144 (
            some (h1, (ia h1 88 (((6 : Int32) * a1) + a2))))))))
theorem dX8_at_0 : decode cX8_at 0 = .ok (.aload_n 0, 1) := by decide +kernel
theorem dX8_at_1 : decode cX8_at 1 = .ok (.invokevirtual 220, 3) := by decide +kernel
theorem dX8_at_4 : decode cX8_at 4 = .ok (.iload_n 1, 1) := by decide +kernel
theorem dX8_at_5 : decode cX8_at 5 = .ok (.invokestatic 154, 3) := by decide +kernel
theorem dX8_at_8 : decode cX8_at 8 = .ok (.ifCond .eq 50, 3) := by decide +kernel
theorem dX8_at_11 : decode cX8_at 11 = .ok (.aload_n 0, 1) := by decide +kernel
theorem dX8_at_12 : decode cX8_at 12 = .ok (.iload_n 2, 1) := by decide +kernel
theorem dX8_at_13 : decode cX8_at 13 = .ok (.invokevirtual 151, 3) := by decide +kernel
theorem dX8_at_16 : decode cX8_at 16 = .ok (.ifCond .eq 42, 3) := by decide +kernel
theorem dX8_at_19 : decode cX8_at 19 = .ok (.iload_n 3, 1) := by decide +kernel
theorem dX8_at_20 : decode cX8_at 20 = .ok (.invokestatic 114, 3) := by decide +kernel
theorem dX8_at_23 : decode cX8_at 23 = .ok (.ifCond .eq 35, 3) := by decide +kernel
theorem dX8_at_26 : decode cX8_at 26 = .ok (.iload_n 3, 1) := by decide +kernel
theorem dX8_at_27 : decode cX8_at 27 = .ok (.ifCond .ne 17, 3) := by decide +kernel
theorem dX8_at_30 : decode cX8_at 30 = .ok (.aload_n 0, 1) := by decide +kernel
theorem dX8_at_31 : decode cX8_at 31 = .ok (.getfield 64, 3) := by decide +kernel
theorem dX8_at_34 : decode cX8_at 34 = .ok (.bipush 6, 2) := by decide +kernel
theorem dX8_at_36 : decode cX8_at 36 = .ok (.iload_n 1, 1) := by decide +kernel
theorem dX8_at_37 : decode cX8_at 37 = .ok (.imul, 1) := by decide +kernel
theorem dX8_at_38 : decode cX8_at 38 = .ok (.iload_n 2, 1) := by decide +kernel
theorem dX8_at_39 : decode cX8_at 39 = .ok (.iadd, 1) := by decide +kernel
theorem dX8_at_40 : decode cX8_at 40 = .ok (.iaload, 1) := by decide +kernel
theorem dX8_at_41 : decode cX8_at 41 = .ok (.goto 19, 3) := by decide +kernel
theorem dX8_at_44 : decode cX8_at 44 = .ok (.aload_n 0, 1) := by decide +kernel
theorem dX8_at_45 : decode cX8_at 45 = .ok (.getfield 67, 3) := by decide +kernel
theorem dX8_at_48 : decode cX8_at 48 = .ok (.bipush 6, 2) := by decide +kernel
theorem dX8_at_50 : decode cX8_at 50 = .ok (.iload_n 1, 1) := by decide +kernel
theorem dX8_at_51 : decode cX8_at 51 = .ok (.imul, 1) := by decide +kernel
theorem dX8_at_52 : decode cX8_at 52 = .ok (.iload_n 2, 1) := by decide +kernel
theorem dX8_at_53 : decode cX8_at 53 = .ok (.iadd, 1) := by decide +kernel
theorem dX8_at_54 : decode cX8_at 54 = .ok (.iaload, 1) := by decide +kernel
theorem dX8_at_55 : decode cX8_at 55 = .ok (.goto 5, 3) := by decide +kernel
theorem dX8_at_58 : decode cX8_at 58 = .ok (.bipush (-2), 2) := by decide +kernel
theorem dX8_at_60 : decode cX8_at 60 = .ok (.ireturn, 1) := by decide +kernel
set_option maxRecDepth 20000 in
theorem m_X8_at {h : Hp} {a1 : Int32} {a2 : Int32} {a3 : Int32}  {u : (Hp × Int32)} (hu : f_X8_at h a1 a2 a3 = some u) : Ct yX8_at cX8_at 4 (some .int) 7 [.ref 68, .int a1, .int a2, .int a3] h (eI u) := by
  refine ct_of eI hu (by decide) (Nat.le_of_ble_eq_true rfl) (fun κ hn C E => ?_)
  unfold f_X8_at
  show Xz κ _ 0 [(0, .ref 68), (1, .int a1), (2, .int a2), (3, .int a3)] [] h
  refine x_aload_n 1 C dX8_at_0 0 rfl rfl rfl ?_
  refine x_cvV 4 [] [] C 6 dX8_at_1 v_X8_220 (fun u hu => m_X8_find hu) rfl sk_68 rfl (Nat.le_of_ble_eq_true rfl) (Nat.le_of_ble_eq_true rfl) rfl (fun h1 => ?_)
  refine x_iload_n 5 C dX8_at_4 1 rfl rfl rfl ?_
  refine x_csi 8 [.int a1] [] C 1 dX8_at_5 s_X8_154 (fun u hu => m_X8_isBeat hu) rfl rfl (Nat.le_of_ble_eq_true rfl) (Nat.le_of_ble_eq_true rfl) rfl (fun x2 => ?_)
  refine x_if_eq 11 58 C dX8_at_8 (by decide) rfl (fun _ => ?_) (fun _ => ?_)
  · refine x_bipush 60 C dX8_at_58 cb_m2 rfl ?_
    exact x_iret C E dX8_at_60 rfl
  · refine x_aload_n 12 C dX8_at_11 0 rfl rfl rfl ?_
    refine x_iload_n 13 C dX8_at_12 2 rfl rfl rfl ?_
    refine x_cvi 16 [.int a2] [] C 1 dX8_at_13 v_X8_151 (fun u hu => m_X8_isWalker hu) rfl sk_68 rfl (Nat.le_of_ble_eq_true rfl) (Nat.le_of_ble_eq_true rfl) rfl (fun x3 => ?_)
    refine x_if_eq 19 58 C dX8_at_16 (by decide) rfl (fun _ => ?_) (fun _ => ?_)
    · refine x_bipush 60 C dX8_at_58 cb_m2 rfl ?_
      exact x_iret C E dX8_at_60 rfl
    · refine x_iload_n 20 C dX8_at_19 3 rfl rfl rfl ?_
      refine x_csi 23 [.int a3] [] C 1 dX8_at_20 s_X8_114 (fun u hu => m_X8_isTwo hu) rfl rfl (Nat.le_of_ble_eq_true rfl) (Nat.le_of_ble_eq_true rfl) rfl (fun x4 => ?_)
      refine x_if_eq 26 58 C dX8_at_23 (by decide) rfl (fun _ => ?_) (fun _ => ?_)
      · refine x_bipush 60 C dX8_at_58 cb_m2 rfl ?_
        exact x_iret C E dX8_at_60 rfl
      · refine x_iload_n 27 C dX8_at_26 3 rfl rfl rfl ?_
        refine x_if_ne 30 44 C dX8_at_27 (by decide) rfl (fun _ => ?_) (fun _ => ?_)
        · refine x_aload_n 45 C dX8_at_44 0 rfl rfl rfl ?_
          refine x_getR (c := 88) 48 C dX8_at_45 fl_X8_67 sk_68 rfl sr_68_24 rfl ?_
          refine x_bipush 50 C dX8_at_48 cb_6 rfl ?_
          refine x_iload_n 51 C dX8_at_50 1 rfl rfl rfl ?_
          refine x_imul 52 C dX8_at_51 rfl ?_
          refine x_iload_n 53 C dX8_at_52 2 rfl rfl rfl ?_
          refine x_iadd 54 C dX8_at_53 rfl ?_
          refine x_iald 55 C dX8_at_54 sk_88 sl_88 rfl ?_
          refine x_goto 60 C dX8_at_55 (by decide) ?_
          exact x_iret C E dX8_at_60 rfl
        · refine x_aload_n 31 C dX8_at_30 0 rfl rfl rfl ?_
          refine x_getR (c := 87) 34 C dX8_at_31 fl_X8_64 sk_68 rfl sr_68_23 rfl ?_
          refine x_bipush 36 C dX8_at_34 cb_6 rfl ?_
          refine x_iload_n 37 C dX8_at_36 1 rfl rfl rfl ?_
          refine x_imul 38 C dX8_at_37 rfl ?_
          refine x_iload_n 39 C dX8_at_38 2 rfl rfl rfl ?_
          refine x_iadd 40 C dX8_at_39 rfl ?_
          refine x_iald 41 C dX8_at_40 sk_87 sl_87 rfl ?_
          refine x_goto 60 C dX8_at_41 (by decide) ?_
          exact x_iret C E dX8_at_60 rfl

def f_X8_lean (h : Hp) (a1 : Int32) (a2 : Int32) : Option (Hp × Int32) :=
  bdv (f_X8_find h) fun h1 =>
  bdr (f_X8_isBeat a1) fun x2 =>
  if x2 = 0 then (
    some (h1, (-2147483648 : Int32)))
  else (
    bdr (f_X8_isWalker h1 a2) fun x3 =>
    if x3 = 0 then (
      some (h1, (-2147483648 : Int32)))
    else (
      ck (((6 : Int32) * a1) + a2) 144 (
        some (h1, (ia h1 89 (((6 : Int32) * a1) + a2))))))
theorem dX8_lean_0 : decode cX8_lean 0 = .ok (.aload_n 0, 1) := by decide +kernel
theorem dX8_lean_1 : decode cX8_lean 1 = .ok (.invokevirtual 220, 3) := by decide +kernel
theorem dX8_lean_4 : decode cX8_lean 4 = .ok (.iload_n 1, 1) := by decide +kernel
theorem dX8_lean_5 : decode cX8_lean 5 = .ok (.invokestatic 154, 3) := by decide +kernel
theorem dX8_lean_8 : decode cX8_lean 8 = .ok (.ifCond .eq 25, 3) := by decide +kernel
theorem dX8_lean_11 : decode cX8_lean 11 = .ok (.aload_n 0, 1) := by decide +kernel
theorem dX8_lean_12 : decode cX8_lean 12 = .ok (.iload_n 2, 1) := by decide +kernel
theorem dX8_lean_13 : decode cX8_lean 13 = .ok (.invokevirtual 151, 3) := by decide +kernel
theorem dX8_lean_16 : decode cX8_lean 16 = .ok (.ifCond .eq 17, 3) := by decide +kernel
theorem dX8_lean_19 : decode cX8_lean 19 = .ok (.aload_n 0, 1) := by decide +kernel
theorem dX8_lean_20 : decode cX8_lean 20 = .ok (.getfield 70, 3) := by decide +kernel
theorem dX8_lean_23 : decode cX8_lean 23 = .ok (.bipush 6, 2) := by decide +kernel
theorem dX8_lean_25 : decode cX8_lean 25 = .ok (.iload_n 1, 1) := by decide +kernel
theorem dX8_lean_26 : decode cX8_lean 26 = .ok (.imul, 1) := by decide +kernel
theorem dX8_lean_27 : decode cX8_lean 27 = .ok (.iload_n 2, 1) := by decide +kernel
theorem dX8_lean_28 : decode cX8_lean 28 = .ok (.iadd, 1) := by decide +kernel
theorem dX8_lean_29 : decode cX8_lean 29 = .ok (.iaload, 1) := by decide +kernel
theorem dX8_lean_30 : decode cX8_lean 30 = .ok (.goto 5, 3) := by decide +kernel
theorem dX8_lean_33 : decode cX8_lean 33 = .ok (.ldc 113, 2) := by decide +kernel
theorem dX8_lean_35 : decode cX8_lean 35 = .ok (.ireturn, 1) := by decide +kernel
set_option maxRecDepth 20000 in
theorem m_X8_lean {h : Hp} {a1 : Int32} {a2 : Int32}  {u : (Hp × Int32)} (hu : f_X8_lean h a1 a2 = some u) : Ct yX8_lean cX8_lean 3 (some .int) 7 [.ref 68, .int a1, .int a2] h (eI u) := by
  refine ct_of eI hu (by decide) (Nat.le_of_ble_eq_true rfl) (fun κ hn C E => ?_)
  unfold f_X8_lean
  show Xz κ _ 0 [(0, .ref 68), (1, .int a1), (2, .int a2)] [] h
  refine x_aload_n 1 C dX8_lean_0 0 rfl rfl rfl ?_
  refine x_cvV 4 [] [] C 6 dX8_lean_1 v_X8_220 (fun u hu => m_X8_find hu) rfl sk_68 rfl (Nat.le_of_ble_eq_true rfl) (Nat.le_of_ble_eq_true rfl) rfl (fun h1 => ?_)
  refine x_iload_n 5 C dX8_lean_4 1 rfl rfl rfl ?_
  refine x_csi 8 [.int a1] [] C 1 dX8_lean_5 s_X8_154 (fun u hu => m_X8_isBeat hu) rfl rfl (Nat.le_of_ble_eq_true rfl) (Nat.le_of_ble_eq_true rfl) rfl (fun x2 => ?_)
  refine x_if_eq 11 33 C dX8_lean_8 (by decide) rfl (fun _ => ?_) (fun _ => ?_)
  · refine x_ldc 35 C dX8_lean_33 kw_X8_113 rfl ?_
    exact x_iret C E dX8_lean_35 rfl
  · refine x_aload_n 12 C dX8_lean_11 0 rfl rfl rfl ?_
    refine x_iload_n 13 C dX8_lean_12 2 rfl rfl rfl ?_
    refine x_cvi 16 [.int a2] [] C 1 dX8_lean_13 v_X8_151 (fun u hu => m_X8_isWalker hu) rfl sk_68 rfl (Nat.le_of_ble_eq_true rfl) (Nat.le_of_ble_eq_true rfl) rfl (fun x3 => ?_)
    refine x_if_eq 19 33 C dX8_lean_16 (by decide) rfl (fun _ => ?_) (fun _ => ?_)
    · refine x_ldc 35 C dX8_lean_33 kw_X8_113 rfl ?_
      exact x_iret C E dX8_lean_35 rfl
    · refine x_aload_n 20 C dX8_lean_19 0 rfl rfl rfl ?_
      refine x_getR (c := 89) 23 C dX8_lean_20 fl_X8_70 sk_68 rfl sr_68_25 rfl ?_
      refine x_bipush 25 C dX8_lean_23 cb_6 rfl ?_
      refine x_iload_n 26 C dX8_lean_25 1 rfl rfl rfl ?_
      refine x_imul 27 C dX8_lean_26 rfl ?_
      refine x_iload_n 28 C dX8_lean_27 2 rfl rfl rfl ?_
      refine x_iadd 29 C dX8_lean_28 rfl ?_
      refine x_iald 30 C dX8_lean_29 sk_89 sl_89 rfl ?_
      refine x_goto 35 C dX8_lean_30 (by decide) ?_
      exact x_iret C E dX8_lean_35 rfl
