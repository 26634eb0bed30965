def f_X8_digest (h : Hp) : Option (Hp × Int64) :=
  lt2 (fun (h1 : Hp) (l2 : Int64) =>
    lt2 (fun (h3 : Hp) (l4 : Int64) =>
      bdv (f_X8_lives h3) fun h5 =>
      lt1 (fun (l6 : Int64) =>
        lt1 (fun (l7 : Int64) =>
          lt2 (fun (h8 : Hp) (l9 : Int64) =>
            bdv (f_X8_lives h8) fun h10 =>
            lt1 (fun (l11 : Int64) =>
              bdr (f_X8_firstNow h10) fun x12 =>
              nm (((31 : Int64) * l11) + (x12.toInt64)) fun l13 =>
              bdr (f_X8_worstNow h10) fun x14 =>
              nm (((31 : Int64) * l13) + (x14.toInt64)) fun l15 =>
              bdr (f_X8_bareNow h10) fun x16 =>
              nm (((31 : Int64) * l15) + (x16.toInt64)) fun l17 =>
              bnd (f_X8_actOf h10 (2 : Int32) (0 : Int32)) fun h18 x19 =>
              nm (((31 : Int64) * l17) + (x19.toInt64)) fun l20 =>
              bnd (f_X8_actOf h18 (2 : Int32) (1 : Int32)) fun h21 x22 =>
              nm (((31 : Int64) * l20) + (x22.toInt64)) fun l23 =>
              bnd (f_X8_actOf h21 (6 : Int32) (0 : Int32)) fun h24 x25 =>
              nm (((31 : Int64) * l23) + (x25.toInt64)) fun l26 =>
              bnd (f_X8_actOf h24 (6 : Int32) (1 : Int32)) fun h27 x28 =>
              nm (((31 : Int64) * l26) + (x28.toInt64)) fun l29 =>
              bnd (f_X8_spareBy h27 (-1 : Int32)) fun h30 x31 =>
              nm (((31 : Int64) * l29) + (x31.toInt64)) fun l32 =>
              bnd (f_X8_spareBy h30 (0 : Int32)) fun h33 x34 =>
              nm (((31 : Int64) * l32) + (x34.toInt64)) fun l35 =>
              bnd (f_X8_neverNow h33) fun h36 x37 =>
              nm (((31 : Int64) * l35) + (x37.toInt64)) fun l38 =>
              bnd (f_X8_showsOf h36 (7 : Int32) (18 : Int32) (0 : Int32)) fun h39 x40 =>
              nm (((31 : Int64) * l38) + (x40.toInt64)) fun l41 =>
              bnd (f_X8_showsOf h39 (7 : Int32) (18 : Int32) (1 : Int32)) fun h42 x43 =>
              some (h42, (((31 : Int64) * l41) + (x43.toInt64)))) fun k6 =>
            fx2 FU (fun s7 (l44 : Int64) (x45 : Int32) =>
              if (3 : Int32) ≤ x45 then (
                k6 l44)
              else (
                bdr (f_X8_sumBy h10 x45) fun x46 =>
                nm (((31 : Int64) * l44) + (x46.toInt64)) fun l47 =>
                nm (x45 + (1 : Int32)) fun x48 =>
                s7 l47 x48)) l9 (0 : Int32)) fun k5 =>
          fx3 FU (fun s8 (h49 : Hp) (l50 : Int64) (x51 : Int32) =>
            if (h49.1 68 7) ≤ x51 then (
              k5 h49 l50)
            else (
              bnd (f_X8_tellsWalker h49 l50 x51) fun h52 l53 =>
              nm (x51 + (1 : Int32)) fun x54 =>
              s8 h52 l53 x54)) h5 l7 (0 : Int32)) fun k4 =>
        fx2 FU (fun s9 (l55 : Int64) (x56 : Int32) =>
          if (41 : Int32) ≤ x56 then (
            k4 l55)
          else (
            bdr (f_X8_seesBy h5 (9 : Int32) x56) fun x57 =>
            nm (((31 : Int64) * l55) + (x57.toInt64)) fun l58 =>
            nm (x56 + (1 : Int32)) fun x59 =>
            s9 l58 x59)) l6 (0 : Int32)) fun k3 =>
      fx2 FU (fun s10 (l60 : Int64) (x61 : Int32) =>
        if (24 : Int32) ≤ x61 then (
          k3 l60)
        else (
          ck x61 24 (
            nm (((31 : Int64) * l60) + ((ia h5 76 x61).toInt64)) fun l62 =>
            ck x61 24 (
              nm (((31 : Int64) * l62) + ((ia h5 90 x61).toInt64)) fun l63 =>
              nm (x61 + (1 : Int32)) fun x64 =>
              s10 l63 x64)))) l4 (0 : Int32)) fun k2 =>
    fx3 FU (fun s11 (h65 : Hp) (l66 : Int64) (x67 : Int32) =>
      if (2 : Int32) ≤ x67 then (
        k2 h65 l66)
      else (
        bnd (f_X8_readsText h65 x67) fun h68 x69 =>
        nm (((31 : Int64) * l66) + (x69.toInt64)) fun l70 =>
        nm (x67 + (1 : Int32)) fun x71 =>
        s11 h68 l70 x71)) h1 l2 (0 : Int32)) fun k1 =>
  fx3 FU (fun s12 (h72 : Hp) (l73 : Int64) (x74 : Int32) =>
    if (8 : Int32) ≤ x74 then (
      k1 h72 l73)
    else (
      bnd (f_X8_count h72 x74) fun h75 x76 =>
      nm (((31 : Int64) * l73) + (x76.toInt64)) fun l77 =>
      nm (x74 + (1 : Int32)) fun x78 =>
      s12 h75 l77 x78)) h (17 : Int64) (0 : Int32)
theorem dX8_digest_0 : decode cX8_digest 0 = .ok (.ldc2_w 326, 3) := by decide +kernel
theorem dX8_digest_3 : decode cX8_digest 3 = .ok (.lstore_n 1, 1) := by decide +kernel
theorem dX8_digest_4 : decode cX8_digest 4 = .ok (.iconst 0, 1) := by decide +kernel
theorem dX8_digest_5 : decode cX8_digest 5 = .ok (.istore_n 3, 1) := by decide +kernel
theorem dX8_digest_6 : decode cX8_digest 6 = .ok (.iload_n 3, 1) := by decide +kernel
theorem dX8_digest_7 : decode cX8_digest 7 = .ok (.bipush 8, 2) := by decide +kernel
theorem dX8_digest_9 : decode cX8_digest 9 = .ok (.if_icmp .ge 22, 3) := by decide +kernel
theorem dX8_digest_12 : decode cX8_digest 12 = .ok (.ldc2_w 320, 3) := by decide +kernel
theorem dX8_digest_15 : decode cX8_digest 15 = .ok (.lload_n 1, 1) := by decide +kernel
theorem dX8_digest_16 : decode cX8_digest 16 = .ok (.lmul, 1) := by decide +kernel
theorem dX8_digest_17 : decode cX8_digest 17 = .ok (.aload_n 0, 1) := by decide +kernel
theorem dX8_digest_18 : decode cX8_digest 18 = .ok (.iload_n 3, 1) := by decide +kernel
theorem dX8_digest_19 : decode cX8_digest 19 = .ok (.invokevirtual 328, 3) := by decide +kernel
theorem dX8_digest_22 : decode cX8_digest 22 = .ok (.i2l, 1) := by decide +kernel
theorem dX8_digest_23 : decode cX8_digest 23 = .ok (.ladd, 1) := by decide +kernel
theorem dX8_digest_24 : decode cX8_digest 24 = .ok (.lstore_n 1, 1) := by decide +kernel
theorem dX8_digest_25 : decode cX8_digest 25 = .ok (.iinc 3 1, 3) := by decide +kernel
theorem dX8_digest_28 : decode cX8_digest 28 = .ok (.goto (-22), 3) := by decide +kernel
theorem dX8_digest_31 : decode cX8_digest 31 = .ok (.iconst 0, 1) := by decide +kernel
theorem dX8_digest_32 : decode cX8_digest 32 = .ok (.istore_n 3, 1) := by decide +kernel
theorem dX8_digest_33 : decode cX8_digest 33 = .ok (.iload_n 3, 1) := by decide +kernel
theorem dX8_digest_34 : decode cX8_digest 34 = .ok (.iconst 2, 1) := by decide +kernel
theorem dX8_digest_35 : decode cX8_digest 35 = .ok (.if_icmp .ge 22, 3) := by decide +kernel
theorem dX8_digest_38 : decode cX8_digest 38 = .ok (.ldc2_w 320, 3) := by decide +kernel
theorem dX8_digest_41 : decode cX8_digest 41 = .ok (.lload_n 1, 1) := by decide +kernel
theorem dX8_digest_42 : decode cX8_digest 42 = .ok (.lmul, 1) := by decide +kernel
theorem dX8_digest_43 : decode cX8_digest 43 = .ok (.aload_n 0, 1) := by decide +kernel
theorem dX8_digest_44 : decode cX8_digest 44 = .ok (.iload_n 3, 1) := by decide +kernel
theorem dX8_digest_45 : decode cX8_digest 45 = .ok (.invokevirtual 146, 3) := by decide +kernel
theorem dX8_digest_48 : decode cX8_digest 48 = .ok (.i2l, 1) := by decide +kernel
theorem dX8_digest_49 : decode cX8_digest 49 = .ok (.ladd, 1) := by decide +kernel
theorem dX8_digest_50 : decode cX8_digest 50 = .ok (.lstore_n 1, 1) := by decide +kernel
theorem dX8_digest_51 : decode cX8_digest 51 = .ok (.iinc 3 1, 3) := by decide +kernel
theorem dX8_digest_54 : decode cX8_digest 54 = .ok (.goto (-21), 3) := by decide +kernel
theorem dX8_digest_57 : decode cX8_digest 57 = .ok (.aload_n 0, 1) := by decide +kernel
theorem dX8_digest_58 : decode cX8_digest 58 = .ok (.invokevirtual 217, 3) := by decide +kernel
theorem dX8_digest_61 : decode cX8_digest 61 = .ok (.iconst 0, 1) := by decide +kernel
theorem dX8_digest_62 : decode cX8_digest 62 = .ok (.istore_n 3, 1) := by decide +kernel
theorem dX8_digest_63 : decode cX8_digest 63 = .ok (.iload_n 3, 1) := by decide +kernel
theorem dX8_digest_64 : decode cX8_digest 64 = .ok (.bipush 24, 2) := by decide +kernel
theorem dX8_digest_66 : decode cX8_digest 66 = .ok (.if_icmp .ge 37, 3) := by decide +kernel
theorem dX8_digest_69 : decode cX8_digest 69 = .ok (.ldc2_w 320, 3) := by decide +kernel
theorem dX8_digest_72 : decode cX8_digest 72 = .ok (.lload_n 1, 1) := by decide +kernel
theorem dX8_digest_73 : decode cX8_digest 73 = .ok (.lmul, 1) := by decide +kernel
theorem dX8_digest_74 : decode cX8_digest 74 = .ok (.aload_n 0, 1) := by decide +kernel
theorem dX8_digest_75 : decode cX8_digest 75 = .ok (.getfield 31, 3) := by decide +kernel
theorem dX8_digest_78 : decode cX8_digest 78 = .ok (.iload_n 3, 1) := by decide +kernel
theorem dX8_digest_79 : decode cX8_digest 79 = .ok (.iaload, 1) := by decide +kernel
theorem dX8_digest_80 : decode cX8_digest 80 = .ok (.i2l, 1) := by decide +kernel
theorem dX8_digest_81 : decode cX8_digest 81 = .ok (.ladd, 1) := by decide +kernel
theorem dX8_digest_82 : decode cX8_digest 82 = .ok (.lstore_n 1, 1) := by decide +kernel
theorem dX8_digest_83 : decode cX8_digest 83 = .ok (.ldc2_w 320, 3) := by decide +kernel
theorem dX8_digest_86 : decode cX8_digest 86 = .ok (.lload_n 1, 1) := by decide +kernel
theorem dX8_digest_87 : decode cX8_digest 87 = .ok (.lmul, 1) := by decide +kernel
theorem dX8_digest_88 : decode cX8_digest 88 = .ok (.aload_n 0, 1) := by decide +kernel
theorem dX8_digest_89 : decode cX8_digest 89 = .ok (.getfield 73, 3) := by decide +kernel
theorem dX8_digest_92 : decode cX8_digest 92 = .ok (.iload_n 3, 1) := by decide +kernel
theorem dX8_digest_93 : decode cX8_digest 93 = .ok (.iaload, 1) := by decide +kernel
theorem dX8_digest_94 : decode cX8_digest 94 = .ok (.i2l, 1) := by decide +kernel
theorem dX8_digest_95 : decode cX8_digest 95 = .ok (.ladd, 1) := by decide +kernel
theorem dX8_digest_96 : decode cX8_digest 96 = .ok (.lstore_n 1, 1) := by decide +kernel
theorem dX8_digest_97 : decode cX8_digest 97 = .ok (.iinc 3 1, 3) := by decide +kernel
theorem dX8_digest_100 : decode cX8_digest 100 = .ok (.goto (-37), 3) := by decide +kernel
theorem dX8_digest_103 : decode cX8_digest 103 = .ok (.iconst 0, 1) := by decide +kernel
theorem dX8_digest_104 : decode cX8_digest 104 = .ok (.istore_n 3, 1) := by decide +kernel
theorem dX8_digest_105 : decode cX8_digest 105 = .ok (.iload_n 3, 1) := by decide +kernel
theorem dX8_digest_106 : decode cX8_digest 106 = .ok (.bipush 41, 2) := by decide +kernel
theorem dX8_digest_108 : decode cX8_digest 108 = .ok (.if_icmp .ge 24, 3) := by decide +kernel
theorem dX8_digest_111 : decode cX8_digest 111 = .ok (.ldc2_w 320, 3) := by decide +kernel
theorem dX8_digest_114 : decode cX8_digest 114 = .ok (.lload_n 1, 1) := by decide +kernel
theorem dX8_digest_115 : decode cX8_digest 115 = .ok (.lmul, 1) := by decide +kernel
theorem dX8_digest_116 : decode cX8_digest 116 = .ok (.aload_n 0, 1) := by decide +kernel
theorem dX8_digest_117 : decode cX8_digest 117 = .ok (.bipush 9, 2) := by decide +kernel
theorem dX8_digest_119 : decode cX8_digest 119 = .ok (.iload_n 3, 1) := by decide +kernel
theorem dX8_digest_120 : decode cX8_digest 120 = .ok (.invokevirtual 223, 3) := by decide +kernel
theorem dX8_digest_123 : decode cX8_digest 123 = .ok (.i2l, 1) := by decide +kernel
theorem dX8_digest_124 : decode cX8_digest 124 = .ok (.ladd, 1) := by decide +kernel
theorem dX8_digest_125 : decode cX8_digest 125 = .ok (.lstore_n 1, 1) := by decide +kernel
theorem dX8_digest_126 : decode cX8_digest 126 = .ok (.iinc 3 1, 3) := by decide +kernel
theorem dX8_digest_129 : decode cX8_digest 129 = .ok (.goto (-24), 3) := by decide +kernel
theorem dX8_digest_132 : decode cX8_digest 132 = .ok (.iconst 0, 1) := by decide +kernel
theorem dX8_digest_133 : decode cX8_digest 133 = .ok (.istore_n 3, 1) := by decide +kernel
theorem dX8_digest_134 : decode cX8_digest 134 = .ok (.iload_n 3, 1) := by decide +kernel
theorem dX8_digest_135 : decode cX8_digest 135 = .ok (.aload_n 0, 1) := by decide +kernel
theorem dX8_digest_136 : decode cX8_digest 136 = .ok (.getfield 127, 3) := by decide +kernel
theorem dX8_digest_139 : decode cX8_digest 139 = .ok (.if_icmp .ge 16, 3) := by decide +kernel
theorem dX8_digest_142 : decode cX8_digest 142 = .ok (.aload_n 0, 1) := by decide +kernel
theorem dX8_digest_143 : decode cX8_digest 143 = .ok (.lload_n 1, 1) := by decide +kernel
theorem dX8_digest_144 : decode cX8_digest 144 = .ok (.iload_n 3, 1) := by decide +kernel
theorem dX8_digest_145 : decode cX8_digest 145 = .ok (.invokevirtual 331, 3) := by decide +kernel
theorem dX8_digest_148 : decode cX8_digest 148 = .ok (.lstore_n 1, 1) := by decide +kernel
theorem dX8_digest_149 : decode cX8_digest 149 = .ok (.iinc 3 1, 3) := by decide +kernel
theorem dX8_digest_152 : decode cX8_digest 152 = .ok (.goto (-18), 3) := by decide +kernel
theorem dX8_digest_155 : decode cX8_digest 155 = .ok (.aload_n 0, 1) := by decide +kernel
theorem dX8_digest_156 : decode cX8_digest 156 = .ok (.invokevirtual 217, 3) := by decide +kernel
theorem dX8_digest_159 : decode cX8_digest 159 = .ok (.iconst 0, 1) := by decide +kernel
theorem dX8_digest_160 : decode cX8_digest 160 = .ok (.istore_n 3, 1) := by decide +kernel
theorem dX8_digest_161 : decode cX8_digest 161 = .ok (.iload_n 3, 1) := by decide +kernel
theorem dX8_digest_162 : decode cX8_digest 162 = .ok (.iconst 3, 1) := by decide +kernel
theorem dX8_digest_163 : decode cX8_digest 163 = .ok (.if_icmp .ge 22, 3) := by decide +kernel
theorem dX8_digest_166 : decode cX8_digest 166 = .ok (.ldc2_w 320, 3) := by decide +kernel
theorem dX8_digest_169 : decode cX8_digest 169 = .ok (.lload_n 1, 1) := by decide +kernel
theorem dX8_digest_170 : decode cX8_digest 170 = .ok (.lmul, 1) := by decide +kernel
theorem dX8_digest_171 : decode cX8_digest 171 = .ok (.aload_n 0, 1) := by decide +kernel
theorem dX8_digest_172 : decode cX8_digest 172 = .ok (.iload_n 3, 1) := by decide +kernel
theorem dX8_digest_173 : decode cX8_digest 173 = .ok (.invokevirtual 232, 3) := by decide +kernel
theorem dX8_digest_176 : decode cX8_digest 176 = .ok (.i2l, 1) := by decide +kernel
theorem dX8_digest_177 : decode cX8_digest 177 = .ok (.ladd, 1) := by decide +kernel
theorem dX8_digest_178 : decode cX8_digest 178 = .ok (.lstore_n 1, 1) := by decide +kernel
theorem dX8_digest_179 : decode cX8_digest 179 = .ok (.iinc 3 1, 3) := by decide +kernel
theorem dX8_digest_182 : decode cX8_digest 182 = .ok (.goto (-21), 3) := by decide +kernel
theorem dX8_digest_185 : decode cX8_digest 185 = .ok (.ldc2_w 320, 3) := by decide +kernel
theorem dX8_digest_188 : decode cX8_digest 188 = .ok (.lload_n 1, 1) := by decide +kernel
theorem dX8_digest_189 : decode cX8_digest 189 = .ok (.lmul, 1) := by decide +kernel
theorem dX8_digest_190 : decode cX8_digest 190 = .ok (.aload_n 0, 1) := by decide +kernel
theorem dX8_digest_191 : decode cX8_digest 191 = .ok (.invokevirtual 235, 3) := by decide +kernel
theorem dX8_digest_194 : decode cX8_digest 194 = .ok (.i2l, 1) := by decide +kernel
theorem dX8_digest_195 : decode cX8_digest 195 = .ok (.ladd, 1) := by decide +kernel
theorem dX8_digest_196 : decode cX8_digest 196 = .ok (.lstore_n 1, 1) := by decide +kernel
theorem dX8_digest_197 : decode cX8_digest 197 = .ok (.ldc2_w 320, 3) := by decide +kernel
theorem dX8_digest_200 : decode cX8_digest 200 = .ok (.lload_n 1, 1) := by decide +kernel
theorem dX8_digest_201 : decode cX8_digest 201 = .ok (.lmul, 1) := by decide +kernel
theorem dX8_digest_202 : decode cX8_digest 202 = .ok (.aload_n 0, 1) := by decide +kernel
theorem dX8_digest_203 : decode cX8_digest 203 = .ok (.invokevirtual 238, 3) := by decide +kernel
theorem dX8_digest_206 : decode cX8_digest 206 = .ok (.i2l, 1) := by decide +kernel
theorem dX8_digest_207 : decode cX8_digest 207 = .ok (.ladd, 1) := by decide +kernel
theorem dX8_digest_208 : decode cX8_digest 208 = .ok (.lstore_n 1, 1) := by decide +kernel
theorem dX8_digest_209 : decode cX8_digest 209 = .ok (.ldc2_w 320, 3) := by decide +kernel
theorem dX8_digest_212 : decode cX8_digest 212 = .ok (.lload_n 1, 1) := by decide +kernel
theorem dX8_digest_213 : decode cX8_digest 213 = .ok (.lmul, 1) := by decide +kernel
theorem dX8_digest_214 : decode cX8_digest 214 = .ok (.aload_n 0, 1) := by decide +kernel
theorem dX8_digest_215 : decode cX8_digest 215 = .ok (.invokevirtual 244, 3) := by decide +kernel
theorem dX8_digest_218 : decode cX8_digest 218 = .ok (.i2l, 1) := by decide +kernel
theorem dX8_digest_219 : decode cX8_digest 219 = .ok (.ladd, 1) := by decide +kernel
theorem dX8_digest_220 : decode cX8_digest 220 = .ok (.lstore_n 1, 1) := by decide +kernel
theorem dX8_digest_221 : decode cX8_digest 221 = .ok (.ldc2_w 320, 3) := by decide +kernel
theorem dX8_digest_224 : decode cX8_digest 224 = .ok (.lload_n 1, 1) := by decide +kernel
theorem dX8_digest_225 : decode cX8_digest 225 = .ok (.lmul, 1) := by decide +kernel
theorem dX8_digest_226 : decode cX8_digest 226 = .ok (.aload_n 0, 1) := by decide +kernel
theorem dX8_digest_227 : decode cX8_digest 227 = .ok (.iconst 2, 1) := by decide +kernel
theorem dX8_digest_228 : decode cX8_digest 228 = .ok (.iconst 0, 1) := by decide +kernel
theorem dX8_digest_229 : decode cX8_digest 229 = .ok (.invokevirtual 250, 3) := by decide +kernel
theorem dX8_digest_232 : decode cX8_digest 232 = .ok (.i2l, 1) := by decide +kernel
theorem dX8_digest_233 : decode cX8_digest 233 = .ok (.ladd, 1) := by decide +kernel
theorem dX8_digest_234 : decode cX8_digest 234 = .ok (.lstore_n 1, 1) := by decide +kernel
theorem dX8_digest_235 : decode cX8_digest 235 = .ok (.ldc2_w 320, 3) := by decide +kernel
theorem dX8_digest_238 : decode cX8_digest 238 = .ok (.lload_n 1, 1) := by decide +kernel
theorem dX8_digest_239 : decode cX8_digest 239 = .ok (.lmul, 1) := by decide +kernel
theorem dX8_digest_240 : decode cX8_digest 240 = .ok (.aload_n 0, 1) := by decide +kernel
theorem dX8_digest_241 : decode cX8_digest 241 = .ok (.iconst 2, 1) := by decide +kernel
theorem dX8_digest_242 : decode cX8_digest 242 = .ok (.iconst 1, 1) := by decide +kernel
theorem dX8_digest_243 : decode cX8_digest 243 = .ok (.invokevirtual 250, 3) := by decide +kernel
theorem dX8_digest_246 : decode cX8_digest 246 = .ok (.i2l, 1) := by decide +kernel
theorem dX8_digest_247 : decode cX8_digest 247 = .ok (.ladd, 1) := by decide +kernel
theorem dX8_digest_248 : decode cX8_digest 248 = .ok (.lstore_n 1, 1) := by decide +kernel
theorem dX8_digest_249 : decode cX8_digest 249 = .ok (.ldc2_w 320, 3) := by decide +kernel
theorem dX8_digest_252 : decode cX8_digest 252 = .ok (.lload_n 1, 1) := by decide +kernel
theorem dX8_digest_253 : decode cX8_digest 253 = .ok (.lmul, 1) := by decide +kernel
theorem dX8_digest_254 : decode cX8_digest 254 = .ok (.aload_n 0, 1) := by decide +kernel
theorem dX8_digest_255 : decode cX8_digest 255 = .ok (.bipush 6, 2) := by decide +kernel
theorem dX8_digest_257 : decode cX8_digest 257 = .ok (.iconst 0, 1) := by decide +kernel
theorem dX8_digest_258 : decode cX8_digest 258 = .ok (.invokevirtual 250, 3) := by decide +kernel
theorem dX8_digest_261 : decode cX8_digest 261 = .ok (.i2l, 1) := by decide +kernel
theorem dX8_digest_262 : decode cX8_digest 262 = .ok (.ladd, 1) := by decide +kernel
theorem dX8_digest_263 : decode cX8_digest 263 = .ok (.lstore_n 1, 1) := by decide +kernel
theorem dX8_digest_264 : decode cX8_digest 264 = .ok (.ldc2_w 320, 3) := by decide +kernel
theorem dX8_digest_267 : decode cX8_digest 267 = .ok (.lload_n 1, 1) := by decide +kernel
theorem dX8_digest_268 : decode cX8_digest 268 = .ok (.lmul, 1) := by decide +kernel
theorem dX8_digest_269 : decode cX8_digest 269 = .ok (.aload_n 0, 1) := by decide +kernel
theorem dX8_digest_270 : decode cX8_digest 270 = .ok (.bipush 6, 2) := by decide +kernel
theorem dX8_digest_272 : decode cX8_digest 272 = .ok (.iconst 1, 1) := by decide +kernel
theorem dX8_digest_273 : decode cX8_digest 273 = .ok (.invokevirtual 250, 3) := by decide +kernel
theorem dX8_digest_276 : decode cX8_digest 276 = .ok (.i2l, 1) := by decide +kernel
theorem dX8_digest_277 : decode cX8_digest 277 = .ok (.ladd, 1) := by decide +kernel
theorem dX8_digest_278 : decode cX8_digest 278 = .ok (.lstore_n 1, 1) := by decide +kernel
theorem dX8_digest_279 : decode cX8_digest 279 = .ok (.ldc2_w 320, 3) := by decide +kernel
theorem dX8_digest_282 : decode cX8_digest 282 = .ok (.lload_n 1, 1) := by decide +kernel
theorem dX8_digest_283 : decode cX8_digest 283 = .ok (.lmul, 1) := by decide +kernel
theorem dX8_digest_284 : decode cX8_digest 284 = .ok (.aload_n 0, 1) := by decide +kernel
theorem dX8_digest_285 : decode cX8_digest 285 = .ok (.iconst (-1), 1) := by decide +kernel
theorem dX8_digest_286 : decode cX8_digest 286 = .ok (.invokevirtual 258, 3) := by decide +kernel
theorem dX8_digest_289 : decode cX8_digest 289 = .ok (.i2l, 1) := by decide +kernel
theorem dX8_digest_290 : decode cX8_digest 290 = .ok (.ladd, 1) := by decide +kernel
theorem dX8_digest_291 : decode cX8_digest 291 = .ok (.lstore_n 1, 1) := by decide +kernel
theorem dX8_digest_292 : decode cX8_digest 292 = .ok (.ldc2_w 320, 3) := by decide +kernel
theorem dX8_digest_295 : decode cX8_digest 295 = .ok (.lload_n 1, 1) := by decide +kernel
theorem dX8_digest_296 : decode cX8_digest 296 = .ok (.lmul, 1) := by decide +kernel
theorem dX8_digest_297 : decode cX8_digest 297 = .ok (.aload_n 0, 1) := by decide +kernel
theorem dX8_digest_298 : decode cX8_digest 298 = .ok (.iconst 0, 1) := by decide +kernel
theorem dX8_digest_299 : decode cX8_digest 299 = .ok (.invokevirtual 258, 3) := by decide +kernel
theorem dX8_digest_302 : decode cX8_digest 302 = .ok (.i2l, 1) := by decide +kernel
theorem dX8_digest_303 : decode cX8_digest 303 = .ok (.ladd, 1) := by decide +kernel
theorem dX8_digest_304 : decode cX8_digest 304 = .ok (.lstore_n 1, 1) := by decide +kernel
theorem dX8_digest_305 : decode cX8_digest 305 = .ok (.ldc2_w 320, 3) := by decide +kernel
theorem dX8_digest_308 : decode cX8_digest 308 = .ok (.lload_n 1, 1) := by decide +kernel
theorem dX8_digest_309 : decode cX8_digest 309 = .ok (.lmul, 1) := by decide +kernel
theorem dX8_digest_310 : decode cX8_digest 310 = .ok (.aload_n 0, 1) := by decide +kernel
theorem dX8_digest_311 : decode cX8_digest 311 = .ok (.invokevirtual 268, 3) := by decide +kernel
theorem dX8_digest_314 : decode cX8_digest 314 = .ok (.i2l, 1) := by decide +kernel
theorem dX8_digest_315 : decode cX8_digest 315 = .ok (.ladd, 1) := by decide +kernel
theorem dX8_digest_316 : decode cX8_digest 316 = .ok (.lstore_n 1, 1) := by decide +kernel
theorem dX8_digest_317 : decode cX8_digest 317 = .ok (.ldc2_w 320, 3) := by decide +kernel
theorem dX8_digest_320 : decode cX8_digest 320 = .ok (.lload_n 1, 1) := by decide +kernel
theorem dX8_digest_321 : decode cX8_digest 321 = .ok (.lmul, 1) := by decide +kernel
theorem dX8_digest_322 : decode cX8_digest 322 = .ok (.aload_n 0, 1) := by decide +kernel
theorem dX8_digest_323 : decode cX8_digest 323 = .ok (.bipush 7, 2) := by decide +kernel
theorem dX8_digest_325 : decode cX8_digest 325 = .ok (.bipush 18, 2) := by decide +kernel
theorem dX8_digest_327 : decode cX8_digest 327 = .ok (.iconst 0, 1) := by decide +kernel
theorem dX8_digest_328 : decode cX8_digest 328 = .ok (.invokevirtual 314, 3) := by decide +kernel
theorem dX8_digest_331 : decode cX8_digest 331 = .ok (.i2l, 1) := by decide +kernel
theorem dX8_digest_332 : decode cX8_digest 332 = .ok (.ladd, 1) := by decide +kernel
theorem dX8_digest_333 : decode cX8_digest 333 = .ok (.lstore_n 1, 1) := by decide +kernel
theorem dX8_digest_334 : decode cX8_digest 334 = .ok (.ldc2_w 320, 3) := by decide +kernel
theorem dX8_digest_337 : decode cX8_digest 337 = .ok (.lload_n 1, 1) := by decide +kernel
theorem dX8_digest_338 : decode cX8_digest 338 = .ok (.lmul, 1) := by decide +kernel
theorem dX8_digest_339 : decode cX8_digest 339 = .ok (.aload_n 0, 1) := by decide +kernel
theorem dX8_digest_340 : decode cX8_digest 340 = .ok (.bipush 7, 2) := by decide +kernel
theorem dX8_digest_342 : decode cX8_digest 342 = .ok (.bipush 18, 2) := by decide +kernel
theorem dX8_digest_344 : decode cX8_digest 344 = .ok (.iconst 1, 1) := by decide +kernel
theorem dX8_digest_345 : decode cX8_digest 345 = .ok (.invokevirtual 314, 3) := by decide +kernel
theorem dX8_digest_348 : decode cX8_digest 348 = .ok (.i2l, 1) := by decide +kernel
theorem dX8_digest_349 : decode cX8_digest 349 = .ok (.ladd, 1) := by decide +kernel
theorem dX8_digest_350 : decode cX8_digest 350 = .ok (.lreturn, 1) := by decide +kernel
set_option maxRecDepth 20000 in
theorem m_X8_digest {h : Hp}  {u : (Hp × Int64)} (hu : f_X8_digest h = some u) : Ct yX8_digest cX8_digest 4 (some .long) 10 [.ref 68] h (eL u) := by
  refine ct_of eL hu (by decide) (Nat.le_of_ble_eq_true rfl) (fun κ hn C E => ?_)
  have n2 : 2 < kn κ := by rw [hn]; decide
  have n3 : 3 < kn κ := by rw [hn]; decide
  unfold f_X8_digest
  show Xz κ _ 0 [(0, .ref 68)] [] h
  refine x_ldc2 3 C dX8_digest_0 kw_X8_326 rfl ?_
  refine x_lstore_n 4 [(1, .long (17 : Int64)), (0, .ref 68)] C dX8_digest_3 n2 rfl rfl rfl ?_
  refine x_iconst 5 C dX8_digest_4 ci_0 rfl ?_
  refine x_istore_n 6 [(3, .int (0 : Int32)), (1, .long (17 : Int64)), (0, .ref 68)] C dX8_digest_5 n3 rfl rfl rfl ?_
  refine x_lt2 (q := 31) (ls := fun h1 l2 => [(0, .ref 68), (1, .long l2)]) (st := fun h1 l2 => []) (hh := fun h1 l2 => h1) (fun h1 l2 => ?_) (fun k1 J1 => ?_)
  · refine x_iconst 32 C dX8_digest_31 ci_0 rfl ?_
    refine x_istore_n 33 [(3, .int (0 : Int32)), (0, .ref 68), (1, .long l2)] C dX8_digest_32 n3 rfl rfl rfl ?_
    refine x_lt2 (q := 57) (ls := fun h3 l4 => [(0, .ref 68), (1, .long l4)]) (st := fun h3 l4 => []) (hh := fun h3 l4 => h3) (fun h3 l4 => ?_) (fun k2 J2 => ?_)
    · refine x_aload_n 58 C dX8_digest_57 0 rfl rfl rfl ?_
      refine x_cvV 61 [] [] C 5 dX8_digest_58 v_X8_217 (fun u hu => m_X8_lives hu) rfl sk_68 rfl (Nat.le_of_ble_eq_true rfl) (Nat.le_of_ble_eq_true rfl) rfl (fun h5 => ?_)
      refine x_iconst 62 C dX8_digest_61 ci_0 rfl ?_
      refine x_istore_n 63 [(3, .int (0 : Int32)), (0, .ref 68), (1, .long l4)] C dX8_digest_62 n3 rfl rfl rfl ?_
      refine x_lt1 (q := 103) (ls := fun l6 => [(0, .ref 68), (1, .long l6)]) (st := fun l6 => []) (hh := fun l6 => h5) (fun l6 => ?_) (fun k3 J3 => ?_)
      · refine x_iconst 104 C dX8_digest_103 ci_0 rfl ?_
        refine x_istore_n 105 [(3, .int (0 : Int32)), (0, .ref 68), (1, .long l6)] C dX8_digest_104 n3 rfl rfl rfl ?_
        refine x_lt1 (q := 132) (ls := fun l7 => [(0, .ref 68), (1, .long l7)]) (st := fun l7 => []) (hh := fun l7 => h5) (fun l7 => ?_) (fun k4 J4 => ?_)
        · refine x_iconst 133 C dX8_digest_132 ci_0 rfl ?_
          refine x_istore_n 134 [(3, .int (0 : Int32)), (0, .ref 68), (1, .long l7)] C dX8_digest_133 n3 rfl rfl rfl ?_
          refine x_lt2 (q := 155) (ls := fun h8 l9 => [(0, .ref 68), (1, .long l9)]) (st := fun h8 l9 => []) (hh := fun h8 l9 => h8) (fun h8 l9 => ?_) (fun k5 J5 => ?_)
          · refine x_aload_n 156 C dX8_digest_155 0 rfl rfl rfl ?_
            refine x_cvV 159 [] [] C 5 dX8_digest_156 v_X8_217 (fun u hu => m_X8_lives hu) rfl sk_68 rfl (Nat.le_of_ble_eq_true rfl) (Nat.le_of_ble_eq_true rfl) rfl (fun h10 => ?_)
            refine x_iconst 160 C dX8_digest_159 ci_0 rfl ?_
            refine x_istore_n 161 [(3, .int (0 : Int32)), (0, .ref 68), (1, .long l9)] C dX8_digest_160 n3 rfl rfl rfl ?_
            refine x_lt1 (q := 185) (ls := fun l11 => [(0, .ref 68), (1, .long l11)]) (st := fun l11 => []) (hh := fun l11 => h10) (fun l11 => ?_) (fun k6 J6 => ?_)
            · refine x_ldc2 188 C dX8_digest_185 kw_X8_320 rfl ?_
              refine x_lload_n 189 C dX8_digest_188 1 rfl rfl rfl ?_
              refine x_lmul 190 C dX8_digest_189 rfl ?_
              refine x_aload_n 191 C dX8_digest_190 0 rfl rfl rfl ?_
              refine x_cvi 194 [] [.long ((31 : Int64) * l11)] C 0 dX8_digest_191 v_X8_235 (fun u hu => m_X8_firstNow hu) rfl sk_68 rfl (Nat.le_of_ble_eq_true rfl) (Nat.le_of_ble_eq_true rfl) rfl (fun x12 => ?_)
              refine x_i2l 195 C dX8_digest_194 rfl ?_
              refine x_ladd 196 C dX8_digest_195 rfl ?_
              refine x_nl (fun l13 => ?_)
              refine x_lstore_n 197 [(1, .long l13), (0, .ref 68)] C dX8_digest_196 n2 rfl rfl rfl ?_
              refine x_ldc2 200 C dX8_digest_197 kw_X8_320 rfl ?_
              refine x_lload_n 201 C dX8_digest_200 0 rfl rfl rfl ?_
              refine x_lmul 202 C dX8_digest_201 rfl ?_
              refine x_aload_n 203 C dX8_digest_202 1 rfl rfl rfl ?_
              refine x_cvi 206 [] [.long ((31 : Int64) * l13)] C 1 dX8_digest_203 v_X8_238 (fun u hu => m_X8_worstNow hu) rfl sk_68 rfl (Nat.le_of_ble_eq_true rfl) (Nat.le_of_ble_eq_true rfl) rfl (fun x14 => ?_)
              refine x_i2l 207 C dX8_digest_206 rfl ?_
              refine x_ladd 208 C dX8_digest_207 rfl ?_
              refine x_nl (fun l15 => ?_)
              refine x_lstore_n 209 [(1, .long l15), (0, .ref 68)] C dX8_digest_208 n2 rfl rfl rfl ?_
              refine x_ldc2 212 C dX8_digest_209 kw_X8_320 rfl ?_
              refine x_lload_n 213 C dX8_digest_212 0 rfl rfl rfl ?_
              refine x_lmul 214 C dX8_digest_213 rfl ?_
              refine x_aload_n 215 C dX8_digest_214 1 rfl rfl rfl ?_
              refine x_cvi 218 [] [.long ((31 : Int64) * l15)] C 0 dX8_digest_215 v_X8_244 (fun u hu => m_X8_bareNow hu) rfl sk_68 rfl (Nat.le_of_ble_eq_true rfl) (Nat.le_of_ble_eq_true rfl) rfl (fun x16 => ?_)
              refine x_i2l 219 C dX8_digest_218 rfl ?_
              refine x_ladd 220 C dX8_digest_219 rfl ?_
              refine x_nl (fun l17 => ?_)
              refine x_lstore_n 221 [(1, .long l17), (0, .ref 68)] C dX8_digest_220 n2 rfl rfl rfl ?_
              refine x_ldc2 224 C dX8_digest_221 kw_X8_320 rfl ?_
              refine x_lload_n 225 C dX8_digest_224 0 rfl rfl rfl ?_
              refine x_lmul 226 C dX8_digest_225 rfl ?_
              refine x_aload_n 227 C dX8_digest_226 1 rfl rfl rfl ?_
              refine x_iconst 228 C dX8_digest_227 ci_2 rfl ?_
              refine x_iconst 229 C dX8_digest_228 ci_0 rfl ?_
              refine x_cvI 232 [.int (2 : Int32), .int (0 : Int32)] [.long ((31 : Int64) * l17)] C 6 dX8_digest_229 v_X8_250 (fun u hu => m_X8_actOf hu) rfl sk_68 rfl (Nat.le_of_ble_eq_true rfl) (Nat.le_of_ble_eq_true rfl) rfl (fun h18 x19 => ?_)
              refine x_i2l 233 C dX8_digest_232 rfl ?_
              refine x_ladd 234 C dX8_digest_233 rfl ?_
              refine x_nl (fun l20 => ?_)
              refine x_lstore_n 235 [(1, .long l20), (0, .ref 68)] C dX8_digest_234 n2 rfl rfl rfl ?_
              refine x_ldc2 238 C dX8_digest_235 kw_X8_320 rfl ?_
              refine x_lload_n 239 C dX8_digest_238 0 rfl rfl rfl ?_
              refine x_lmul 240 C dX8_digest_239 rfl ?_
              refine x_aload_n 241 C dX8_digest_240 1 rfl rfl rfl ?_
              refine x_iconst 242 C dX8_digest_241 ci_2 rfl ?_
              refine x_iconst 243 C dX8_digest_242 ci_1 rfl ?_
              refine x_cvI 246 [.int (2 : Int32), .int (1 : Int32)] [.long ((31 : Int64) * l20)] C 6 dX8_digest_243 v_X8_250 (fun u hu => m_X8_actOf hu) rfl sk_68 rfl (Nat.le_of_ble_eq_true rfl) (Nat.le_of_ble_eq_true rfl) rfl (fun h21 x22 => ?_)
              refine x_i2l 247 C dX8_digest_246 rfl ?_
              refine x_ladd 248 C dX8_digest_247 rfl ?_
              refine x_nl (fun l23 => ?_)
              refine x_lstore_n 249 [(1, .long l23), (0, .ref 68)] C dX8_digest_248 n2 rfl rfl rfl ?_
              refine x_ldc2 252 C dX8_digest_249 kw_X8_320 rfl ?_
              refine x_lload_n 253 C dX8_digest_252 0 rfl rfl rfl ?_
              refine x_lmul 254 C dX8_digest_253 rfl ?_
              refine x_aload_n 255 C dX8_digest_254 1 rfl rfl rfl ?_
              refine x_bipush 257 C dX8_digest_255 cb_6 rfl ?_
              refine x_iconst 258 C dX8_digest_257 ci_0 rfl ?_
              refine x_cvI 261 [.int (6 : Int32), .int (0 : Int32)] [.long ((31 : Int64) * l23)] C 6 dX8_digest_258 v_X8_250 (fun u hu => m_X8_actOf hu) rfl sk_68 rfl (Nat.le_of_ble_eq_true rfl) (Nat.le_of_ble_eq_true rfl) rfl (fun h24 x25 => ?_)
              refine x_i2l 262 C dX8_digest_261 rfl ?_
              refine x_ladd 263 C dX8_digest_262 rfl ?_
              refine x_nl (fun l26 => ?_)
              refine x_lstore_n 264 [(1, .long l26), (0, .ref 68)] C dX8_digest_263 n2 rfl rfl rfl ?_
              refine x_ldc2 267 C dX8_digest_264 kw_X8_320 rfl ?_
              refine x_lload_n 268 C dX8_digest_267 0 rfl rfl rfl ?_
              refine x_lmul 269 C dX8_digest_268 rfl ?_
              refine x_aload_n 270 C dX8_digest_269 1 rfl rfl rfl ?_
              refine x_bipush 272 C dX8_digest_270 cb_6 rfl ?_
              refine x_iconst 273 C dX8_digest_272 ci_1 rfl ?_
              refine x_cvI 276 [.int (6 : Int32), .int (1 : Int32)] [.long ((31 : Int64) * l26)] C 6 dX8_digest_273 v_X8_250 (fun u hu => m_X8_actOf hu) rfl sk_68 rfl (Nat.le_of_ble_eq_true rfl) (Nat.le_of_ble_eq_true rfl) rfl (fun h27 x28 => ?_)
              refine x_i2l 277 C dX8_digest_276 rfl ?_
              refine x_ladd 278 C dX8_digest_277 rfl ?_
              refine x_nl (fun l29 => ?_)
              refine x_lstore_n 279 [(1, .long l29), (0, .ref 68)] C dX8_digest_278 n2 rfl rfl rfl ?_
              refine x_ldc2 282 C dX8_digest_279 kw_X8_320 rfl ?_
              refine x_lload_n 283 C dX8_digest_282 0 rfl rfl rfl ?_
              refine x_lmul 284 C dX8_digest_283 rfl ?_
              refine x_aload_n 285 C dX8_digest_284 1 rfl rfl rfl ?_
              refine x_iconst 286 C dX8_digest_285 ci_m1 rfl ?_
              refine x_cvI 289 [.int (-1 : Int32)] [.long ((31 : Int64) * l29)] C 7 dX8_digest_286 v_X8_258 (fun u hu => m_X8_spareBy hu) rfl sk_68 rfl (Nat.le_of_ble_eq_true rfl) (Nat.le_of_ble_eq_true rfl) rfl (fun h30 x31 => ?_)
              refine x_i2l 290 C dX8_digest_289 rfl ?_
              refine x_ladd 291 C dX8_digest_290 rfl ?_
              refine x_nl (fun l32 => ?_)
              refine x_lstore_n 292 [(1, .long l32), (0, .ref 68)] C dX8_digest_291 n2 rfl rfl rfl ?_
              refine x_ldc2 295 C dX8_digest_292 kw_X8_320 rfl ?_
              refine x_lload_n 296 C dX8_digest_295 0 rfl rfl rfl ?_
              refine x_lmul 297 C dX8_digest_296 rfl ?_
              refine x_aload_n 298 C dX8_digest_297 1 rfl rfl rfl ?_
              refine x_iconst 299 C dX8_digest_298 ci_0 rfl ?_
              refine x_cvI 302 [.int (0 : Int32)] [.long ((31 : Int64) * l32)] C 7 dX8_digest_299 v_X8_258 (fun u hu => m_X8_spareBy hu) rfl sk_68 rfl (Nat.le_of_ble_eq_true rfl) (Nat.le_of_ble_eq_true rfl) rfl (fun h33 x34 => ?_)
              refine x_i2l 303 C dX8_digest_302 rfl ?_
              refine x_ladd 304 C dX8_digest_303 rfl ?_
              refine x_nl (fun l35 => ?_)
              refine x_lstore_n 305 [(1, .long l35), (0, .ref 68)] C dX8_digest_304 n2 rfl rfl rfl ?_
              refine x_ldc2 308 C dX8_digest_305 kw_X8_320 rfl ?_
              refine x_lload_n 309 C dX8_digest_308 0 rfl rfl rfl ?_
              refine x_lmul 310 C dX8_digest_309 rfl ?_
              refine x_aload_n 311 C dX8_digest_310 1 rfl rfl rfl ?_
              refine x_cvI 314 [] [.long ((31 : Int64) * l35)] C 7 dX8_digest_311 v_X8_268 (fun u hu => m_X8_neverNow hu) rfl sk_68 rfl (Nat.le_of_ble_eq_true rfl) (Nat.le_of_ble_eq_true rfl) rfl (fun h36 x37 => ?_)
              refine x_i2l 315 C dX8_digest_314 rfl ?_
              refine x_ladd 316 C dX8_digest_315 rfl ?_
              refine x_nl (fun l38 => ?_)
              refine x_lstore_n 317 [(1, .long l38), (0, .ref 68)] C dX8_digest_316 n2 rfl rfl rfl ?_
              refine x_ldc2 320 C dX8_digest_317 kw_X8_320 rfl ?_
              refine x_lload_n 321 C dX8_digest_320 0 rfl rfl rfl ?_
              refine x_lmul 322 C dX8_digest_321 rfl ?_
              refine x_aload_n 323 C dX8_digest_322 1 rfl rfl rfl ?_
              refine x_bipush 325 C dX8_digest_323 cb_7 rfl ?_
              refine x_bipush 327 C dX8_digest_325 cb_18 rfl ?_
              refine x_iconst 328 C dX8_digest_327 ci_0 rfl ?_
              refine x_cvI 331 [.int (7 : Int32), .int (18 : Int32), .int (0 : Int32)] [.long ((31 : Int64) * l38)] C 6 dX8_digest_328 v_X8_314 (fun u hu => m_X8_showsOf hu) rfl sk_68 rfl (Nat.le_of_ble_eq_true rfl) (Nat.le_of_ble_eq_true rfl) rfl (fun h39 x40 => ?_)
              refine x_i2l 332 C dX8_digest_331 rfl ?_
              refine x_ladd 333 C dX8_digest_332 rfl ?_
              refine x_nl (fun l41 => ?_)
              refine x_lstore_n 334 [(1, .long l41), (0, .ref 68)] C dX8_digest_333 n2 rfl rfl rfl ?_
              refine x_ldc2 337 C dX8_digest_334 kw_X8_320 rfl ?_
              refine x_lload_n 338 C dX8_digest_337 0 rfl rfl rfl ?_
              refine x_lmul 339 C dX8_digest_338 rfl ?_
              refine x_aload_n 340 C dX8_digest_339 1 rfl rfl rfl ?_
              refine x_bipush 342 C dX8_digest_340 cb_7 rfl ?_
              refine x_bipush 344 C dX8_digest_342 cb_18 rfl ?_
              refine x_iconst 345 C dX8_digest_344 ci_1 rfl ?_
              refine x_cvI 348 [.int (7 : Int32), .int (18 : Int32), .int (1 : Int32)] [.long ((31 : Int64) * l41)] C 6 dX8_digest_345 v_X8_314 (fun u hu => m_X8_showsOf hu) rfl sk_68 rfl (Nat.le_of_ble_eq_true rfl) (Nat.le_of_ble_eq_true rfl) rfl (fun h42 x43 => ?_)
              refine x_i2l 349 C dX8_digest_348 rfl ?_
              refine x_ladd 350 C dX8_digest_349 rfl ?_
              exact x_lret C E dX8_digest_350 rfl
            refine x_ls [1, 2, 0] rfl (x_fx2 (ls := fun l44 x45 => [(0, .ref 68), (1, .long l44), (3, .int x45)]) (st := fun l44 x45 => []) (hh := fun l44 x45 => h10) (fun s7 J7 l44 x45 => ?_))
            refine x_iload_n 162 C dX8_digest_161 2 rfl rfl rfl ?_
            refine x_iconst 163 C dX8_digest_162 ci_3 rfl ?_
            refine x_icmp_ge 166 185 C dX8_digest_163 (by decide) rfl (fun _ => ?_) (fun _ => ?_)
            · exact x_ls [0, 1] rfl (J6 l44)
            · refine x_ldc2 169 C dX8_digest_166 kw_X8_320 rfl ?_
              refine x_lload_n 170 C dX8_digest_169 1 rfl rfl rfl ?_
              refine x_lmul 171 C dX8_digest_170 rfl ?_
              refine x_aload_n 172 C dX8_digest_171 0 rfl rfl rfl ?_
              refine x_iload_n 173 C dX8_digest_172 2 rfl rfl rfl ?_
              refine x_cvi 176 [.int x45] [.long ((31 : Int64) * l44)] C 1 dX8_digest_173 v_X8_232 (fun u hu => m_X8_sumBy hu) rfl sk_68 rfl (Nat.le_of_ble_eq_true rfl) (Nat.le_of_ble_eq_true rfl) rfl (fun x46 => ?_)
              refine x_i2l 177 C dX8_digest_176 rfl ?_
              refine x_ladd 178 C dX8_digest_177 rfl ?_
              refine x_nl (fun l47 => ?_)
              refine x_lstore_n 179 [(1, .long l47), (0, .ref 68), (3, .int x45)] C dX8_digest_178 n2 rfl rfl rfl ?_
              refine x_iinc 182 (fun x48 => [(3, .int x48), (1, .long l47), (0, .ref 68)]) C dX8_digest_179 2 rfl ci_1 n3 (fun _ => rfl) rfl (fun x48 => ?_)
              refine x_goto 161 C dX8_digest_182 (by decide) ?_
              exact x_ls [2, 1, 0] rfl (J7 l47 x48)
          refine x_ls [1, 2, 0] rfl (x_fx3 (ls := fun h49 l50 x51 => [(0, .ref 68), (1, .long l50), (3, .int x51)]) (st := fun h49 l50 x51 => []) (hh := fun h49 l50 x51 => h49) (fun s8 J8 h49 l50 x51 => ?_))
          refine x_iload_n 135 C dX8_digest_134 2 rfl rfl rfl ?_
          refine x_aload_n 136 C dX8_digest_135 0 rfl rfl rfl ?_
          refine x_getI 139 C dX8_digest_136 fl_X8_127 sk_68 rfl rfl ?_
          refine x_icmp_ge 142 155 C dX8_digest_139 (by decide) rfl (fun _ => ?_) (fun _ => ?_)
          · exact x_ls [0, 1] rfl (J5 h49 l50)
          · refine x_aload_n 143 C dX8_digest_142 0 rfl rfl rfl ?_
            refine x_lload_n 144 C dX8_digest_143 1 rfl rfl rfl ?_
            refine x_iload_n 145 C dX8_digest_144 2 rfl rfl rfl ?_
            refine x_cvL 148 [.long l50, .int x51] [] C 9 dX8_digest_145 v_X8_331 (fun u hu => m_X8_tellsWalker hu) rfl sk_68 rfl (Nat.le_of_ble_eq_true rfl) (Nat.le_of_ble_eq_true rfl) rfl (fun h52 l53 => ?_)
            refine x_lstore_n 149 [(1, .long l53), (0, .ref 68), (3, .int x51)] C dX8_digest_148 n2 rfl rfl rfl ?_
            refine x_iinc 152 (fun x54 => [(3, .int x54), (1, .long l53), (0, .ref 68)]) C dX8_digest_149 2 rfl ci_1 n3 (fun _ => rfl) rfl (fun x54 => ?_)
            refine x_goto 134 C dX8_digest_152 (by decide) ?_
            exact x_ls [2, 1, 0] rfl (J8 h52 l53 x54)
        refine x_ls [1, 2, 0] rfl (x_fx2 (ls := fun l55 x56 => [(0, .ref 68), (1, .long l55), (3, .int x56)]) (st := fun l55 x56 => []) (hh := fun l55 x56 => h5) (fun s9 J9 l55 x56 => ?_))
        refine x_iload_n 106 C dX8_digest_105 2 rfl rfl rfl ?_
        refine x_bipush 108 C dX8_digest_106 cb_41 rfl ?_
        refine x_icmp_ge 111 132 C dX8_digest_108 (by decide) rfl (fun _ => ?_) (fun _ => ?_)
        · exact x_ls [0, 1] rfl (J4 l55)
        · refine x_ldc2 114 C dX8_digest_111 kw_X8_320 rfl ?_
          refine x_lload_n 115 C dX8_digest_114 1 rfl rfl rfl ?_
          refine x_lmul 116 C dX8_digest_115 rfl ?_
          refine x_aload_n 117 C dX8_digest_116 0 rfl rfl rfl ?_
          refine x_bipush 119 C dX8_digest_117 cb_9 rfl ?_
          refine x_iload_n 120 C dX8_digest_119 2 rfl rfl rfl ?_
          refine x_cvi 123 [.int (9 : Int32), .int x56] [.long ((31 : Int64) * l55)] C 0 dX8_digest_120 v_X8_223 (fun u hu => m_X8_seesBy hu) rfl sk_68 rfl (Nat.le_of_ble_eq_true rfl) (Nat.le_of_ble_eq_true rfl) rfl (fun x57 => ?_)
          refine x_i2l 124 C dX8_digest_123 rfl ?_
          refine x_ladd 125 C dX8_digest_124 rfl ?_
          refine x_nl (fun l58 => ?_)
          refine x_lstore_n 126 [(1, .long l58), (0, .ref 68), (3, .int x56)] C dX8_digest_125 n2 rfl rfl rfl ?_
          refine x_iinc 129 (fun x59 => [(3, .int x59), (1, .long l58), (0, .ref 68)]) C dX8_digest_126 2 rfl ci_1 n3 (fun _ => rfl) rfl (fun x59 => ?_)
          refine x_goto 105 C dX8_digest_129 (by decide) ?_
          exact x_ls [2, 1, 0] rfl (J9 l58 x59)
      refine x_ls [1, 2, 0] rfl (x_fx2 (ls := fun l60 x61 => [(0, .ref 68), (1, .long l60), (3, .int x61)]) (st := fun l60 x61 => []) (hh := fun l60 x61 => h5) (fun s10 J10 l60 x61 => ?_))
      refine x_iload_n 64 C dX8_digest_63 2 rfl rfl rfl ?_
      refine x_bipush 66 C dX8_digest_64 cb_24 rfl ?_
      refine x_icmp_ge 69 103 C dX8_digest_66 (by decide) rfl (fun _ => ?_) (fun _ => ?_)
      · exact x_ls [0, 1] rfl (J3 l60)
      · refine x_ldc2 72 C dX8_digest_69 kw_X8_320 rfl ?_
        refine x_lload_n 73 C dX8_digest_72 1 rfl rfl rfl ?_
        refine x_lmul 74 C dX8_digest_73 rfl ?_
        refine x_aload_n 75 C dX8_digest_74 0 rfl rfl rfl ?_
        refine x_getR (c := 76) 78 C dX8_digest_75 fl_X8_31 sk_68 rfl sr_68_10 rfl ?_
        refine x_iload_n 79 C dX8_digest_78 2 rfl rfl rfl ?_
        refine x_iald 80 C dX8_digest_79 sk_76 sl_76 rfl ?_
        refine x_i2l 81 C dX8_digest_80 rfl ?_
        refine x_ladd 82 C dX8_digest_81 rfl ?_
        refine x_nl (fun l62 => ?_)
        refine x_lstore_n 83 [(1, .long l62), (0, .ref 68), (3, .int x61)] C dX8_digest_82 n2 rfl rfl rfl ?_
        refine x_ldc2 86 C dX8_digest_83 kw_X8_320 rfl ?_
        refine x_lload_n 87 C dX8_digest_86 0 rfl rfl rfl ?_
        refine x_lmul 88 C dX8_digest_87 rfl ?_
        refine x_aload_n 89 C dX8_digest_88 1 rfl rfl rfl ?_
        refine x_getR (c := 90) 92 C dX8_digest_89 fl_X8_73 sk_68 rfl sr_68_26 rfl ?_
        refine x_iload_n 93 C dX8_digest_92 2 rfl rfl rfl ?_
        refine x_iald 94 C dX8_digest_93 sk_90 sl_90 rfl ?_
        refine x_i2l 95 C dX8_digest_94 rfl ?_
        refine x_ladd 96 C dX8_digest_95 rfl ?_
        refine x_nl (fun l63 => ?_)
        refine x_lstore_n 97 [(1, .long l63), (0, .ref 68), (3, .int x61)] C dX8_digest_96 n2 rfl rfl rfl ?_
        refine x_iinc 100 (fun x64 => [(3, .int x64), (1, .long l63), (0, .ref 68)]) C dX8_digest_97 2 rfl ci_1 n3 (fun _ => rfl) rfl (fun x64 => ?_)
        refine x_goto 63 C dX8_digest_100 (by decide) ?_
        exact x_ls [2, 1, 0] rfl (J10 l63 x64)
    refine x_ls [1, 2, 0] rfl (x_fx3 (ls := fun h65 l66 x67 => [(0, .ref 68), (1, .long l66), (3, .int x67)]) (st := fun h65 l66 x67 => []) (hh := fun h65 l66 x67 => h65) (fun s11 J11 h65 l66 x67 => ?_))
    refine x_iload_n 34 C dX8_digest_33 2 rfl rfl rfl ?_
    refine x_iconst 35 C dX8_digest_34 ci_2 rfl ?_
    refine x_icmp_ge 38 57 C dX8_digest_35 (by decide) rfl (fun _ => ?_) (fun _ => ?_)
    · exact x_ls [0, 1] rfl (J2 h65 l66)
    · refine x_ldc2 41 C dX8_digest_38 kw_X8_320 rfl ?_
      refine x_lload_n 42 C dX8_digest_41 1 rfl rfl rfl ?_
      refine x_lmul 43 C dX8_digest_42 rfl ?_
      refine x_aload_n 44 C dX8_digest_43 0 rfl rfl rfl ?_
      refine x_iload_n 45 C dX8_digest_44 2 rfl rfl rfl ?_
      refine x_cvI 48 [.int x67] [.long ((31 : Int64) * l66)] C 3 dX8_digest_45 v_X8_146 (fun u hu => m_X8_readsText hu) rfl sk_68 rfl (Nat.le_of_ble_eq_true rfl) (Nat.le_of_ble_eq_true rfl) rfl (fun h68 x69 => ?_)
      refine x_i2l 49 C dX8_digest_48 rfl ?_
      refine x_ladd 50 C dX8_digest_49 rfl ?_
      refine x_nl (fun l70 => ?_)
      refine x_lstore_n 51 [(1, .long l70), (0, .ref 68), (3, .int x67)] C dX8_digest_50 n2 rfl rfl rfl ?_
      refine x_iinc 54 (fun x71 => [(3, .int x71), (1, .long l70), (0, .ref 68)]) C dX8_digest_51 2 rfl ci_1 n3 (fun _ => rfl) rfl (fun x71 => ?_)
      refine x_goto 33 C dX8_digest_54 (by decide) ?_
      exact x_ls [2, 1, 0] rfl (J11 h68 l70 x71)
  refine x_ls [2, 1, 0] rfl (x_fx3 (ls := fun h72 l73 x74 => [(0, .ref 68), (1, .long l73), (3, .int x74)]) (st := fun h72 l73 x74 => []) (hh := fun h72 l73 x74 => h72) (fun s12 J12 h72 l73 x74 => ?_))
  refine x_iload_n 7 C dX8_digest_6 2 rfl rfl rfl ?_
  refine x_bipush 9 C dX8_digest_7 cb_8 rfl ?_
  refine x_icmp_ge 12 31 C dX8_digest_9 (by decide) rfl (fun _ => ?_) (fun _ => ?_)
  · exact x_ls [0, 1] rfl (J1 h72 l73)
  · refine x_ldc2 15 C dX8_digest_12 kw_X8_320 rfl ?_
    refine x_lload_n 16 C dX8_digest_15 1 rfl rfl rfl ?_
    refine x_lmul 17 C dX8_digest_16 rfl ?_
    refine x_aload_n 18 C dX8_digest_17 0 rfl rfl rfl ?_
    refine x_iload_n 19 C dX8_digest_18 2 rfl rfl rfl ?_
    refine x_cvI 22 [.int x74] [.long ((31 : Int64) * l73)] C 7 dX8_digest_19 v_X8_328 (fun u hu => m_X8_count hu) rfl sk_68 rfl (Nat.le_of_ble_eq_true rfl) (Nat.le_of_ble_eq_true rfl) rfl (fun h75 x76 => ?_)
    refine x_i2l 23 C dX8_digest_22 rfl ?_
    refine x_ladd 24 C dX8_digest_23 rfl ?_
    refine x_nl (fun l77 => ?_)
    refine x_lstore_n 25 [(1, .long l77), (0, .ref 68), (3, .int x74)] C dX8_digest_24 n2 rfl rfl rfl ?_
    refine x_iinc 28 (fun x78 => [(3, .int x78), (1, .long l77), (0, .ref 68)]) C dX8_digest_25 2 rfl ci_1 n3 (fun _ => rfl) rfl (fun x78 => ?_)
    refine x_goto 6 C dX8_digest_28 (by decide) ?_
    exact x_ls [2, 1, 0] rfl (J12 h75 l77 x78)
