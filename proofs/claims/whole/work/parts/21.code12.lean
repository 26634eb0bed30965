def f_X7_digest (h : Hp) : Option (Hp × Int64) :=
  lt1 (fun (l1 : Int64) =>
    bdr (f_X7_fault h (0 : Int32)) fun x2 =>
    bdr (f_X7_mixed l1 (x2.toInt64)) fun l3 =>
    bdr (f_X7_fault h (1 : Int32)) fun x4 =>
    bdr (f_X7_mixed l3 (x4.toInt64)) fun l5 =>
    lt2 (fun (h6 : Hp) (l7 : Int64) =>
      lt2 (fun (h8 : Hp) (l9 : Int64) =>
        lt2 (fun (h10 : Hp) (l11 : Int64) =>
          lt2 (fun (h12 : Hp) (l13 : Int64) =>
            bnd (f_X7_who h12 (0 : Int32)) fun h14 x15 =>
            bdr (f_X7_mixed l13 (x15.toInt64)) fun l16 =>
            bnd (f_X7_who h14 (1 : Int32)) fun h17 x18 =>
            bdr (f_X7_mixed l16 (x18.toInt64)) fun l19 =>
            bnd (f_X7_bare h17) fun h20 x21 =>
            bdr (f_X7_mixed l19 (x21.toInt64)) fun l22 =>
            bnd (f_X7_act h20 (2 : Int32) (0 : Int32)) fun h23 x24 =>
            bdr (f_X7_mixedBest h23 l22 x24) fun l25 =>
            bnd (f_X7_act h23 (6 : Int32) (0 : Int32)) fun h26 x27 =>
            bdr (f_X7_mixedBest h26 l25 x27) fun l28 =>
            bnd (f_X7_spare h26 (-1 : Int32)) fun h29 x30 =>
            bdr (f_X7_mixed l28 (x30.toInt64)) fun l31 =>
            bnd (f_X7_spare h29 (0 : Int32)) fun h32 x33 =>
            bdr (f_X7_mixed l31 (x33.toInt64)) fun l34 =>
            bnd (f_X7_never h32) fun h35 x36 =>
            bdr (f_X7_mixed l34 (x36.toInt64)) fun l37 =>
            bnd (f_X7_shows h35 (7 : Int32) (18 : Int32) (0 : Int32)) fun h38 x39 =>
            bdr (f_X7_mixed l37 (x39.toInt64)) fun l40 =>
            bnd (f_X7_shows h38 (7 : Int32) (18 : Int32) (1 : Int32)) fun h41 x42 =>
            bdr (f_X7_mixed l40 (x42.toInt64)) fun l43 =>
            some (h41, l43)) fun k5 =>
          fx3 FU (fun s6 (h44 : Hp) (l45 : Int64) (x46 : Int32) =>
            if (2 : Int32) < x46 then (
              k5 h44 l45)
            else (
              bnd (f_X7_sum h44 x46) fun h47 x48 =>
              bdr (f_X7_mixed l45 (x48.toInt64)) fun l49 =>
              nm (x46 + (1 : Int32)) fun x50 =>
              s6 h47 l49 x50)) h10 l11 (0 : Int32)) fun k4 =>
        fx3 FU (fun s7 (h51 : Hp) (l52 : Int64) (x53 : Int32) =>
          if (h51.1 5 7) ≤ x53 then (
            k4 h51 l52)
          else (
            bnd (f_X7_mixedWalk h51 l52 x53) fun h54 l55 =>
            bnd (f_X7_mixedPlans h54 l55 x53) fun h56 l57 =>
            nm (x53 + (1 : Int32)) fun x58 =>
            s7 h56 l57 x58)) h8 l9 (0 : Int32)) fun k3 =>
      fx3 FU (fun s8 (h59 : Hp) (l60 : Int64) (x61 : Int32) =>
        if (40 : Int32) < x61 then (
          k3 h59 l60)
        else (
          bnd (f_X7_sees h59 (9 : Int32) x61) fun h62 x63 =>
          bdr (f_X7_mixed l60 (x63.toInt64)) fun l64 =>
          nm (x61 + (1 : Int32)) fun x65 =>
          s8 h62 l64 x65)) h6 l7 (0 : Int32)) fun k2 =>
    fx3 FU (fun s9 (h66 : Hp) (l67 : Int64) (x68 : Int32) =>
      if (24 : Int32) ≤ x68 then (
        k2 h66 l67)
      else (
        bdr (f_X7_routine h66 x68) fun x69 =>
        bdr (f_X7_mixed l67 (x69.toInt64)) fun l70 =>
        bnd (f_X7_sway h66 x68) fun h71 x72 =>
        bdr (f_X7_mixed l70 (x72.toInt64)) fun l73 =>
        nm (x68 + (1 : Int32)) fun x74 =>
        s9 h71 l73 x74)) h l5 (0 : Int32)) fun k1 =>
  fx2 FU (fun s10 (l75 : Int64) (x76 : Int32) =>
    if (7 : Int32) < x76 then (
      k1 l75)
    else (
      bdr (f_X7_count h x76) fun x77 =>
      bdr (f_X7_mixed l75 (x77.toInt64)) fun l78 =>
      nm (x76 + (1 : Int32)) fun x79 =>
      s10 l78 x79)) (17 : Int64) (0 : Int32)
theorem dX7_digest_0 : decode cX7_digest 0 = .ok (.ldc2_w 318, 3) := by decide +kernel
theorem dX7_digest_3 : decode cX7_digest 3 = .ok (.lstore_n 1, 1) := by decide +kernel
theorem dX7_digest_4 : decode cX7_digest 4 = .ok (.iconst 0, 1) := by decide +kernel
theorem dX7_digest_5 : decode cX7_digest 5 = .ok (.istore_n 3, 1) := by decide +kernel
theorem dX7_digest_6 : decode cX7_digest 6 = .ok (.iload_n 3, 1) := by decide +kernel
theorem dX7_digest_7 : decode cX7_digest 7 = .ok (.bipush 7, 2) := by decide +kernel
theorem dX7_digest_9 : decode cX7_digest 9 = .ok (.if_icmp .gt 20, 3) := by decide +kernel
theorem dX7_digest_12 : decode cX7_digest 12 = .ok (.lload_n 1, 1) := by decide +kernel
theorem dX7_digest_13 : decode cX7_digest 13 = .ok (.aload_n 0, 1) := by decide +kernel
theorem dX7_digest_14 : decode cX7_digest 14 = .ok (.iload_n 3, 1) := by decide +kernel
theorem dX7_digest_15 : decode cX7_digest 15 = .ok (.invokevirtual 320, 3) := by decide +kernel
theorem dX7_digest_18 : decode cX7_digest 18 = .ok (.i2l, 1) := by decide +kernel
theorem dX7_digest_19 : decode cX7_digest 19 = .ok (.invokestatic 323, 3) := by decide +kernel
theorem dX7_digest_22 : decode cX7_digest 22 = .ok (.lstore_n 1, 1) := by decide +kernel
theorem dX7_digest_23 : decode cX7_digest 23 = .ok (.iinc 3 1, 3) := by decide +kernel
theorem dX7_digest_26 : decode cX7_digest 26 = .ok (.goto (-20), 3) := by decide +kernel
theorem dX7_digest_29 : decode cX7_digest 29 = .ok (.lload_n 1, 1) := by decide +kernel
theorem dX7_digest_30 : decode cX7_digest 30 = .ok (.aload_n 0, 1) := by decide +kernel
theorem dX7_digest_31 : decode cX7_digest 31 = .ok (.iconst 0, 1) := by decide +kernel
theorem dX7_digest_32 : decode cX7_digest 32 = .ok (.invokevirtual 327, 3) := by decide +kernel
theorem dX7_digest_35 : decode cX7_digest 35 = .ok (.i2l, 1) := by decide +kernel
theorem dX7_digest_36 : decode cX7_digest 36 = .ok (.invokestatic 323, 3) := by decide +kernel
theorem dX7_digest_39 : decode cX7_digest 39 = .ok (.aload_n 0, 1) := by decide +kernel
theorem dX7_digest_40 : decode cX7_digest 40 = .ok (.iconst 1, 1) := by decide +kernel
theorem dX7_digest_41 : decode cX7_digest 41 = .ok (.invokevirtual 327, 3) := by decide +kernel
theorem dX7_digest_44 : decode cX7_digest 44 = .ok (.i2l, 1) := by decide +kernel
theorem dX7_digest_45 : decode cX7_digest 45 = .ok (.invokestatic 323, 3) := by decide +kernel
theorem dX7_digest_48 : decode cX7_digest 48 = .ok (.lstore_n 1, 1) := by decide +kernel
theorem dX7_digest_49 : decode cX7_digest 49 = .ok (.iconst 0, 1) := by decide +kernel
theorem dX7_digest_50 : decode cX7_digest 50 = .ok (.istore_n 3, 1) := by decide +kernel
theorem dX7_digest_51 : decode cX7_digest 51 = .ok (.iload_n 3, 1) := by decide +kernel
theorem dX7_digest_52 : decode cX7_digest 52 = .ok (.bipush 24, 2) := by decide +kernel
theorem dX7_digest_54 : decode cX7_digest 54 = .ok (.if_icmp .ge 29, 3) := by decide +kernel
theorem dX7_digest_57 : decode cX7_digest 57 = .ok (.lload_n 1, 1) := by decide +kernel
theorem dX7_digest_58 : decode cX7_digest 58 = .ok (.aload_n 0, 1) := by decide +kernel
theorem dX7_digest_59 : decode cX7_digest 59 = .ok (.iload_n 3, 1) := by decide +kernel
theorem dX7_digest_60 : decode cX7_digest 60 = .ok (.invokevirtual 330, 3) := by decide +kernel
theorem dX7_digest_63 : decode cX7_digest 63 = .ok (.i2l, 1) := by decide +kernel
theorem dX7_digest_64 : decode cX7_digest 64 = .ok (.invokestatic 323, 3) := by decide +kernel
theorem dX7_digest_67 : decode cX7_digest 67 = .ok (.aload_n 0, 1) := by decide +kernel
theorem dX7_digest_68 : decode cX7_digest 68 = .ok (.iload_n 3, 1) := by decide +kernel
theorem dX7_digest_69 : decode cX7_digest 69 = .ok (.invokevirtual 333, 3) := by decide +kernel
theorem dX7_digest_72 : decode cX7_digest 72 = .ok (.i2l, 1) := by decide +kernel
theorem dX7_digest_73 : decode cX7_digest 73 = .ok (.invokestatic 323, 3) := by decide +kernel
theorem dX7_digest_76 : decode cX7_digest 76 = .ok (.lstore_n 1, 1) := by decide +kernel
theorem dX7_digest_77 : decode cX7_digest 77 = .ok (.iinc 3 1, 3) := by decide +kernel
theorem dX7_digest_80 : decode cX7_digest 80 = .ok (.goto (-29), 3) := by decide +kernel
theorem dX7_digest_83 : decode cX7_digest 83 = .ok (.iconst 0, 1) := by decide +kernel
theorem dX7_digest_84 : decode cX7_digest 84 = .ok (.istore_n 3, 1) := by decide +kernel
theorem dX7_digest_85 : decode cX7_digest 85 = .ok (.iload_n 3, 1) := by decide +kernel
theorem dX7_digest_86 : decode cX7_digest 86 = .ok (.bipush 40, 2) := by decide +kernel
theorem dX7_digest_88 : decode cX7_digest 88 = .ok (.if_icmp .gt 22, 3) := by decide +kernel
theorem dX7_digest_91 : decode cX7_digest 91 = .ok (.lload_n 1, 1) := by decide +kernel
theorem dX7_digest_92 : decode cX7_digest 92 = .ok (.aload_n 0, 1) := by decide +kernel
theorem dX7_digest_93 : decode cX7_digest 93 = .ok (.bipush 9, 2) := by decide +kernel
theorem dX7_digest_95 : decode cX7_digest 95 = .ok (.iload_n 3, 1) := by decide +kernel
theorem dX7_digest_96 : decode cX7_digest 96 = .ok (.invokevirtual 336, 3) := by decide +kernel
theorem dX7_digest_99 : decode cX7_digest 99 = .ok (.i2l, 1) := by decide +kernel
theorem dX7_digest_100 : decode cX7_digest 100 = .ok (.invokestatic 323, 3) := by decide +kernel
theorem dX7_digest_103 : decode cX7_digest 103 = .ok (.lstore_n 1, 1) := by decide +kernel
theorem dX7_digest_104 : decode cX7_digest 104 = .ok (.iinc 3 1, 3) := by decide +kernel
theorem dX7_digest_107 : decode cX7_digest 107 = .ok (.goto (-22), 3) := by decide +kernel
theorem dX7_digest_110 : decode cX7_digest 110 = .ok (.iconst 0, 1) := by decide +kernel
theorem dX7_digest_111 : decode cX7_digest 111 = .ok (.istore_n 3, 1) := by decide +kernel
theorem dX7_digest_112 : decode cX7_digest 112 = .ok (.iload_n 3, 1) := by decide +kernel
theorem dX7_digest_113 : decode cX7_digest 113 = .ok (.aload_n 0, 1) := by decide +kernel
theorem dX7_digest_114 : decode cX7_digest 114 = .ok (.getfield 26, 3) := by decide +kernel
theorem dX7_digest_117 : decode cX7_digest 117 = .ok (.getfield 192, 3) := by decide +kernel
theorem dX7_digest_120 : decode cX7_digest 120 = .ok (.if_icmp .ge 21, 3) := by decide +kernel
theorem dX7_digest_123 : decode cX7_digest 123 = .ok (.aload_n 0, 1) := by decide +kernel
theorem dX7_digest_124 : decode cX7_digest 124 = .ok (.aload_n 0, 1) := by decide +kernel
theorem dX7_digest_125 : decode cX7_digest 125 = .ok (.lload_n 1, 1) := by decide +kernel
theorem dX7_digest_126 : decode cX7_digest 126 = .ok (.iload_n 3, 1) := by decide +kernel
theorem dX7_digest_127 : decode cX7_digest 127 = .ok (.invokevirtual 339, 3) := by decide +kernel
theorem dX7_digest_130 : decode cX7_digest 130 = .ok (.iload_n 3, 1) := by decide +kernel
theorem dX7_digest_131 : decode cX7_digest 131 = .ok (.invokevirtual 343, 3) := by decide +kernel
theorem dX7_digest_134 : decode cX7_digest 134 = .ok (.lstore_n 1, 1) := by decide +kernel
theorem dX7_digest_135 : decode cX7_digest 135 = .ok (.iinc 3 1, 3) := by decide +kernel
theorem dX7_digest_138 : decode cX7_digest 138 = .ok (.goto (-26), 3) := by decide +kernel
theorem dX7_digest_141 : decode cX7_digest 141 = .ok (.iconst 0, 1) := by decide +kernel
theorem dX7_digest_142 : decode cX7_digest 142 = .ok (.istore_n 3, 1) := by decide +kernel
theorem dX7_digest_143 : decode cX7_digest 143 = .ok (.iload_n 3, 1) := by decide +kernel
theorem dX7_digest_144 : decode cX7_digest 144 = .ok (.iconst 2, 1) := by decide +kernel
theorem dX7_digest_145 : decode cX7_digest 145 = .ok (.if_icmp .gt 20, 3) := by decide +kernel
theorem dX7_digest_148 : decode cX7_digest 148 = .ok (.lload_n 1, 1) := by decide +kernel
theorem dX7_digest_149 : decode cX7_digest 149 = .ok (.aload_n 0, 1) := by decide +kernel
theorem dX7_digest_150 : decode cX7_digest 150 = .ok (.iload_n 3, 1) := by decide +kernel
theorem dX7_digest_151 : decode cX7_digest 151 = .ok (.invokevirtual 346, 3) := by decide +kernel
theorem dX7_digest_154 : decode cX7_digest 154 = .ok (.i2l, 1) := by decide +kernel
theorem dX7_digest_155 : decode cX7_digest 155 = .ok (.invokestatic 323, 3) := by decide +kernel
theorem dX7_digest_158 : decode cX7_digest 158 = .ok (.lstore_n 1, 1) := by decide +kernel
theorem dX7_digest_159 : decode cX7_digest 159 = .ok (.iinc 3 1, 3) := by decide +kernel
theorem dX7_digest_162 : decode cX7_digest 162 = .ok (.goto (-19), 3) := by decide +kernel
theorem dX7_digest_165 : decode cX7_digest 165 = .ok (.lload_n 1, 1) := by decide +kernel
theorem dX7_digest_166 : decode cX7_digest 166 = .ok (.aload_n 0, 1) := by decide +kernel
theorem dX7_digest_167 : decode cX7_digest 167 = .ok (.iconst 0, 1) := by decide +kernel
theorem dX7_digest_168 : decode cX7_digest 168 = .ok (.invokevirtual 349, 3) := by decide +kernel
theorem dX7_digest_171 : decode cX7_digest 171 = .ok (.i2l, 1) := by decide +kernel
theorem dX7_digest_172 : decode cX7_digest 172 = .ok (.invokestatic 323, 3) := by decide +kernel
theorem dX7_digest_175 : decode cX7_digest 175 = .ok (.aload_n 0, 1) := by decide +kernel
theorem dX7_digest_176 : decode cX7_digest 176 = .ok (.iconst 1, 1) := by decide +kernel
theorem dX7_digest_177 : decode cX7_digest 177 = .ok (.invokevirtual 349, 3) := by decide +kernel
theorem dX7_digest_180 : decode cX7_digest 180 = .ok (.i2l, 1) := by decide +kernel
theorem dX7_digest_181 : decode cX7_digest 181 = .ok (.invokestatic 323, 3) := by decide +kernel
theorem dX7_digest_184 : decode cX7_digest 184 = .ok (.aload_n 0, 1) := by decide +kernel
theorem dX7_digest_185 : decode cX7_digest 185 = .ok (.invokevirtual 352, 3) := by decide +kernel
theorem dX7_digest_188 : decode cX7_digest 188 = .ok (.i2l, 1) := by decide +kernel
theorem dX7_digest_189 : decode cX7_digest 189 = .ok (.invokestatic 323, 3) := by decide +kernel
theorem dX7_digest_192 : decode cX7_digest 192 = .ok (.lstore_n 1, 1) := by decide +kernel
theorem dX7_digest_193 : decode cX7_digest 193 = .ok (.aload_n 0, 1) := by decide +kernel
theorem dX7_digest_194 : decode cX7_digest 194 = .ok (.lload_n 1, 1) := by decide +kernel
theorem dX7_digest_195 : decode cX7_digest 195 = .ok (.aload_n 0, 1) := by decide +kernel
theorem dX7_digest_196 : decode cX7_digest 196 = .ok (.iconst 2, 1) := by decide +kernel
theorem dX7_digest_197 : decode cX7_digest 197 = .ok (.iconst 0, 1) := by decide +kernel
theorem dX7_digest_198 : decode cX7_digest 198 = .ok (.invokevirtual 355, 3) := by decide +kernel
theorem dX7_digest_201 : decode cX7_digest 201 = .ok (.invokevirtual 358, 3) := by decide +kernel
theorem dX7_digest_204 : decode cX7_digest 204 = .ok (.lstore_n 1, 1) := by decide +kernel
theorem dX7_digest_205 : decode cX7_digest 205 = .ok (.aload_n 0, 1) := by decide +kernel
theorem dX7_digest_206 : decode cX7_digest 206 = .ok (.lload_n 1, 1) := by decide +kernel
theorem dX7_digest_207 : decode cX7_digest 207 = .ok (.aload_n 0, 1) := by decide +kernel
theorem dX7_digest_208 : decode cX7_digest 208 = .ok (.bipush 6, 2) := by decide +kernel
theorem dX7_digest_210 : decode cX7_digest 210 = .ok (.iconst 0, 1) := by decide +kernel
theorem dX7_digest_211 : decode cX7_digest 211 = .ok (.invokevirtual 355, 3) := by decide +kernel
theorem dX7_digest_214 : decode cX7_digest 214 = .ok (.invokevirtual 358, 3) := by decide +kernel
theorem dX7_digest_217 : decode cX7_digest 217 = .ok (.lstore_n 1, 1) := by decide +kernel
theorem dX7_digest_218 : decode cX7_digest 218 = .ok (.lload_n 1, 1) := by decide +kernel
theorem dX7_digest_219 : decode cX7_digest 219 = .ok (.aload_n 0, 1) := by decide +kernel
theorem dX7_digest_220 : decode cX7_digest 220 = .ok (.iconst (-1), 1) := by decide +kernel
theorem dX7_digest_221 : decode cX7_digest 221 = .ok (.invokevirtual 361, 3) := by decide +kernel
theorem dX7_digest_224 : decode cX7_digest 224 = .ok (.i2l, 1) := by decide +kernel
theorem dX7_digest_225 : decode cX7_digest 225 = .ok (.invokestatic 323, 3) := by decide +kernel
theorem dX7_digest_228 : decode cX7_digest 228 = .ok (.aload_n 0, 1) := by decide +kernel
theorem dX7_digest_229 : decode cX7_digest 229 = .ok (.iconst 0, 1) := by decide +kernel
theorem dX7_digest_230 : decode cX7_digest 230 = .ok (.invokevirtual 361, 3) := by decide +kernel
theorem dX7_digest_233 : decode cX7_digest 233 = .ok (.i2l, 1) := by decide +kernel
theorem dX7_digest_234 : decode cX7_digest 234 = .ok (.invokestatic 323, 3) := by decide +kernel
theorem dX7_digest_237 : decode cX7_digest 237 = .ok (.lstore_n 1, 1) := by decide +kernel
theorem dX7_digest_238 : decode cX7_digest 238 = .ok (.lload_n 1, 1) := by decide +kernel
theorem dX7_digest_239 : decode cX7_digest 239 = .ok (.aload_n 0, 1) := by decide +kernel
theorem dX7_digest_240 : decode cX7_digest 240 = .ok (.invokevirtual 364, 3) := by decide +kernel
theorem dX7_digest_243 : decode cX7_digest 243 = .ok (.i2l, 1) := by decide +kernel
theorem dX7_digest_244 : decode cX7_digest 244 = .ok (.invokestatic 323, 3) := by decide +kernel
theorem dX7_digest_247 : decode cX7_digest 247 = .ok (.lstore_n 1, 1) := by decide +kernel
theorem dX7_digest_248 : decode cX7_digest 248 = .ok (.lload_n 1, 1) := by decide +kernel
theorem dX7_digest_249 : decode cX7_digest 249 = .ok (.aload_n 0, 1) := by decide +kernel
theorem dX7_digest_250 : decode cX7_digest 250 = .ok (.bipush 7, 2) := by decide +kernel
theorem dX7_digest_252 : decode cX7_digest 252 = .ok (.bipush 18, 2) := by decide +kernel
theorem dX7_digest_254 : decode cX7_digest 254 = .ok (.iconst 0, 1) := by decide +kernel
theorem dX7_digest_255 : decode cX7_digest 255 = .ok (.invokevirtual 367, 3) := by decide +kernel
theorem dX7_digest_258 : decode cX7_digest 258 = .ok (.i2l, 1) := by decide +kernel
theorem dX7_digest_259 : decode cX7_digest 259 = .ok (.invokestatic 323, 3) := by decide +kernel
theorem dX7_digest_262 : decode cX7_digest 262 = .ok (.aload_n 0, 1) := by decide +kernel
theorem dX7_digest_263 : decode cX7_digest 263 = .ok (.bipush 7, 2) := by decide +kernel
theorem dX7_digest_265 : decode cX7_digest 265 = .ok (.bipush 18, 2) := by decide +kernel
theorem dX7_digest_267 : decode cX7_digest 267 = .ok (.iconst 1, 1) := by decide +kernel
theorem dX7_digest_268 : decode cX7_digest 268 = .ok (.invokevirtual 367, 3) := by decide +kernel
theorem dX7_digest_271 : decode cX7_digest 271 = .ok (.i2l, 1) := by decide +kernel
theorem dX7_digest_272 : decode cX7_digest 272 = .ok (.invokestatic 323, 3) := by decide +kernel
theorem dX7_digest_275 : decode cX7_digest 275 = .ok (.lreturn, 1) := by decide +kernel
set_option maxRecDepth 20000 in
theorem m_X7_digest {h : Hp}  {u : (Hp × Int64)} (hu : f_X7_digest h = some u) : Ct yX7_digest cX7_digest 4 (some .long) 7 [.ref 0] h (eL u) := by
  refine ct_of eL hu (by decide) (Nat.le_of_ble_eq_true rfl) (fun κ hn C E => ?_)
  have n2 : 2 < kn κ := by rw [hn]; decide
  have n3 : 3 < kn κ := by rw [hn]; decide
  unfold f_X7_digest
  show Xz κ _ 0 [(0, .ref 0)] [] h
  refine x_ldc2 3 C dX7_digest_0 kw_X7_318 rfl ?_
  refine x_lstore_n 4 [(1, .long (17 : Int64)), (0, .ref 0)] C dX7_digest_3 n2 rfl rfl rfl ?_
  refine x_iconst 5 C dX7_digest_4 ci_0 rfl ?_
  refine x_istore_n 6 [(3, .int (0 : Int32)), (1, .long (17 : Int64)), (0, .ref 0)] C dX7_digest_5 n3 rfl rfl rfl ?_
  refine x_lt1 (q := 29) (ls := fun l1 => [(0, .ref 0), (1, .long l1)]) (st := fun l1 => []) (hh := fun l1 => h) (fun l1 => ?_) (fun k1 J1 => ?_)
  · refine x_lload_n 30 C dX7_digest_29 1 rfl rfl rfl ?_
    refine x_aload_n 31 C dX7_digest_30 0 rfl rfl rfl ?_
    refine x_iconst 32 C dX7_digest_31 ci_0 rfl ?_
    refine x_cvi 35 [.int (0 : Int32)] [.long l1] C 3 dX7_digest_32 v_X7_327 (fun u hu => m_X7_fault hu) rfl sk_0 rfl (Nat.le_of_ble_eq_true rfl) (Nat.le_of_ble_eq_true rfl) rfl (fun x2 => ?_)
    refine x_i2l 36 C dX7_digest_35 rfl ?_
    refine x_csl 39 [.long l1, .long (x2.toInt64)] [] C 0 dX7_digest_36 s_X7_323 (fun u hu => m_X7_mixed hu) rfl rfl (Nat.le_of_ble_eq_true rfl) (Nat.le_of_ble_eq_true rfl) rfl (fun l3 => ?_)
    refine x_aload_n 40 C dX7_digest_39 0 rfl rfl rfl ?_
    refine x_iconst 41 C dX7_digest_40 ci_1 rfl ?_
    refine x_cvi 44 [.int (1 : Int32)] [.long l3] C 3 dX7_digest_41 v_X7_327 (fun u hu => m_X7_fault hu) rfl sk_0 rfl (Nat.le_of_ble_eq_true rfl) (Nat.le_of_ble_eq_true rfl) rfl (fun x4 => ?_)
    refine x_i2l 45 C dX7_digest_44 rfl ?_
    refine x_csl 48 [.long l3, .long (x4.toInt64)] [] C 0 dX7_digest_45 s_X7_323 (fun u hu => m_X7_mixed hu) rfl rfl (Nat.le_of_ble_eq_true rfl) (Nat.le_of_ble_eq_true rfl) rfl (fun l5 => ?_)
    refine x_lstore_n 49 [(1, .long l5), (0, .ref 0)] C dX7_digest_48 n2 rfl rfl rfl ?_
    refine x_iconst 50 C dX7_digest_49 ci_0 rfl ?_
    refine x_istore_n 51 [(3, .int (0 : Int32)), (1, .long l5), (0, .ref 0)] C dX7_digest_50 n3 rfl rfl rfl ?_
    refine x_lt2 (q := 83) (ls := fun h6 l7 => [(0, .ref 0), (1, .long l7)]) (st := fun h6 l7 => []) (hh := fun h6 l7 => h6) (fun h6 l7 => ?_) (fun k2 J2 => ?_)
    · refine x_iconst 84 C dX7_digest_83 ci_0 rfl ?_
      refine x_istore_n 85 [(3, .int (0 : Int32)), (0, .ref 0), (1, .long l7)] C dX7_digest_84 n3 rfl rfl rfl ?_
      refine x_lt2 (q := 110) (ls := fun h8 l9 => [(0, .ref 0), (1, .long l9)]) (st := fun h8 l9 => []) (hh := fun h8 l9 => h8) (fun h8 l9 => ?_) (fun k3 J3 => ?_)
      · refine x_iconst 111 C dX7_digest_110 ci_0 rfl ?_
        refine x_istore_n 112 [(3, .int (0 : Int32)), (0, .ref 0), (1, .long l9)] C dX7_digest_111 n3 rfl rfl rfl ?_
        refine x_lt2 (q := 141) (ls := fun h10 l11 => [(0, .ref 0), (1, .long l11)]) (st := fun h10 l11 => []) (hh := fun h10 l11 => h10) (fun h10 l11 => ?_) (fun k4 J4 => ?_)
        · refine x_iconst 142 C dX7_digest_141 ci_0 rfl ?_
          refine x_istore_n 143 [(3, .int (0 : Int32)), (0, .ref 0), (1, .long l11)] C dX7_digest_142 n3 rfl rfl rfl ?_
          refine x_lt2 (q := 165) (ls := fun h12 l13 => [(0, .ref 0), (1, .long l13)]) (st := fun h12 l13 => []) (hh := fun h12 l13 => h12) (fun h12 l13 => ?_) (fun k5 J5 => ?_)
          · refine x_lload_n 166 C dX7_digest_165 1 rfl rfl rfl ?_
            refine x_aload_n 167 C dX7_digest_166 0 rfl rfl rfl ?_
            refine x_iconst 168 C dX7_digest_167 ci_0 rfl ?_
            refine x_cvI 171 [.int (0 : Int32)] [.long l13] C 5 dX7_digest_168 v_X7_349 (fun u hu => m_X7_who hu) rfl sk_0 rfl (Nat.le_of_ble_eq_true rfl) (Nat.le_of_ble_eq_true rfl) rfl (fun h14 x15 => ?_)
            refine x_i2l 172 C dX7_digest_171 rfl ?_
            refine x_csl 175 [.long l13, .long (x15.toInt64)] [] C 0 dX7_digest_172 s_X7_323 (fun u hu => m_X7_mixed hu) rfl rfl (Nat.le_of_ble_eq_true rfl) (Nat.le_of_ble_eq_true rfl) rfl (fun l16 => ?_)
            refine x_aload_n 176 C dX7_digest_175 0 rfl rfl rfl ?_
            refine x_iconst 177 C dX7_digest_176 ci_1 rfl ?_
            refine x_cvI 180 [.int (1 : Int32)] [.long l16] C 5 dX7_digest_177 v_X7_349 (fun u hu => m_X7_who hu) rfl sk_0 rfl (Nat.le_of_ble_eq_true rfl) (Nat.le_of_ble_eq_true rfl) rfl (fun h17 x18 => ?_)
            refine x_i2l 181 C dX7_digest_180 rfl ?_
            refine x_csl 184 [.long l16, .long (x18.toInt64)] [] C 0 dX7_digest_181 s_X7_323 (fun u hu => m_X7_mixed hu) rfl rfl (Nat.le_of_ble_eq_true rfl) (Nat.le_of_ble_eq_true rfl) rfl (fun l19 => ?_)
            refine x_aload_n 185 C dX7_digest_184 0 rfl rfl rfl ?_
            refine x_cvI 188 [] [.long l19] C 5 dX7_digest_185 v_X7_352 (fun u hu => m_X7_bare hu) rfl sk_0 rfl (Nat.le_of_ble_eq_true rfl) (Nat.le_of_ble_eq_true rfl) rfl (fun h20 x21 => ?_)
            refine x_i2l 189 C dX7_digest_188 rfl ?_
            refine x_csl 192 [.long l19, .long (x21.toInt64)] [] C 0 dX7_digest_189 s_X7_323 (fun u hu => m_X7_mixed hu) rfl rfl (Nat.le_of_ble_eq_true rfl) (Nat.le_of_ble_eq_true rfl) rfl (fun l22 => ?_)
            refine x_lstore_n 193 [(1, .long l22), (0, .ref 0)] C dX7_digest_192 n2 rfl rfl rfl ?_
            refine x_aload_n 194 C dX7_digest_193 1 rfl rfl rfl ?_
            refine x_lload_n 195 C dX7_digest_194 0 rfl rfl rfl ?_
            refine x_aload_n 196 C dX7_digest_195 1 rfl rfl rfl ?_
            refine x_iconst 197 C dX7_digest_196 ci_2 rfl ?_
            refine x_iconst 198 C dX7_digest_197 ci_0 rfl ?_
            refine x_cvI 201 [.int (2 : Int32), .int (0 : Int32)] [.long l22, .ref 0] C 5 dX7_digest_198 v_X7_355 (fun u hu => m_X7_act hu) rfl sk_0 rfl (Nat.le_of_ble_eq_true rfl) (Nat.le_of_ble_eq_true rfl) rfl (fun h23 x24 => ?_)
            refine x_cvl 204 [.long l22, .int x24] [] C 1 dX7_digest_201 v_X7_358 (fun u hu => m_X7_mixedBest hu) rfl sk_0 rfl (Nat.le_of_ble_eq_true rfl) (Nat.le_of_ble_eq_true rfl) rfl (fun l25 => ?_)
            refine x_lstore_n 205 [(1, .long l25), (0, .ref 0)] C dX7_digest_204 n2 rfl rfl rfl ?_
            refine x_aload_n 206 C dX7_digest_205 1 rfl rfl rfl ?_
            refine x_lload_n 207 C dX7_digest_206 0 rfl rfl rfl ?_
            refine x_aload_n 208 C dX7_digest_207 1 rfl rfl rfl ?_
            refine x_bipush 210 C dX7_digest_208 cb_6 rfl ?_
            refine x_iconst 211 C dX7_digest_210 ci_0 rfl ?_
            refine x_cvI 214 [.int (6 : Int32), .int (0 : Int32)] [.long l25, .ref 0] C 5 dX7_digest_211 v_X7_355 (fun u hu => m_X7_act hu) rfl sk_0 rfl (Nat.le_of_ble_eq_true rfl) (Nat.le_of_ble_eq_true rfl) rfl (fun h26 x27 => ?_)
            refine x_cvl 217 [.long l25, .int x27] [] C 1 dX7_digest_214 v_X7_358 (fun u hu => m_X7_mixedBest hu) rfl sk_0 rfl (Nat.le_of_ble_eq_true rfl) (Nat.le_of_ble_eq_true rfl) rfl (fun l28 => ?_)
            refine x_lstore_n 218 [(1, .long l28), (0, .ref 0)] C dX7_digest_217 n2 rfl rfl rfl ?_
            refine x_lload_n 219 C dX7_digest_218 0 rfl rfl rfl ?_
            refine x_aload_n 220 C dX7_digest_219 1 rfl rfl rfl ?_
            refine x_iconst 221 C dX7_digest_220 ci_m1 rfl ?_
            refine x_cvI 224 [.int (-1 : Int32)] [.long l28] C 6 dX7_digest_221 v_X7_361 (fun u hu => m_X7_spare hu) rfl sk_0 rfl (Nat.le_of_ble_eq_true rfl) (Nat.le_of_ble_eq_true rfl) rfl (fun h29 x30 => ?_)
            refine x_i2l 225 C dX7_digest_224 rfl ?_
            refine x_csl 228 [.long l28, .long (x30.toInt64)] [] C 0 dX7_digest_225 s_X7_323 (fun u hu => m_X7_mixed hu) rfl rfl (Nat.le_of_ble_eq_true rfl) (Nat.le_of_ble_eq_true rfl) rfl (fun l31 => ?_)
            refine x_aload_n 229 C dX7_digest_228 1 rfl rfl rfl ?_
            refine x_iconst 230 C dX7_digest_229 ci_0 rfl ?_
            refine x_cvI 233 [.int (0 : Int32)] [.long l31] C 6 dX7_digest_230 v_X7_361 (fun u hu => m_X7_spare hu) rfl sk_0 rfl (Nat.le_of_ble_eq_true rfl) (Nat.le_of_ble_eq_true rfl) rfl (fun h32 x33 => ?_)
            refine x_i2l 234 C dX7_digest_233 rfl ?_
            refine x_csl 237 [.long l31, .long (x33.toInt64)] [] C 0 dX7_digest_234 s_X7_323 (fun u hu => m_X7_mixed hu) rfl rfl (Nat.le_of_ble_eq_true rfl) (Nat.le_of_ble_eq_true rfl) rfl (fun l34 => ?_)
            refine x_lstore_n 238 [(1, .long l34), (0, .ref 0)] C dX7_digest_237 n2 rfl rfl rfl ?_
            refine x_lload_n 239 C dX7_digest_238 0 rfl rfl rfl ?_
            refine x_aload_n 240 C dX7_digest_239 1 rfl rfl rfl ?_
            refine x_cvI 243 [] [.long l34] C 4 dX7_digest_240 v_X7_364 (fun u hu => m_X7_never hu) rfl sk_0 rfl (Nat.le_of_ble_eq_true rfl) (Nat.le_of_ble_eq_true rfl) rfl (fun h35 x36 => ?_)
            refine x_i2l 244 C dX7_digest_243 rfl ?_
            refine x_csl 247 [.long l34, .long (x36.toInt64)] [] C 0 dX7_digest_244 s_X7_323 (fun u hu => m_X7_mixed hu) rfl rfl (Nat.le_of_ble_eq_true rfl) (Nat.le_of_ble_eq_true rfl) rfl (fun l37 => ?_)
            refine x_lstore_n 248 [(1, .long l37), (0, .ref 0)] C dX7_digest_247 n2 rfl rfl rfl ?_
            refine x_lload_n 249 C dX7_digest_248 0 rfl rfl rfl ?_
            refine x_aload_n 250 C dX7_digest_249 1 rfl rfl rfl ?_
            refine x_bipush 252 C dX7_digest_250 cb_7 rfl ?_
            refine x_bipush 254 C dX7_digest_252 cb_18 rfl ?_
            refine x_iconst 255 C dX7_digest_254 ci_0 rfl ?_
            refine x_cvI 258 [.int (7 : Int32), .int (18 : Int32), .int (0 : Int32)] [.long l37] C 4 dX7_digest_255 v_X7_367 (fun u hu => m_X7_shows hu) rfl sk_0 rfl (Nat.le_of_ble_eq_true rfl) (Nat.le_of_ble_eq_true rfl) rfl (fun h38 x39 => ?_)
            refine x_i2l 259 C dX7_digest_258 rfl ?_
            refine x_csl 262 [.long l37, .long (x39.toInt64)] [] C 0 dX7_digest_259 s_X7_323 (fun u hu => m_X7_mixed hu) rfl rfl (Nat.le_of_ble_eq_true rfl) (Nat.le_of_ble_eq_true rfl) rfl (fun l40 => ?_)
            refine x_aload_n 263 C dX7_digest_262 1 rfl rfl rfl ?_
            refine x_bipush 265 C dX7_digest_263 cb_7 rfl ?_
            refine x_bipush 267 C dX7_digest_265 cb_18 rfl ?_
            refine x_iconst 268 C dX7_digest_267 ci_1 rfl ?_
            refine x_cvI 271 [.int (7 : Int32), .int (18 : Int32), .int (1 : Int32)] [.long l40] C 4 dX7_digest_268 v_X7_367 (fun u hu => m_X7_shows hu) rfl sk_0 rfl (Nat.le_of_ble_eq_true rfl) (Nat.le_of_ble_eq_true rfl) rfl (fun h41 x42 => ?_)
            refine x_i2l 272 C dX7_digest_271 rfl ?_
            refine x_csl 275 [.long l40, .long (x42.toInt64)] [] C 0 dX7_digest_272 s_X7_323 (fun u hu => m_X7_mixed hu) rfl rfl (Nat.le_of_ble_eq_true rfl) (Nat.le_of_ble_eq_true rfl) rfl (fun l43 => ?_)
            exact x_lret C E dX7_digest_275 rfl
          refine x_ls [1, 2, 0] rfl (x_fx3 (ls := fun h44 l45 x46 => [(0, .ref 0), (1, .long l45), (3, .int x46)]) (st := fun h44 l45 x46 => []) (hh := fun h44 l45 x46 => h44) (fun s6 J6 h44 l45 x46 => ?_))
          refine x_iload_n 144 C dX7_digest_143 2 rfl rfl rfl ?_
          refine x_iconst 145 C dX7_digest_144 ci_2 rfl ?_
          refine x_icmp_gt 148 165 C dX7_digest_145 (by decide) rfl (fun _ => ?_) (fun _ => ?_)
          · exact x_ls [0, 1] rfl (J5 h44 l45)
          · refine x_lload_n 149 C dX7_digest_148 1 rfl rfl rfl ?_
            refine x_aload_n 150 C dX7_digest_149 0 rfl rfl rfl ?_
            refine x_iload_n 151 C dX7_digest_150 2 rfl rfl rfl ?_
            refine x_cvI 154 [.int x46] [.long l45] C 5 dX7_digest_151 v_X7_346 (fun u hu => m_X7_sum hu) rfl sk_0 rfl (Nat.le_of_ble_eq_true rfl) (Nat.le_of_ble_eq_true rfl) rfl (fun h47 x48 => ?_)
            refine x_i2l 155 C dX7_digest_154 rfl ?_
            refine x_csl 158 [.long l45, .long (x48.toInt64)] [] C 0 dX7_digest_155 s_X7_323 (fun u hu => m_X7_mixed hu) rfl rfl (Nat.le_of_ble_eq_true rfl) (Nat.le_of_ble_eq_true rfl) rfl (fun l49 => ?_)
            refine x_lstore_n 159 [(1, .long l49), (0, .ref 0), (3, .int x46)] C dX7_digest_158 n2 rfl rfl rfl ?_
            refine x_iinc 162 (fun x50 => [(3, .int x50), (1, .long l49), (0, .ref 0)]) C dX7_digest_159 2 rfl ci_1 n3 (fun _ => rfl) rfl (fun x50 => ?_)
            refine x_goto 143 C dX7_digest_162 (by decide) ?_
            exact x_ls [2, 1, 0] rfl (J6 h47 l49 x50)
        refine x_ls [1, 2, 0] rfl (x_fx3 (ls := fun h51 l52 x53 => [(0, .ref 0), (1, .long l52), (3, .int x53)]) (st := fun h51 l52 x53 => []) (hh := fun h51 l52 x53 => h51) (fun s7 J7 h51 l52 x53 => ?_))
        refine x_iload_n 113 C dX7_digest_112 2 rfl rfl rfl ?_
        refine x_aload_n 114 C dX7_digest_113 0 rfl rfl rfl ?_
        refine x_getR (c := 5) 117 C dX7_digest_114 fl_X7_26 sk_0 rfl sr_0_2 rfl ?_
        refine x_getI 120 C dX7_digest_117 fl_X7_192 sk_5 rfl rfl ?_
        refine x_icmp_ge 123 141 C dX7_digest_120 (by decide) rfl (fun _ => ?_) (fun _ => ?_)
        · exact x_ls [0, 1] rfl (J4 h51 l52)
        · refine x_aload_n 124 C dX7_digest_123 0 rfl rfl rfl ?_
          refine x_aload_n 125 C dX7_digest_124 0 rfl rfl rfl ?_
          refine x_lload_n 126 C dX7_digest_125 1 rfl rfl rfl ?_
          refine x_iload_n 127 C dX7_digest_126 2 rfl rfl rfl ?_
          refine x_cvL 130 [.long l52, .int x53] [.ref 0] C 6 dX7_digest_127 v_X7_339 (fun u hu => m_X7_mixedWalk hu) rfl sk_0 rfl (Nat.le_of_ble_eq_true rfl) (Nat.le_of_ble_eq_true rfl) rfl (fun h54 l55 => ?_)
          refine x_iload_n 131 C dX7_digest_130 2 rfl rfl rfl ?_
          refine x_cvL 134 [.long l55, .int x53] [] C 6 dX7_digest_131 v_X7_343 (fun u hu => m_X7_mixedPlans hu) rfl sk_0 rfl (Nat.le_of_ble_eq_true rfl) (Nat.le_of_ble_eq_true rfl) rfl (fun h56 l57 => ?_)
          refine x_lstore_n 135 [(1, .long l57), (0, .ref 0), (3, .int x53)] C dX7_digest_134 n2 rfl rfl rfl ?_
          refine x_iinc 138 (fun x58 => [(3, .int x58), (1, .long l57), (0, .ref 0)]) C dX7_digest_135 2 rfl ci_1 n3 (fun _ => rfl) rfl (fun x58 => ?_)
          refine x_goto 112 C dX7_digest_138 (by decide) ?_
          exact x_ls [2, 1, 0] rfl (J7 h56 l57 x58)
      refine x_ls [1, 2, 0] rfl (x_fx3 (ls := fun h59 l60 x61 => [(0, .ref 0), (1, .long l60), (3, .int x61)]) (st := fun h59 l60 x61 => []) (hh := fun h59 l60 x61 => h59) (fun s8 J8 h59 l60 x61 => ?_))
      refine x_iload_n 86 C dX7_digest_85 2 rfl rfl rfl ?_
      refine x_bipush 88 C dX7_digest_86 cb_40 rfl ?_
      refine x_icmp_gt 91 110 C dX7_digest_88 (by decide) rfl (fun _ => ?_) (fun _ => ?_)
      · exact x_ls [0, 1] rfl (J3 h59 l60)
      · refine x_lload_n 92 C dX7_digest_91 1 rfl rfl rfl ?_
        refine x_aload_n 93 C dX7_digest_92 0 rfl rfl rfl ?_
        refine x_bipush 95 C dX7_digest_93 cb_9 rfl ?_
        refine x_iload_n 96 C dX7_digest_95 2 rfl rfl rfl ?_
        refine x_cvI 99 [.int (9 : Int32), .int x61] [.long l60] C 5 dX7_digest_96 v_X7_336 (fun u hu => m_X7_sees hu) rfl sk_0 rfl (Nat.le_of_ble_eq_true rfl) (Nat.le_of_ble_eq_true rfl) rfl (fun h62 x63 => ?_)
        refine x_i2l 100 C dX7_digest_99 rfl ?_
        refine x_csl 103 [.long l60, .long (x63.toInt64)] [] C 0 dX7_digest_100 s_X7_323 (fun u hu => m_X7_mixed hu) rfl rfl (Nat.le_of_ble_eq_true rfl) (Nat.le_of_ble_eq_true rfl) rfl (fun l64 => ?_)
        refine x_lstore_n 104 [(1, .long l64), (0, .ref 0), (3, .int x61)] C dX7_digest_103 n2 rfl rfl rfl ?_
        refine x_iinc 107 (fun x65 => [(3, .int x65), (1, .long l64), (0, .ref 0)]) C dX7_digest_104 2 rfl ci_1 n3 (fun _ => rfl) rfl (fun x65 => ?_)
        refine x_goto 85 C dX7_digest_107 (by decide) ?_
        exact x_ls [2, 1, 0] rfl (J8 h62 l64 x65)
    refine x_ls [2, 1, 0] rfl (x_fx3 (ls := fun h66 l67 x68 => [(0, .ref 0), (1, .long l67), (3, .int x68)]) (st := fun h66 l67 x68 => []) (hh := fun h66 l67 x68 => h66) (fun s9 J9 h66 l67 x68 => ?_))
    refine x_iload_n 52 C dX7_digest_51 2 rfl rfl rfl ?_
    refine x_bipush 54 C dX7_digest_52 cb_24 rfl ?_
    refine x_icmp_ge 57 83 C dX7_digest_54 (by decide) rfl (fun _ => ?_) (fun _ => ?_)
    · exact x_ls [0, 1] rfl (J2 h66 l67)
    · refine x_lload_n 58 C dX7_digest_57 1 rfl rfl rfl ?_
      refine x_aload_n 59 C dX7_digest_58 0 rfl rfl rfl ?_
      refine x_iload_n 60 C dX7_digest_59 2 rfl rfl rfl ?_
      refine x_cvi 63 [.int x68] [.long l67] C 2 dX7_digest_60 v_X7_330 (fun u hu => m_X7_routine hu) rfl sk_0 rfl (Nat.le_of_ble_eq_true rfl) (Nat.le_of_ble_eq_true rfl) rfl (fun x69 => ?_)
      refine x_i2l 64 C dX7_digest_63 rfl ?_
      refine x_csl 67 [.long l67, .long (x69.toInt64)] [] C 0 dX7_digest_64 s_X7_323 (fun u hu => m_X7_mixed hu) rfl rfl (Nat.le_of_ble_eq_true rfl) (Nat.le_of_ble_eq_true rfl) rfl (fun l70 => ?_)
      refine x_aload_n 68 C dX7_digest_67 0 rfl rfl rfl ?_
      refine x_iload_n 69 C dX7_digest_68 2 rfl rfl rfl ?_
      refine x_cvI 72 [.int x68] [.long l70] C 5 dX7_digest_69 v_X7_333 (fun u hu => m_X7_sway hu) rfl sk_0 rfl (Nat.le_of_ble_eq_true rfl) (Nat.le_of_ble_eq_true rfl) rfl (fun h71 x72 => ?_)
      refine x_i2l 73 C dX7_digest_72 rfl ?_
      refine x_csl 76 [.long l70, .long (x72.toInt64)] [] C 0 dX7_digest_73 s_X7_323 (fun u hu => m_X7_mixed hu) rfl rfl (Nat.le_of_ble_eq_true rfl) (Nat.le_of_ble_eq_true rfl) rfl (fun l73 => ?_)
      refine x_lstore_n 77 [(1, .long l73), (0, .ref 0), (3, .int x68)] C dX7_digest_76 n2 rfl rfl rfl ?_
      refine x_iinc 80 (fun x74 => [(3, .int x74), (1, .long l73), (0, .ref 0)]) C dX7_digest_77 2 rfl ci_1 n3 (fun _ => rfl) rfl (fun x74 => ?_)
      refine x_goto 51 C dX7_digest_80 (by decide) ?_
      exact x_ls [2, 1, 0] rfl (J9 h71 l73 x74)
  refine x_ls [2, 1, 0] rfl (x_fx2 (ls := fun l75 x76 => [(0, .ref 0), (1, .long l75), (3, .int x76)]) (st := fun l75 x76 => []) (hh := fun l75 x76 => h) (fun s10 J10 l75 x76 => ?_))
  refine x_iload_n 7 C dX7_digest_6 2 rfl rfl rfl ?_
  refine x_bipush 9 C dX7_digest_7 cb_7 rfl ?_
  refine x_icmp_gt 12 29 C dX7_digest_9 (by decide) rfl (fun _ => ?_) (fun _ => ?_)
  · exact x_ls [0, 1] rfl (J1 l75)
  · refine x_lload_n 13 C dX7_digest_12 1 rfl rfl rfl ?_
    refine x_aload_n 14 C dX7_digest_13 0 rfl rfl rfl ?_
    refine x_iload_n 15 C dX7_digest_14 2 rfl rfl rfl ?_
    refine x_cvi 18 [.int x76] [.long l75] C 2 dX7_digest_15 v_X7_320 (fun u hu => m_X7_count hu) rfl sk_0 rfl (Nat.le_of_ble_eq_true rfl) (Nat.le_of_ble_eq_true rfl) rfl (fun x77 => ?_)
    refine x_i2l 19 C dX7_digest_18 rfl ?_
    refine x_csl 22 [.long l75, .long (x77.toInt64)] [] C 0 dX7_digest_19 s_X7_323 (fun u hu => m_X7_mixed hu) rfl rfl (Nat.le_of_ble_eq_true rfl) (Nat.le_of_ble_eq_true rfl) rfl (fun l78 => ?_)
    refine x_lstore_n 23 [(1, .long l78), (0, .ref 0), (3, .int x76)] C dX7_digest_22 n2 rfl rfl rfl ?_
    refine x_iinc 26 (fun x79 => [(3, .int x79), (1, .long l78), (0, .ref 0)]) C dX7_digest_23 2 rfl ci_1 n3 (fun _ => rfl) rfl (fun x79 => ?_)
    refine x_goto 6 C dX7_digest_26 (by decide) ?_
    exact x_ls [2, 1, 0] rfl (J10 l78 x79)

def f_X8_in (a1 : Int64) (a2 : Int64) (a3 : Int64) : Option Int32 :=
  if (lg_cmp a1 a2) < 0 then (
    some (0 : Int32))
  else (
    if 0 < (lg_cmp a1 a3) then (
      some (0 : Int32))
    else (
      some (1 : Int32)))
theorem dX8_in_0 : decode cX8_in 0 = .ok (.lload_n 0, 1) := by decide +kernel
theorem dX8_in_1 : decode cX8_in 1 = .ok (.lload_n 2, 1) := by decide +kernel
theorem dX8_in_2 : decode cX8_in 2 = .ok (.lcmp, 1) := by decide +kernel
theorem dX8_in_3 : decode cX8_in 3 = .ok (.ifCond .lt 14, 3) := by decide +kernel
theorem dX8_in_6 : decode cX8_in 6 = .ok (.lload_n 0, 1) := by decide +kernel
theorem dX8_in_7 : decode cX8_in 7 = .ok (.lload 4, 2) := by decide +kernel
theorem dX8_in_9 : decode cX8_in 9 = .ok (.lcmp, 1) := by decide +kernel
theorem dX8_in_10 : decode cX8_in 10 = .ok (.ifCond .gt 7, 3) := by decide +kernel
theorem dX8_in_13 : decode cX8_in 13 = .ok (.iconst 1, 1) := by decide +kernel
theorem dX8_in_14 : decode cX8_in 14 = .ok (.goto 4, 3) := by decide +kernel
theorem dX8_in_17 : decode cX8_in 17 = .ok (.iconst 0, 1) := by decide +kernel
theorem dX8_in_18 : decode cX8_in 18 = .ok (.ireturn, 1) := by decide +kernel
set_option maxRecDepth 20000 in
theorem m_X8_in {h : Hp} {a1 : Int64} {a2 : Int64} {a3 : Int64}  {u : Int32} (hu : f_X8_in a1 a2 a3 = some u) : Ct yX8_in cX8_in 6 (some .boolean) 0 [.long a1, .long a2, .long a3] h ((rI h) u) := by
  refine ct_of (rI h) hu (by decide) (Nat.le_of_ble_eq_true rfl) (fun κ hn C E => ?_)
  unfold f_X8_in
  show Xz κ _ 0 [(0, .long a1), (2, .long a2), (4, .long a3)] [] h
  refine x_lload_n 1 C dX8_in_0 0 rfl rfl rfl ?_
  refine x_lload_n 2 C dX8_in_1 1 rfl rfl rfl ?_
  refine x_lcmp 3 C dX8_in_2 rfl ?_
  refine x_if_lt 6 17 C dX8_in_3 (by decide) rfl (fun _ => ?_) (fun _ => ?_)
  · refine x_iconst 18 C dX8_in_17 ci_0 rfl ?_
    exact x_zret C E dX8_in_18 (Or.inl rfl) rfl
  · refine x_lload_n 7 C dX8_in_6 0 rfl rfl rfl ?_
    refine x_lload 9 C dX8_in_7 2 rfl rfl ?_
    refine x_lcmp 10 C dX8_in_9 rfl ?_
    refine x_if_gt 13 17 C dX8_in_10 (by decide) rfl (fun _ => ?_) (fun _ => ?_)
    · refine x_iconst 18 C dX8_in_17 ci_0 rfl ?_
      exact x_zret C E dX8_in_18 (Or.inl rfl) rfl
    · refine x_iconst 14 C dX8_in_13 ci_1 rfl ?_
      refine x_goto 18 C dX8_in_14 (by decide) ?_
      exact x_zret C E dX8_in_18 (Or.inr rfl) rfl

def f_X8_no (a1 : Int32) : Option Int64 :=
  some ((-9223372036854775808 : Int64) - (a1.toInt64))
theorem dX8_no_0 : decode cX8_no 0 = .ok (.ldc2_w 83, 3) := by decide +kernel
theorem dX8_no_3 : decode cX8_no 3 = .ok (.iload_n 0, 1) := by decide +kernel
theorem dX8_no_4 : decode cX8_no 4 = .ok (.i2l, 1) := by decide +kernel
theorem dX8_no_5 : decode cX8_no 5 = .ok (.lsub, 1) := by decide +kernel
theorem dX8_no_6 : decode cX8_no 6 = .ok (.lreturn, 1) := by decide +kernel
set_option maxRecDepth 20000 in
theorem m_X8_no {h : Hp} {a1 : Int32}  {u : Int64} (hu : f_X8_no a1 = some u) : Ct yX8_no cX8_no 1 (some .long) 0 [.int a1] h ((rL h) u) := by
  refine ct_of (rL h) hu (by decide) (Nat.le_of_ble_eq_true rfl) (fun κ hn C E => ?_)
  unfold f_X8_no
  show Xz κ _ 0 [(0, .int a1)] [] h
  refine x_ldc2 3 C dX8_no_0 kw_X8_83 rfl ?_
  refine x_iload_n 4 C dX8_no_3 0 rfl rfl rfl ?_
  refine x_i2l 5 C dX8_no_4 rfl ?_
  refine x_lsub 6 C dX8_no_5 rfl ?_
  exact x_lret C E dX8_no_6 rfl

def f_X8_isTwo (a1 : Int32) : Option Int32 :=
  bdr (f_X8_in (a1.toInt64) (0 : Int64) (1 : Int64)) fun x1 =>
  cy (x1 = 0 ∨ x1 = 1) (some x1)
theorem dX8_isTwo_0 : decode cX8_isTwo 0 = .ok (.iload_n 0, 1) := by decide +kernel
theorem dX8_isTwo_1 : decode cX8_isTwo 1 = .ok (.i2l, 1) := by decide +kernel
theorem dX8_isTwo_2 : decode cX8_isTwo 2 = .ok (.lconst 0, 1) := by decide +kernel
theorem dX8_isTwo_3 : decode cX8_isTwo 3 = .ok (.lconst 1, 1) := by decide +kernel
theorem dX8_isTwo_4 : decode cX8_isTwo 4 = .ok (.invokestatic 85, 3) := by decide +kernel
theorem dX8_isTwo_7 : decode cX8_isTwo 7 = .ok (.ireturn, 1) := by decide +kernel
set_option maxRecDepth 20000 in
theorem m_X8_isTwo {h : Hp} {a1 : Int32}  {u : Int32} (hu : f_X8_isTwo a1 = some u) : Ct yX8_isTwo cX8_isTwo 1 (some .boolean) 1 [.int a1] h ((rI h) u) := by
  refine ct_of (rI h) hu (by decide) (Nat.le_of_ble_eq_true rfl) (fun κ hn C E => ?_)
  unfold f_X8_isTwo
  show Xz κ _ 0 [(0, .int a1)] [] h
  refine x_iload_n 1 C dX8_isTwo_0 0 rfl rfl rfl ?_
  refine x_i2l 2 C dX8_isTwo_1 rfl ?_
  refine x_lconst 3 C dX8_isTwo_2 cl_0 rfl ?_
  refine x_lconst 4 C dX8_isTwo_3 cl_1 rfl ?_
  refine x_csi 7 [.long (a1.toInt64), .long (0 : Int64), .long (1 : Int64)] [] C 0 dX8_isTwo_4 s_X8_85 (fun u hu => m_X8_in hu) rfl rfl (Nat.le_of_ble_eq_true rfl) (Nat.le_of_ble_eq_true rfl) rfl (fun x1 => ?_)
  exact x_zrc C E dX8_isTwo_7 rfl

def f_X8_isIn (a1 : Int32) (a2 : Int32) : Option Int32 :=
  if ((a1 >>> (a2 &&& 31)) &&& (1 : Int32)) = (1 : Int32) then (
    some (1 : Int32))
  else (
    some (0 : Int32))
theorem dX8_isIn_0 : decode cX8_isIn 0 = .ok (.iload_n 0, 1) := by decide +kernel
theorem dX8_isIn_1 : decode cX8_isIn 1 = .ok (.iload_n 1, 1) := by decide +kernel
theorem dX8_isIn_2 : decode cX8_isIn 2 = .ok (.ishr, 1) := by decide +kernel
theorem dX8_isIn_3 : decode cX8_isIn 3 = .ok (.iconst 1, 1) := by decide +kernel
theorem dX8_isIn_4 : decode cX8_isIn 4 = .ok (.iand, 1) := by decide +kernel
theorem dX8_isIn_5 : decode cX8_isIn 5 = .ok (.iconst 1, 1) := by decide +kernel
theorem dX8_isIn_6 : decode cX8_isIn 6 = .ok (.if_icmp .ne 7, 3) := by decide +kernel
theorem dX8_isIn_9 : decode cX8_isIn 9 = .ok (.iconst 1, 1) := by decide +kernel
theorem dX8_isIn_10 : decode cX8_isIn 10 = .ok (.goto 4, 3) := by decide +kernel
theorem dX8_isIn_13 : decode cX8_isIn 13 = .ok (.iconst 0, 1) := by decide +kernel
theorem dX8_isIn_14 : decode cX8_isIn 14 = .ok (.ireturn, 1) := by decide +kernel
set_option maxRecDepth 20000 in
theorem m_X8_isIn {h : Hp} {a1 : Int32} {a2 : Int32}  {u : Int32} (hu : f_X8_isIn a1 a2 = some u) : Ct yX8_isIn cX8_isIn 2 (some .boolean) 0 [.int a1, .int a2] h ((rI h) u) := by
  refine ct_of (rI h) hu (by decide) (Nat.le_of_ble_eq_true rfl) (fun κ hn C E => ?_)
  unfold f_X8_isIn
  show Xz κ _ 0 [(0, .int a1), (1, .int a2)] [] h
  refine x_iload_n 1 C dX8_isIn_0 0 rfl rfl rfl ?_
  refine x_iload_n 2 C dX8_isIn_1 1 rfl rfl rfl ?_
  refine x_ishr 3 C dX8_isIn_2 rfl ?_
  refine x_iconst 4 C dX8_isIn_3 ci_1 rfl ?_
  refine x_iand 5 C dX8_isIn_4 rfl ?_
  refine x_iconst 6 C dX8_isIn_5 ci_1 rfl ?_
  refine x_icmp_ne 9 13 C dX8_isIn_6 (by decide) rfl (fun _ => ?_) (fun _ => ?_)
  · refine x_iconst 14 C dX8_isIn_13 ci_0 rfl ?_
    exact x_zret C E dX8_isIn_14 (Or.inl rfl) rfl
  · refine x_iconst 10 C dX8_isIn_9 ci_1 rfl ?_
    refine x_goto 14 C dX8_isIn_10 (by decide) ?_
    exact x_zret C E dX8_isIn_14 (Or.inr rfl) rfl

def f_X8_lesser (a1 : Int32) (a2 : Int32) : Option Int32 :=
  if a2 ≤ a1 then (
    some a2)
  else (
    some a1)
theorem dX8_lesser_0 : decode cX8_lesser 0 = .ok (.iload_n 0, 1) := by decide +kernel
theorem dX8_lesser_1 : decode cX8_lesser 1 = .ok (.iload_n 1, 1) := by decide +kernel
theorem dX8_lesser_2 : decode cX8_lesser 2 = .ok (.if_icmp .ge 7, 3) := by decide +kernel
theorem dX8_lesser_5 : decode cX8_lesser 5 = .ok (.iload_n 0, 1) := by decide +kernel
theorem dX8_lesser_6 : decode cX8_lesser 6 = .ok (.goto 4, 3) := by decide +kernel
theorem dX8_lesser_9 : decode cX8_lesser 9 = .ok (.iload_n 1, 1) := by decide +kernel
theorem dX8_lesser_10 : decode cX8_lesser 10 = .ok (.ireturn, 1) := by decide +kernel
set_option maxRecDepth 20000 in
theorem m_X8_lesser {h : Hp} {a1 : Int32} {a2 : Int32}  {u : Int32} (hu : f_X8_lesser a1 a2 = some u) : Ct yX8_lesser cX8_lesser 2 (some .int) 0 [.int a1, .int a2] h ((rI h) u) := by
  refine ct_of (rI h) hu (by decide) (Nat.le_of_ble_eq_true rfl) (fun κ hn C E => ?_)
  unfold f_X8_lesser
  show Xz κ _ 0 [(0, .int a1), (1, .int a2)] [] h
  refine x_iload_n 1 C dX8_lesser_0 0 rfl rfl rfl ?_
  refine x_iload_n 2 C dX8_lesser_1 1 rfl rfl rfl ?_
  refine x_icmp_ge 5 9 C dX8_lesser_2 (by decide) rfl (fun _ => ?_) (fun _ => ?_)
  · refine x_iload_n 10 C dX8_lesser_9 1 rfl rfl rfl ?_
    exact x_iret C E dX8_lesser_10 rfl
  · refine x_iload_n 6 C dX8_lesser_5 0 rfl rfl rfl ?_
    refine x_goto 10 C dX8_lesser_6 (by decide) ?_
    exact x_iret C E dX8_lesser_10 rfl

def f_X8_greater (a1 : Int32) (a2 : Int32) : Option Int32 :=
  if a1 ≤ a2 then (
    some a2)
  else (
    some a1)
theorem dX8_greater_0 : decode cX8_greater 0 = .ok (.iload_n 0, 1) := by decide +kernel
theorem dX8_greater_1 : decode cX8_greater 1 = .ok (.iload_n 1, 1) := by decide +kernel
theorem dX8_greater_2 : decode cX8_greater 2 = .ok (.if_icmp .le 7, 3) := by decide +kernel
theorem dX8_greater_5 : decode cX8_greater 5 = .ok (.iload_n 0, 1) := by decide +kernel
theorem dX8_greater_6 : decode cX8_greater 6 = .ok (.goto 4, 3) := by decide +kernel
theorem dX8_greater_9 : decode cX8_greater 9 = .ok (.iload_n 1, 1) := by decide +kernel
theorem dX8_greater_10 : decode cX8_greater 10 = .ok (.ireturn, 1) := by decide +kernel
set_option maxRecDepth 20000 in
theorem m_X8_greater {h : Hp} {a1 : Int32} {a2 : Int32}  {u : Int32} (hu : f_X8_greater a1 a2 = some u) : Ct yX8_greater cX8_greater 2 (some .int) 0 [.int a1, .int a2] h ((rI h) u) := by
  refine ct_of (rI h) hu (by decide) (Nat.le_of_ble_eq_true rfl) (fun κ hn C E => ?_)
  unfold f_X8_greater
  show Xz κ _ 0 [(0, .int a1), (1, .int a2)] [] h
  refine x_iload_n 1 C dX8_greater_0 0 rfl rfl rfl ?_
  refine x_iload_n 2 C dX8_greater_1 1 rfl rfl rfl ?_
  refine x_icmp_le 5 9 C dX8_greater_2 (by decide) rfl (fun _ => ?_) (fun _ => ?_)
  · refine x_iload_n 10 C dX8_greater_9 1 rfl rfl rfl ?_
    exact x_iret C E dX8_greater_10 rfl
  · refine x_iload_n 6 C dX8_greater_5 0 rfl rfl rfl ?_
    refine x_goto 10 C dX8_greater_6 (by decide) ?_
    exact x_iret C E dX8_greater_10 rfl

def f_X8_part (a1 : Int64) (a2 : Int64) (a3 : Int32) : Option Int64 :=
  lt1 (fun (l1 : Int64) =>
    if a3 = 0 then (
      cn (l1 = 0) (
        some (a1 / l1)))
    else (
      cn (l1 = 0) (
        some (a2 / l1)))) fun k1 =>
  fx2 FU (fun s2 (l2 : Int64) (l3 : Int64) =>
    if (lg_cmp l3 (0 : Int64)) = 0 then (
      k1 l2)
    else (
      cn (l3 = 0) (
        nm (l2 - l2 / l3 * l3) fun l4 =>
        s2 l3 l4))) a1 a2
theorem dX8_part_0 : decode cX8_part 0 = .ok (.lload_n 0, 1) := by decide +kernel
theorem dX8_part_1 : decode cX8_part 1 = .ok (.lstore 5, 2) := by decide +kernel
theorem dX8_part_3 : decode cX8_part 3 = .ok (.lload_n 2, 1) := by decide +kernel
theorem dX8_part_4 : decode cX8_part 4 = .ok (.lstore 7, 2) := by decide +kernel
theorem dX8_part_6 : decode cX8_part 6 = .ok (.lload 7, 2) := by decide +kernel
theorem dX8_part_8 : decode cX8_part 8 = .ok (.lconst 0, 1) := by decide +kernel
theorem dX8_part_9 : decode cX8_part 9 = .ok (.lcmp, 1) := by decide +kernel
theorem dX8_part_10 : decode cX8_part 10 = .ok (.ifCond .eq 21, 3) := by decide +kernel
theorem dX8_part_13 : decode cX8_part 13 = .ok (.lload 5, 2) := by decide +kernel
theorem dX8_part_15 : decode cX8_part 15 = .ok (.lload 7, 2) := by decide +kernel
theorem dX8_part_17 : decode cX8_part 17 = .ok (.lrem, 1) := by decide +kernel
theorem dX8_part_18 : decode cX8_part 18 = .ok (.lstore 9, 2) := by decide +kernel
theorem dX8_part_20 : decode cX8_part 20 = .ok (.lload 7, 2) := by decide +kernel
theorem dX8_part_22 : decode cX8_part 22 = .ok (.lstore 5, 2) := by decide +kernel
theorem dX8_part_24 : decode cX8_part 24 = .ok (.lload 9, 2) := by decide +kernel
theorem dX8_part_26 : decode cX8_part 26 = .ok (.lstore 7, 2) := by decide +kernel
theorem dX8_part_28 : decode cX8_part 28 = .ok (.goto (-22), 3) := by decide +kernel
theorem dX8_part_31 : decode cX8_part 31 = .ok (.iload 4, 2) := by decide +kernel
theorem dX8_part_33 : decode cX8_part 33 = .ok (.ifCond .ne 7, 3) := by decide +kernel
theorem dX8_part_36 : decode cX8_part 36 = .ok (.lload_n 0, 1) := by decide +kernel
theorem dX8_part_37 : decode cX8_part 37 = .ok (.goto 4, 3) := by decide +kernel
theorem dX8_part_40 : decode cX8_part 40 = .ok (.lload_n 2, 1) := by decide +kernel
theorem dX8_part_41 : decode cX8_part 41 = .ok (.lload 5, 2) := by decide +kernel
theorem dX8_part_43 : decode cX8_part 43 = .ok (.ldiv, 1) := by decide +kernel
theorem dX8_part_44 : decode cX8_part 44 = .ok (.lreturn, 1) := by decide +kernel
set_option maxRecDepth 20000 in
theorem m_X8_part {h : Hp} {a1 : Int64} {a2 : Int64} {a3 : Int32}  {u : Int64} (hu : f_X8_part a1 a2 a3 = some u) : Ct yX8_part cX8_part 11 (some .long) 0 [.long a1, .long a2, .int a3] h ((rL h) u) := by
  refine ct_of (rL h) hu (by decide) (Nat.le_of_ble_eq_true rfl) (fun κ hn C E => ?_)
  have n6 : 6 < kn κ := by rw [hn]; decide
  have n8 : 8 < kn κ := by rw [hn]; decide
  have n10 : 10 < kn κ := by rw [hn]; decide
  unfold f_X8_part
  show Xz κ _ 0 [(0, .long a1), (2, .long a2), (4, .int a3)] [] h
  refine x_lload_n 1 C dX8_part_0 0 rfl rfl rfl ?_
  refine x_lstore 3 [(5, .long a1), (0, .long a1), (2, .long a2), (4, .int a3)] C dX8_part_1 n6 rfl rfl ?_
  refine x_lload_n 4 C dX8_part_3 2 rfl rfl rfl ?_
  refine x_lstore 6 [(7, .long a2), (5, .long a1), (0, .long a1), (2, .long a2), (4, .int a3)] C dX8_part_4 n8 rfl rfl ?_
  refine x_lt1 (q := 31) (ls := fun l1 => [(0, .long a1), (2, .long a2), (4, .int a3), (5, .long l1)]) (st := fun l1 => []) (hh := fun l1 => h) (fun l1 => ?_) (fun k1 J1 => ?_)
  · refine x_iload 33 C dX8_part_31 2 rfl rfl ?_
    refine x_if_ne 36 40 C dX8_part_33 (by decide) rfl (fun _ => ?_) (fun _ => ?_)
    · refine x_lload_n 41 C dX8_part_40 1 rfl rfl rfl ?_
      refine x_lload 43 C dX8_part_41 3 rfl rfl ?_
      refine x_cn (fun hz => x_ldiv 44 C dX8_part_43 hz rfl ?_)
      exact x_lret C E dX8_part_44 rfl
    · refine x_lload_n 37 C dX8_part_36 0 rfl rfl rfl ?_
      refine x_goto 41 C dX8_part_37 (by decide) ?_
      refine x_lload 43 C dX8_part_41 3 rfl rfl ?_
      refine x_cn (fun hz => x_ldiv 44 C dX8_part_43 hz rfl ?_)
      exact x_lret C E dX8_part_44 rfl
  refine x_ls [2, 3, 4, 1, 0] rfl (x_fx2 (ls := fun l2 l3 => [(0, .long a1), (2, .long a2), (4, .int a3), (5, .long l2), (7, .long l3)]) (st := fun l2 l3 => []) (hh := fun l2 l3 => h) (fun s2 J2 l2 l3 => ?_))
  refine x_lload 8 C dX8_part_6 4 rfl rfl ?_
  refine x_lconst 9 C dX8_part_8 cl_0 rfl ?_
  refine x_lcmp 10 C dX8_part_9 rfl ?_
  refine x_if_eq 13 31 C dX8_part_10 (by decide) rfl (fun _ => ?_) (fun _ => ?_)
  · exact x_ls [0, 1, 2, 3] rfl (J1 l2)
  · refine x_lload 15 C dX8_part_13 3 rfl rfl ?_
    refine x_lload 17 C dX8_part_15 4 rfl rfl ?_
    refine x_cn (fun hz => x_lrem 18 C dX8_part_17 hz rfl ?_)
    refine x_nl (fun l4 => ?_)
    refine x_lstore 20 [(9, .long l4), (0, .long a1), (2, .long a2), (4, .int a3), (5, .long l2), (7, .long l3)] C dX8_part_18 n10 rfl rfl ?_
    refine x_lload 22 C dX8_part_20 5 rfl rfl ?_
    refine x_lstore 24 [(5, .long l3), (9, .long l4), (0, .long a1), (2, .long a2), (4, .int a3), (7, .long l3)] C dX8_part_22 n6 rfl rfl ?_
    refine x_lload 26 C dX8_part_24 1 rfl rfl ?_
    refine x_lstore 28 [(7, .long l4), (5, .long l3), (9, .long l4), (0, .long a1), (2, .long a2), (4, .int a3)] C dX8_part_26 n8 rfl rfl ?_
    refine x_goto 6 C dX8_part_28 (by decide) ?_
    exact x_ls [3, 4, 5, 1, 0] rfl (J2 l3 l4)

def f_X8_finds (h : Hp) (a1 : Int32) : Option (Hp × Int32) :=
  nm (uf h 68 4 a1) fun h1 =>
  some (h1, ((-10 : Int32) - a1))
theorem dX8_finds_0 : decode cX8_finds 0 = .ok (.aload_n 0, 1) := by decide +kernel
theorem dX8_finds_1 : decode cX8_finds 1 = .ok (.iload_n 1, 1) := by decide +kernel
theorem dX8_finds_2 : decode cX8_finds 2 = .ok (.putfield 89, 3) := by decide +kernel
theorem dX8_finds_5 : decode cX8_finds 5 = .ok (.bipush (-10), 2) := by decide +kernel
theorem dX8_finds_7 : decode cX8_finds 7 = .ok (.iload_n 1, 1) := by decide +kernel
theorem dX8_finds_8 : decode cX8_finds 8 = .ok (.isub, 1) := by decide +kernel
theorem dX8_finds_9 : decode cX8_finds 9 = .ok (.ireturn, 1) := by decide +kernel
set_option maxRecDepth 20000 in
theorem m_X8_finds {h : Hp} {a1 : Int32}  {u : (Hp × Int32)} (hu : f_X8_finds h a1 = some u) : Ct yX8_finds cX8_finds 2 (some .int) 0 [.ref 68, .int a1] h (eI u) := by
  refine ct_of eI hu (by decide) (Nat.le_of_ble_eq_true rfl) (fun κ hn C E => ?_)
  unfold f_X8_finds
  show Xz κ _ 0 [(0, .ref 68), (1, .int a1)] [] h
  refine x_aload_n 1 C dX8_finds_0 0 rfl rfl rfl ?_
  refine x_iload_n 2 C dX8_finds_1 1 rfl rfl rfl ?_
  refine x_put 5 C dX8_finds_2 fp_X8_89 sk_68 rfl rfl rfl rfl (fun h1 => ?_)
  refine x_bipush 7 C dX8_finds_5 cb_m10 rfl ?_
  refine x_iload_n 8 C dX8_finds_7 1 rfl rfl rfl ?_
  refine x_isub 9 C dX8_finds_8 rfl ?_
  exact x_iret C E dX8_finds_9 rfl

def f_X8_isSheet (a1 : Int32) : Option Int32 :=
  bdr (f_X8_in (a1.toInt64) (0 : Int64) (3 : Int64)) fun x1 =>
  cy (x1 = 0 ∨ x1 = 1) (some x1)
theorem dX8_isSheet_0 : decode cX8_isSheet 0 = .ok (.iload_n 0, 1) := by decide +kernel
theorem dX8_isSheet_1 : decode cX8_isSheet 1 = .ok (.i2l, 1) := by decide +kernel
theorem dX8_isSheet_2 : decode cX8_isSheet 2 = .ok (.lconst 0, 1) := by decide +kernel
theorem dX8_isSheet_3 : decode cX8_isSheet 3 = .ok (.ldc2_w 93, 3) := by decide +kernel
theorem dX8_isSheet_6 : decode cX8_isSheet 6 = .ok (.invokestatic 85, 3) := by decide +kernel
theorem dX8_isSheet_9 : decode cX8_isSheet 9 = .ok (.ireturn, 1) := by decide +kernel
set_option maxRecDepth 20000 in
theorem m_X8_isSheet {h : Hp} {a1 : Int32}  {u : Int32} (hu : f_X8_isSheet a1 = some u) : Ct yX8_isSheet cX8_isSheet 1 (some .boolean) 1 [.int a1] h ((rI h) u) := by
  refine ct_of (rI h) hu (by decide) (Nat.le_of_ble_eq_true rfl) (fun κ hn C E => ?_)
  unfold f_X8_isSheet
  show Xz κ _ 0 [(0, .int a1)] [] h
  refine x_iload_n 1 C dX8_isSheet_0 0 rfl rfl rfl ?_
  refine x_i2l 2 C dX8_isSheet_1 rfl ?_
  refine x_lconst 3 C dX8_isSheet_2 cl_0 rfl ?_
  refine x_ldc2 6 C dX8_isSheet_3 kw_X8_93 rfl ?_
  refine x_csi 9 [.long (a1.toInt64), .long (0 : Int64), .long (3 : Int64)] [] C 0 dX8_isSheet_6 s_X8_85 (fun u hu => m_X8_in hu) rfl rfl (Nat.le_of_ble_eq_true rfl) (Nat.le_of_ble_eq_true rfl) rfl (fun x1 => ?_)
  exact x_zrc C E dX8_isSheet_9 rfl

def f_X8_sheet (h : Hp) (a1 : Int32) (a2 : Int32) (a3 : Int32) : Option (Hp × Int32) :=
  bdr (f_X8_isSheet a1) fun x1 =>
  if x1 = 0 then (
    some (h, (-2 : Int32)))
  else (
    bdr (f_X8_in (a2.toInt64) (0 : Int64) (2 : Int64)) fun x2 =>
    if x2 = 0 then (
      some (h, (-2 : Int32)))
    else (
      if a3 ≤ (60 : Int32) then (
        if 0 ≤ a3 then (
          ck a1 4 (nm (ux h 69 a1 a2) fun h3 =>
          ck a1 4 (nm (ux h3 70 a1 a3) fun h4 =>
          fx2 FU (fun s1 (h5 : Hp) (x6 : Int32) =>
            if a3 ≤ x6 then (
              some (h5, a3))
            else (
              ck (((60 : Int32) * a1) + x6) 240 (nm (ux h5 71 (((60 : Int32) * a1) + x6) (0 : Int32)) fun h7 =>
              nm (x6 + (1 : Int32)) fun x8 =>
              s1 h7 x8))) h4 (0 : Int32))))
        else (
          bnd (f_X8_finds h (5 : Int32)) fun h9 x10 =>
          some (h9, x10)))
      else (
        some (h, (-2 : Int32)))))
theorem dX8_sheet_0 : decode cX8_sheet 0 = .ok (.iload_n 1, 1) := by decide +kernel
theorem dX8_sheet_1 : decode cX8_sheet 1 = .ok (.invokestatic 95, 3) := by decide +kernel
theorem dX8_sheet_4 : decode cX8_sheet 4 = .ok (.ifCond .eq 21, 3) := by decide +kernel
theorem dX8_sheet_7 : decode cX8_sheet 7 = .ok (.iload_n 2, 1) := by decide +kernel
theorem dX8_sheet_8 : decode cX8_sheet 8 = .ok (.i2l, 1) := by decide +kernel
theorem dX8_sheet_9 : decode cX8_sheet 9 = .ok (.lconst 0, 1) := by decide +kernel
theorem dX8_sheet_10 : decode cX8_sheet 10 = .ok (.ldc2_w 99, 3) := by decide +kernel
theorem dX8_sheet_13 : decode cX8_sheet 13 = .ok (.invokestatic 85, 3) := by decide +kernel
theorem dX8_sheet_16 : decode cX8_sheet 16 = .ok (.ifCond .eq 9, 3) := by decide +kernel
theorem dX8_sheet_19 : decode cX8_sheet 19 = .ok (.iload_n 3, 1) := by decide +kernel
theorem dX8_sheet_20 : decode cX8_sheet 20 = .ok (.bipush 60, 2) := by decide +kernel
theorem dX8_sheet_22 : decode cX8_sheet 22 = .ok (.if_icmp .le 6, 3) := by decide +kernel
theorem dX8_sheet_25 : decode cX8_sheet 25 = .ok (.bipush (-2), 2) := by decide +kernel
theorem dX8_sheet_27 : decode cX8_sheet 27 = .ok (.ireturn, 1) := by decide +kernel
theorem dX8_sheet_28 : decode cX8_sheet 28 = .ok (.iload_n 3, 1) := by decide +kernel
theorem dX8_sheet_29 : decode cX8_sheet 29 = .ok (.ifCond .ge 9, 3) := by decide +kernel
theorem dX8_sheet_32 : decode cX8_sheet 32 = .ok (.aload_n 0, 1) := by decide +kernel
theorem dX8_sheet_33 : decode cX8_sheet 33 = .ok (.iconst 5, 1) := by decide +kernel
theorem dX8_sheet_34 : decode cX8_sheet 34 = .ok (.invokevirtual 101, 3) := by decide +kernel
theorem dX8_sheet_37 : decode cX8_sheet 37 = .ok (.ireturn, 1) := by decide +kernel
theorem dX8_sheet_38 : decode cX8_sheet 38 = .ok (.aload_n 0, 1) := by decide +kernel
theorem dX8_sheet_39 : decode cX8_sheet 39 = .ok (.getfield 7, 3) := by decide +kernel
theorem dX8_sheet_42 : decode cX8_sheet 42 = .ok (.iload_n 1, 1) := by decide +kernel
theorem dX8_sheet_43 : decode cX8_sheet 43 = .ok (.iload_n 2, 1) := by decide +kernel
theorem dX8_sheet_44 : decode cX8_sheet 44 = .ok (.iastore, 1) := by decide +kernel
theorem dX8_sheet_45 : decode cX8_sheet 45 = .ok (.aload_n 0, 1) := by decide +kernel
theorem dX8_sheet_46 : decode cX8_sheet 46 = .ok (.getfield 13, 3) := by decide +kernel
theorem dX8_sheet_49 : decode cX8_sheet 49 = .ok (.iload_n 1, 1) := by decide +kernel
theorem dX8_sheet_50 : decode cX8_sheet 50 = .ok (.iload_n 3, 1) := by decide +kernel
theorem dX8_sheet_51 : decode cX8_sheet 51 = .ok (.iastore, 1) := by decide +kernel
theorem dX8_sheet_52 : decode cX8_sheet 52 = .ok (.iconst 0, 1) := by decide +kernel
theorem dX8_sheet_53 : decode cX8_sheet 53 = .ok (.istore 4, 2) := by decide +kernel
theorem dX8_sheet_55 : decode cX8_sheet 55 = .ok (.iload 4, 2) := by decide +kernel
theorem dX8_sheet_57 : decode cX8_sheet 57 = .ok (.iload_n 3, 1) := by decide +kernel
theorem dX8_sheet_58 : decode cX8_sheet 58 = .ok (.if_icmp .ge 22, 3) := by decide +kernel
theorem dX8_sheet_61 : decode cX8_sheet 61 = .ok (.aload_n 0, 1) := by decide +kernel
theorem dX8_sheet_62 : decode cX8_sheet 62 = .ok (.getfield 16, 3) := by decide +kernel
theorem dX8_sheet_65 : decode cX8_sheet 65 = .ok (.bipush 60, 2) := by decide +kernel
theorem dX8_sheet_67 : decode cX8_sheet 67 = .ok (.iload_n 1, 1) := by decide +kernel
theorem dX8_sheet_68 : decode cX8_sheet 68 = .ok (.imul, 1) := by decide +kernel
theorem dX8_sheet_69 : decode cX8_sheet 69 = .ok (.iload 4, 2) := by decide +kernel
theorem dX8_sheet_71 : decode cX8_sheet 71 = .ok (.iadd, 1) := by decide +kernel
theorem dX8_sheet_72 : decode cX8_sheet 72 = .ok (.iconst 0, 1) := by decide +kernel
theorem dX8_sheet_73 : decode cX8_sheet 73 = .ok (.iastore, 1) := by decide +kernel
theorem dX8_sheet_74 : decode cX8_sheet 74 = .ok (.iinc 4 1, 3) := by decide +kernel
theorem dX8_sheet_77 : decode cX8_sheet 77 = .ok (.goto (-22), 3) := by decide +kernel
theorem dX8_sheet_80 : decode cX8_sheet 80 = .ok (.iload_n 3, 1) := by decide +kernel
theorem dX8_sheet_81 : decode cX8_sheet 81 = .ok (.ireturn, 1) := by decide +kernel
set_option maxRecDepth 20000 in
theorem m_X8_sheet {h : Hp} {a1 : Int32} {a2 : Int32} {a3 : Int32}  {u : (Hp × Int32)} (hu : f_X8_sheet h a1 a2 a3 = some u) : Ct yX8_sheet cX8_sheet 5 (some .int) 2 [.ref 68, .int a1, .int a2, .int a3] h (eI u) := by
  refine ct_of eI hu (by decide) (Nat.le_of_ble_eq_true rfl) (fun κ hn C E => ?_)
  have n4 : 4 < kn κ := by rw [hn]; decide
  unfold f_X8_sheet
  show Xz κ _ 0 [(0, .ref 68), (1, .int a1), (2, .int a2), (3, .int a3)] [] h
  refine x_iload_n 1 C dX8_sheet_0 1 rfl rfl rfl ?_
  refine x_csi 4 [.int a1] [] C 1 dX8_sheet_1 s_X8_95 (fun u hu => m_X8_isSheet hu) rfl rfl (Nat.le_of_ble_eq_true rfl) (Nat.le_of_ble_eq_true rfl) rfl (fun x1 => ?_)
  refine x_if_eq 7 25 C dX8_sheet_4 (by decide) rfl (fun _ => ?_) (fun _ => ?_)
  · refine x_bipush 27 C dX8_sheet_25 cb_m2 rfl ?_
    exact x_iret C E dX8_sheet_27 rfl
  · refine x_iload_n 8 C dX8_sheet_7 2 rfl rfl rfl ?_
    refine x_i2l 9 C dX8_sheet_8 rfl ?_
    refine x_lconst 10 C dX8_sheet_9 cl_0 rfl ?_
    refine x_ldc2 13 C dX8_sheet_10 kw_X8_99 rfl ?_
    refine x_csi 16 [.long (a2.toInt64), .long (0 : Int64), .long (2 : Int64)] [] C 0 dX8_sheet_13 s_X8_85 (fun u hu => m_X8_in hu) rfl rfl (Nat.le_of_ble_eq_true rfl) (Nat.le_of_ble_eq_true rfl) rfl (fun x2 => ?_)
    refine x_if_eq 19 25 C dX8_sheet_16 (by decide) rfl (fun _ => ?_) (fun _ => ?_)
    · refine x_bipush 27 C dX8_sheet_25 cb_m2 rfl ?_
      exact x_iret C E dX8_sheet_27 rfl
    · refine x_iload_n 20 C dX8_sheet_19 3 rfl rfl rfl ?_
      refine x_bipush 22 C dX8_sheet_20 cb_60 rfl ?_
      refine x_icmp_le 25 28 C dX8_sheet_22 (by decide) rfl (fun _ => ?_) (fun _ => ?_)
      · refine x_iload_n 29 C dX8_sheet_28 3 rfl rfl rfl ?_
        refine x_if_ge 32 38 C dX8_sheet_29 (by decide) rfl (fun _ => ?_) (fun _ => ?_)
        · refine x_aload_n 39 C dX8_sheet_38 0 rfl rfl rfl ?_
          refine x_getR (c := 69) 42 C dX8_sheet_39 fl_X8_7 sk_68 rfl sr_68_0 rfl ?_
          refine x_iload_n 43 C dX8_sheet_42 1 rfl rfl rfl ?_
          refine x_iload_n 44 C dX8_sheet_43 2 rfl rfl rfl ?_
          refine x_iast 45 C dX8_sheet_44 sk_69 sl_69 rfl (fun h3 => ?_)
          refine x_aload_n 46 C dX8_sheet_45 0 rfl rfl rfl ?_
          refine x_getR (c := 70) 49 C dX8_sheet_46 fl_X8_13 sk_68 rfl sr_68_1 rfl ?_
          refine x_iload_n 50 C dX8_sheet_49 1 rfl rfl rfl ?_
          refine x_iload_n 51 C dX8_sheet_50 3 rfl rfl rfl ?_
          refine x_iast 52 C dX8_sheet_51 sk_70 sl_70 rfl (fun h4 => ?_)
          refine x_iconst 53 C dX8_sheet_52 ci_0 rfl ?_
          refine x_istore 55 [(4, .int (0 : Int32)), (0, .ref 68), (1, .int a1), (2, .int a2), (3, .int a3)] C dX8_sheet_53 n4 rfl rfl ?_
          refine x_ls [1, 2, 4, 0] rfl (x_fx2 (ls := fun h5 x6 => [(0, .ref 68), (1, .int a1), (3, .int a3), (4, .int x6)]) (st := fun h5 x6 => []) (hh := fun h5 x6 => h5) (fun s1 J1 h5 x6 => ?_))
          refine x_iload 57 C dX8_sheet_55 3 rfl rfl ?_
          refine x_iload_n 58 C dX8_sheet_57 2 rfl rfl rfl ?_
          refine x_icmp_ge 61 80 C dX8_sheet_58 (by decide) rfl (fun _ => ?_) (fun _ => ?_)
          · refine x_iload_n 81 C dX8_sheet_80 2 rfl rfl rfl ?_
            exact x_iret C E dX8_sheet_81 rfl
          · refine x_aload_n 62 C dX8_sheet_61 0 rfl rfl rfl ?_
            refine x_getR (c := 71) 65 C dX8_sheet_62 fl_X8_16 sk_68 rfl sr_68_2 rfl ?_
            refine x_bipush 67 C dX8_sheet_65 cb_60 rfl ?_
            refine x_iload_n 68 C dX8_sheet_67 1 rfl rfl rfl ?_
            refine x_imul 69 C dX8_sheet_68 rfl ?_
            refine x_iload 71 C dX8_sheet_69 3 rfl rfl ?_
            refine x_iadd 72 C dX8_sheet_71 rfl ?_
            refine x_iconst 73 C dX8_sheet_72 ci_0 rfl ?_
            refine x_iast 74 C dX8_sheet_73 sk_71 sl_71 rfl (fun h7 => ?_)
            refine x_iinc 77 (fun x8 => [(4, .int x8), (0, .ref 68), (1, .int a1), (3, .int a3)]) C dX8_sheet_74 3 rfl ci_1 n4 (fun _ => rfl) rfl (fun x8 => ?_)
            refine x_goto 55 C dX8_sheet_77 (by decide) ?_
            exact x_ls [1, 2, 3, 0] rfl (J1 h7 x8)
        · refine x_aload_n 33 C dX8_sheet_32 0 rfl rfl rfl ?_
          refine x_iconst 34 C dX8_sheet_33 ci_5 rfl ?_
          refine x_cvI 37 [.int (5 : Int32)] [] C 0 dX8_sheet_34 v_X8_101 (fun u hu => m_X8_finds hu) rfl sk_68 rfl (Nat.le_of_ble_eq_true rfl) (Nat.le_of_ble_eq_true rfl) rfl (fun h9 x10 => ?_)
          exact x_iret C E dX8_sheet_37 rfl
      · refine x_bipush 27 C dX8_sheet_25 cb_m2 rfl ?_
        exact x_iret C E dX8_sheet_27 rfl

def f_X8_lose (h : Hp) (a1 : Int32) : Option (Hp × Int32) :=
  bdr (f_X8_isSheet a1) fun x1 =>
  if x1 = 0 then (
    some (h, (-2 : Int32)))
  else (
    ck a1 4 (
      if 0 ≤ (ia h 69 a1) then (
        ck a1 4 (nm (ux h 69 a1 (-1 : Int32)) fun h2 =>
        ck a1 4 (
          some (h2, (ia h2 70 a1)))))
      else (
        bnd (f_X8_finds h (1 : Int32)) fun h3 x4 =>
        some (h3, x4))))
theorem dX8_lose_0 : decode cX8_lose 0 = .ok (.iload_n 1, 1) := by decide +kernel
theorem dX8_lose_1 : decode cX8_lose 1 = .ok (.invokestatic 95, 3) := by decide +kernel
theorem dX8_lose_4 : decode cX8_lose 4 = .ok (.ifCond .ne 6, 3) := by decide +kernel
theorem dX8_lose_7 : decode cX8_lose 7 = .ok (.bipush (-2), 2) := by decide +kernel
theorem dX8_lose_9 : decode cX8_lose 9 = .ok (.ireturn, 1) := by decide +kernel
theorem dX8_lose_10 : decode cX8_lose 10 = .ok (.aload_n 0, 1) := by decide +kernel
theorem dX8_lose_11 : decode cX8_lose 11 = .ok (.getfield 7, 3) := by decide +kernel
theorem dX8_lose_14 : decode cX8_lose 14 = .ok (.iload_n 1, 1) := by decide +kernel
theorem dX8_lose_15 : decode cX8_lose 15 = .ok (.iaload, 1) := by decide +kernel
theorem dX8_lose_16 : decode cX8_lose 16 = .ok (.ifCond .ge 9, 3) := by decide +kernel
theorem dX8_lose_19 : decode cX8_lose 19 = .ok (.aload_n 0, 1) := by decide +kernel
theorem dX8_lose_20 : decode cX8_lose 20 = .ok (.iconst 1, 1) := by decide +kernel
theorem dX8_lose_21 : decode cX8_lose 21 = .ok (.invokevirtual 101, 3) := by decide +kernel
theorem dX8_lose_24 : decode cX8_lose 24 = .ok (.ireturn, 1) := by decide +kernel
theorem dX8_lose_25 : decode cX8_lose 25 = .ok (.aload_n 0, 1) := by decide +kernel
theorem dX8_lose_26 : decode cX8_lose 26 = .ok (.getfield 7, 3) := by decide +kernel
theorem dX8_lose_29 : decode cX8_lose 29 = .ok (.iload_n 1, 1) := by decide +kernel
theorem dX8_lose_30 : decode cX8_lose 30 = .ok (.iconst (-1), 1) := by decide +kernel
theorem dX8_lose_31 : decode cX8_lose 31 = .ok (.iastore, 1) := by decide +kernel
theorem dX8_lose_32 : decode cX8_lose 32 = .ok (.aload_n 0, 1) := by decide +kernel
theorem dX8_lose_33 : decode cX8_lose 33 = .ok (.getfield 13, 3) := by decide +kernel
theorem dX8_lose_36 : decode cX8_lose 36 = .ok (.iload_n 1, 1) := by decide +kernel
theorem dX8_lose_37 : decode cX8_lose 37 = .ok (.iaload, 1) := by decide +kernel
theorem dX8_lose_38 : decode cX8_lose 38 = .ok (.ireturn, 1) := by decide +kernel
set_option maxRecDepth 20000 in
theorem m_X8_lose {h : Hp} {a1 : Int32}  {u : (Hp × Int32)} (hu : f_X8_lose h a1 = some u) : Ct yX8_lose cX8_lose 2 (some .int) 2 [.ref 68, .int a1] h (eI u) := by
  refine ct_of eI hu (by decide) (Nat.le_of_ble_eq_true rfl) (fun κ hn C E => ?_)
  unfold f_X8_lose
  show Xz κ _ 0 [(0, .ref 68), (1, .int a1)] [] h
  refine x_iload_n 1 C dX8_lose_0 1 rfl rfl rfl ?_
  refine x_csi 4 [.int a1] [] C 1 dX8_lose_1 s_X8_95 (fun u hu => m_X8_isSheet hu) rfl rfl (Nat.le_of_ble_eq_true rfl) (Nat.le_of_ble_eq_true rfl) rfl (fun x1 => ?_)
  refine x_if_ne 7 10 C dX8_lose_4 (by decide) rfl (fun _ => ?_) (fun _ => ?_)
  · refine x_aload_n 11 C dX8_lose_10 0 rfl rfl rfl ?_
    refine x_getR (c := 69) 14 C dX8_lose_11 fl_X8_7 sk_68 rfl sr_68_0 rfl ?_
    refine x_iload_n 15 C dX8_lose_14 1 rfl rfl rfl ?_
    refine x_iald 16 C dX8_lose_15 sk_69 sl_69 rfl ?_
    refine x_if_ge 19 25 C dX8_lose_16 (by decide) rfl (fun _ => ?_) (fun _ => ?_)
    · refine x_aload_n 26 C dX8_lose_25 0 rfl rfl rfl ?_
      refine x_getR (c := 69) 29 C dX8_lose_26 fl_X8_7 sk_68 rfl sr_68_0 rfl ?_
      refine x_iload_n 30 C dX8_lose_29 1 rfl rfl rfl ?_
      refine x_iconst 31 C dX8_lose_30 ci_m1 rfl ?_
      refine x_iast 32 C dX8_lose_31 sk_69 sl_69 rfl (fun h2 => ?_)
      refine x_aload_n 33 C dX8_lose_32 0 rfl rfl rfl ?_
      refine x_getR (c := 70) 36 C dX8_lose_33 fl_X8_13 sk_68 rfl sr_68_1 rfl ?_
      refine x_iload_n 37 C dX8_lose_36 1 rfl rfl rfl ?_
      refine x_iald 38 C dX8_lose_37 sk_70 sl_70 rfl ?_
      exact x_iret C E dX8_lose_38 rfl
    · refine x_aload_n 20 C dX8_lose_19 0 rfl rfl rfl ?_
      refine x_iconst 21 C dX8_lose_20 ci_1 rfl ?_
      refine x_cvI 24 [.int (1 : Int32)] [] C 0 dX8_lose_21 v_X8_101 (fun u hu => m_X8_finds hu) rfl sk_68 rfl (Nat.le_of_ble_eq_true rfl) (Nat.le_of_ble_eq_true rfl) rfl (fun h3 x4 => ?_)
      exact x_iret C E dX8_lose_24 rfl
  · refine x_bipush 9 C dX8_lose_7 cb_m2 rfl ?_
    exact x_iret C E dX8_lose_9 rfl
