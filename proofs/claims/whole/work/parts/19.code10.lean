def f_X7_weightOf (h : Hp) (a1 : Int32) (a2 : Int32) : Option Int64 :=
  fx2 FU (fun s1 (l1 : Int64) (x2 : Int32) =>
    if (h.1 5 8) ≤ x2 then (
      some l1)
    else (
      lt1 (fun (l3 : Int64) =>
        nm (l1 * l3) fun l4 =>
        nm (x2 + (1 : Int32)) fun x5 =>
        s1 l4 x5) fun k2 =>
      if ((a1 >>> (x2 &&& 31)) &&& (1 : Int32)) = (1 : Int32) then (
        k2 (a2.toInt64))
      else (
        k2 (((16 : Int32) - a2).toInt64)))) (1 : Int64) (0 : Int32)
theorem dX7_weightOf_0 : decode cX7_weightOf 0 = .ok (.lconst 1, 1) := by decide +kernel
theorem dX7_weightOf_1 : decode cX7_weightOf 1 = .ok (.lstore_n 3, 1) := by decide +kernel
theorem dX7_weightOf_2 : decode cX7_weightOf 2 = .ok (.iconst 0, 1) := by decide +kernel
theorem dX7_weightOf_3 : decode cX7_weightOf 3 = .ok (.istore 5, 2) := by decide +kernel
theorem dX7_weightOf_5 : decode cX7_weightOf 5 = .ok (.iload 5, 2) := by decide +kernel
theorem dX7_weightOf_7 : decode cX7_weightOf 7 = .ok (.aload_n 0, 1) := by decide +kernel
theorem dX7_weightOf_8 : decode cX7_weightOf 8 = .ok (.getfield 26, 3) := by decide +kernel
theorem dX7_weightOf_11 : decode cX7_weightOf 11 = .ok (.getfield 154, 3) := by decide +kernel
theorem dX7_weightOf_14 : decode cX7_weightOf 14 = .ok (.if_icmp .ge 32, 3) := by decide +kernel
theorem dX7_weightOf_17 : decode cX7_weightOf 17 = .ok (.lload_n 3, 1) := by decide +kernel
theorem dX7_weightOf_18 : decode cX7_weightOf 18 = .ok (.iload_n 1, 1) := by decide +kernel
theorem dX7_weightOf_19 : decode cX7_weightOf 19 = .ok (.iload 5, 2) := by decide +kernel
theorem dX7_weightOf_21 : decode cX7_weightOf 21 = .ok (.ishr, 1) := by decide +kernel
theorem dX7_weightOf_22 : decode cX7_weightOf 22 = .ok (.iconst 1, 1) := by decide +kernel
theorem dX7_weightOf_23 : decode cX7_weightOf 23 = .ok (.iand, 1) := by decide +kernel
theorem dX7_weightOf_24 : decode cX7_weightOf 24 = .ok (.iconst 1, 1) := by decide +kernel
theorem dX7_weightOf_25 : decode cX7_weightOf 25 = .ok (.if_icmp .ne 8, 3) := by decide +kernel
theorem dX7_weightOf_28 : decode cX7_weightOf 28 = .ok (.iload_n 2, 1) := by decide +kernel
theorem dX7_weightOf_29 : decode cX7_weightOf 29 = .ok (.i2l, 1) := by decide +kernel
theorem dX7_weightOf_30 : decode cX7_weightOf 30 = .ok (.goto 8, 3) := by decide +kernel
theorem dX7_weightOf_33 : decode cX7_weightOf 33 = .ok (.bipush 16, 2) := by decide +kernel
theorem dX7_weightOf_35 : decode cX7_weightOf 35 = .ok (.iload_n 2, 1) := by decide +kernel
theorem dX7_weightOf_36 : decode cX7_weightOf 36 = .ok (.isub, 1) := by decide +kernel
theorem dX7_weightOf_37 : decode cX7_weightOf 37 = .ok (.i2l, 1) := by decide +kernel
theorem dX7_weightOf_38 : decode cX7_weightOf 38 = .ok (.lmul, 1) := by decide +kernel
theorem dX7_weightOf_39 : decode cX7_weightOf 39 = .ok (.lstore_n 3, 1) := by decide +kernel
theorem dX7_weightOf_40 : decode cX7_weightOf 40 = .ok (.iinc 5 1, 3) := by decide +kernel
theorem dX7_weightOf_43 : decode cX7_weightOf 43 = .ok (.goto (-38), 3) := by decide +kernel
theorem dX7_weightOf_46 : decode cX7_weightOf 46 = .ok (.lload_n 3, 1) := by decide +kernel
theorem dX7_weightOf_47 : decode cX7_weightOf 47 = .ok (.lreturn, 1) := by decide +kernel
set_option maxRecDepth 20000 in
theorem m_X7_weightOf {h : Hp} {a1 : Int32} {a2 : Int32}  {u : Int64} (hu : f_X7_weightOf h a1 a2 = some u) : Ct yX7_weightOf cX7_weightOf 6 (some .long) 0 [.ref 0, .int a1, .int a2] h ((rL h) u) := by
  refine ct_of (rL h) hu (by decide) (Nat.le_of_ble_eq_true rfl) (fun κ hn C E => ?_)
  have n4 : 4 < kn κ := by rw [hn]; decide
  have n5 : 5 < kn κ := by rw [hn]; decide
  unfold f_X7_weightOf
  show Xz κ _ 0 [(0, .ref 0), (1, .int a1), (2, .int a2)] [] h
  refine x_lconst 1 C dX7_weightOf_0 cl_1 rfl ?_
  refine x_lstore_n 2 [(3, .long (1 : Int64)), (0, .ref 0), (1, .int a1), (2, .int a2)] C dX7_weightOf_1 n4 rfl rfl rfl ?_
  refine x_iconst 3 C dX7_weightOf_2 ci_0 rfl ?_
  refine x_istore 5 [(5, .int (0 : Int32)), (3, .long (1 : Int64)), (0, .ref 0), (1, .int a1), (2, .int a2)] C dX7_weightOf_3 n5 rfl rfl ?_
  refine x_ls [2, 3, 4, 1, 0] rfl (x_fx2 (ls := fun l1 x2 => [(0, .ref 0), (1, .int a1), (2, .int a2), (3, .long l1), (5, .int x2)]) (st := fun l1 x2 => []) (hh := fun l1 x2 => h) (fun s1 J1 l1 x2 => ?_))
  refine x_iload 7 C dX7_weightOf_5 4 rfl rfl ?_
  refine x_aload_n 8 C dX7_weightOf_7 0 rfl rfl rfl ?_
  refine x_getR (c := 5) 11 C dX7_weightOf_8 fl_X7_26 sk_0 rfl sr_0_2 rfl ?_
  refine x_getI 14 C dX7_weightOf_11 fl_X7_154 sk_5 rfl rfl ?_
  refine x_icmp_ge 17 46 C dX7_weightOf_14 (by decide) rfl (fun _ => ?_) (fun _ => ?_)
  · refine x_lload_n 47 C dX7_weightOf_46 3 rfl rfl rfl ?_
    exact x_lret C E dX7_weightOf_47 rfl
  · refine x_lload_n 18 C dX7_weightOf_17 3 rfl rfl rfl ?_
    refine x_iload_n 19 C dX7_weightOf_18 1 rfl rfl rfl ?_
    refine x_iload 21 C dX7_weightOf_19 4 rfl rfl ?_
    refine x_ishr 22 C dX7_weightOf_21 rfl ?_
    refine x_iconst 23 C dX7_weightOf_22 ci_1 rfl ?_
    refine x_iand 24 C dX7_weightOf_23 rfl ?_
    refine x_iconst 25 C dX7_weightOf_24 ci_1 rfl ?_
    refine x_lt1 (q := 38) (ls := fun l3 => [(0, .ref 0), (1, .int a1), (2, .int a2), (5, .int x2)]) (st := fun l3 => [.long l3, .long l1]) (hh := fun l3 => h) (fun l3 => ?_) (fun k2 J2 => ?_)
    · refine x_lmul 39 C dX7_weightOf_38 rfl ?_
      refine x_nl (fun l4 => ?_)
      refine x_lstore_n 40 [(3, .long l4), (0, .ref 0), (1, .int a1), (2, .int a2), (5, .int x2)] C dX7_weightOf_39 n4 rfl rfl rfl ?_
      refine x_iinc 43 (fun x5 => [(5, .int x5), (3, .long l4), (0, .ref 0), (1, .int a1), (2, .int a2)]) C dX7_weightOf_40 4 rfl ci_1 n5 (fun _ => rfl) rfl (fun x5 => ?_)
      refine x_goto 5 C dX7_weightOf_43 (by decide) ?_
      exact x_ls [2, 3, 4, 1, 0] rfl (J1 l4 x5)
    refine x_icmp_ne 28 33 C dX7_weightOf_25 (by decide) rfl (fun _ => ?_) (fun _ => ?_)
    · refine x_bipush 35 C dX7_weightOf_33 cb_16 rfl ?_
      refine x_iload_n 36 C dX7_weightOf_35 2 rfl rfl rfl ?_
      refine x_isub 37 C dX7_weightOf_36 rfl ?_
      refine x_i2l 38 C dX7_weightOf_37 rfl ?_
      exact x_ls [0, 1, 2, 4] rfl (J2 (((16 : Int32) - a2).toInt64))
    · refine x_iload_n 29 C dX7_weightOf_28 2 rfl rfl rfl ?_
      refine x_i2l 30 C dX7_weightOf_29 rfl ?_
      refine x_goto 38 C dX7_weightOf_30 (by decide) ?_
      exact x_ls [0, 1, 2, 4] rfl (J2 (a2.toInt64))

def f_X7_chance (h : Hp) (a1 : Int32) (a2 : Int32) (a3 : Int32) : Option (Hp × Int64) :=
  bdr (f_X7_within a1 (0 : Int32) (16 : Int32)) fun x1 =>
  if x1 = 0 then (
    some (h, (-9223372036854775806 : Int64)))
  else (
    bdr (f_X7_isWalker h a2) fun x2 =>
    if x2 = 0 then (
      some (h, (-9223372036854775806 : Int64)))
    else (
      bdr (f_X7_within a3 (0 : Int32) (1 : Int32)) fun x3 =>
      if x3 = 0 then (
        some (h, (-9223372036854775806 : Int64)))
      else (
        bdv (f_X7_weighOdds h) fun h4 =>
        nm ((1 : Int64) <<< (((4 : Int32) * (h4.1 5 8)).toInt64 &&& 63)) fun l5 =>
        lt1 (fun (l6 : Int64) =>
          lt2 (fun (l7 : Int64) (l8 : Int64) =>
            if a3 = 0 then (
              some (h4, l7))
            else (
              some (h4, l8))) fun k2 =>
          fx3 FU (fun s3 (l9 : Int64) (l10 : Int64) (x11 : Int32) =>
            if (32 : Int32) ≤ x11 then (
              k2 l9 l10)
            else (
              if (lg_cmp l10 (1 : Int64)) ≤ 0 then (
                k2 l9 l10)
              else (
                if (lg_cmp (l9 - l9 / (2 : Int64) * (2 : Int64)) (0 : Int64)) = 0 then (
                  nm (l9 / (2 : Int64)) fun l12 =>
                  nm (l10 / (2 : Int64)) fun l13 =>
                  nm (x11 + (1 : Int32)) fun x14 =>
                  s3 l12 l13 x14)
                else (
                  k2 l9 l10)))) l6 l5 (0 : Int32)) fun k1 =>
        fx2 FU (fun s4 (l15 : Int64) (x16 : Int32) =>
          if ((1 : Int32) <<< ((h4.1 5 8) &&& 31)) ≤ x16 then (
            k1 l15)
          else (
            if (nI 256) ≤ x16 then (
              k1 l15)
            else (
              ck x16 256 (
                lt1 (fun (l17 : Int64) =>
                  nm (x16 + (1 : Int32)) fun x18 =>
                  s4 l17 x18) fun k5 =>
                if (((ia h4 56 x16) >>> (a2 &&& 31)) &&& (1 : Int32)) = (1 : Int32) then (
                  bdr (f_X7_weightOf h4 x16 a1) fun l19 =>
                  nm (l15 + l19) fun l20 =>
                  k5 l20)
                else (
                  k5 l15))))) (0 : Int64) (0 : Int32))))
theorem dX7_chance_0 : decode cX7_chance 0 = .ok (.iload_n 1, 1) := by decide +kernel
theorem dX7_chance_1 : decode cX7_chance 1 = .ok (.iconst 0, 1) := by decide +kernel
theorem dX7_chance_2 : decode cX7_chance 2 = .ok (.bipush 16, 2) := by decide +kernel
theorem dX7_chance_4 : decode cX7_chance 4 = .ok (.invokestatic 85, 3) := by decide +kernel
theorem dX7_chance_7 : decode cX7_chance 7 = .ok (.ifCond .eq 20, 3) := by decide +kernel
theorem dX7_chance_10 : decode cX7_chance 10 = .ok (.aload_n 0, 1) := by decide +kernel
theorem dX7_chance_11 : decode cX7_chance 11 = .ok (.iload_n 2, 1) := by decide +kernel
theorem dX7_chance_12 : decode cX7_chance 12 = .ok (.invokevirtual 113, 3) := by decide +kernel
theorem dX7_chance_15 : decode cX7_chance 15 = .ok (.ifCond .eq 12, 3) := by decide +kernel
theorem dX7_chance_18 : decode cX7_chance 18 = .ok (.iload_n 3, 1) := by decide +kernel
theorem dX7_chance_19 : decode cX7_chance 19 = .ok (.iconst 0, 1) := by decide +kernel
theorem dX7_chance_20 : decode cX7_chance 20 = .ok (.iconst 1, 1) := by decide +kernel
theorem dX7_chance_21 : decode cX7_chance 21 = .ok (.invokestatic 85, 3) := by decide +kernel
theorem dX7_chance_24 : decode cX7_chance 24 = .ok (.ifCond .ne 7, 3) := by decide +kernel
theorem dX7_chance_27 : decode cX7_chance 27 = .ok (.ldc2_w 259, 3) := by decide +kernel
theorem dX7_chance_30 : decode cX7_chance 30 = .ok (.lreturn, 1) := by decide +kernel
theorem dX7_chance_31 : decode cX7_chance 31 = .ok (.aload_n 0, 1) := by decide +kernel
theorem dX7_chance_32 : decode cX7_chance 32 = .ok (.invokevirtual 261, 3) := by decide +kernel
theorem dX7_chance_35 : decode cX7_chance 35 = .ok (.lconst 0, 1) := by decide +kernel
theorem dX7_chance_36 : decode cX7_chance 36 = .ok (.lstore 4, 2) := by decide +kernel
theorem dX7_chance_38 : decode cX7_chance 38 = .ok (.lconst 1, 1) := by decide +kernel
theorem dX7_chance_39 : decode cX7_chance 39 = .ok (.iconst 4, 1) := by decide +kernel
theorem dX7_chance_40 : decode cX7_chance 40 = .ok (.aload_n 0, 1) := by decide +kernel
theorem dX7_chance_41 : decode cX7_chance 41 = .ok (.getfield 26, 3) := by decide +kernel
theorem dX7_chance_44 : decode cX7_chance 44 = .ok (.getfield 154, 3) := by decide +kernel
theorem dX7_chance_47 : decode cX7_chance 47 = .ok (.imul, 1) := by decide +kernel
theorem dX7_chance_48 : decode cX7_chance 48 = .ok (.lshl, 1) := by decide +kernel
theorem dX7_chance_49 : decode cX7_chance 49 = .ok (.lstore 6, 2) := by decide +kernel
theorem dX7_chance_51 : decode cX7_chance 51 = .ok (.iconst 0, 1) := by decide +kernel
theorem dX7_chance_52 : decode cX7_chance 52 = .ok (.istore 8, 2) := by decide +kernel
theorem dX7_chance_54 : decode cX7_chance 54 = .ok (.iload 8, 2) := by decide +kernel
theorem dX7_chance_56 : decode cX7_chance 56 = .ok (.iconst 1, 1) := by decide +kernel
theorem dX7_chance_57 : decode cX7_chance 57 = .ok (.aload_n 0, 1) := by decide +kernel
theorem dX7_chance_58 : decode cX7_chance 58 = .ok (.getfield 26, 3) := by decide +kernel
theorem dX7_chance_61 : decode cX7_chance 61 = .ok (.getfield 154, 3) := by decide +kernel
theorem dX7_chance_64 : decode cX7_chance 64 = .ok (.ishl, 1) := by decide +kernel
theorem dX7_chance_65 : decode cX7_chance 65 = .ok (.if_icmp .ge 46, 3) := by decide +kernel
theorem dX7_chance_68 : decode cX7_chance 68 = .ok (.iload 8, 2) := by decide +kernel
theorem dX7_chance_70 : decode cX7_chance 70 = .ok (.aload_n 0, 1) := by decide +kernel
theorem dX7_chance_71 : decode cX7_chance 71 = .ok (.getfield 51, 3) := by decide +kernel
theorem dX7_chance_74 : decode cX7_chance 74 = .ok (.arraylength, 1) := by decide +kernel
theorem dX7_chance_75 : decode cX7_chance 75 = .ok (.if_icmp .ge 36, 3) := by decide +kernel
theorem dX7_chance_78 : decode cX7_chance 78 = .ok (.aload_n 0, 1) := by decide +kernel
theorem dX7_chance_79 : decode cX7_chance 79 = .ok (.getfield 51, 3) := by decide +kernel
theorem dX7_chance_82 : decode cX7_chance 82 = .ok (.iload 8, 2) := by decide +kernel
theorem dX7_chance_84 : decode cX7_chance 84 = .ok (.iaload, 1) := by decide +kernel
theorem dX7_chance_85 : decode cX7_chance 85 = .ok (.iload_n 2, 1) := by decide +kernel
theorem dX7_chance_86 : decode cX7_chance 86 = .ok (.ishr, 1) := by decide +kernel
theorem dX7_chance_87 : decode cX7_chance 87 = .ok (.iconst 1, 1) := by decide +kernel
theorem dX7_chance_88 : decode cX7_chance 88 = .ok (.iand, 1) := by decide +kernel
theorem dX7_chance_89 : decode cX7_chance 89 = .ok (.iconst 1, 1) := by decide +kernel
theorem dX7_chance_90 : decode cX7_chance 90 = .ok (.if_icmp .ne 15, 3) := by decide +kernel
theorem dX7_chance_93 : decode cX7_chance 93 = .ok (.lload 4, 2) := by decide +kernel
theorem dX7_chance_95 : decode cX7_chance 95 = .ok (.aload_n 0, 1) := by decide +kernel
theorem dX7_chance_96 : decode cX7_chance 96 = .ok (.iload 8, 2) := by decide +kernel
theorem dX7_chance_98 : decode cX7_chance 98 = .ok (.iload_n 1, 1) := by decide +kernel
theorem dX7_chance_99 : decode cX7_chance 99 = .ok (.invokevirtual 264, 3) := by decide +kernel
theorem dX7_chance_102 : decode cX7_chance 102 = .ok (.ladd, 1) := by decide +kernel
theorem dX7_chance_103 : decode cX7_chance 103 = .ok (.lstore 4, 2) := by decide +kernel
theorem dX7_chance_105 : decode cX7_chance 105 = .ok (.iinc 8 1, 3) := by decide +kernel
theorem dX7_chance_108 : decode cX7_chance 108 = .ok (.goto (-54), 3) := by decide +kernel
theorem dX7_chance_111 : decode cX7_chance 111 = .ok (.iconst 0, 1) := by decide +kernel
theorem dX7_chance_112 : decode cX7_chance 112 = .ok (.istore 8, 2) := by decide +kernel
theorem dX7_chance_114 : decode cX7_chance 114 = .ok (.iload 8, 2) := by decide +kernel
theorem dX7_chance_116 : decode cX7_chance 116 = .ok (.bipush 32, 2) := by decide +kernel
theorem dX7_chance_118 : decode cX7_chance 118 = .ok (.if_icmp .ge 43, 3) := by decide +kernel
theorem dX7_chance_121 : decode cX7_chance 121 = .ok (.lload 6, 2) := by decide +kernel
theorem dX7_chance_123 : decode cX7_chance 123 = .ok (.lconst 1, 1) := by decide +kernel
theorem dX7_chance_124 : decode cX7_chance 124 = .ok (.lcmp, 1) := by decide +kernel
theorem dX7_chance_125 : decode cX7_chance 125 = .ok (.ifCond .le 36, 3) := by decide +kernel
theorem dX7_chance_128 : decode cX7_chance 128 = .ok (.lload 4, 2) := by decide +kernel
theorem dX7_chance_130 : decode cX7_chance 130 = .ok (.ldc2_w 268, 3) := by decide +kernel
theorem dX7_chance_133 : decode cX7_chance 133 = .ok (.lrem, 1) := by decide +kernel
theorem dX7_chance_134 : decode cX7_chance 134 = .ok (.lconst 0, 1) := by decide +kernel
theorem dX7_chance_135 : decode cX7_chance 135 = .ok (.lcmp, 1) := by decide +kernel
theorem dX7_chance_136 : decode cX7_chance 136 = .ok (.ifCond .ne 25, 3) := by decide +kernel
theorem dX7_chance_139 : decode cX7_chance 139 = .ok (.lload 4, 2) := by decide +kernel
theorem dX7_chance_141 : decode cX7_chance 141 = .ok (.ldc2_w 268, 3) := by decide +kernel
theorem dX7_chance_144 : decode cX7_chance 144 = .ok (.ldiv, 1) := by decide +kernel
theorem dX7_chance_145 : decode cX7_chance 145 = .ok (.lstore 4, 2) := by decide +kernel
theorem dX7_chance_147 : decode cX7_chance 147 = .ok (.lload 6, 2) := by decide +kernel
theorem dX7_chance_149 : decode cX7_chance 149 = .ok (.ldc2_w 268, 3) := by decide +kernel
theorem dX7_chance_152 : decode cX7_chance 152 = .ok (.ldiv, 1) := by decide +kernel
theorem dX7_chance_153 : decode cX7_chance 153 = .ok (.lstore 6, 2) := by decide +kernel
theorem dX7_chance_155 : decode cX7_chance 155 = .ok (.iinc 8 1, 3) := by decide +kernel
theorem dX7_chance_158 : decode cX7_chance 158 = .ok (.goto (-44), 3) := by decide +kernel
theorem dX7_chance_161 : decode cX7_chance 161 = .ok (.iload_n 3, 1) := by decide +kernel
theorem dX7_chance_162 : decode cX7_chance 162 = .ok (.ifCond .ne 8, 3) := by decide +kernel
theorem dX7_chance_165 : decode cX7_chance 165 = .ok (.lload 4, 2) := by decide +kernel
theorem dX7_chance_167 : decode cX7_chance 167 = .ok (.goto 5, 3) := by decide +kernel
theorem dX7_chance_170 : decode cX7_chance 170 = .ok (.lload 6, 2) := by decide +kernel
theorem dX7_chance_172 : decode cX7_chance 172 = .ok (.lreturn, 1) := by decide +kernel
set_option maxRecDepth 20000 in
theorem m_X7_chance {h : Hp} {a1 : Int32} {a2 : Int32} {a3 : Int32}  {u : (Hp × Int64)} (hu : f_X7_chance h a1 a2 a3 = some u) : Ct yX7_chance cX7_chance 9 (some .long) 5 [.ref 0, .int a1, .int a2, .int a3] h (eL u) := by
  refine ct_of eL hu (by decide) (Nat.le_of_ble_eq_true rfl) (fun κ hn C E => ?_)
  have n5 : 5 < kn κ := by rw [hn]; decide
  have n7 : 7 < kn κ := by rw [hn]; decide
  have n8 : 8 < kn κ := by rw [hn]; decide
  unfold f_X7_chance
  show Xz κ _ 0 [(0, .ref 0), (1, .int a1), (2, .int a2), (3, .int a3)] [] h
  refine x_iload_n 1 C dX7_chance_0 1 rfl rfl rfl ?_
  refine x_iconst 2 C dX7_chance_1 ci_0 rfl ?_
  refine x_bipush 4 C dX7_chance_2 cb_16 rfl ?_
  refine x_csi 7 [.int a1, .int (0 : Int32), .int (16 : Int32)] [] C 0 dX7_chance_4 s_X7_85 (fun u hu => m_X7_within hu) rfl rfl (Nat.le_of_ble_eq_true rfl) (Nat.le_of_ble_eq_true rfl) rfl (fun x1 => ?_)
  refine x_if_eq 10 27 C dX7_chance_7 (by decide) rfl (fun _ => ?_) (fun _ => ?_)
  · refine x_ldc2 30 C dX7_chance_27 kw_X7_259 rfl ?_
    exact x_lret C E dX7_chance_30 rfl
  · refine x_aload_n 11 C dX7_chance_10 0 rfl rfl rfl ?_
    refine x_iload_n 12 C dX7_chance_11 2 rfl rfl rfl ?_
    refine x_cvi 15 [.int a2] [] C 1 dX7_chance_12 v_X7_113 (fun u hu => m_X7_isWalker hu) rfl sk_0 rfl (Nat.le_of_ble_eq_true rfl) (Nat.le_of_ble_eq_true rfl) rfl (fun x2 => ?_)
    refine x_if_eq 18 27 C dX7_chance_15 (by decide) rfl (fun _ => ?_) (fun _ => ?_)
    · refine x_ldc2 30 C dX7_chance_27 kw_X7_259 rfl ?_
      exact x_lret C E dX7_chance_30 rfl
    · refine x_iload_n 19 C dX7_chance_18 3 rfl rfl rfl ?_
      refine x_iconst 20 C dX7_chance_19 ci_0 rfl ?_
      refine x_iconst 21 C dX7_chance_20 ci_1 rfl ?_
      refine x_csi 24 [.int a3, .int (0 : Int32), .int (1 : Int32)] [] C 0 dX7_chance_21 s_X7_85 (fun u hu => m_X7_within hu) rfl rfl (Nat.le_of_ble_eq_true rfl) (Nat.le_of_ble_eq_true rfl) rfl (fun x3 => ?_)
      refine x_if_ne 27 31 C dX7_chance_24 (by decide) rfl (fun _ => ?_) (fun _ => ?_)
      · refine x_aload_n 32 C dX7_chance_31 0 rfl rfl rfl ?_
        refine x_cvV 35 [] [] C 4 dX7_chance_32 v_X7_261 (fun u hu => m_X7_weighOdds hu) rfl sk_0 rfl (Nat.le_of_ble_eq_true rfl) (Nat.le_of_ble_eq_true rfl) rfl (fun h4 => ?_)
        refine x_lconst 36 C dX7_chance_35 cl_0 rfl ?_
        refine x_lstore 38 [(4, .long (0 : Int64)), (0, .ref 0), (1, .int a1), (2, .int a2), (3, .int a3)] C dX7_chance_36 n5 rfl rfl ?_
        refine x_lconst 39 C dX7_chance_38 cl_1 rfl ?_
        refine x_iconst 40 C dX7_chance_39 ci_4 rfl ?_
        refine x_aload_n 41 C dX7_chance_40 1 rfl rfl rfl ?_
        refine x_getR (c := 5) 44 C dX7_chance_41 fl_X7_26 sk_0 rfl sr_0_2 rfl ?_
        refine x_getI 47 C dX7_chance_44 fl_X7_154 sk_5 rfl rfl ?_
        refine x_imul 48 C dX7_chance_47 rfl ?_
        refine x_lshl 49 C dX7_chance_48 rfl ?_
        refine x_nl (fun l5 => ?_)
        refine x_lstore 51 [(6, .long l5), (4, .long (0 : Int64)), (0, .ref 0), (1, .int a1), (2, .int a2), (3, .int a3)] C dX7_chance_49 n7 rfl rfl ?_
        refine x_iconst 52 C dX7_chance_51 ci_0 rfl ?_
        refine x_istore 54 [(8, .int (0 : Int32)), (6, .long l5), (4, .long (0 : Int64)), (0, .ref 0), (1, .int a1), (2, .int a2), (3, .int a3)] C dX7_chance_52 n8 rfl rfl ?_
        refine x_lt1 (q := 111) (ls := fun l6 => [(3, .int a3), (4, .long l6), (6, .long l5)]) (st := fun l6 => []) (hh := fun l6 => h4) (fun l6 => ?_) (fun k1 J1 => ?_)
        · refine x_iconst 112 C dX7_chance_111 ci_0 rfl ?_
          refine x_istore 114 [(8, .int (0 : Int32)), (3, .int a3), (4, .long l6), (6, .long l5)] C dX7_chance_112 n8 rfl rfl ?_
          refine x_lt2 (q := 161) (ls := fun l7 l8 => [(3, .int a3), (4, .long l7), (6, .long l8)]) (st := fun l7 l8 => []) (hh := fun l7 l8 => h4) (fun l7 l8 => ?_) (fun k2 J2 => ?_)
          · refine x_iload_n 162 C dX7_chance_161 0 rfl rfl rfl ?_
            refine x_if_ne 165 170 C dX7_chance_162 (by decide) rfl (fun _ => ?_) (fun _ => ?_)
            · refine x_lload 172 C dX7_chance_170 2 rfl rfl ?_
              exact x_lret C E dX7_chance_172 rfl
            · refine x_lload 167 C dX7_chance_165 1 rfl rfl ?_
              refine x_goto 172 C dX7_chance_167 (by decide) ?_
              exact x_lret C E dX7_chance_172 rfl
          refine x_ls [1, 2, 3, 0] rfl (x_fx3 (ls := fun l9 l10 x11 => [(3, .int a3), (4, .long l9), (6, .long l10), (8, .int x11)]) (st := fun l9 l10 x11 => []) (hh := fun l9 l10 x11 => h4) (fun s3 J3 l9 l10 x11 => ?_))
          refine x_iload 116 C dX7_chance_114 3 rfl rfl ?_
          refine x_bipush 118 C dX7_chance_116 cb_32 rfl ?_
          refine x_icmp_ge 121 161 C dX7_chance_118 (by decide) rfl (fun _ => ?_) (fun _ => ?_)
          · exact x_ls [0, 1, 2] rfl (J2 l9 l10)
          · refine x_lload 123 C dX7_chance_121 2 rfl rfl ?_
            refine x_lconst 124 C dX7_chance_123 cl_1 rfl ?_
            refine x_lcmp 125 C dX7_chance_124 rfl ?_
            refine x_if_le 128 161 C dX7_chance_125 (by decide) rfl (fun _ => ?_) (fun _ => ?_)
            · exact x_ls [0, 1, 2] rfl (J2 l9 l10)
            · refine x_lload 130 C dX7_chance_128 1 rfl rfl ?_
              refine x_ldc2 133 C dX7_chance_130 kw_X7_268 rfl ?_
              refine x_lrem 134 C dX7_chance_133 nzl_2 rfl ?_
              refine x_lconst 135 C dX7_chance_134 cl_0 rfl ?_
              refine x_lcmp 136 C dX7_chance_135 rfl ?_
              refine x_if_ne 139 161 C dX7_chance_136 (by decide) rfl (fun _ => ?_) (fun _ => ?_)
              · exact x_ls [0, 1, 2] rfl (J2 l9 l10)
              · refine x_lload 141 C dX7_chance_139 1 rfl rfl ?_
                refine x_ldc2 144 C dX7_chance_141 kw_X7_268 rfl ?_
                refine x_ldiv 145 C dX7_chance_144 nzl_2 rfl ?_
                refine x_nl (fun l12 => ?_)
                refine x_lstore 147 [(4, .long l12), (3, .int a3), (6, .long l10), (8, .int x11)] C dX7_chance_145 n5 rfl rfl ?_
                refine x_lload 149 C dX7_chance_147 2 rfl rfl ?_
                refine x_ldc2 152 C dX7_chance_149 kw_X7_268 rfl ?_
                refine x_ldiv 153 C dX7_chance_152 nzl_2 rfl ?_
                refine x_nl (fun l13 => ?_)
                refine x_lstore 155 [(6, .long l13), (4, .long l12), (3, .int a3), (8, .int x11)] C dX7_chance_153 n7 rfl rfl ?_
                refine x_iinc 158 (fun x14 => [(8, .int x14), (6, .long l13), (4, .long l12), (3, .int a3)]) C dX7_chance_155 3 rfl ci_1 n8 (fun _ => rfl) rfl (fun x14 => ?_)
                refine x_goto 114 C dX7_chance_158 (by decide) ?_
                exact x_ls [3, 2, 1, 0] rfl (J3 l12 l13 x14)
        refine x_ls [3, 4, 5, 6, 2, 1, 0] rfl (x_fx2 (ls := fun l15 x16 => [(0, .ref 0), (1, .int a1), (2, .int a2), (3, .int a3), (4, .long l15), (6, .long l5), (8, .int x16)]) (st := fun l15 x16 => []) (hh := fun l15 x16 => h4) (fun s4 J4 l15 x16 => ?_))
        refine x_iload 56 C dX7_chance_54 6 rfl rfl ?_
        refine x_iconst 57 C dX7_chance_56 ci_1 rfl ?_
        refine x_aload_n 58 C dX7_chance_57 0 rfl rfl rfl ?_
        refine x_getR (c := 5) 61 C dX7_chance_58 fl_X7_26 sk_0 rfl sr_0_2 rfl ?_
        refine x_getI 64 C dX7_chance_61 fl_X7_154 sk_5 rfl rfl ?_
        refine x_ishl 65 C dX7_chance_64 rfl ?_
        refine x_icmp_ge 68 111 C dX7_chance_65 (by decide) rfl (fun _ => ?_) (fun _ => ?_)
        · exact x_ls [3, 4, 5] rfl (J1 l15)
        · refine x_iload 70 C dX7_chance_68 6 rfl rfl ?_
          refine x_aload_n 71 C dX7_chance_70 0 rfl rfl rfl ?_
          refine x_getR (c := 56) 74 C dX7_chance_71 fl_X7_51 sk_0 rfl sr_0_7 rfl ?_
          refine x_alen 75 C dX7_chance_74 sk_56 sl_56 rfl ?_
          refine x_icmp_ge 78 111 C dX7_chance_75 (by decide) rfl (fun _ => ?_) (fun _ => ?_)
          · exact x_ls [3, 4, 5] rfl (J1 l15)
          · refine x_aload_n 79 C dX7_chance_78 0 rfl rfl rfl ?_
            refine x_getR (c := 56) 82 C dX7_chance_79 fl_X7_51 sk_0 rfl sr_0_7 rfl ?_
            refine x_iload 84 C dX7_chance_82 6 rfl rfl ?_
            refine x_iald 85 C dX7_chance_84 sk_56 sl_56 rfl ?_
            refine x_iload_n 86 C dX7_chance_85 2 rfl rfl rfl ?_
            refine x_ishr 87 C dX7_chance_86 rfl ?_
            refine x_iconst 88 C dX7_chance_87 ci_1 rfl ?_
            refine x_iand 89 C dX7_chance_88 rfl ?_
            refine x_iconst 90 C dX7_chance_89 ci_1 rfl ?_
            refine x_lt1 (q := 105) (ls := fun l17 => [(0, .ref 0), (1, .int a1), (2, .int a2), (3, .int a3), (4, .long l17), (6, .long l5), (8, .int x16)]) (st := fun l17 => []) (hh := fun l17 => h4) (fun l17 => ?_) (fun k5 J5 => ?_)
            · refine x_iinc 108 (fun x18 => [(8, .int x18), (0, .ref 0), (1, .int a1), (2, .int a2), (3, .int a3), (4, .long l17), (6, .long l5)]) C dX7_chance_105 6 rfl ci_1 n8 (fun _ => rfl) rfl (fun x18 => ?_)
              refine x_goto 54 C dX7_chance_108 (by decide) ?_
              exact x_ls [1, 2, 3, 4, 5, 6, 0] rfl (J4 l17 x18)
            refine x_icmp_ne 93 105 C dX7_chance_90 (by decide) rfl (fun _ => ?_) (fun _ => ?_)
            · exact x_ls [0, 1, 2, 3, 4, 5, 6] rfl (J5 l15)
            · refine x_lload 95 C dX7_chance_93 4 rfl rfl ?_
              refine x_aload_n 96 C dX7_chance_95 0 rfl rfl rfl ?_
              refine x_iload 98 C dX7_chance_96 6 rfl rfl ?_
              refine x_iload_n 99 C dX7_chance_98 1 rfl rfl rfl ?_
              refine x_cvl 102 [.int x16, .int a1] [.long l15] C 0 dX7_chance_99 v_X7_264 (fun u hu => m_X7_weightOf hu) rfl sk_0 rfl (Nat.le_of_ble_eq_true rfl) (Nat.le_of_ble_eq_true rfl) rfl (fun l19 => ?_)
              refine x_ladd 103 C dX7_chance_102 rfl ?_
              refine x_nl (fun l20 => ?_)
              refine x_lstore 105 [(4, .long l20), (0, .ref 0), (1, .int a1), (2, .int a2), (3, .int a3), (6, .long l5), (8, .int x16)] C dX7_chance_103 n5 rfl rfl ?_
              exact x_ls [1, 2, 3, 4, 0, 5, 6] rfl (J5 l20)
      · refine x_ldc2 30 C dX7_chance_27 kw_X7_259 rfl ?_
        exact x_lret C E dX7_chance_30 rfl

def f_X7_shows (h : Hp) (a1 : Int32) (a2 : Int32) (a3 : Int32) : Option (Hp × Int32) :=
  bdr (f_X7_within a2 (0 : Int32) (24 : Int32)) fun x1 =>
  if x1 = 0 then (
    some (h, (-2 : Int32)))
  else (
    bdr (f_X7_within a3 (0 : Int32) (1 : Int32)) fun x2 =>
    if x2 = 0 then (
      some (h, (-2 : Int32)))
    else (
      lt1 (fun (h3 : Hp) =>
        bdv (f_X2_play h3 36 55 (0 : Int32) (0 : Int32)) fun h4 =>
        if a3 = 0 then (
          some (h4, (h4.1 36 13)))
        else (
          some (h4, (h4.1 36 12)))) fun k1 =>
      fx3 FU (fun s2 (h5 : Hp) (x6 : Int32) (x7 : Int32) =>
        if (24 : Int32) ≤ x7 then (
          k1 h5)
        else (
          nm (((1103515245 : Int32) * x6) + (12345 : Int32)) fun x8 =>
          lt1 (fun (x9 : Int32) =>
            ck x7 24 (nm (ux h5 55 x7 x9) fun h10 =>
            nm (x7 + (1 : Int32)) fun x11 =>
            s2 h10 x8 x11)) fun k3 =>
          if a2 ≤ x7 then (
            k3 (0 : Int32))
          else (
            k3 (((x8.toUInt32 >>> ((16 : Int32).toUInt32 &&& Int32.toUInt32 31)).toInt32) - ((x8.toUInt32 >>> ((16 : Int32).toUInt32 &&& Int32.toUInt32 31)).toInt32) / (4 : Int32) * (4 : Int32))))) h a1 (0 : Int32)))
theorem dX7_shows_0 : decode cX7_shows 0 = .ok (.iload_n 2, 1) := by decide +kernel
theorem dX7_shows_1 : decode cX7_shows 1 = .ok (.iconst 0, 1) := by decide +kernel
theorem dX7_shows_2 : decode cX7_shows 2 = .ok (.bipush 24, 2) := by decide +kernel
theorem dX7_shows_4 : decode cX7_shows 4 = .ok (.invokestatic 85, 3) := by decide +kernel
theorem dX7_shows_7 : decode cX7_shows 7 = .ok (.ifCond .eq 12, 3) := by decide +kernel
theorem dX7_shows_10 : decode cX7_shows 10 = .ok (.iload_n 3, 1) := by decide +kernel
theorem dX7_shows_11 : decode cX7_shows 11 = .ok (.iconst 0, 1) := by decide +kernel
theorem dX7_shows_12 : decode cX7_shows 12 = .ok (.iconst 1, 1) := by decide +kernel
theorem dX7_shows_13 : decode cX7_shows 13 = .ok (.invokestatic 85, 3) := by decide +kernel
theorem dX7_shows_16 : decode cX7_shows 16 = .ok (.ifCond .ne 6, 3) := by decide +kernel
theorem dX7_shows_19 : decode cX7_shows 19 = .ok (.bipush (-2), 2) := by decide +kernel
theorem dX7_shows_21 : decode cX7_shows 21 = .ok (.ireturn, 1) := by decide +kernel
theorem dX7_shows_22 : decode cX7_shows 22 = .ok (.iload_n 1, 1) := by decide +kernel
theorem dX7_shows_23 : decode cX7_shows 23 = .ok (.istore 4, 2) := by decide +kernel
theorem dX7_shows_25 : decode cX7_shows 25 = .ok (.iconst 0, 1) := by decide +kernel
theorem dX7_shows_26 : decode cX7_shows 26 = .ok (.istore 5, 2) := by decide +kernel
theorem dX7_shows_28 : decode cX7_shows 28 = .ok (.iload 5, 2) := by decide +kernel
theorem dX7_shows_30 : decode cX7_shows 30 = .ok (.bipush 24, 2) := by decide +kernel
theorem dX7_shows_32 : decode cX7_shows 32 = .ok (.if_icmp .ge 45, 3) := by decide +kernel
theorem dX7_shows_35 : decode cX7_shows 35 = .ok (.ldc_w 270, 3) := by decide +kernel
theorem dX7_shows_38 : decode cX7_shows 38 = .ok (.iload 4, 2) := by decide +kernel
theorem dX7_shows_40 : decode cX7_shows 40 = .ok (.imul, 1) := by decide +kernel
theorem dX7_shows_41 : decode cX7_shows 41 = .ok (.sipush 12345, 3) := by decide +kernel
theorem dX7_shows_44 : decode cX7_shows 44 = .ok (.iadd, 1) := by decide +kernel
theorem dX7_shows_45 : decode cX7_shows 45 = .ok (.istore 4, 2) := by decide +kernel
theorem dX7_shows_47 : decode cX7_shows 47 = .ok (.aload_n 0, 1) := by decide +kernel
theorem dX7_shows_48 : decode cX7_shows 48 = .ok (.getfield 47, 3) := by decide +kernel
theorem dX7_shows_51 : decode cX7_shows 51 = .ok (.iload 5, 2) := by decide +kernel
theorem dX7_shows_53 : decode cX7_shows 53 = .ok (.iload 5, 2) := by decide +kernel
theorem dX7_shows_55 : decode cX7_shows 55 = .ok (.iload_n 2, 1) := by decide +kernel
theorem dX7_shows_56 : decode cX7_shows 56 = .ok (.if_icmp .ge 13, 3) := by decide +kernel
theorem dX7_shows_59 : decode cX7_shows 59 = .ok (.iload 4, 2) := by decide +kernel
theorem dX7_shows_61 : decode cX7_shows 61 = .ok (.bipush 16, 2) := by decide +kernel
theorem dX7_shows_63 : decode cX7_shows 63 = .ok (.iushr, 1) := by decide +kernel
theorem dX7_shows_64 : decode cX7_shows 64 = .ok (.iconst 4, 1) := by decide +kernel
theorem dX7_shows_65 : decode cX7_shows 65 = .ok (.irem, 1) := by decide +kernel
theorem dX7_shows_66 : decode cX7_shows 66 = .ok (.goto 4, 3) := by decide +kernel
theorem dX7_shows_69 : decode cX7_shows 69 = .ok (.iconst 0, 1) := by decide +kernel
theorem dX7_shows_70 : decode cX7_shows 70 = .ok (.iastore, 1) := by decide +kernel
theorem dX7_shows_71 : decode cX7_shows 71 = .ok (.iinc 5 1, 3) := by decide +kernel
theorem dX7_shows_74 : decode cX7_shows 74 = .ok (.goto (-46), 3) := by decide +kernel
theorem dX7_shows_77 : decode cX7_shows 77 = .ok (.aload_n 0, 1) := by decide +kernel
theorem dX7_shows_78 : decode cX7_shows 78 = .ok (.getfield 44, 3) := by decide +kernel
theorem dX7_shows_81 : decode cX7_shows 81 = .ok (.aload_n 0, 1) := by decide +kernel
theorem dX7_shows_82 : decode cX7_shows 82 = .ok (.getfield 26, 3) := by decide +kernel
theorem dX7_shows_85 : decode cX7_shows 85 = .ok (.aload_n 0, 1) := by decide +kernel
theorem dX7_shows_86 : decode cX7_shows 86 = .ok (.getfield 47, 3) := by decide +kernel
theorem dX7_shows_89 : decode cX7_shows 89 = .ok (.iconst 0, 1) := by decide +kernel
theorem dX7_shows_90 : decode cX7_shows 90 = .ok (.iconst 0, 1) := by decide +kernel
theorem dX7_shows_91 : decode cX7_shows 91 = .ok (.invokevirtual 233, 3) := by decide +kernel
theorem dX7_shows_94 : decode cX7_shows 94 = .ok (.iload_n 3, 1) := by decide +kernel
theorem dX7_shows_95 : decode cX7_shows 95 = .ok (.ifCond .ne 13, 3) := by decide +kernel
theorem dX7_shows_98 : decode cX7_shows 98 = .ok (.aload_n 0, 1) := by decide +kernel
theorem dX7_shows_99 : decode cX7_shows 99 = .ok (.getfield 44, 3) := by decide +kernel
theorem dX7_shows_102 : decode cX7_shows 102 = .ok (.getfield 207, 3) := by decide +kernel
theorem dX7_shows_105 : decode cX7_shows 105 = .ok (.goto 10, 3) := by decide +kernel
theorem dX7_shows_108 : decode cX7_shows 108 = .ok (.aload_n 0, 1) := by decide +kernel
theorem dX7_shows_109 : decode cX7_shows 109 = .ok (.getfield 44, 3) := by decide +kernel
theorem dX7_shows_112 : decode cX7_shows 112 = .ok (.getfield 213, 3) := by decide +kernel
theorem dX7_shows_115 : decode cX7_shows 115 = .ok (.ireturn, 1) := by decide +kernel
set_option maxRecDepth 20000 in
theorem m_X7_shows {h : Hp} {a1 : Int32} {a2 : Int32} {a3 : Int32}  {u : (Hp × Int32)} (hu : f_X7_shows h a1 a2 a3 = some u) : Ct yX7_shows cX7_shows 6 (some .int) 4 [.ref 0, .int a1, .int a2, .int a3] h (eI u) := by
  refine ct_of eI hu (by decide) (Nat.le_of_ble_eq_true rfl) (fun κ hn C E => ?_)
  have n4 : 4 < kn κ := by rw [hn]; decide
  have n5 : 5 < kn κ := by rw [hn]; decide
  unfold f_X7_shows
  show Xz κ _ 0 [(0, .ref 0), (1, .int a1), (2, .int a2), (3, .int a3)] [] h
  refine x_iload_n 1 C dX7_shows_0 2 rfl rfl rfl ?_
  refine x_iconst 2 C dX7_shows_1 ci_0 rfl ?_
  refine x_bipush 4 C dX7_shows_2 cb_24 rfl ?_
  refine x_csi 7 [.int a2, .int (0 : Int32), .int (24 : Int32)] [] C 0 dX7_shows_4 s_X7_85 (fun u hu => m_X7_within hu) rfl rfl (Nat.le_of_ble_eq_true rfl) (Nat.le_of_ble_eq_true rfl) rfl (fun x1 => ?_)
  refine x_if_eq 10 19 C dX7_shows_7 (by decide) rfl (fun _ => ?_) (fun _ => ?_)
  · refine x_bipush 21 C dX7_shows_19 cb_m2 rfl ?_
    exact x_iret C E dX7_shows_21 rfl
  · refine x_iload_n 11 C dX7_shows_10 3 rfl rfl rfl ?_
    refine x_iconst 12 C dX7_shows_11 ci_0 rfl ?_
    refine x_iconst 13 C dX7_shows_12 ci_1 rfl ?_
    refine x_csi 16 [.int a3, .int (0 : Int32), .int (1 : Int32)] [] C 0 dX7_shows_13 s_X7_85 (fun u hu => m_X7_within hu) rfl rfl (Nat.le_of_ble_eq_true rfl) (Nat.le_of_ble_eq_true rfl) rfl (fun x2 => ?_)
    refine x_if_ne 19 22 C dX7_shows_16 (by decide) rfl (fun _ => ?_) (fun _ => ?_)
    · refine x_iload_n 23 C dX7_shows_22 1 rfl rfl rfl ?_
      refine x_istore 25 [(4, .int a1), (0, .ref 0), (1, .int a1), (2, .int a2), (3, .int a3)] C dX7_shows_23 n4 rfl rfl ?_
      refine x_iconst 26 C dX7_shows_25 ci_0 rfl ?_
      refine x_istore 28 [(5, .int (0 : Int32)), (4, .int a1), (0, .ref 0), (1, .int a1), (2, .int a2), (3, .int a3)] C dX7_shows_26 n5 rfl rfl ?_
      refine x_lt1 (q := 77) (ls := fun h3 => [(0, .ref 0), (3, .int a3)]) (st := fun h3 => []) (hh := fun h3 => h3) (fun h3 => ?_) (fun k1 J1 => ?_)
      · refine x_aload_n 78 C dX7_shows_77 0 rfl rfl rfl ?_
        refine x_getR (c := 36) 81 C dX7_shows_78 fl_X7_44 sk_0 rfl sr_0_5 rfl ?_
        refine x_aload_n 82 C dX7_shows_81 0 rfl rfl rfl ?_
        refine x_getR (c := 5) 85 C dX7_shows_82 fl_X7_26 sk_0 rfl sr_0_2 rfl ?_
        refine x_aload_n 86 C dX7_shows_85 0 rfl rfl rfl ?_
        refine x_getR (c := 55) 89 C dX7_shows_86 fl_X7_47 sk_0 rfl sr_0_6 rfl ?_
        refine x_iconst 90 C dX7_shows_89 ci_0 rfl ?_
        refine x_iconst 91 C dX7_shows_90 ci_0 rfl ?_
        refine x_cvV 94 [.ref 5, .ref 55, .int (0 : Int32), .int (0 : Int32)] [] C 3 dX7_shows_91 v_X7_233 (fun u hu => m_X2_play sk_36 sk_55 hu) rfl sk_36 rfl (Nat.le_of_ble_eq_true rfl) (Nat.le_of_ble_eq_true rfl) rfl (fun h4 => ?_)
        refine x_iload_n 95 C dX7_shows_94 1 rfl rfl rfl ?_
        refine x_if_ne 98 108 C dX7_shows_95 (by decide) rfl (fun _ => ?_) (fun _ => ?_)
        · refine x_aload_n 109 C dX7_shows_108 0 rfl rfl rfl ?_
          refine x_getR (c := 36) 112 C dX7_shows_109 fl_X7_44 sk_0 rfl sr_0_5 rfl ?_
          refine x_getI 115 C dX7_shows_112 fl_X7_213 sk_36 rfl rfl ?_
          exact x_iret C E dX7_shows_115 rfl
        · refine x_aload_n 99 C dX7_shows_98 0 rfl rfl rfl ?_
          refine x_getR (c := 36) 102 C dX7_shows_99 fl_X7_44 sk_0 rfl sr_0_5 rfl ?_
          refine x_getI 105 C dX7_shows_102 fl_X7_207 sk_36 rfl rfl ?_
          refine x_goto 115 C dX7_shows_105 (by decide) ?_
          exact x_iret C E dX7_shows_115 rfl
      refine x_ls [2, 4, 5, 1, 0] rfl (x_fx3 (ls := fun h5 x6 x7 => [(0, .ref 0), (2, .int a2), (3, .int a3), (4, .int x6), (5, .int x7)]) (st := fun h5 x6 x7 => []) (hh := fun h5 x6 x7 => h5) (fun s2 J2 h5 x6 x7 => ?_))
      refine x_iload 30 C dX7_shows_28 4 rfl rfl ?_
      refine x_bipush 32 C dX7_shows_30 cb_24 rfl ?_
      refine x_icmp_ge 35 77 C dX7_shows_32 (by decide) rfl (fun _ => ?_) (fun _ => ?_)
      · exact x_ls [0, 2] rfl (J1 h5)
      · refine x_ldcw 38 C dX7_shows_35 kw_X7_270 rfl ?_
        refine x_iload 40 C dX7_shows_38 3 rfl rfl ?_
        refine x_imul 41 C dX7_shows_40 rfl ?_
        refine x_sipush 44 C dX7_shows_41 cs_12345 rfl ?_
        refine x_iadd 45 C dX7_shows_44 rfl ?_
        refine x_ni (fun x8 => ?_)
        refine x_istore 47 [(4, .int x8), (0, .ref 0), (2, .int a2), (3, .int a3), (5, .int x7)] C dX7_shows_45 n4 rfl rfl ?_
        refine x_aload_n 48 C dX7_shows_47 1 rfl rfl rfl ?_
        refine x_getR (c := 55) 51 C dX7_shows_48 fl_X7_47 sk_0 rfl sr_0_6 rfl ?_
        refine x_iload 53 C dX7_shows_51 4 rfl rfl ?_
        refine x_iload 55 C dX7_shows_53 4 rfl rfl ?_
        refine x_iload_n 56 C dX7_shows_55 2 rfl rfl rfl ?_
        refine x_lt1 (q := 70) (ls := fun x9 => [(0, .ref 0), (2, .int a2), (3, .int a3), (4, .int x8), (5, .int x7)]) (st := fun x9 => [.int x9, .int x7, .ref 55]) (hh := fun x9 => h5) (fun x9 => ?_) (fun k3 J3 => ?_)
        · refine x_iast 71 C dX7_shows_70 sk_55 sl_55 rfl (fun h10 => ?_)
          refine x_iinc 74 (fun x11 => [(5, .int x11), (0, .ref 0), (2, .int a2), (3, .int a3), (4, .int x8)]) C dX7_shows_71 4 rfl ci_1 n5 (fun _ => rfl) rfl (fun x11 => ?_)
          refine x_goto 28 C dX7_shows_74 (by decide) ?_
          exact x_ls [1, 2, 3, 4, 0] rfl (J2 h10 x8 x11)
        refine x_icmp_ge 59 69 C dX7_shows_56 (by decide) rfl (fun _ => ?_) (fun _ => ?_)
        · refine x_iconst 70 C dX7_shows_69 ci_0 rfl ?_
          exact x_ls [1, 2, 3, 0, 4] rfl (J3 (0 : Int32))
        · refine x_iload 61 C dX7_shows_59 0 rfl rfl ?_
          refine x_bipush 63 C dX7_shows_61 cb_16 rfl ?_
          refine x_iushr 64 C dX7_shows_63 rfl ?_
          refine x_iconst 65 C dX7_shows_64 ci_4 rfl ?_
          refine x_irem 66 C dX7_shows_65 nz_4 rfl ?_
          refine x_goto 70 C dX7_shows_66 (by decide) ?_
          exact x_ls [1, 2, 3, 0, 4] rfl (J3 (((x8.toUInt32 >>> ((16 : Int32).toUInt32 &&& Int32.toUInt32 31)).toInt32) - ((x8.toUInt32 >>> ((16 : Int32).toUInt32 &&& Int32.toUInt32 31)).toInt32) / (4 : Int32) * (4 : Int32)))
    · refine x_bipush 21 C dX7_shows_19 cb_m2 rfl ?_
      exact x_iret C E dX7_shows_21 rfl

def f_X7_isForm (a1 : Int32) : Option Int32 :=
  bdr (f_X7_within a1 (0 : Int32) (2 : Int32)) fun x1 =>
  cy (x1 = 0 ∨ x1 = 1) (some x1)
theorem dX7_isForm_0 : decode cX7_isForm 0 = .ok (.iload_n 0, 1) := by decide +kernel
theorem dX7_isForm_1 : decode cX7_isForm 1 = .ok (.iconst 0, 1) := by decide +kernel
theorem dX7_isForm_2 : decode cX7_isForm 2 = .ok (.iconst 2, 1) := by decide +kernel
theorem dX7_isForm_3 : decode cX7_isForm 3 = .ok (.invokestatic 85, 3) := by decide +kernel
theorem dX7_isForm_6 : decode cX7_isForm 6 = .ok (.ireturn, 1) := by decide +kernel
set_option maxRecDepth 20000 in
theorem m_X7_isForm {h : Hp} {a1 : Int32}  {u : Int32} (hu : f_X7_isForm a1 = some u) : Ct yX7_isForm cX7_isForm 1 (some .boolean) 1 [.int a1] h ((rI h) u) := by
  refine ct_of (rI h) hu (by decide) (Nat.le_of_ble_eq_true rfl) (fun κ hn C E => ?_)
  unfold f_X7_isForm
  show Xz κ _ 0 [(0, .int a1)] [] h
  refine x_iload_n 1 C dX7_isForm_0 0 rfl rfl rfl ?_
  refine x_iconst 2 C dX7_isForm_1 ci_0 rfl ?_
  refine x_iconst 3 C dX7_isForm_2 ci_2 rfl ?_
  refine x_csi 6 [.int a1, .int (0 : Int32), .int (2 : Int32)] [] C 0 dX7_isForm_3 s_X7_85 (fun u hu => m_X7_within hu) rfl rfl (Nat.le_of_ble_eq_true rfl) (Nat.le_of_ble_eq_true rfl) rfl (fun x1 => ?_)
  exact x_zrc C E dX7_isForm_6 rfl

def f_X7_sheet (h : Hp) (a1 : Int32) (a2 : Int32) (a3 : Int32) : Option (Hp × Int32) :=
  bdr (f_X7_isSheet a1) fun x1 =>
  if x1 = 0 then (
    some (h, (-2 : Int32)))
  else (
    bdr (f_X7_isForm a2) fun x2 =>
    if x2 = 0 then (
      some (h, (-2 : Int32)))
    else (
      if a3 ≤ (60 : Int32) then (
        if 0 ≤ a3 then (
          ck a1 4 (
            bdv (f_X1_makeNew h (60 + 2 * a1.toNatClampNeg) a2 a3) fun h4 =>
            some (h4, a3)))
        else (
          bnd (f_X7_found h (5 : Int32)) fun h5 x6 =>
          some (h5, x6)))
      else (
        some (h, (-2 : Int32)))))
theorem dX7_sheet_0 : decode cX7_sheet 0 = .ok (.iload_n 1, 1) := by decide +kernel
theorem dX7_sheet_1 : decode cX7_sheet 1 = .ok (.invokestatic 157, 3) := by decide +kernel
theorem dX7_sheet_4 : decode cX7_sheet 4 = .ok (.ifCond .eq 16, 3) := by decide +kernel
theorem dX7_sheet_7 : decode cX7_sheet 7 = .ok (.iload_n 2, 1) := by decide +kernel
theorem dX7_sheet_8 : decode cX7_sheet 8 = .ok (.invokestatic 288, 3) := by decide +kernel
theorem dX7_sheet_11 : decode cX7_sheet 11 = .ok (.ifCond .eq 9, 3) := by decide +kernel
theorem dX7_sheet_14 : decode cX7_sheet 14 = .ok (.iload_n 3, 1) := by decide +kernel
theorem dX7_sheet_15 : decode cX7_sheet 15 = .ok (.bipush 60, 2) := by decide +kernel
theorem dX7_sheet_17 : decode cX7_sheet 17 = .ok (.if_icmp .le 6, 3) := by decide +kernel
theorem dX7_sheet_20 : decode cX7_sheet 20 = .ok (.bipush (-2), 2) := by decide +kernel
theorem dX7_sheet_22 : decode cX7_sheet 22 = .ok (.ireturn, 1) := by decide +kernel
theorem dX7_sheet_23 : decode cX7_sheet 23 = .ok (.iload_n 3, 1) := by decide +kernel
theorem dX7_sheet_24 : decode cX7_sheet 24 = .ok (.ifCond .ge 9, 3) := by decide +kernel
theorem dX7_sheet_27 : decode cX7_sheet 27 = .ok (.aload_n 0, 1) := by decide +kernel
theorem dX7_sheet_28 : decode cX7_sheet 28 = .ok (.iconst 5, 1) := by decide +kernel
theorem dX7_sheet_29 : decode cX7_sheet 29 = .ok (.invokevirtual 163, 3) := by decide +kernel
theorem dX7_sheet_32 : decode cX7_sheet 32 = .ok (.ireturn, 1) := by decide +kernel
theorem dX7_sheet_33 : decode cX7_sheet 33 = .ok (.aload_n 0, 1) := by decide +kernel
theorem dX7_sheet_34 : decode cX7_sheet 34 = .ok (.getfield 63, 3) := by decide +kernel
theorem dX7_sheet_37 : decode cX7_sheet 37 = .ok (.iload_n 1, 1) := by decide +kernel
theorem dX7_sheet_38 : decode cX7_sheet 38 = .ok (.aaload, 1) := by decide +kernel
theorem dX7_sheet_39 : decode cX7_sheet 39 = .ok (.iload_n 2, 1) := by decide +kernel
theorem dX7_sheet_40 : decode cX7_sheet 40 = .ok (.iload_n 3, 1) := by decide +kernel
theorem dX7_sheet_41 : decode cX7_sheet 41 = .ok (.invokevirtual 291, 3) := by decide +kernel
theorem dX7_sheet_44 : decode cX7_sheet 44 = .ok (.iload_n 3, 1) := by decide +kernel
theorem dX7_sheet_45 : decode cX7_sheet 45 = .ok (.ireturn, 1) := by decide +kernel
set_option maxRecDepth 20000 in
theorem m_X7_sheet {h : Hp} {a1 : Int32} {a2 : Int32} {a3 : Int32}  {u : (Hp × Int32)} (hu : f_X7_sheet h a1 a2 a3 = some u) : Ct yX7_sheet cX7_sheet 4 (some .int) 2 [.ref 0, .int a1, .int a2, .int a3] h (eI u) := by
  refine ct_of eI hu (by decide) (Nat.le_of_ble_eq_true rfl) (fun κ hn C E => ?_)
  unfold f_X7_sheet
  show Xz κ _ 0 [(0, .ref 0), (1, .int a1), (2, .int a2), (3, .int a3)] [] h
  refine x_iload_n 1 C dX7_sheet_0 1 rfl rfl rfl ?_
  refine x_csi 4 [.int a1] [] C 1 dX7_sheet_1 s_X7_157 (fun u hu => m_X7_isSheet hu) rfl rfl (Nat.le_of_ble_eq_true rfl) (Nat.le_of_ble_eq_true rfl) rfl (fun x1 => ?_)
  refine x_if_eq 7 20 C dX7_sheet_4 (by decide) rfl (fun _ => ?_) (fun _ => ?_)
  · refine x_bipush 22 C dX7_sheet_20 cb_m2 rfl ?_
    exact x_iret C E dX7_sheet_22 rfl
  · refine x_iload_n 8 C dX7_sheet_7 2 rfl rfl rfl ?_
    refine x_csi 11 [.int a2] [] C 1 dX7_sheet_8 s_X7_288 (fun u hu => m_X7_isForm hu) rfl rfl (Nat.le_of_ble_eq_true rfl) (Nat.le_of_ble_eq_true rfl) rfl (fun x2 => ?_)
    refine x_if_eq 14 20 C dX7_sheet_11 (by decide) rfl (fun _ => ?_) (fun _ => ?_)
    · refine x_bipush 22 C dX7_sheet_20 cb_m2 rfl ?_
      exact x_iret C E dX7_sheet_22 rfl
    · refine x_iload_n 15 C dX7_sheet_14 3 rfl rfl rfl ?_
      refine x_bipush 17 C dX7_sheet_15 cb_60 rfl ?_
      refine x_icmp_le 20 23 C dX7_sheet_17 (by decide) rfl (fun _ => ?_) (fun _ => ?_)
      · refine x_iload_n 24 C dX7_sheet_23 3 rfl rfl rfl ?_
        refine x_if_ge 27 33 C dX7_sheet_24 (by decide) rfl (fun _ => ?_) (fun _ => ?_)
        · refine x_aload_n 34 C dX7_sheet_33 0 rfl rfl rfl ?_
          refine x_getR (c := 59) 37 C dX7_sheet_34 fl_X7_63 sk_0 rfl sr_0_10 rfl ?_
          refine x_iload_n 38 C dX7_sheet_37 1 rfl rfl rfl ?_
          refine x_aald 39 C dX7_sheet_38 rfl (fun hs3 => ?_)
          refine x_iload_n 40 C dX7_sheet_39 2 rfl rfl rfl ?_
          refine x_iload_n 41 C dX7_sheet_40 3 rfl rfl rfl ?_
          refine x_cvV 44 [.int a2, .int a3] [] C 1 dX7_sheet_41 v_X7_291 (fun u hu => m_X1_makeNew (sk_sh hs3) hu) rfl (sk_sh hs3) rfl (Nat.le_of_ble_eq_true rfl) (Nat.le_of_ble_eq_true rfl) rfl (fun h4 => ?_)
          refine x_iload_n 45 C dX7_sheet_44 3 rfl rfl rfl ?_
          exact x_iret C E dX7_sheet_45 rfl
        · refine x_aload_n 28 C dX7_sheet_27 0 rfl rfl rfl ?_
          refine x_iconst 29 C dX7_sheet_28 ci_5 rfl ?_
          refine x_cvI 32 [.int (5 : Int32)] [] C 0 dX7_sheet_29 v_X7_163 (fun u hu => m_X7_found hu) rfl sk_0 rfl (Nat.le_of_ble_eq_true rfl) (Nat.le_of_ble_eq_true rfl) rfl (fun h5 x6 => ?_)
          exact x_iret C E dX7_sheet_32 rfl
      · refine x_bipush 22 C dX7_sheet_20 cb_m2 rfl ?_
        exact x_iret C E dX7_sheet_22 rfl

def f_X7_lose (h : Hp) (a1 : Int32) : Option (Hp × Int32) :=
  bdr (f_X7_isSheet a1) fun x1 =>
  if x1 = 0 then (
    some (h, (-2 : Int32)))
  else (
    ck a1 4 (
      if (h.1 (60 + 2 * a1.toNatClampNeg) 1) = 0 then (
        nm (uf h (60 + 2 * a1.toNatClampNeg) 1 (1 : Int32)) fun h3 =>
        some (h3, (h3.1 (60 + 2 * a1.toNatClampNeg) 3)))
      else (
        bnd (f_X7_found h (1 : Int32)) fun h4 x5 =>
        some (h4, x5))))
theorem dX7_lose_0 : decode cX7_lose 0 = .ok (.iload_n 1, 1) := by decide +kernel
theorem dX7_lose_1 : decode cX7_lose 1 = .ok (.invokestatic 157, 3) := by decide +kernel
theorem dX7_lose_4 : decode cX7_lose 4 = .ok (.ifCond .ne 6, 3) := by decide +kernel
theorem dX7_lose_7 : decode cX7_lose 7 = .ok (.bipush (-2), 2) := by decide +kernel
theorem dX7_lose_9 : decode cX7_lose 9 = .ok (.ireturn, 1) := by decide +kernel
theorem dX7_lose_10 : decode cX7_lose 10 = .ok (.aload_n 0, 1) := by decide +kernel
theorem dX7_lose_11 : decode cX7_lose 11 = .ok (.getfield 63, 3) := by decide +kernel
theorem dX7_lose_14 : decode cX7_lose 14 = .ok (.iload_n 1, 1) := by decide +kernel
theorem dX7_lose_15 : decode cX7_lose 15 = .ok (.aaload, 1) := by decide +kernel
theorem dX7_lose_16 : decode cX7_lose 16 = .ok (.astore_n 2, 1) := by decide +kernel
theorem dX7_lose_17 : decode cX7_lose 17 = .ok (.aload_n 2, 1) := by decide +kernel
theorem dX7_lose_18 : decode cX7_lose 18 = .ok (.getfield 160, 3) := by decide +kernel
theorem dX7_lose_21 : decode cX7_lose 21 = .ok (.ifCond .eq 9, 3) := by decide +kernel
theorem dX7_lose_24 : decode cX7_lose 24 = .ok (.aload_n 0, 1) := by decide +kernel
theorem dX7_lose_25 : decode cX7_lose 25 = .ok (.iconst 1, 1) := by decide +kernel
theorem dX7_lose_26 : decode cX7_lose 26 = .ok (.invokevirtual 163, 3) := by decide +kernel
theorem dX7_lose_29 : decode cX7_lose 29 = .ok (.ireturn, 1) := by decide +kernel
theorem dX7_lose_30 : decode cX7_lose 30 = .ok (.aload_n 2, 1) := by decide +kernel
theorem dX7_lose_31 : decode cX7_lose 31 = .ok (.iconst 1, 1) := by decide +kernel
theorem dX7_lose_32 : decode cX7_lose 32 = .ok (.putfield 160, 3) := by decide +kernel
theorem dX7_lose_35 : decode cX7_lose 35 = .ok (.aload_n 2, 1) := by decide +kernel
theorem dX7_lose_36 : decode cX7_lose 36 = .ok (.getfield 167, 3) := by decide +kernel
theorem dX7_lose_39 : decode cX7_lose 39 = .ok (.ireturn, 1) := by decide +kernel
set_option maxRecDepth 20000 in
theorem m_X7_lose {h : Hp} {a1 : Int32}  {u : (Hp × Int32)} (hu : f_X7_lose h a1 = some u) : Ct yX7_lose cX7_lose 3 (some .int) 2 [.ref 0, .int a1] h (eI u) := by
  refine ct_of eI hu (by decide) (Nat.le_of_ble_eq_true rfl) (fun κ hn C E => ?_)
  have n2 : 2 < kn κ := by rw [hn]; decide
  unfold f_X7_lose
  show Xz κ _ 0 [(0, .ref 0), (1, .int a1)] [] h
  refine x_iload_n 1 C dX7_lose_0 1 rfl rfl rfl ?_
  refine x_csi 4 [.int a1] [] C 1 dX7_lose_1 s_X7_157 (fun u hu => m_X7_isSheet hu) rfl rfl (Nat.le_of_ble_eq_true rfl) (Nat.le_of_ble_eq_true rfl) rfl (fun x1 => ?_)
  refine x_if_ne 7 10 C dX7_lose_4 (by decide) rfl (fun _ => ?_) (fun _ => ?_)
  · refine x_aload_n 11 C dX7_lose_10 0 rfl rfl rfl ?_
    refine x_getR (c := 59) 14 C dX7_lose_11 fl_X7_63 sk_0 rfl sr_0_10 rfl ?_
    refine x_iload_n 15 C dX7_lose_14 1 rfl rfl rfl ?_
    refine x_aald 16 C dX7_lose_15 rfl (fun hs2 => ?_)
    refine x_astore_n 17 [(2, .ref (60 + 2 * a1.toNatClampNeg)), (0, .ref 0), (1, .int a1)] C dX7_lose_16 n2 rfl rfl rfl ?_
    refine x_aload_n 18 C dX7_lose_17 0 rfl rfl rfl ?_
    refine x_getI 21 C dX7_lose_18 fl_X7_160 (sk_sh hs2) rfl rfl ?_
    refine x_if_eq 24 30 C dX7_lose_21 (by decide) rfl (fun _ => ?_) (fun _ => ?_)
    · refine x_aload_n 31 C dX7_lose_30 0 rfl rfl rfl ?_
      refine x_iconst 32 C dX7_lose_31 ci_1 rfl ?_
      refine x_put 35 C dX7_lose_32 fp_X7_160 (sk_sh hs2) rfl rfl rfl rfl (fun h3 => ?_)
      refine x_aload_n 36 C dX7_lose_35 0 rfl rfl rfl ?_
      refine x_getI 39 C dX7_lose_36 fl_X7_167 (sk_sh hs2) rfl rfl ?_
      exact x_iret C E dX7_lose_39 rfl
    · refine x_aload_n 25 C dX7_lose_24 1 rfl rfl rfl ?_
      refine x_iconst 26 C dX7_lose_25 ci_1 rfl ?_
      refine x_cvI 29 [.int (1 : Int32)] [] C 0 dX7_lose_26 v_X7_163 (fun u hu => m_X7_found hu) rfl sk_0 rfl (Nat.le_of_ble_eq_true rfl) (Nat.le_of_ble_eq_true rfl) rfl (fun h4 x5 => ?_)
      exact x_iret C E dX7_lose_29 rfl
  · refine x_bipush 9 C dX7_lose_7 cb_m2 rfl ?_
    exact x_iret C E dX7_lose_9 rfl

def f_X7_findingAt (h : Hp) (a1 : Nat) (a2 : Int32) (a3 : Int32) : Option Int32 :=
  if (h.1 a1 1) = 0 then (
    if (h.1 a1 2) = a2 then (
      bdr (f_X7_within a3 (0 : Int32) ((h.1 a1 3) - (1 : Int32))) fun x1 =>
      if x1 = 0 then (
        some (2 : Int32))
      else (
        some (0 : Int32)))
    else (
      some (3 : Int32)))
  else (
    some (1 : Int32))
theorem dX7_findingAt_0 : decode cX7_findingAt 0 = .ok (.aload_n 0, 1) := by decide +kernel
theorem dX7_findingAt_1 : decode cX7_findingAt 1 = .ok (.getfield 160, 3) := by decide +kernel
theorem dX7_findingAt_4 : decode cX7_findingAt 4 = .ok (.ifCond .eq 5, 3) := by decide +kernel
theorem dX7_findingAt_7 : decode cX7_findingAt 7 = .ok (.iconst 1, 1) := by decide +kernel
theorem dX7_findingAt_8 : decode cX7_findingAt 8 = .ok (.ireturn, 1) := by decide +kernel
theorem dX7_findingAt_9 : decode cX7_findingAt 9 = .ok (.aload_n 0, 1) := by decide +kernel
theorem dX7_findingAt_10 : decode cX7_findingAt 10 = .ok (.getfield 302, 3) := by decide +kernel
theorem dX7_findingAt_13 : decode cX7_findingAt 13 = .ok (.iload_n 1, 1) := by decide +kernel
theorem dX7_findingAt_14 : decode cX7_findingAt 14 = .ok (.if_icmp .eq 5, 3) := by decide +kernel
theorem dX7_findingAt_17 : decode cX7_findingAt 17 = .ok (.iconst 3, 1) := by decide +kernel
theorem dX7_findingAt_18 : decode cX7_findingAt 18 = .ok (.ireturn, 1) := by decide +kernel
theorem dX7_findingAt_19 : decode cX7_findingAt 19 = .ok (.iload_n 2, 1) := by decide +kernel
theorem dX7_findingAt_20 : decode cX7_findingAt 20 = .ok (.iconst 0, 1) := by decide +kernel
theorem dX7_findingAt_21 : decode cX7_findingAt 21 = .ok (.aload_n 0, 1) := by decide +kernel
theorem dX7_findingAt_22 : decode cX7_findingAt 22 = .ok (.getfield 167, 3) := by decide +kernel
theorem dX7_findingAt_25 : decode cX7_findingAt 25 = .ok (.iconst 1, 1) := by decide +kernel
theorem dX7_findingAt_26 : decode cX7_findingAt 26 = .ok (.isub, 1) := by decide +kernel
theorem dX7_findingAt_27 : decode cX7_findingAt 27 = .ok (.invokestatic 85, 3) := by decide +kernel
theorem dX7_findingAt_30 : decode cX7_findingAt 30 = .ok (.ifCond .eq 7, 3) := by decide +kernel
theorem dX7_findingAt_33 : decode cX7_findingAt 33 = .ok (.iconst 0, 1) := by decide +kernel
theorem dX7_findingAt_34 : decode cX7_findingAt 34 = .ok (.goto 4, 3) := by decide +kernel
theorem dX7_findingAt_37 : decode cX7_findingAt 37 = .ok (.iconst 2, 1) := by decide +kernel
theorem dX7_findingAt_38 : decode cX7_findingAt 38 = .ok (.ireturn, 1) := by decide +kernel
set_option maxRecDepth 20000 in
theorem m_X7_findingAt {h : Hp} {a1 : Nat} {a2 : Int32} {a3 : Int32} (ha1 : sk a1 = 1) {u : Int32} (hu : f_X7_findingAt h a1 a2 a3 = some u) : Ct yX7_findingAt cX7_findingAt 3 (some .int) 1 [.ref a1, .int a2, .int a3] h ((rI h) u) := by
  refine ct_of (rI h) hu (by decide) (Nat.le_of_ble_eq_true rfl) (fun κ hn C E => ?_)
  unfold f_X7_findingAt
  show Xz κ _ 0 [(0, .ref a1), (1, .int a2), (2, .int a3)] [] h
  refine x_aload_n 1 C dX7_findingAt_0 0 rfl rfl rfl ?_
  refine x_getI 4 C dX7_findingAt_1 fl_X7_160 ha1 rfl rfl ?_
  refine x_if_eq 7 9 C dX7_findingAt_4 (by decide) rfl (fun _ => ?_) (fun _ => ?_)
  · refine x_aload_n 10 C dX7_findingAt_9 0 rfl rfl rfl ?_
    refine x_getI 13 C dX7_findingAt_10 fl_X7_302 ha1 rfl rfl ?_
    refine x_iload_n 14 C dX7_findingAt_13 1 rfl rfl rfl ?_
    refine x_icmp_eq 17 19 C dX7_findingAt_14 (by decide) rfl (fun _ => ?_) (fun _ => ?_)
    · refine x_iload_n 20 C dX7_findingAt_19 2 rfl rfl rfl ?_
      refine x_iconst 21 C dX7_findingAt_20 ci_0 rfl ?_
      refine x_aload_n 22 C dX7_findingAt_21 0 rfl rfl rfl ?_
      refine x_getI 25 C dX7_findingAt_22 fl_X7_167 ha1 rfl rfl ?_
      refine x_iconst 26 C dX7_findingAt_25 ci_1 rfl ?_
      refine x_isub 27 C dX7_findingAt_26 rfl ?_
      refine x_csi 30 [.int a3, .int (0 : Int32), .int ((h.1 a1 3) - (1 : Int32))] [] C 0 dX7_findingAt_27 s_X7_85 (fun u hu => m_X7_within hu) rfl rfl (Nat.le_of_ble_eq_true rfl) (Nat.le_of_ble_eq_true rfl) rfl (fun x1 => ?_)
      refine x_if_eq 33 37 C dX7_findingAt_30 (by decide) rfl (fun _ => ?_) (fun _ => ?_)
      · refine x_iconst 38 C dX7_findingAt_37 ci_2 rfl ?_
        exact x_iret C E dX7_findingAt_38 rfl
      · refine x_iconst 34 C dX7_findingAt_33 ci_0 rfl ?_
        refine x_goto 38 C dX7_findingAt_34 (by decide) ?_
        exact x_iret C E dX7_findingAt_38 rfl
    · refine x_iconst 18 C dX7_findingAt_17 ci_3 rfl ?_
      exact x_iret C E dX7_findingAt_18 rfl
  · refine x_iconst 8 C dX7_findingAt_7 ci_1 rfl ?_
    exact x_iret C E dX7_findingAt_8 rfl

def f_X7_lay (h : Hp) (a1 : Int32) (a2 : Int32) (a3 : Int32) (a4 : Int32) : Option (Hp × Int32) :=
  bdr (f_X7_isSheet a1) fun x1 =>
  if x1 = 0 then (
    some (h, (-2 : Int32)))
  else (
    bdr (f_X7_isForm a2) fun x2 =>
    if x2 = 0 then (
      some (h, (-2 : Int32)))
    else (
      ck a1 4 (
        bdr (f_X7_findingAt h (60 + 2 * a1.toNatClampNeg) a2 a3) fun x4 =>
        if x4 = 0 then (
          ck a1 4 (
            bdv (f_X1_put h (60 + 2 * a1.toNatClampNeg) a3 a4) fun h6 =>
            some (h6, (1 : Int32))))
        else (
          bnd (f_X7_found h x4) fun h7 x8 =>
          some (h7, x8)))))
theorem dX7_lay_0 : decode cX7_lay 0 = .ok (.iload_n 1, 1) := by decide +kernel
theorem dX7_lay_1 : decode cX7_lay 1 = .ok (.invokestatic 157, 3) := by decide +kernel
theorem dX7_lay_4 : decode cX7_lay 4 = .ok (.ifCond .eq 10, 3) := by decide +kernel
theorem dX7_lay_7 : decode cX7_lay 7 = .ok (.iload_n 2, 1) := by decide +kernel
theorem dX7_lay_8 : decode cX7_lay 8 = .ok (.invokestatic 288, 3) := by decide +kernel
theorem dX7_lay_11 : decode cX7_lay 11 = .ok (.ifCond .ne 6, 3) := by decide +kernel
theorem dX7_lay_14 : decode cX7_lay 14 = .ok (.bipush (-2), 2) := by decide +kernel
theorem dX7_lay_16 : decode cX7_lay 16 = .ok (.ireturn, 1) := by decide +kernel
theorem dX7_lay_17 : decode cX7_lay 17 = .ok (.aload_n 0, 1) := by decide +kernel
theorem dX7_lay_18 : decode cX7_lay 18 = .ok (.getfield 63, 3) := by decide +kernel
theorem dX7_lay_21 : decode cX7_lay 21 = .ok (.iload_n 1, 1) := by decide +kernel
theorem dX7_lay_22 : decode cX7_lay 22 = .ok (.aaload, 1) := by decide +kernel
theorem dX7_lay_23 : decode cX7_lay 23 = .ok (.iload_n 2, 1) := by decide +kernel
theorem dX7_lay_24 : decode cX7_lay 24 = .ok (.iload_n 3, 1) := by decide +kernel
theorem dX7_lay_25 : decode cX7_lay 25 = .ok (.invokestatic 295, 3) := by decide +kernel
theorem dX7_lay_28 : decode cX7_lay 28 = .ok (.istore 5, 2) := by decide +kernel
theorem dX7_lay_30 : decode cX7_lay 30 = .ok (.iload 5, 2) := by decide +kernel
theorem dX7_lay_32 : decode cX7_lay 32 = .ok (.ifCond .eq 10, 3) := by decide +kernel
theorem dX7_lay_35 : decode cX7_lay 35 = .ok (.aload_n 0, 1) := by decide +kernel
theorem dX7_lay_36 : decode cX7_lay 36 = .ok (.iload 5, 2) := by decide +kernel
theorem dX7_lay_38 : decode cX7_lay 38 = .ok (.invokevirtual 163, 3) := by decide +kernel
theorem dX7_lay_41 : decode cX7_lay 41 = .ok (.ireturn, 1) := by decide +kernel
theorem dX7_lay_42 : decode cX7_lay 42 = .ok (.aload_n 0, 1) := by decide +kernel
theorem dX7_lay_43 : decode cX7_lay 43 = .ok (.getfield 63, 3) := by decide +kernel
theorem dX7_lay_46 : decode cX7_lay 46 = .ok (.iload_n 1, 1) := by decide +kernel
theorem dX7_lay_47 : decode cX7_lay 47 = .ok (.aaload, 1) := by decide +kernel
theorem dX7_lay_48 : decode cX7_lay 48 = .ok (.iload_n 3, 1) := by decide +kernel
theorem dX7_lay_49 : decode cX7_lay 49 = .ok (.iload 4, 2) := by decide +kernel
theorem dX7_lay_51 : decode cX7_lay 51 = .ok (.invokevirtual 299, 3) := by decide +kernel
theorem dX7_lay_54 : decode cX7_lay 54 = .ok (.iconst 1, 1) := by decide +kernel
theorem dX7_lay_55 : decode cX7_lay 55 = .ok (.ireturn, 1) := by decide +kernel
set_option maxRecDepth 20000 in
theorem m_X7_lay {h : Hp} {a1 : Int32} {a2 : Int32} {a3 : Int32} {a4 : Int32}  {u : (Hp × Int32)} (hu : f_X7_lay h a1 a2 a3 a4 = some u) : Ct yX7_lay cX7_lay 6 (some .int) 2 [.ref 0, .int a1, .int a2, .int a3, .int a4] h (eI u) := by
  refine ct_of eI hu (by decide) (Nat.le_of_ble_eq_true rfl) (fun κ hn C E => ?_)
  have n5 : 5 < kn κ := by rw [hn]; decide
  unfold f_X7_lay
  show Xz κ _ 0 [(0, .ref 0), (1, .int a1), (2, .int a2), (3, .int a3), (4, .int a4)] [] h
  refine x_iload_n 1 C dX7_lay_0 1 rfl rfl rfl ?_
  refine x_csi 4 [.int a1] [] C 1 dX7_lay_1 s_X7_157 (fun u hu => m_X7_isSheet hu) rfl rfl (Nat.le_of_ble_eq_true rfl) (Nat.le_of_ble_eq_true rfl) rfl (fun x1 => ?_)
  refine x_if_eq 7 14 C dX7_lay_4 (by decide) rfl (fun _ => ?_) (fun _ => ?_)
  · refine x_bipush 16 C dX7_lay_14 cb_m2 rfl ?_
    exact x_iret C E dX7_lay_16 rfl
  · refine x_iload_n 8 C dX7_lay_7 2 rfl rfl rfl ?_
    refine x_csi 11 [.int a2] [] C 1 dX7_lay_8 s_X7_288 (fun u hu => m_X7_isForm hu) rfl rfl (Nat.le_of_ble_eq_true rfl) (Nat.le_of_ble_eq_true rfl) rfl (fun x2 => ?_)
    refine x_if_ne 14 17 C dX7_lay_11 (by decide) rfl (fun _ => ?_) (fun _ => ?_)
    · refine x_aload_n 18 C dX7_lay_17 0 rfl rfl rfl ?_
      refine x_getR (c := 59) 21 C dX7_lay_18 fl_X7_63 sk_0 rfl sr_0_10 rfl ?_
      refine x_iload_n 22 C dX7_lay_21 1 rfl rfl rfl ?_
      refine x_aald 23 C dX7_lay_22 rfl (fun hs3 => ?_)
      refine x_iload_n 24 C dX7_lay_23 2 rfl rfl rfl ?_
      refine x_iload_n 25 C dX7_lay_24 3 rfl rfl rfl ?_
      refine x_csi 28 [.ref (60 + 2 * a1.toNatClampNeg), .int a2, .int a3] [] C 1 dX7_lay_25 s_X7_295 (fun u hu => m_X7_findingAt (sk_sh hs3) hu) rfl rfl (Nat.le_of_ble_eq_true rfl) (Nat.le_of_ble_eq_true rfl) rfl (fun x4 => ?_)
      refine x_istore 30 [(5, .int x4), (0, .ref 0), (1, .int a1), (2, .int a2), (3, .int a3), (4, .int a4)] C dX7_lay_28 n5 rfl rfl ?_
      refine x_iload 32 C dX7_lay_30 0 rfl rfl ?_
      refine x_if_eq 35 42 C dX7_lay_32 (by decide) rfl (fun _ => ?_) (fun _ => ?_)
      · refine x_aload_n 43 C dX7_lay_42 1 rfl rfl rfl ?_
        refine x_getR (c := 59) 46 C dX7_lay_43 fl_X7_63 sk_0 rfl sr_0_10 rfl ?_
        refine x_iload_n 47 C dX7_lay_46 2 rfl rfl rfl ?_
        refine x_aald 48 C dX7_lay_47 rfl (fun hs5 => ?_)
        refine x_iload_n 49 C dX7_lay_48 4 rfl rfl rfl ?_
        refine x_iload 51 C dX7_lay_49 5 rfl rfl ?_
        refine x_cvV 54 [.int a3, .int a4] [] C 1 dX7_lay_51 v_X7_299 (fun u hu => m_X1_put (sk_sh hs5) hu) rfl (sk_sh hs5) rfl (Nat.le_of_ble_eq_true rfl) (Nat.le_of_ble_eq_true rfl) rfl (fun h6 => ?_)
        refine x_iconst 55 C dX7_lay_54 ci_1 rfl ?_
        exact x_iret C E dX7_lay_55 rfl
      · refine x_aload_n 36 C dX7_lay_35 1 rfl rfl rfl ?_
        refine x_iload 38 C dX7_lay_36 0 rfl rfl ?_
        refine x_cvI 41 [.int x4] [] C 0 dX7_lay_38 v_X7_163 (fun u hu => m_X7_found hu) rfl sk_0 rfl (Nat.le_of_ble_eq_true rfl) (Nat.le_of_ble_eq_true rfl) rfl (fun h7 x8 => ?_)
        exact x_iret C E dX7_lay_41 rfl
    · refine x_bipush 16 C dX7_lay_14 cb_m2 rfl ?_
      exact x_iret C E dX7_lay_16 rfl

def f_X7_get (h : Hp) (a1 : Int32) (a2 : Int32) (a3 : Int32) : Option (Hp × Int32) :=
  bdr (f_X7_isSheet a1) fun x1 =>
  if x1 = 0 then (
    some (h, (-2147483648 : Int32)))
  else (
    bdr (f_X7_isForm a2) fun x2 =>
    if x2 = 0 then (
      some (h, (-2147483648 : Int32)))
    else (
      ck a1 4 (
        bdr (f_X7_findingAt h (60 + 2 * a1.toNatClampNeg) a2 a3) fun x4 =>
        if x4 = 0 then (
          ck a1 4 (
            ck a3 60 (
              some (h, (ia h ((60 + 2 * a1.toNatClampNeg) + 1) a3)))))
        else (
          bnd (f_X7_found h x4) fun h6 x7 =>
          some (h6, (-2147483648 : Int32))))))
theorem dX7_get_0 : decode cX7_get 0 = .ok (.iload_n 1, 1) := by decide +kernel
theorem dX7_get_1 : decode cX7_get 1 = .ok (.invokestatic 157, 3) := by decide +kernel
theorem dX7_get_4 : decode cX7_get 4 = .ok (.ifCond .eq 10, 3) := by decide +kernel
theorem dX7_get_7 : decode cX7_get 7 = .ok (.iload_n 2, 1) := by decide +kernel
theorem dX7_get_8 : decode cX7_get 8 = .ok (.invokestatic 288, 3) := by decide +kernel
theorem dX7_get_11 : decode cX7_get 11 = .ok (.ifCond .ne 6, 3) := by decide +kernel
theorem dX7_get_14 : decode cX7_get 14 = .ok (.ldc 188, 2) := by decide +kernel
theorem dX7_get_16 : decode cX7_get 16 = .ok (.ireturn, 1) := by decide +kernel
theorem dX7_get_17 : decode cX7_get 17 = .ok (.aload_n 0, 1) := by decide +kernel
theorem dX7_get_18 : decode cX7_get 18 = .ok (.getfield 63, 3) := by decide +kernel
theorem dX7_get_21 : decode cX7_get 21 = .ok (.iload_n 1, 1) := by decide +kernel
theorem dX7_get_22 : decode cX7_get 22 = .ok (.aaload, 1) := by decide +kernel
theorem dX7_get_23 : decode cX7_get 23 = .ok (.iload_n 2, 1) := by decide +kernel
theorem dX7_get_24 : decode cX7_get 24 = .ok (.iload_n 3, 1) := by decide +kernel
theorem dX7_get_25 : decode cX7_get 25 = .ok (.invokestatic 295, 3) := by decide +kernel
theorem dX7_get_28 : decode cX7_get 28 = .ok (.istore 4, 2) := by decide +kernel
theorem dX7_get_30 : decode cX7_get 30 = .ok (.iload 4, 2) := by decide +kernel
theorem dX7_get_32 : decode cX7_get 32 = .ok (.ifCond .eq 13, 3) := by decide +kernel
theorem dX7_get_35 : decode cX7_get 35 = .ok (.aload_n 0, 1) := by decide +kernel
theorem dX7_get_36 : decode cX7_get 36 = .ok (.iload 4, 2) := by decide +kernel
theorem dX7_get_38 : decode cX7_get 38 = .ok (.invokevirtual 163, 3) := by decide +kernel
theorem dX7_get_41 : decode cX7_get 41 = .ok (.pop, 1) := by decide +kernel
theorem dX7_get_42 : decode cX7_get 42 = .ok (.ldc 188, 2) := by decide +kernel
theorem dX7_get_44 : decode cX7_get 44 = .ok (.ireturn, 1) := by decide +kernel
theorem dX7_get_45 : decode cX7_get 45 = .ok (.aload_n 0, 1) := by decide +kernel
theorem dX7_get_46 : decode cX7_get 46 = .ok (.getfield 63, 3) := by decide +kernel
theorem dX7_get_49 : decode cX7_get 49 = .ok (.iload_n 1, 1) := by decide +kernel
theorem dX7_get_50 : decode cX7_get 50 = .ok (.aaload, 1) := by decide +kernel
theorem dX7_get_51 : decode cX7_get 51 = .ok (.getfield 168, 3) := by decide +kernel
theorem dX7_get_54 : decode cX7_get 54 = .ok (.iload_n 3, 1) := by decide +kernel
theorem dX7_get_55 : decode cX7_get 55 = .ok (.iaload, 1) := by decide +kernel
theorem dX7_get_56 : decode cX7_get 56 = .ok (.ireturn, 1) := by decide +kernel
set_option maxRecDepth 20000 in
theorem m_X7_get {h : Hp} {a1 : Int32} {a2 : Int32} {a3 : Int32}  {u : (Hp × Int32)} (hu : f_X7_get h a1 a2 a3 = some u) : Ct yX7_get cX7_get 5 (some .int) 2 [.ref 0, .int a1, .int a2, .int a3] h (eI u) := by
  refine ct_of eI hu (by decide) (Nat.le_of_ble_eq_true rfl) (fun κ hn C E => ?_)
  have n4 : 4 < kn κ := by rw [hn]; decide
  unfold f_X7_get
  show Xz κ _ 0 [(0, .ref 0), (1, .int a1), (2, .int a2), (3, .int a3)] [] h
  refine x_iload_n 1 C dX7_get_0 1 rfl rfl rfl ?_
  refine x_csi 4 [.int a1] [] C 1 dX7_get_1 s_X7_157 (fun u hu => m_X7_isSheet hu) rfl rfl (Nat.le_of_ble_eq_true rfl) (Nat.le_of_ble_eq_true rfl) rfl (fun x1 => ?_)
  refine x_if_eq 7 14 C dX7_get_4 (by decide) rfl (fun _ => ?_) (fun _ => ?_)
  · refine x_ldc 16 C dX7_get_14 kw_X7_188 rfl ?_
    exact x_iret C E dX7_get_16 rfl
  · refine x_iload_n 8 C dX7_get_7 2 rfl rfl rfl ?_
    refine x_csi 11 [.int a2] [] C 1 dX7_get_8 s_X7_288 (fun u hu => m_X7_isForm hu) rfl rfl (Nat.le_of_ble_eq_true rfl) (Nat.le_of_ble_eq_true rfl) rfl (fun x2 => ?_)
    refine x_if_ne 14 17 C dX7_get_11 (by decide) rfl (fun _ => ?_) (fun _ => ?_)
    · refine x_aload_n 18 C dX7_get_17 0 rfl rfl rfl ?_
      refine x_getR (c := 59) 21 C dX7_get_18 fl_X7_63 sk_0 rfl sr_0_10 rfl ?_
      refine x_iload_n 22 C dX7_get_21 1 rfl rfl rfl ?_
      refine x_aald 23 C dX7_get_22 rfl (fun hs3 => ?_)
      refine x_iload_n 24 C dX7_get_23 2 rfl rfl rfl ?_
      refine x_iload_n 25 C dX7_get_24 3 rfl rfl rfl ?_
      refine x_csi 28 [.ref (60 + 2 * a1.toNatClampNeg), .int a2, .int a3] [] C 1 dX7_get_25 s_X7_295 (fun u hu => m_X7_findingAt (sk_sh hs3) hu) rfl rfl (Nat.le_of_ble_eq_true rfl) (Nat.le_of_ble_eq_true rfl) rfl (fun x4 => ?_)
      refine x_istore 30 [(4, .int x4), (0, .ref 0), (1, .int a1), (2, .int a2), (3, .int a3)] C dX7_get_28 n4 rfl rfl ?_
      refine x_iload 32 C dX7_get_30 0 rfl rfl ?_
      refine x_if_eq 35 45 C dX7_get_32 (by decide) rfl (fun _ => ?_) (fun _ => ?_)
      · refine x_aload_n 46 C dX7_get_45 1 rfl rfl rfl ?_
        refine x_getR (c := 59) 49 C dX7_get_46 fl_X7_63 sk_0 rfl sr_0_10 rfl ?_
        refine x_iload_n 50 C dX7_get_49 2 rfl rfl rfl ?_
        refine x_aald 51 C dX7_get_50 rfl (fun hs5 => ?_)
        refine x_getR (c := ((60 + 2 * a1.toNatClampNeg) + 1)) 54 C dX7_get_51 fl_X7_168 (sk_sh hs5) rfl (of_1_0 (sk_sh hs5)) rfl ?_
        refine x_iload_n 55 C dX7_get_54 4 rfl rfl rfl ?_
        refine x_iald 56 C dX7_get_55 (ok_1_0 (sk_sh hs5)) (ol_1_0 (sk_sh hs5)) rfl ?_
        exact x_iret C E dX7_get_56 rfl
      · refine x_aload_n 36 C dX7_get_35 1 rfl rfl rfl ?_
        refine x_iload 38 C dX7_get_36 0 rfl rfl ?_
        refine x_cvI 41 [.int x4] [] C 0 dX7_get_38 v_X7_163 (fun u hu => m_X7_found hu) rfl sk_0 rfl (Nat.le_of_ble_eq_true rfl) (Nat.le_of_ble_eq_true rfl) rfl (fun h6 x7 => ?_)
        refine x_pop 42 C dX7_get_41 rfl rfl ?_
        refine x_ldc 44 C dX7_get_42 kw_X7_188 rfl ?_
        exact x_iret C E dX7_get_44 rfl
    · refine x_ldc 16 C dX7_get_14 kw_X7_188 rfl ?_
      exact x_iret C E dX7_get_16 rfl
