def f_X8_tellsBeat (h : Hp) (a1 : Int64) (a2 : Int32) (a3 : Int32) : Option Int64 :=
  ck (((6 : Int32) * a2) + a3) 144 (
    nm (((31 : Int64) * a1) + ((ia h 87 (((6 : Int32) * a2) + a3)).toInt64)) fun l1 =>
    ck (((6 : Int32) * a2) + a3) 144 (
      nm (((31 : Int64) * l1) + ((ia h 88 (((6 : Int32) * a2) + a3)).toInt64)) fun l2 =>
      ck (((6 : Int32) * a2) + a3) 144 (
        some (((31 : Int64) * l2) + ((ia h 89 (((6 : Int32) * a2) + a3)).toInt64)))))
theorem dX8_tellsBeat_0 : decode cX8_tellsBeat 0 = .ok (.ldc2_w 320, 3) := by decide +kernel
theorem dX8_tellsBeat_3 : decode cX8_tellsBeat 3 = .ok (.lload_n 1, 1) := by decide +kernel
theorem dX8_tellsBeat_4 : decode cX8_tellsBeat 4 = .ok (.lmul, 1) := by decide +kernel
theorem dX8_tellsBeat_5 : decode cX8_tellsBeat 5 = .ok (.aload_n 0, 1) := by decide +kernel
theorem dX8_tellsBeat_6 : decode cX8_tellsBeat 6 = .ok (.getfield 64, 3) := by decide +kernel
theorem dX8_tellsBeat_9 : decode cX8_tellsBeat 9 = .ok (.bipush 6, 2) := by decide +kernel
theorem dX8_tellsBeat_11 : decode cX8_tellsBeat 11 = .ok (.iload_n 3, 1) := by decide +kernel
theorem dX8_tellsBeat_12 : decode cX8_tellsBeat 12 = .ok (.imul, 1) := by decide +kernel
theorem dX8_tellsBeat_13 : decode cX8_tellsBeat 13 = .ok (.iload 4, 2) := by decide +kernel
theorem dX8_tellsBeat_15 : decode cX8_tellsBeat 15 = .ok (.iadd, 1) := by decide +kernel
theorem dX8_tellsBeat_16 : decode cX8_tellsBeat 16 = .ok (.iaload, 1) := by decide +kernel
theorem dX8_tellsBeat_17 : decode cX8_tellsBeat 17 = .ok (.i2l, 1) := by decide +kernel
theorem dX8_tellsBeat_18 : decode cX8_tellsBeat 18 = .ok (.ladd, 1) := by decide +kernel
theorem dX8_tellsBeat_19 : decode cX8_tellsBeat 19 = .ok (.lstore 5, 2) := by decide +kernel
theorem dX8_tellsBeat_21 : decode cX8_tellsBeat 21 = .ok (.ldc2_w 320, 3) := by decide +kernel
theorem dX8_tellsBeat_24 : decode cX8_tellsBeat 24 = .ok (.lload 5, 2) := by decide +kernel
theorem dX8_tellsBeat_26 : decode cX8_tellsBeat 26 = .ok (.lmul, 1) := by decide +kernel
theorem dX8_tellsBeat_27 : decode cX8_tellsBeat 27 = .ok (.aload_n 0, 1) := by decide +kernel
theorem dX8_tellsBeat_28 : decode cX8_tellsBeat 28 = .ok (.getfield 67, 3) := by decide +kernel
theorem dX8_tellsBeat_31 : decode cX8_tellsBeat 31 = .ok (.bipush 6, 2) := by decide +kernel
theorem dX8_tellsBeat_33 : decode cX8_tellsBeat 33 = .ok (.iload_n 3, 1) := by decide +kernel
theorem dX8_tellsBeat_34 : decode cX8_tellsBeat 34 = .ok (.imul, 1) := by decide +kernel
theorem dX8_tellsBeat_35 : decode cX8_tellsBeat 35 = .ok (.iload 4, 2) := by decide +kernel
theorem dX8_tellsBeat_37 : decode cX8_tellsBeat 37 = .ok (.iadd, 1) := by decide +kernel
theorem dX8_tellsBeat_38 : decode cX8_tellsBeat 38 = .ok (.iaload, 1) := by decide +kernel
theorem dX8_tellsBeat_39 : decode cX8_tellsBeat 39 = .ok (.i2l, 1) := by decide +kernel
theorem dX8_tellsBeat_40 : decode cX8_tellsBeat 40 = .ok (.ladd, 1) := by decide +kernel
theorem dX8_tellsBeat_41 : decode cX8_tellsBeat 41 = .ok (.lstore 5, 2) := by decide +kernel
theorem dX8_tellsBeat_43 : decode cX8_tellsBeat 43 = .ok (.ldc2_w 320, 3) := by decide +kernel
theorem dX8_tellsBeat_46 : decode cX8_tellsBeat 46 = .ok (.lload 5, 2) := by decide +kernel
theorem dX8_tellsBeat_48 : decode cX8_tellsBeat 48 = .ok (.lmul, 1) := by decide +kernel
theorem dX8_tellsBeat_49 : decode cX8_tellsBeat 49 = .ok (.aload_n 0, 1) := by decide +kernel
theorem dX8_tellsBeat_50 : decode cX8_tellsBeat 50 = .ok (.getfield 70, 3) := by decide +kernel
theorem dX8_tellsBeat_53 : decode cX8_tellsBeat 53 = .ok (.bipush 6, 2) := by decide +kernel
theorem dX8_tellsBeat_55 : decode cX8_tellsBeat 55 = .ok (.iload_n 3, 1) := by decide +kernel
theorem dX8_tellsBeat_56 : decode cX8_tellsBeat 56 = .ok (.imul, 1) := by decide +kernel
theorem dX8_tellsBeat_57 : decode cX8_tellsBeat 57 = .ok (.iload 4, 2) := by decide +kernel
theorem dX8_tellsBeat_59 : decode cX8_tellsBeat 59 = .ok (.iadd, 1) := by decide +kernel
theorem dX8_tellsBeat_60 : decode cX8_tellsBeat 60 = .ok (.iaload, 1) := by decide +kernel
theorem dX8_tellsBeat_61 : decode cX8_tellsBeat 61 = .ok (.i2l, 1) := by decide +kernel
theorem dX8_tellsBeat_62 : decode cX8_tellsBeat 62 = .ok (.ladd, 1) := by decide +kernel
theorem dX8_tellsBeat_63 : decode cX8_tellsBeat 63 = .ok (.lreturn, 1) := by decide +kernel
set_option maxRecDepth 20000 in
theorem m_X8_tellsBeat {h : Hp} {a1 : Int64} {a2 : Int32} {a3 : Int32}  {u : Int64} (hu : f_X8_tellsBeat h a1 a2 a3 = some u) : Ct yX8_tellsBeat cX8_tellsBeat 7 (some .long) 0 [.ref 68, .long a1, .int a2, .int a3] h ((rL h) u) := by
  refine ct_of (rL h) hu (by decide) (Nat.le_of_ble_eq_true rfl) (fun κ hn C E => ?_)
  have n6 : 6 < kn κ := by rw [hn]; decide
  unfold f_X8_tellsBeat
  show Xz κ _ 0 [(0, .ref 68), (1, .long a1), (3, .int a2), (4, .int a3)] [] h
  refine x_ldc2 3 C dX8_tellsBeat_0 kw_X8_320 rfl ?_
  refine x_lload_n 4 C dX8_tellsBeat_3 1 rfl rfl rfl ?_
  refine x_lmul 5 C dX8_tellsBeat_4 rfl ?_
  refine x_aload_n 6 C dX8_tellsBeat_5 0 rfl rfl rfl ?_
  refine x_getR (c := 87) 9 C dX8_tellsBeat_6 fl_X8_64 sk_68 rfl sr_68_23 rfl ?_
  refine x_bipush 11 C dX8_tellsBeat_9 cb_6 rfl ?_
  refine x_iload_n 12 C dX8_tellsBeat_11 2 rfl rfl rfl ?_
  refine x_imul 13 C dX8_tellsBeat_12 rfl ?_
  refine x_iload 15 C dX8_tellsBeat_13 3 rfl rfl ?_
  refine x_iadd 16 C dX8_tellsBeat_15 rfl ?_
  refine x_iald 17 C dX8_tellsBeat_16 sk_87 sl_87 rfl ?_
  refine x_i2l 18 C dX8_tellsBeat_17 rfl ?_
  refine x_ladd 19 C dX8_tellsBeat_18 rfl ?_
  refine x_nl (fun l1 => ?_)
  refine x_lstore 21 [(5, .long l1), (0, .ref 68), (1, .long a1), (3, .int a2), (4, .int a3)] C dX8_tellsBeat_19 n6 rfl rfl ?_
  refine x_ldc2 24 C dX8_tellsBeat_21 kw_X8_320 rfl ?_
  refine x_lload 26 C dX8_tellsBeat_24 0 rfl rfl ?_
  refine x_lmul 27 C dX8_tellsBeat_26 rfl ?_
  refine x_aload_n 28 C dX8_tellsBeat_27 1 rfl rfl rfl ?_
  refine x_getR (c := 88) 31 C dX8_tellsBeat_28 fl_X8_67 sk_68 rfl sr_68_24 rfl ?_
  refine x_bipush 33 C dX8_tellsBeat_31 cb_6 rfl ?_
  refine x_iload_n 34 C dX8_tellsBeat_33 3 rfl rfl rfl ?_
  refine x_imul 35 C dX8_tellsBeat_34 rfl ?_
  refine x_iload 37 C dX8_tellsBeat_35 4 rfl rfl ?_
  refine x_iadd 38 C dX8_tellsBeat_37 rfl ?_
  refine x_iald 39 C dX8_tellsBeat_38 sk_88 sl_88 rfl ?_
  refine x_i2l 40 C dX8_tellsBeat_39 rfl ?_
  refine x_ladd 41 C dX8_tellsBeat_40 rfl ?_
  refine x_nl (fun l2 => ?_)
  refine x_lstore 43 [(5, .long l2), (0, .ref 68), (1, .long a1), (3, .int a2), (4, .int a3)] C dX8_tellsBeat_41 n6 rfl rfl ?_
  refine x_ldc2 46 C dX8_tellsBeat_43 kw_X8_320 rfl ?_
  refine x_lload 48 C dX8_tellsBeat_46 0 rfl rfl ?_
  refine x_lmul 49 C dX8_tellsBeat_48 rfl ?_
  refine x_aload_n 50 C dX8_tellsBeat_49 1 rfl rfl rfl ?_
  refine x_getR (c := 89) 53 C dX8_tellsBeat_50 fl_X8_70 sk_68 rfl sr_68_25 rfl ?_
  refine x_bipush 55 C dX8_tellsBeat_53 cb_6 rfl ?_
  refine x_iload_n 56 C dX8_tellsBeat_55 3 rfl rfl rfl ?_
  refine x_imul 57 C dX8_tellsBeat_56 rfl ?_
  refine x_iload 59 C dX8_tellsBeat_57 4 rfl rfl ?_
  refine x_iadd 60 C dX8_tellsBeat_59 rfl ?_
  refine x_iald 61 C dX8_tellsBeat_60 sk_89 sl_89 rfl ?_
  refine x_i2l 62 C dX8_tellsBeat_61 rfl ?_
  refine x_ladd 63 C dX8_tellsBeat_62 rfl ?_
  exact x_lret C E dX8_tellsBeat_63 rfl

def f_X8_tellsWalker (h : Hp) (a1 : Int64) (a2 : Int32) : Option (Hp × Int64) :=
  bdv (f_X8_lives h) fun h1 =>
  lt1 (fun (l2 : Int64) =>
    bdr (f_X8_tellsBeat h1 l2 (0 : Int32) a2) fun l3 =>
    bdr (f_X8_tellsBeat h1 l3 (6 : Int32) a2) fun l4 =>
    bdr (f_X8_tellsBeat h1 l4 (13 : Int32) a2) fun l5 =>
    bdr (f_X8_tellsBeat h1 l5 (23 : Int32) a2) fun l6 =>
    lt1 (fun (l7 : Int64) =>
      bnd (f_X8_walkerBetter h1 ((3 : Int32) * a2) (24 : Int32) (0 : Int32)) fun h8 x9 =>
      nm (((31 : Int64) * l7) + (x9.toInt64)) fun l10 =>
      bnd (f_X8_walkerBetter h8 ((3 : Int32) * a2) (24 : Int32) (1 : Int32)) fun h11 x12 =>
      nm (((31 : Int64) * l10) + (x12.toInt64)) fun l13 =>
      bnd (f_X8_walkerBetter h11 (((3 : Int32) * a2) + (2 : Int32)) (10 : Int32) (0 : Int32)) fun h14 x15 =>
      nm (((31 : Int64) * l13) + (x15.toInt64)) fun l16 =>
      bnd (f_X8_walkerBetter h14 (((3 : Int32) * a2) + (2 : Int32)) (10 : Int32) (1 : Int32)) fun h17 x18 =>
      nm (((31 : Int64) * l16) + (x18.toInt64)) fun l19 =>
      bnd (f_X8_polesOf h17 a2) fun h20 x21 =>
      nm (((31 : Int64) * l19) + (x21.toInt64)) fun l22 =>
      bnd (f_X8_sortOf h20 a2) fun h23 x24 =>
      nm (((31 : Int64) * l22) + (x24.toInt64)) fun l25 =>
      bnd (f_X8_askOf h23 a2) fun h26 x27 =>
      nm (((31 : Int64) * l25) + (x27.toInt64)) fun l28 =>
      bnd (f_X8_chanceOf h26 (5 : Int32) a2 (0 : Int32)) fun h29 l30 =>
      nm (((31 : Int64) * l28) + l30) fun l31 =>
      bnd (f_X8_chanceOf h29 (5 : Int32) a2 (1 : Int32)) fun h32 l33 =>
      some (h32, (((31 : Int64) * l31) + l33))) fun k2 =>
    fx2 FU (fun s3 (l34 : Int64) (x35 : Int32) =>
      if (3 : Int32) ≤ x35 then (
        k2 l34)
      else (
        bdr (f_X8_endsBy h1 a2 x35) fun x36 =>
        nm (((31 : Int64) * l34) + (x36.toInt64)) fun l37 =>
        nm (x35 + (1 : Int32)) fun x38 =>
        s3 l37 x38)) l6 (0 : Int32)) fun k1 =>
  fx2 FU (fun s4 (l39 : Int64) (x40 : Int32) =>
    if (3 : Int32) ≤ x40 then (
      k1 l39)
    else (
      ck (((3 : Int32) * a2) + x40) 18 (
        nm (((31 : Int64) * l39) + ((ia h1 75 (((3 : Int32) * a2) + x40)).toInt64)) fun l41 =>
        nm (x40 + (1 : Int32)) fun x42 =>
        s4 l41 x42))) a1 (0 : Int32)
theorem dX8_tellsWalker_0 : decode cX8_tellsWalker 0 = .ok (.aload_n 0, 1) := by decide +kernel
theorem dX8_tellsWalker_1 : decode cX8_tellsWalker 1 = .ok (.invokevirtual 217, 3) := by decide +kernel
theorem dX8_tellsWalker_4 : decode cX8_tellsWalker 4 = .ok (.lload_n 1, 1) := by decide +kernel
theorem dX8_tellsWalker_5 : decode cX8_tellsWalker 5 = .ok (.lstore 4, 2) := by decide +kernel
theorem dX8_tellsWalker_7 : decode cX8_tellsWalker 7 = .ok (.iconst 0, 1) := by decide +kernel
theorem dX8_tellsWalker_8 : decode cX8_tellsWalker 8 = .ok (.istore 6, 2) := by decide +kernel
theorem dX8_tellsWalker_10 : decode cX8_tellsWalker 10 = .ok (.iload 6, 2) := by decide +kernel
theorem dX8_tellsWalker_12 : decode cX8_tellsWalker 12 = .ok (.iconst 3, 1) := by decide +kernel
theorem dX8_tellsWalker_13 : decode cX8_tellsWalker 13 = .ok (.if_icmp .ge 30, 3) := by decide +kernel
theorem dX8_tellsWalker_16 : decode cX8_tellsWalker 16 = .ok (.ldc2_w 320, 3) := by decide +kernel
theorem dX8_tellsWalker_19 : decode cX8_tellsWalker 19 = .ok (.lload 4, 2) := by decide +kernel
theorem dX8_tellsWalker_21 : decode cX8_tellsWalker 21 = .ok (.lmul, 1) := by decide +kernel
theorem dX8_tellsWalker_22 : decode cX8_tellsWalker 22 = .ok (.aload_n 0, 1) := by decide +kernel
theorem dX8_tellsWalker_23 : decode cX8_tellsWalker 23 = .ok (.getfield 28, 3) := by decide +kernel
theorem dX8_tellsWalker_26 : decode cX8_tellsWalker 26 = .ok (.iconst 3, 1) := by decide +kernel
theorem dX8_tellsWalker_27 : decode cX8_tellsWalker 27 = .ok (.iload_n 3, 1) := by decide +kernel
theorem dX8_tellsWalker_28 : decode cX8_tellsWalker 28 = .ok (.imul, 1) := by decide +kernel
theorem dX8_tellsWalker_29 : decode cX8_tellsWalker 29 = .ok (.iload 6, 2) := by decide +kernel
theorem dX8_tellsWalker_31 : decode cX8_tellsWalker 31 = .ok (.iadd, 1) := by decide +kernel
theorem dX8_tellsWalker_32 : decode cX8_tellsWalker 32 = .ok (.iaload, 1) := by decide +kernel
theorem dX8_tellsWalker_33 : decode cX8_tellsWalker 33 = .ok (.i2l, 1) := by decide +kernel
theorem dX8_tellsWalker_34 : decode cX8_tellsWalker 34 = .ok (.ladd, 1) := by decide +kernel
theorem dX8_tellsWalker_35 : decode cX8_tellsWalker 35 = .ok (.lstore 4, 2) := by decide +kernel
theorem dX8_tellsWalker_37 : decode cX8_tellsWalker 37 = .ok (.iinc 6 1, 3) := by decide +kernel
theorem dX8_tellsWalker_40 : decode cX8_tellsWalker 40 = .ok (.goto (-30), 3) := by decide +kernel
theorem dX8_tellsWalker_43 : decode cX8_tellsWalker 43 = .ok (.aload_n 0, 1) := by decide +kernel
theorem dX8_tellsWalker_44 : decode cX8_tellsWalker 44 = .ok (.aload_n 0, 1) := by decide +kernel
theorem dX8_tellsWalker_45 : decode cX8_tellsWalker 45 = .ok (.aload_n 0, 1) := by decide +kernel
theorem dX8_tellsWalker_46 : decode cX8_tellsWalker 46 = .ok (.aload_n 0, 1) := by decide +kernel
theorem dX8_tellsWalker_47 : decode cX8_tellsWalker 47 = .ok (.lload 4, 2) := by decide +kernel
theorem dX8_tellsWalker_49 : decode cX8_tellsWalker 49 = .ok (.iconst 0, 1) := by decide +kernel
theorem dX8_tellsWalker_50 : decode cX8_tellsWalker 50 = .ok (.iload_n 3, 1) := by decide +kernel
theorem dX8_tellsWalker_51 : decode cX8_tellsWalker 51 = .ok (.invokevirtual 322, 3) := by decide +kernel
theorem dX8_tellsWalker_54 : decode cX8_tellsWalker 54 = .ok (.bipush 6, 2) := by decide +kernel
theorem dX8_tellsWalker_56 : decode cX8_tellsWalker 56 = .ok (.iload_n 3, 1) := by decide +kernel
theorem dX8_tellsWalker_57 : decode cX8_tellsWalker 57 = .ok (.invokevirtual 322, 3) := by decide +kernel
theorem dX8_tellsWalker_60 : decode cX8_tellsWalker 60 = .ok (.bipush 13, 2) := by decide +kernel
theorem dX8_tellsWalker_62 : decode cX8_tellsWalker 62 = .ok (.iload_n 3, 1) := by decide +kernel
theorem dX8_tellsWalker_63 : decode cX8_tellsWalker 63 = .ok (.invokevirtual 322, 3) := by decide +kernel
theorem dX8_tellsWalker_66 : decode cX8_tellsWalker 66 = .ok (.bipush 23, 2) := by decide +kernel
theorem dX8_tellsWalker_68 : decode cX8_tellsWalker 68 = .ok (.iload_n 3, 1) := by decide +kernel
theorem dX8_tellsWalker_69 : decode cX8_tellsWalker 69 = .ok (.invokevirtual 322, 3) := by decide +kernel
theorem dX8_tellsWalker_72 : decode cX8_tellsWalker 72 = .ok (.lstore 4, 2) := by decide +kernel
theorem dX8_tellsWalker_74 : decode cX8_tellsWalker 74 = .ok (.iconst 0, 1) := by decide +kernel
theorem dX8_tellsWalker_75 : decode cX8_tellsWalker 75 = .ok (.istore 6, 2) := by decide +kernel
theorem dX8_tellsWalker_77 : decode cX8_tellsWalker 77 = .ok (.iload 6, 2) := by decide +kernel
theorem dX8_tellsWalker_79 : decode cX8_tellsWalker 79 = .ok (.iconst 3, 1) := by decide +kernel
theorem dX8_tellsWalker_80 : decode cX8_tellsWalker 80 = .ok (.if_icmp .ge 26, 3) := by decide +kernel
theorem dX8_tellsWalker_83 : decode cX8_tellsWalker 83 = .ok (.ldc2_w 320, 3) := by decide +kernel
theorem dX8_tellsWalker_86 : decode cX8_tellsWalker 86 = .ok (.lload 4, 2) := by decide +kernel
theorem dX8_tellsWalker_88 : decode cX8_tellsWalker 88 = .ok (.lmul, 1) := by decide +kernel
theorem dX8_tellsWalker_89 : decode cX8_tellsWalker 89 = .ok (.aload_n 0, 1) := by decide +kernel
theorem dX8_tellsWalker_90 : decode cX8_tellsWalker 90 = .ok (.iload_n 3, 1) := by decide +kernel
theorem dX8_tellsWalker_91 : decode cX8_tellsWalker 91 = .ok (.iload 6, 2) := by decide +kernel
theorem dX8_tellsWalker_93 : decode cX8_tellsWalker 93 = .ok (.invokevirtual 226, 3) := by decide +kernel
theorem dX8_tellsWalker_96 : decode cX8_tellsWalker 96 = .ok (.i2l, 1) := by decide +kernel
theorem dX8_tellsWalker_97 : decode cX8_tellsWalker 97 = .ok (.ladd, 1) := by decide +kernel
theorem dX8_tellsWalker_98 : decode cX8_tellsWalker 98 = .ok (.lstore 4, 2) := by decide +kernel
theorem dX8_tellsWalker_100 : decode cX8_tellsWalker 100 = .ok (.iinc 6 1, 3) := by decide +kernel
theorem dX8_tellsWalker_103 : decode cX8_tellsWalker 103 = .ok (.goto (-26), 3) := by decide +kernel
theorem dX8_tellsWalker_106 : decode cX8_tellsWalker 106 = .ok (.ldc2_w 320, 3) := by decide +kernel
theorem dX8_tellsWalker_109 : decode cX8_tellsWalker 109 = .ok (.lload 4, 2) := by decide +kernel
theorem dX8_tellsWalker_111 : decode cX8_tellsWalker 111 = .ok (.lmul, 1) := by decide +kernel
theorem dX8_tellsWalker_112 : decode cX8_tellsWalker 112 = .ok (.aload_n 0, 1) := by decide +kernel
theorem dX8_tellsWalker_113 : decode cX8_tellsWalker 113 = .ok (.iconst 3, 1) := by decide +kernel
theorem dX8_tellsWalker_114 : decode cX8_tellsWalker 114 = .ok (.iload_n 3, 1) := by decide +kernel
theorem dX8_tellsWalker_115 : decode cX8_tellsWalker 115 = .ok (.imul, 1) := by decide +kernel
theorem dX8_tellsWalker_116 : decode cX8_tellsWalker 116 = .ok (.bipush 24, 2) := by decide +kernel
theorem dX8_tellsWalker_118 : decode cX8_tellsWalker 118 = .ok (.iconst 0, 1) := by decide +kernel
theorem dX8_tellsWalker_119 : decode cX8_tellsWalker 119 = .ok (.invokevirtual 247, 3) := by decide +kernel
theorem dX8_tellsWalker_122 : decode cX8_tellsWalker 122 = .ok (.i2l, 1) := by decide +kernel
theorem dX8_tellsWalker_123 : decode cX8_tellsWalker 123 = .ok (.ladd, 1) := by decide +kernel
theorem dX8_tellsWalker_124 : decode cX8_tellsWalker 124 = .ok (.lstore 4, 2) := by decide +kernel
theorem dX8_tellsWalker_126 : decode cX8_tellsWalker 126 = .ok (.ldc2_w 320, 3) := by decide +kernel
theorem dX8_tellsWalker_129 : decode cX8_tellsWalker 129 = .ok (.lload 4, 2) := by decide +kernel
theorem dX8_tellsWalker_131 : decode cX8_tellsWalker 131 = .ok (.lmul, 1) := by decide +kernel
theorem dX8_tellsWalker_132 : decode cX8_tellsWalker 132 = .ok (.aload_n 0, 1) := by decide +kernel
theorem dX8_tellsWalker_133 : decode cX8_tellsWalker 133 = .ok (.iconst 3, 1) := by decide +kernel
theorem dX8_tellsWalker_134 : decode cX8_tellsWalker 134 = .ok (.iload_n 3, 1) := by decide +kernel
theorem dX8_tellsWalker_135 : decode cX8_tellsWalker 135 = .ok (.imul, 1) := by decide +kernel
theorem dX8_tellsWalker_136 : decode cX8_tellsWalker 136 = .ok (.bipush 24, 2) := by decide +kernel
theorem dX8_tellsWalker_138 : decode cX8_tellsWalker 138 = .ok (.iconst 1, 1) := by decide +kernel
theorem dX8_tellsWalker_139 : decode cX8_tellsWalker 139 = .ok (.invokevirtual 247, 3) := by decide +kernel
theorem dX8_tellsWalker_142 : decode cX8_tellsWalker 142 = .ok (.i2l, 1) := by decide +kernel
theorem dX8_tellsWalker_143 : decode cX8_tellsWalker 143 = .ok (.ladd, 1) := by decide +kernel
theorem dX8_tellsWalker_144 : decode cX8_tellsWalker 144 = .ok (.lstore 4, 2) := by decide +kernel
theorem dX8_tellsWalker_146 : decode cX8_tellsWalker 146 = .ok (.ldc2_w 320, 3) := by decide +kernel
theorem dX8_tellsWalker_149 : decode cX8_tellsWalker 149 = .ok (.lload 4, 2) := by decide +kernel
theorem dX8_tellsWalker_151 : decode cX8_tellsWalker 151 = .ok (.lmul, 1) := by decide +kernel
theorem dX8_tellsWalker_152 : decode cX8_tellsWalker 152 = .ok (.aload_n 0, 1) := by decide +kernel
theorem dX8_tellsWalker_153 : decode cX8_tellsWalker 153 = .ok (.iconst 3, 1) := by decide +kernel
theorem dX8_tellsWalker_154 : decode cX8_tellsWalker 154 = .ok (.iload_n 3, 1) := by decide +kernel
theorem dX8_tellsWalker_155 : decode cX8_tellsWalker 155 = .ok (.imul, 1) := by decide +kernel
theorem dX8_tellsWalker_156 : decode cX8_tellsWalker 156 = .ok (.iconst 2, 1) := by decide +kernel
theorem dX8_tellsWalker_157 : decode cX8_tellsWalker 157 = .ok (.iadd, 1) := by decide +kernel
theorem dX8_tellsWalker_158 : decode cX8_tellsWalker 158 = .ok (.bipush 10, 2) := by decide +kernel
theorem dX8_tellsWalker_160 : decode cX8_tellsWalker 160 = .ok (.iconst 0, 1) := by decide +kernel
theorem dX8_tellsWalker_161 : decode cX8_tellsWalker 161 = .ok (.invokevirtual 247, 3) := by decide +kernel
theorem dX8_tellsWalker_164 : decode cX8_tellsWalker 164 = .ok (.i2l, 1) := by decide +kernel
theorem dX8_tellsWalker_165 : decode cX8_tellsWalker 165 = .ok (.ladd, 1) := by decide +kernel
theorem dX8_tellsWalker_166 : decode cX8_tellsWalker 166 = .ok (.lstore 4, 2) := by decide +kernel
theorem dX8_tellsWalker_168 : decode cX8_tellsWalker 168 = .ok (.ldc2_w 320, 3) := by decide +kernel
theorem dX8_tellsWalker_171 : decode cX8_tellsWalker 171 = .ok (.lload 4, 2) := by decide +kernel
theorem dX8_tellsWalker_173 : decode cX8_tellsWalker 173 = .ok (.lmul, 1) := by decide +kernel
theorem dX8_tellsWalker_174 : decode cX8_tellsWalker 174 = .ok (.aload_n 0, 1) := by decide +kernel
theorem dX8_tellsWalker_175 : decode cX8_tellsWalker 175 = .ok (.iconst 3, 1) := by decide +kernel
theorem dX8_tellsWalker_176 : decode cX8_tellsWalker 176 = .ok (.iload_n 3, 1) := by decide +kernel
theorem dX8_tellsWalker_177 : decode cX8_tellsWalker 177 = .ok (.imul, 1) := by decide +kernel
theorem dX8_tellsWalker_178 : decode cX8_tellsWalker 178 = .ok (.iconst 2, 1) := by decide +kernel
theorem dX8_tellsWalker_179 : decode cX8_tellsWalker 179 = .ok (.iadd, 1) := by decide +kernel
theorem dX8_tellsWalker_180 : decode cX8_tellsWalker 180 = .ok (.bipush 10, 2) := by decide +kernel
theorem dX8_tellsWalker_182 : decode cX8_tellsWalker 182 = .ok (.iconst 1, 1) := by decide +kernel
theorem dX8_tellsWalker_183 : decode cX8_tellsWalker 183 = .ok (.invokevirtual 247, 3) := by decide +kernel
theorem dX8_tellsWalker_186 : decode cX8_tellsWalker 186 = .ok (.i2l, 1) := by decide +kernel
theorem dX8_tellsWalker_187 : decode cX8_tellsWalker 187 = .ok (.ladd, 1) := by decide +kernel
theorem dX8_tellsWalker_188 : decode cX8_tellsWalker 188 = .ok (.lstore 4, 2) := by decide +kernel
theorem dX8_tellsWalker_190 : decode cX8_tellsWalker 190 = .ok (.ldc2_w 320, 3) := by decide +kernel
theorem dX8_tellsWalker_193 : decode cX8_tellsWalker 193 = .ok (.lload 4, 2) := by decide +kernel
theorem dX8_tellsWalker_195 : decode cX8_tellsWalker 195 = .ok (.lmul, 1) := by decide +kernel
theorem dX8_tellsWalker_196 : decode cX8_tellsWalker 196 = .ok (.aload_n 0, 1) := by decide +kernel
theorem dX8_tellsWalker_197 : decode cX8_tellsWalker 197 = .ok (.iload_n 3, 1) := by decide +kernel
theorem dX8_tellsWalker_198 : decode cX8_tellsWalker 198 = .ok (.invokevirtual 277, 3) := by decide +kernel
theorem dX8_tellsWalker_201 : decode cX8_tellsWalker 201 = .ok (.i2l, 1) := by decide +kernel
theorem dX8_tellsWalker_202 : decode cX8_tellsWalker 202 = .ok (.ladd, 1) := by decide +kernel
theorem dX8_tellsWalker_203 : decode cX8_tellsWalker 203 = .ok (.lstore 4, 2) := by decide +kernel
theorem dX8_tellsWalker_205 : decode cX8_tellsWalker 205 = .ok (.ldc2_w 320, 3) := by decide +kernel
theorem dX8_tellsWalker_208 : decode cX8_tellsWalker 208 = .ok (.lload 4, 2) := by decide +kernel
theorem dX8_tellsWalker_210 : decode cX8_tellsWalker 210 = .ok (.lmul, 1) := by decide +kernel
theorem dX8_tellsWalker_211 : decode cX8_tellsWalker 211 = .ok (.aload_n 0, 1) := by decide +kernel
theorem dX8_tellsWalker_212 : decode cX8_tellsWalker 212 = .ok (.iload_n 3, 1) := by decide +kernel
theorem dX8_tellsWalker_213 : decode cX8_tellsWalker 213 = .ok (.invokevirtual 280, 3) := by decide +kernel
theorem dX8_tellsWalker_216 : decode cX8_tellsWalker 216 = .ok (.i2l, 1) := by decide +kernel
theorem dX8_tellsWalker_217 : decode cX8_tellsWalker 217 = .ok (.ladd, 1) := by decide +kernel
theorem dX8_tellsWalker_218 : decode cX8_tellsWalker 218 = .ok (.lstore 4, 2) := by decide +kernel
theorem dX8_tellsWalker_220 : decode cX8_tellsWalker 220 = .ok (.ldc2_w 320, 3) := by decide +kernel
theorem dX8_tellsWalker_223 : decode cX8_tellsWalker 223 = .ok (.lload 4, 2) := by decide +kernel
theorem dX8_tellsWalker_225 : decode cX8_tellsWalker 225 = .ok (.lmul, 1) := by decide +kernel
theorem dX8_tellsWalker_226 : decode cX8_tellsWalker 226 = .ok (.aload_n 0, 1) := by decide +kernel
theorem dX8_tellsWalker_227 : decode cX8_tellsWalker 227 = .ok (.iload_n 3, 1) := by decide +kernel
theorem dX8_tellsWalker_228 : decode cX8_tellsWalker 228 = .ok (.invokevirtual 289, 3) := by decide +kernel
theorem dX8_tellsWalker_231 : decode cX8_tellsWalker 231 = .ok (.i2l, 1) := by decide +kernel
theorem dX8_tellsWalker_232 : decode cX8_tellsWalker 232 = .ok (.ladd, 1) := by decide +kernel
theorem dX8_tellsWalker_233 : decode cX8_tellsWalker 233 = .ok (.lstore 4, 2) := by decide +kernel
theorem dX8_tellsWalker_235 : decode cX8_tellsWalker 235 = .ok (.ldc2_w 320, 3) := by decide +kernel
theorem dX8_tellsWalker_238 : decode cX8_tellsWalker 238 = .ok (.lload 4, 2) := by decide +kernel
theorem dX8_tellsWalker_240 : decode cX8_tellsWalker 240 = .ok (.lmul, 1) := by decide +kernel
theorem dX8_tellsWalker_241 : decode cX8_tellsWalker 241 = .ok (.aload_n 0, 1) := by decide +kernel
theorem dX8_tellsWalker_242 : decode cX8_tellsWalker 242 = .ok (.iconst 5, 1) := by decide +kernel
theorem dX8_tellsWalker_243 : decode cX8_tellsWalker 243 = .ok (.iload_n 3, 1) := by decide +kernel
theorem dX8_tellsWalker_244 : decode cX8_tellsWalker 244 = .ok (.iconst 0, 1) := by decide +kernel
theorem dX8_tellsWalker_245 : decode cX8_tellsWalker 245 = .ok (.invokevirtual 298, 3) := by decide +kernel
theorem dX8_tellsWalker_248 : decode cX8_tellsWalker 248 = .ok (.ladd, 1) := by decide +kernel
theorem dX8_tellsWalker_249 : decode cX8_tellsWalker 249 = .ok (.lstore 4, 2) := by decide +kernel
theorem dX8_tellsWalker_251 : decode cX8_tellsWalker 251 = .ok (.ldc2_w 320, 3) := by decide +kernel
theorem dX8_tellsWalker_254 : decode cX8_tellsWalker 254 = .ok (.lload 4, 2) := by decide +kernel
theorem dX8_tellsWalker_256 : decode cX8_tellsWalker 256 = .ok (.lmul, 1) := by decide +kernel
theorem dX8_tellsWalker_257 : decode cX8_tellsWalker 257 = .ok (.aload_n 0, 1) := by decide +kernel
theorem dX8_tellsWalker_258 : decode cX8_tellsWalker 258 = .ok (.iconst 5, 1) := by decide +kernel
theorem dX8_tellsWalker_259 : decode cX8_tellsWalker 259 = .ok (.iload_n 3, 1) := by decide +kernel
theorem dX8_tellsWalker_260 : decode cX8_tellsWalker 260 = .ok (.iconst 1, 1) := by decide +kernel
theorem dX8_tellsWalker_261 : decode cX8_tellsWalker 261 = .ok (.invokevirtual 298, 3) := by decide +kernel
theorem dX8_tellsWalker_264 : decode cX8_tellsWalker 264 = .ok (.ladd, 1) := by decide +kernel
theorem dX8_tellsWalker_265 : decode cX8_tellsWalker 265 = .ok (.lreturn, 1) := by decide +kernel
set_option maxRecDepth 20000 in
theorem m_X8_tellsWalker {h : Hp} {a1 : Int64} {a2 : Int32}  {u : (Hp × Int64)} (hu : f_X8_tellsWalker h a1 a2 = some u) : Ct yX8_tellsWalker cX8_tellsWalker 7 (some .long) 9 [.ref 68, .long a1, .int a2] h (eL u) := by
  refine ct_of eL hu (by decide) (Nat.le_of_ble_eq_true rfl) (fun κ hn C E => ?_)
  have n5 : 5 < kn κ := by rw [hn]; decide
  have n6 : 6 < kn κ := by rw [hn]; decide
  unfold f_X8_tellsWalker
  show Xz κ _ 0 [(0, .ref 68), (1, .long a1), (3, .int a2)] [] h
  refine x_aload_n 1 C dX8_tellsWalker_0 0 rfl rfl rfl ?_
  refine x_cvV 4 [] [] C 5 dX8_tellsWalker_1 v_X8_217 (fun u hu => m_X8_lives hu) rfl sk_68 rfl (Nat.le_of_ble_eq_true rfl) (Nat.le_of_ble_eq_true rfl) rfl (fun h1 => ?_)
  refine x_lload_n 5 C dX8_tellsWalker_4 1 rfl rfl rfl ?_
  refine x_lstore 7 [(4, .long a1), (0, .ref 68), (1, .long a1), (3, .int a2)] C dX8_tellsWalker_5 n5 rfl rfl ?_
  refine x_iconst 8 C dX8_tellsWalker_7 ci_0 rfl ?_
  refine x_istore 10 [(6, .int (0 : Int32)), (4, .long a1), (0, .ref 68), (1, .long a1), (3, .int a2)] C dX8_tellsWalker_8 n6 rfl rfl ?_
  refine x_lt1 (q := 43) (ls := fun l2 => [(0, .ref 68), (3, .int a2), (4, .long l2)]) (st := fun l2 => []) (hh := fun l2 => h1) (fun l2 => ?_) (fun k1 J1 => ?_)
  · refine x_aload_n 44 C dX8_tellsWalker_43 0 rfl rfl rfl ?_
    refine x_aload_n 45 C dX8_tellsWalker_44 0 rfl rfl rfl ?_
    refine x_aload_n 46 C dX8_tellsWalker_45 0 rfl rfl rfl ?_
    refine x_aload_n 47 C dX8_tellsWalker_46 0 rfl rfl rfl ?_
    refine x_lload 49 C dX8_tellsWalker_47 2 rfl rfl ?_
    refine x_iconst 50 C dX8_tellsWalker_49 ci_0 rfl ?_
    refine x_iload_n 51 C dX8_tellsWalker_50 1 rfl rfl rfl ?_
    refine x_cvl 54 [.long l2, .int (0 : Int32), .int a2] [.ref 68, .ref 68, .ref 68] C 0 dX8_tellsWalker_51 v_X8_322 (fun u hu => m_X8_tellsBeat hu) rfl sk_68 rfl (Nat.le_of_ble_eq_true rfl) (Nat.le_of_ble_eq_true rfl) rfl (fun l3 => ?_)
    refine x_bipush 56 C dX8_tellsWalker_54 cb_6 rfl ?_
    refine x_iload_n 57 C dX8_tellsWalker_56 1 rfl rfl rfl ?_
    refine x_cvl 60 [.long l3, .int (6 : Int32), .int a2] [.ref 68, .ref 68] C 0 dX8_tellsWalker_57 v_X8_322 (fun u hu => m_X8_tellsBeat hu) rfl sk_68 rfl (Nat.le_of_ble_eq_true rfl) (Nat.le_of_ble_eq_true rfl) rfl (fun l4 => ?_)
    refine x_bipush 62 C dX8_tellsWalker_60 cb_13 rfl ?_
    refine x_iload_n 63 C dX8_tellsWalker_62 1 rfl rfl rfl ?_
    refine x_cvl 66 [.long l4, .int (13 : Int32), .int a2] [.ref 68] C 0 dX8_tellsWalker_63 v_X8_322 (fun u hu => m_X8_tellsBeat hu) rfl sk_68 rfl (Nat.le_of_ble_eq_true rfl) (Nat.le_of_ble_eq_true rfl) rfl (fun l5 => ?_)
    refine x_bipush 68 C dX8_tellsWalker_66 cb_23 rfl ?_
    refine x_iload_n 69 C dX8_tellsWalker_68 1 rfl rfl rfl ?_
    refine x_cvl 72 [.long l5, .int (23 : Int32), .int a2] [] C 0 dX8_tellsWalker_69 v_X8_322 (fun u hu => m_X8_tellsBeat hu) rfl sk_68 rfl (Nat.le_of_ble_eq_true rfl) (Nat.le_of_ble_eq_true rfl) rfl (fun l6 => ?_)
    refine x_lstore 74 [(4, .long l6), (0, .ref 68), (3, .int a2)] C dX8_tellsWalker_72 n5 rfl rfl ?_
    refine x_iconst 75 C dX8_tellsWalker_74 ci_0 rfl ?_
    refine x_istore 77 [(6, .int (0 : Int32)), (4, .long l6), (0, .ref 68), (3, .int a2)] C dX8_tellsWalker_75 n6 rfl rfl ?_
    refine x_lt1 (q := 106) (ls := fun l7 => [(0, .ref 68), (3, .int a2), (4, .long l7)]) (st := fun l7 => []) (hh := fun l7 => h1) (fun l7 => ?_) (fun k2 J2 => ?_)
    · refine x_ldc2 109 C dX8_tellsWalker_106 kw_X8_320 rfl ?_
      refine x_lload 111 C dX8_tellsWalker_109 2 rfl rfl ?_
      refine x_lmul 112 C dX8_tellsWalker_111 rfl ?_
      refine x_aload_n 113 C dX8_tellsWalker_112 0 rfl rfl rfl ?_
      refine x_iconst 114 C dX8_tellsWalker_113 ci_3 rfl ?_
      refine x_iload_n 115 C dX8_tellsWalker_114 1 rfl rfl rfl ?_
      refine x_imul 116 C dX8_tellsWalker_115 rfl ?_
      refine x_bipush 118 C dX8_tellsWalker_116 cb_24 rfl ?_
      refine x_iconst 119 C dX8_tellsWalker_118 ci_0 rfl ?_
      refine x_cvI 122 [.int ((3 : Int32) * a2), .int (24 : Int32), .int (0 : Int32)] [.long ((31 : Int64) * l7)] C 6 dX8_tellsWalker_119 v_X8_247 (fun u hu => m_X8_walkerBetter hu) rfl sk_68 rfl (Nat.le_of_ble_eq_true rfl) (Nat.le_of_ble_eq_true rfl) rfl (fun h8 x9 => ?_)
      refine x_i2l 123 C dX8_tellsWalker_122 rfl ?_
      refine x_ladd 124 C dX8_tellsWalker_123 rfl ?_
      refine x_nl (fun l10 => ?_)
      refine x_lstore 126 [(4, .long l10), (0, .ref 68), (3, .int a2)] C dX8_tellsWalker_124 n5 rfl rfl ?_
      refine x_ldc2 129 C dX8_tellsWalker_126 kw_X8_320 rfl ?_
      refine x_lload 131 C dX8_tellsWalker_129 0 rfl rfl ?_
      refine x_lmul 132 C dX8_tellsWalker_131 rfl ?_
      refine x_aload_n 133 C dX8_tellsWalker_132 1 rfl rfl rfl ?_
      refine x_iconst 134 C dX8_tellsWalker_133 ci_3 rfl ?_
      refine x_iload_n 135 C dX8_tellsWalker_134 2 rfl rfl rfl ?_
      refine x_imul 136 C dX8_tellsWalker_135 rfl ?_
      refine x_bipush 138 C dX8_tellsWalker_136 cb_24 rfl ?_
      refine x_iconst 139 C dX8_tellsWalker_138 ci_1 rfl ?_
      refine x_cvI 142 [.int ((3 : Int32) * a2), .int (24 : Int32), .int (1 : Int32)] [.long ((31 : Int64) * l10)] C 6 dX8_tellsWalker_139 v_X8_247 (fun u hu => m_X8_walkerBetter hu) rfl sk_68 rfl (Nat.le_of_ble_eq_true rfl) (Nat.le_of_ble_eq_true rfl) rfl (fun h11 x12 => ?_)
      refine x_i2l 143 C dX8_tellsWalker_142 rfl ?_
      refine x_ladd 144 C dX8_tellsWalker_143 rfl ?_
      refine x_nl (fun l13 => ?_)
      refine x_lstore 146 [(4, .long l13), (0, .ref 68), (3, .int a2)] C dX8_tellsWalker_144 n5 rfl rfl ?_
      refine x_ldc2 149 C dX8_tellsWalker_146 kw_X8_320 rfl ?_
      refine x_lload 151 C dX8_tellsWalker_149 0 rfl rfl ?_
      refine x_lmul 152 C dX8_tellsWalker_151 rfl ?_
      refine x_aload_n 153 C dX8_tellsWalker_152 1 rfl rfl rfl ?_
      refine x_iconst 154 C dX8_tellsWalker_153 ci_3 rfl ?_
      refine x_iload_n 155 C dX8_tellsWalker_154 2 rfl rfl rfl ?_
      refine x_imul 156 C dX8_tellsWalker_155 rfl ?_
      refine x_iconst 157 C dX8_tellsWalker_156 ci_2 rfl ?_
      refine x_iadd 158 C dX8_tellsWalker_157 rfl ?_
      refine x_bipush 160 C dX8_tellsWalker_158 cb_10 rfl ?_
      refine x_iconst 161 C dX8_tellsWalker_160 ci_0 rfl ?_
      refine x_cvI 164 [.int (((3 : Int32) * a2) + (2 : Int32)), .int (10 : Int32), .int (0 : Int32)] [.long ((31 : Int64) * l13)] C 6 dX8_tellsWalker_161 v_X8_247 (fun u hu => m_X8_walkerBetter hu) rfl sk_68 rfl (Nat.le_of_ble_eq_true rfl) (Nat.le_of_ble_eq_true rfl) rfl (fun h14 x15 => ?_)
      refine x_i2l 165 C dX8_tellsWalker_164 rfl ?_
      refine x_ladd 166 C dX8_tellsWalker_165 rfl ?_
      refine x_nl (fun l16 => ?_)
      refine x_lstore 168 [(4, .long l16), (0, .ref 68), (3, .int a2)] C dX8_tellsWalker_166 n5 rfl rfl ?_
      refine x_ldc2 171 C dX8_tellsWalker_168 kw_X8_320 rfl ?_
      refine x_lload 173 C dX8_tellsWalker_171 0 rfl rfl ?_
      refine x_lmul 174 C dX8_tellsWalker_173 rfl ?_
      refine x_aload_n 175 C dX8_tellsWalker_174 1 rfl rfl rfl ?_
      refine x_iconst 176 C dX8_tellsWalker_175 ci_3 rfl ?_
      refine x_iload_n 177 C dX8_tellsWalker_176 2 rfl rfl rfl ?_
      refine x_imul 178 C dX8_tellsWalker_177 rfl ?_
      refine x_iconst 179 C dX8_tellsWalker_178 ci_2 rfl ?_
      refine x_iadd 180 C dX8_tellsWalker_179 rfl ?_
      refine x_bipush 182 C dX8_tellsWalker_180 cb_10 rfl ?_
      refine x_iconst 183 C dX8_tellsWalker_182 ci_1 rfl ?_
      refine x_cvI 186 [.int (((3 : Int32) * a2) + (2 : Int32)), .int (10 : Int32), .int (1 : Int32)] [.long ((31 : Int64) * l16)] C 6 dX8_tellsWalker_183 v_X8_247 (fun u hu => m_X8_walkerBetter hu) rfl sk_68 rfl (Nat.le_of_ble_eq_true rfl) (Nat.le_of_ble_eq_true rfl) rfl (fun h17 x18 => ?_)
      refine x_i2l 187 C dX8_tellsWalker_186 rfl ?_
      refine x_ladd 188 C dX8_tellsWalker_187 rfl ?_
      refine x_nl (fun l19 => ?_)
      refine x_lstore 190 [(4, .long l19), (0, .ref 68), (3, .int a2)] C dX8_tellsWalker_188 n5 rfl rfl ?_
      refine x_ldc2 193 C dX8_tellsWalker_190 kw_X8_320 rfl ?_
      refine x_lload 195 C dX8_tellsWalker_193 0 rfl rfl ?_
      refine x_lmul 196 C dX8_tellsWalker_195 rfl ?_
      refine x_aload_n 197 C dX8_tellsWalker_196 1 rfl rfl rfl ?_
      refine x_iload_n 198 C dX8_tellsWalker_197 2 rfl rfl rfl ?_
      refine x_cvI 201 [.int a2] [.long ((31 : Int64) * l19)] C 7 dX8_tellsWalker_198 v_X8_277 (fun u hu => m_X8_polesOf hu) rfl sk_68 rfl (Nat.le_of_ble_eq_true rfl) (Nat.le_of_ble_eq_true rfl) rfl (fun h20 x21 => ?_)
      refine x_i2l 202 C dX8_tellsWalker_201 rfl ?_
      refine x_ladd 203 C dX8_tellsWalker_202 rfl ?_
      refine x_nl (fun l22 => ?_)
      refine x_lstore 205 [(4, .long l22), (0, .ref 68), (3, .int a2)] C dX8_tellsWalker_203 n5 rfl rfl ?_
      refine x_ldc2 208 C dX8_tellsWalker_205 kw_X8_320 rfl ?_
      refine x_lload 210 C dX8_tellsWalker_208 0 rfl rfl ?_
      refine x_lmul 211 C dX8_tellsWalker_210 rfl ?_
      refine x_aload_n 212 C dX8_tellsWalker_211 1 rfl rfl rfl ?_
      refine x_iload_n 213 C dX8_tellsWalker_212 2 rfl rfl rfl ?_
      refine x_cvI 216 [.int a2] [.long ((31 : Int64) * l22)] C 7 dX8_tellsWalker_213 v_X8_280 (fun u hu => m_X8_sortOf hu) rfl sk_68 rfl (Nat.le_of_ble_eq_true rfl) (Nat.le_of_ble_eq_true rfl) rfl (fun h23 x24 => ?_)
      refine x_i2l 217 C dX8_tellsWalker_216 rfl ?_
      refine x_ladd 218 C dX8_tellsWalker_217 rfl ?_
      refine x_nl (fun l25 => ?_)
      refine x_lstore 220 [(4, .long l25), (0, .ref 68), (3, .int a2)] C dX8_tellsWalker_218 n5 rfl rfl ?_
      refine x_ldc2 223 C dX8_tellsWalker_220 kw_X8_320 rfl ?_
      refine x_lload 225 C dX8_tellsWalker_223 0 rfl rfl ?_
      refine x_lmul 226 C dX8_tellsWalker_225 rfl ?_
      refine x_aload_n 227 C dX8_tellsWalker_226 1 rfl rfl rfl ?_
      refine x_iload_n 228 C dX8_tellsWalker_227 2 rfl rfl rfl ?_
      refine x_cvI 231 [.int a2] [.long ((31 : Int64) * l25)] C 8 dX8_tellsWalker_228 v_X8_289 (fun u hu => m_X8_askOf hu) rfl sk_68 rfl (Nat.le_of_ble_eq_true rfl) (Nat.le_of_ble_eq_true rfl) rfl (fun h26 x27 => ?_)
      refine x_i2l 232 C dX8_tellsWalker_231 rfl ?_
      refine x_ladd 233 C dX8_tellsWalker_232 rfl ?_
      refine x_nl (fun l28 => ?_)
      refine x_lstore 235 [(4, .long l28), (0, .ref 68), (3, .int a2)] C dX8_tellsWalker_233 n5 rfl rfl ?_
      refine x_ldc2 238 C dX8_tellsWalker_235 kw_X8_320 rfl ?_
      refine x_lload 240 C dX8_tellsWalker_238 0 rfl rfl ?_
      refine x_lmul 241 C dX8_tellsWalker_240 rfl ?_
      refine x_aload_n 242 C dX8_tellsWalker_241 1 rfl rfl rfl ?_
      refine x_iconst 243 C dX8_tellsWalker_242 ci_5 rfl ?_
      refine x_iload_n 244 C dX8_tellsWalker_243 2 rfl rfl rfl ?_
      refine x_iconst 245 C dX8_tellsWalker_244 ci_0 rfl ?_
      refine x_cvL 248 [.int (5 : Int32), .int a2, .int (0 : Int32)] [.long ((31 : Int64) * l28)] C 6 dX8_tellsWalker_245 v_X8_298 (fun u hu => m_X8_chanceOf hu) rfl sk_68 rfl (Nat.le_of_ble_eq_true rfl) (Nat.le_of_ble_eq_true rfl) rfl (fun h29 l30 => ?_)
      refine x_ladd 249 C dX8_tellsWalker_248 rfl ?_
      refine x_nl (fun l31 => ?_)
      refine x_lstore 251 [(4, .long l31), (0, .ref 68), (3, .int a2)] C dX8_tellsWalker_249 n5 rfl rfl ?_
      refine x_ldc2 254 C dX8_tellsWalker_251 kw_X8_320 rfl ?_
      refine x_lload 256 C dX8_tellsWalker_254 0 rfl rfl ?_
      refine x_lmul 257 C dX8_tellsWalker_256 rfl ?_
      refine x_aload_n 258 C dX8_tellsWalker_257 1 rfl rfl rfl ?_
      refine x_iconst 259 C dX8_tellsWalker_258 ci_5 rfl ?_
      refine x_iload_n 260 C dX8_tellsWalker_259 2 rfl rfl rfl ?_
      refine x_iconst 261 C dX8_tellsWalker_260 ci_1 rfl ?_
      refine x_cvL 264 [.int (5 : Int32), .int a2, .int (1 : Int32)] [.long ((31 : Int64) * l31)] C 6 dX8_tellsWalker_261 v_X8_298 (fun u hu => m_X8_chanceOf hu) rfl sk_68 rfl (Nat.le_of_ble_eq_true rfl) (Nat.le_of_ble_eq_true rfl) rfl (fun h32 l33 => ?_)
      refine x_ladd 265 C dX8_tellsWalker_264 rfl ?_
      exact x_lret C E dX8_tellsWalker_265 rfl
    refine x_ls [2, 3, 1, 0] rfl (x_fx2 (ls := fun l34 x35 => [(0, .ref 68), (3, .int a2), (4, .long l34), (6, .int x35)]) (st := fun l34 x35 => []) (hh := fun l34 x35 => h1) (fun s3 J3 l34 x35 => ?_))
    refine x_iload 79 C dX8_tellsWalker_77 3 rfl rfl ?_
    refine x_iconst 80 C dX8_tellsWalker_79 ci_3 rfl ?_
    refine x_icmp_ge 83 106 C dX8_tellsWalker_80 (by decide) rfl (fun _ => ?_) (fun _ => ?_)
    · exact x_ls [0, 1, 2] rfl (J2 l34)
    · refine x_ldc2 86 C dX8_tellsWalker_83 kw_X8_320 rfl ?_
      refine x_lload 88 C dX8_tellsWalker_86 2 rfl rfl ?_
      refine x_lmul 89 C dX8_tellsWalker_88 rfl ?_
      refine x_aload_n 90 C dX8_tellsWalker_89 0 rfl rfl rfl ?_
      refine x_iload_n 91 C dX8_tellsWalker_90 1 rfl rfl rfl ?_
      refine x_iload 93 C dX8_tellsWalker_91 3 rfl rfl ?_
      refine x_cvi 96 [.int a2, .int x35] [.long ((31 : Int64) * l34)] C 0 dX8_tellsWalker_93 v_X8_226 (fun u hu => m_X8_endsBy hu) rfl sk_68 rfl (Nat.le_of_ble_eq_true rfl) (Nat.le_of_ble_eq_true rfl) rfl (fun x36 => ?_)
      refine x_i2l 97 C dX8_tellsWalker_96 rfl ?_
      refine x_ladd 98 C dX8_tellsWalker_97 rfl ?_
      refine x_nl (fun l37 => ?_)
      refine x_lstore 100 [(4, .long l37), (0, .ref 68), (3, .int a2), (6, .int x35)] C dX8_tellsWalker_98 n5 rfl rfl ?_
      refine x_iinc 103 (fun x38 => [(6, .int x38), (4, .long l37), (0, .ref 68), (3, .int a2)]) C dX8_tellsWalker_100 3 rfl ci_1 n6 (fun _ => rfl) rfl (fun x38 => ?_)
      refine x_goto 77 C dX8_tellsWalker_103 (by decide) ?_
      exact x_ls [2, 3, 1, 0] rfl (J3 l37 x38)
  refine x_ls [2, 4, 1, 0] rfl (x_fx2 (ls := fun l39 x40 => [(0, .ref 68), (3, .int a2), (4, .long l39), (6, .int x40)]) (st := fun l39 x40 => []) (hh := fun l39 x40 => h1) (fun s4 J4 l39 x40 => ?_))
  refine x_iload 12 C dX8_tellsWalker_10 3 rfl rfl ?_
  refine x_iconst 13 C dX8_tellsWalker_12 ci_3 rfl ?_
  refine x_icmp_ge 16 43 C dX8_tellsWalker_13 (by decide) rfl (fun _ => ?_) (fun _ => ?_)
  · exact x_ls [0, 1, 2] rfl (J1 l39)
  · refine x_ldc2 19 C dX8_tellsWalker_16 kw_X8_320 rfl ?_
    refine x_lload 21 C dX8_tellsWalker_19 2 rfl rfl ?_
    refine x_lmul 22 C dX8_tellsWalker_21 rfl ?_
    refine x_aload_n 23 C dX8_tellsWalker_22 0 rfl rfl rfl ?_
    refine x_getR (c := 75) 26 C dX8_tellsWalker_23 fl_X8_28 sk_68 rfl sr_68_8 rfl ?_
    refine x_iconst 27 C dX8_tellsWalker_26 ci_3 rfl ?_
    refine x_iload_n 28 C dX8_tellsWalker_27 1 rfl rfl rfl ?_
    refine x_imul 29 C dX8_tellsWalker_28 rfl ?_
    refine x_iload 31 C dX8_tellsWalker_29 3 rfl rfl ?_
    refine x_iadd 32 C dX8_tellsWalker_31 rfl ?_
    refine x_iald 33 C dX8_tellsWalker_32 sk_75 sl_75 rfl ?_
    refine x_i2l 34 C dX8_tellsWalker_33 rfl ?_
    refine x_ladd 35 C dX8_tellsWalker_34 rfl ?_
    refine x_nl (fun l41 => ?_)
    refine x_lstore 37 [(4, .long l41), (0, .ref 68), (3, .int a2), (6, .int x40)] C dX8_tellsWalker_35 n5 rfl rfl ?_
    refine x_iinc 40 (fun x42 => [(6, .int x42), (4, .long l41), (0, .ref 68), (3, .int a2)]) C dX8_tellsWalker_37 3 rfl ci_1 n6 (fun _ => rfl) rfl (fun x42 => ?_)
    refine x_goto 10 C dX8_tellsWalker_40 (by decide) ?_
    exact x_ls [2, 3, 1, 0] rfl (J4 l41 x42)
