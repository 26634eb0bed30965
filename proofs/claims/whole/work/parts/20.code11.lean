def f_X7_copy (h : Hp) (a1 : Int32) (a2 : Int32) (a3 : Int32) (a4 : Int32) (a5 : Int32) : Option (Hp × Int32) :=
  bdr (f_X7_isSheet a1) fun x1 =>
  if x1 = 0 then (
    some (h, (-2 : Int32)))
  else (
    bdr (f_X7_isSheet a3) fun x2 =>
    if x2 = 0 then (
      some (h, (-2 : Int32)))
    else (
      ck a1 4 (
        ck a3 4 (
          lt1 (fun (u5 : Int32) =>
            bnd (f_X7_found h (1 : Int32)) fun h6 x7 =>
            some (h6, x7)) fun k1 =>
          if (h.1 (60 + 2 * a1.toNatClampNeg) 1) = 0 then (
            if (h.1 (60 + 2 * a3.toNatClampNeg) 1) = 0 then (
              if (h.1 (60 + 2 * a1.toNatClampNeg) 2) = (h.1 (60 + 2 * a3.toNatClampNeg) 2) then (
                bdr (f_X1_hasRun h (60 + 2 * a1.toNatClampNeg) a2 a5) fun x8 =>
                lt1 (fun (u9 : Int32) =>
                  bnd (f_X7_found h (2 : Int32)) fun h10 x11 =>
                  some (h10, x11)) fun k2 =>
                if x8 = 0 then (
                  k2 (0 : Int32))
                else (
                  bdr (f_X1_hasRun h (60 + 2 * a3.toNatClampNeg) a4 a5) fun x12 =>
                  if x12 = 0 then (
                    k2 (0 : Int32))
                  else (
                    cy (¬ a2 < 0 ∧ ¬ a4 < 0 ∧ ¬ a5 < 0 ∧ a2.toNatClampNeg + a5.toNatClampNeg ≤ 60 ∧ a4.toNatClampNeg + a5.toNatClampNeg ≤ 60) (nm (ucp h ((60 + 2 * a1.toNatClampNeg) + 1) ((60 + 2 * a3.toNatClampNeg) + 1) a2 a4 a5) fun h13 =>
                    some (h13, (1 : Int32))))))
              else (
                bnd (f_X7_found h (4 : Int32)) fun h14 x15 =>
                some (h14, x15)))
            else (
              k1 (0 : Int32)))
          else (
            k1 (0 : Int32))))))
theorem dX7_copy_0 : decode cX7_copy 0 = .ok (.iload_n 1, 1) := by decide +kernel
theorem dX7_copy_1 : decode cX7_copy 1 = .ok (.invokestatic 157, 3) := by decide +kernel
theorem dX7_copy_4 : decode cX7_copy 4 = .ok (.ifCond .eq 10, 3) := by decide +kernel
theorem dX7_copy_7 : decode cX7_copy 7 = .ok (.iload_n 3, 1) := by decide +kernel
theorem dX7_copy_8 : decode cX7_copy 8 = .ok (.invokestatic 157, 3) := by decide +kernel
theorem dX7_copy_11 : decode cX7_copy 11 = .ok (.ifCond .ne 6, 3) := by decide +kernel
theorem dX7_copy_14 : decode cX7_copy 14 = .ok (.bipush (-2), 2) := by decide +kernel
theorem dX7_copy_16 : decode cX7_copy 16 = .ok (.ireturn, 1) := by decide +kernel
theorem dX7_copy_17 : decode cX7_copy 17 = .ok (.aload_n 0, 1) := by decide +kernel
theorem dX7_copy_18 : decode cX7_copy 18 = .ok (.getfield 63, 3) := by decide +kernel
theorem dX7_copy_21 : decode cX7_copy 21 = .ok (.iload_n 1, 1) := by decide +kernel
theorem dX7_copy_22 : decode cX7_copy 22 = .ok (.aaload, 1) := by decide +kernel
theorem dX7_copy_23 : decode cX7_copy 23 = .ok (.astore 6, 2) := by decide +kernel
theorem dX7_copy_25 : decode cX7_copy 25 = .ok (.aload_n 0, 1) := by decide +kernel
theorem dX7_copy_26 : decode cX7_copy 26 = .ok (.getfield 63, 3) := by decide +kernel
theorem dX7_copy_29 : decode cX7_copy 29 = .ok (.iload_n 3, 1) := by decide +kernel
theorem dX7_copy_30 : decode cX7_copy 30 = .ok (.aaload, 1) := by decide +kernel
theorem dX7_copy_31 : decode cX7_copy 31 = .ok (.astore 7, 2) := by decide +kernel
theorem dX7_copy_33 : decode cX7_copy 33 = .ok (.aload 6, 2) := by decide +kernel
theorem dX7_copy_35 : decode cX7_copy 35 = .ok (.getfield 160, 3) := by decide +kernel
theorem dX7_copy_38 : decode cX7_copy 38 = .ok (.ifCond .ne 11, 3) := by decide +kernel
theorem dX7_copy_41 : decode cX7_copy 41 = .ok (.aload 7, 2) := by decide +kernel
theorem dX7_copy_43 : decode cX7_copy 43 = .ok (.getfield 160, 3) := by decide +kernel
theorem dX7_copy_46 : decode cX7_copy 46 = .ok (.ifCond .eq 9, 3) := by decide +kernel
theorem dX7_copy_49 : decode cX7_copy 49 = .ok (.aload_n 0, 1) := by decide +kernel
theorem dX7_copy_50 : decode cX7_copy 50 = .ok (.iconst 1, 1) := by decide +kernel
theorem dX7_copy_51 : decode cX7_copy 51 = .ok (.invokevirtual 163, 3) := by decide +kernel
theorem dX7_copy_54 : decode cX7_copy 54 = .ok (.ireturn, 1) := by decide +kernel
theorem dX7_copy_55 : decode cX7_copy 55 = .ok (.aload 6, 2) := by decide +kernel
theorem dX7_copy_57 : decode cX7_copy 57 = .ok (.getfield 302, 3) := by decide +kernel
theorem dX7_copy_60 : decode cX7_copy 60 = .ok (.aload 7, 2) := by decide +kernel
theorem dX7_copy_62 : decode cX7_copy 62 = .ok (.getfield 302, 3) := by decide +kernel
theorem dX7_copy_65 : decode cX7_copy 65 = .ok (.if_icmp .eq 9, 3) := by decide +kernel
theorem dX7_copy_68 : decode cX7_copy 68 = .ok (.aload_n 0, 1) := by decide +kernel
theorem dX7_copy_69 : decode cX7_copy 69 = .ok (.iconst 4, 1) := by decide +kernel
theorem dX7_copy_70 : decode cX7_copy 70 = .ok (.invokevirtual 163, 3) := by decide +kernel
theorem dX7_copy_73 : decode cX7_copy 73 = .ok (.ireturn, 1) := by decide +kernel
theorem dX7_copy_74 : decode cX7_copy 74 = .ok (.aload 6, 2) := by decide +kernel
theorem dX7_copy_76 : decode cX7_copy 76 = .ok (.iload_n 2, 1) := by decide +kernel
theorem dX7_copy_77 : decode cX7_copy 77 = .ok (.iload 5, 2) := by decide +kernel
theorem dX7_copy_79 : decode cX7_copy 79 = .ok (.invokevirtual 305, 3) := by decide +kernel
theorem dX7_copy_82 : decode cX7_copy 82 = .ok (.ifCond .eq 15, 3) := by decide +kernel
theorem dX7_copy_85 : decode cX7_copy 85 = .ok (.aload 7, 2) := by decide +kernel
theorem dX7_copy_87 : decode cX7_copy 87 = .ok (.iload 4, 2) := by decide +kernel
theorem dX7_copy_89 : decode cX7_copy 89 = .ok (.iload 5, 2) := by decide +kernel
theorem dX7_copy_91 : decode cX7_copy 91 = .ok (.invokevirtual 305, 3) := by decide +kernel
theorem dX7_copy_94 : decode cX7_copy 94 = .ok (.ifCond .ne 9, 3) := by decide +kernel
theorem dX7_copy_97 : decode cX7_copy 97 = .ok (.aload_n 0, 1) := by decide +kernel
theorem dX7_copy_98 : decode cX7_copy 98 = .ok (.iconst 2, 1) := by decide +kernel
theorem dX7_copy_99 : decode cX7_copy 99 = .ok (.invokevirtual 163, 3) := by decide +kernel
theorem dX7_copy_102 : decode cX7_copy 102 = .ok (.ireturn, 1) := by decide +kernel
theorem dX7_copy_103 : decode cX7_copy 103 = .ok (.aload 6, 2) := by decide +kernel
theorem dX7_copy_105 : decode cX7_copy 105 = .ok (.getfield 168, 3) := by decide +kernel
theorem dX7_copy_108 : decode cX7_copy 108 = .ok (.iload_n 2, 1) := by decide +kernel
theorem dX7_copy_109 : decode cX7_copy 109 = .ok (.aload 7, 2) := by decide +kernel
theorem dX7_copy_111 : decode cX7_copy 111 = .ok (.getfield 168, 3) := by decide +kernel
theorem dX7_copy_114 : decode cX7_copy 114 = .ok (.iload 4, 2) := by decide +kernel
theorem dX7_copy_116 : decode cX7_copy 116 = .ok (.iload 5, 2) := by decide +kernel
theorem dX7_copy_118 : decode cX7_copy 118 = .ok (.invokestatic 309, 3) := by decide +kernel
theorem dX7_copy_121 : decode cX7_copy 121 = .ok (.iconst 1, 1) := by decide +kernel
theorem dX7_copy_122 : decode cX7_copy 122 = .ok (.ireturn, 1) := by decide +kernel
set_option maxRecDepth 20000 in
theorem m_X7_copy {h : Hp} {a1 : Int32} {a2 : Int32} {a3 : Int32} {a4 : Int32} {a5 : Int32}  {u : (Hp × Int32)} (hu : f_X7_copy h a1 a2 a3 a4 a5 = some u) : Ct yX7_copy cX7_copy 8 (some .int) 2 [.ref 0, .int a1, .int a2, .int a3, .int a4, .int a5] h (eI u) := by
  refine ct_of eI hu (by decide) (Nat.le_of_ble_eq_true rfl) (fun κ hn C E => ?_)
  have n6 : 6 < kn κ := by rw [hn]; decide
  have n7 : 7 < kn κ := by rw [hn]; decide
  unfold f_X7_copy
  show Xz κ _ 0 [(0, .ref 0), (1, .int a1), (2, .int a2), (3, .int a3), (4, .int a4), (5, .int a5)] [] h
  refine x_iload_n 1 C dX7_copy_0 1 rfl rfl rfl ?_
  refine x_csi 4 [.int a1] [] C 1 dX7_copy_1 s_X7_157 (fun u hu => m_X7_isSheet hu) rfl rfl (Nat.le_of_ble_eq_true rfl) (Nat.le_of_ble_eq_true rfl) rfl (fun x1 => ?_)
  refine x_if_eq 7 14 C dX7_copy_4 (by decide) rfl (fun _ => ?_) (fun _ => ?_)
  · refine x_bipush 16 C dX7_copy_14 cb_m2 rfl ?_
    exact x_iret C E dX7_copy_16 rfl
  · refine x_iload_n 8 C dX7_copy_7 3 rfl rfl rfl ?_
    refine x_csi 11 [.int a3] [] C 1 dX7_copy_8 s_X7_157 (fun u hu => m_X7_isSheet hu) rfl rfl (Nat.le_of_ble_eq_true rfl) (Nat.le_of_ble_eq_true rfl) rfl (fun x2 => ?_)
    refine x_if_ne 14 17 C dX7_copy_11 (by decide) rfl (fun _ => ?_) (fun _ => ?_)
    · refine x_aload_n 18 C dX7_copy_17 0 rfl rfl rfl ?_
      refine x_getR (c := 59) 21 C dX7_copy_18 fl_X7_63 sk_0 rfl sr_0_10 rfl ?_
      refine x_iload_n 22 C dX7_copy_21 1 rfl rfl rfl ?_
      refine x_aald 23 C dX7_copy_22 rfl (fun hs3 => ?_)
      refine x_astore 25 [(6, .ref (60 + 2 * a1.toNatClampNeg)), (0, .ref 0), (1, .int a1), (2, .int a2), (3, .int a3), (4, .int a4), (5, .int a5)] C dX7_copy_23 n6 rfl rfl ?_
      refine x_aload_n 26 C dX7_copy_25 1 rfl rfl rfl ?_
      refine x_getR (c := 59) 29 C dX7_copy_26 fl_X7_63 sk_0 rfl sr_0_10 rfl ?_
      refine x_iload_n 30 C dX7_copy_29 4 rfl rfl rfl ?_
      refine x_aald 31 C dX7_copy_30 rfl (fun hs4 => ?_)
      refine x_astore 33 [(7, .ref (60 + 2 * a3.toNatClampNeg)), (6, .ref (60 + 2 * a1.toNatClampNeg)), (0, .ref 0), (1, .int a1), (2, .int a2), (3, .int a3), (4, .int a4), (5, .int a5)] C dX7_copy_31 n7 rfl rfl ?_
      refine x_aload 35 C dX7_copy_33 1 rfl rfl ?_
      refine x_getI 38 C dX7_copy_35 fl_X7_160 (sk_sh hs3) rfl rfl ?_
      refine x_lt1 (q := 49) (ls := fun u5 => [(0, .ref 0)]) (st := fun u5 => []) (hh := fun u5 => h) (fun u5 => ?_) (fun k1 J1 => ?_)
      · refine x_aload_n 50 C dX7_copy_49 0 rfl rfl rfl ?_
        refine x_iconst 51 C dX7_copy_50 ci_1 rfl ?_
        refine x_cvI 54 [.int (1 : Int32)] [] C 0 dX7_copy_51 v_X7_163 (fun u hu => m_X7_found hu) rfl sk_0 rfl (Nat.le_of_ble_eq_true rfl) (Nat.le_of_ble_eq_true rfl) rfl (fun h6 x7 => ?_)
        exact x_iret C E dX7_copy_54 rfl
      refine x_if_ne 41 49 C dX7_copy_38 (by decide) rfl (fun _ => ?_) (fun _ => ?_)
      · exact x_ls [2] rfl (J1 (0 : Int32))
      · refine x_aload 43 C dX7_copy_41 0 rfl rfl ?_
        refine x_getI 46 C dX7_copy_43 fl_X7_160 (sk_sh hs4) rfl rfl ?_
        refine x_if_eq 49 55 C dX7_copy_46 (by decide) rfl (fun _ => ?_) (fun _ => ?_)
        · refine x_aload 57 C dX7_copy_55 1 rfl rfl ?_
          refine x_getI 60 C dX7_copy_57 fl_X7_302 (sk_sh hs3) rfl rfl ?_
          refine x_aload 62 C dX7_copy_60 0 rfl rfl ?_
          refine x_getI 65 C dX7_copy_62 fl_X7_302 (sk_sh hs4) rfl rfl ?_
          refine x_icmp_eq 68 74 C dX7_copy_65 (by decide) rfl (fun _ => ?_) (fun _ => ?_)
          · refine x_aload 76 C dX7_copy_74 1 rfl rfl ?_
            refine x_iload_n 77 C dX7_copy_76 4 rfl rfl rfl ?_
            refine x_iload 79 C dX7_copy_77 7 rfl rfl ?_
            refine x_cvi 82 [.int a2, .int a5] [] C 0 dX7_copy_79 v_X7_305 (fun u hu => m_X1_hasRun (sk_sh hs3) hu) rfl (sk_sh hs3) rfl (Nat.le_of_ble_eq_true rfl) (Nat.le_of_ble_eq_true rfl) rfl (fun x8 => ?_)
            refine x_lt1 (q := 97) (ls := fun u9 => [(0, .ref 0)]) (st := fun u9 => []) (hh := fun u9 => h) (fun u9 => ?_) (fun k2 J2 => ?_)
            · refine x_aload_n 98 C dX7_copy_97 0 rfl rfl rfl ?_
              refine x_iconst 99 C dX7_copy_98 ci_2 rfl ?_
              refine x_cvI 102 [.int (2 : Int32)] [] C 0 dX7_copy_99 v_X7_163 (fun u hu => m_X7_found hu) rfl sk_0 rfl (Nat.le_of_ble_eq_true rfl) (Nat.le_of_ble_eq_true rfl) rfl (fun h10 x11 => ?_)
              exact x_iret C E dX7_copy_102 rfl
            refine x_if_eq 85 97 C dX7_copy_82 (by decide) rfl (fun _ => ?_) (fun _ => ?_)
            · exact x_ls [2] rfl (J2 (0 : Int32))
            · refine x_aload 87 C dX7_copy_85 0 rfl rfl ?_
              refine x_iload 89 C dX7_copy_87 6 rfl rfl ?_
              refine x_iload 91 C dX7_copy_89 7 rfl rfl ?_
              refine x_cvi 94 [.int a4, .int a5] [] C 0 dX7_copy_91 v_X7_305 (fun u hu => m_X1_hasRun (sk_sh hs4) hu) rfl (sk_sh hs4) rfl (Nat.le_of_ble_eq_true rfl) (Nat.le_of_ble_eq_true rfl) rfl (fun x12 => ?_)
              refine x_if_ne 97 103 C dX7_copy_94 (by decide) rfl (fun _ => ?_) (fun _ => ?_)
              · refine x_aload 105 C dX7_copy_103 1 rfl rfl ?_
                refine x_getR (c := ((60 + 2 * a1.toNatClampNeg) + 1)) 108 C dX7_copy_105 fl_X7_168 (sk_sh hs3) rfl (of_1_0 (sk_sh hs3)) rfl ?_
                refine x_iload_n 109 C dX7_copy_108 4 rfl rfl rfl ?_
                refine x_aload 111 C dX7_copy_109 0 rfl rfl ?_
                refine x_getR (c := ((60 + 2 * a3.toNatClampNeg) + 1)) 114 C dX7_copy_111 fl_X7_168 (sk_sh hs4) rfl (of_1_0 (sk_sh hs4)) rfl ?_
                refine x_iload 116 C dX7_copy_114 6 rfl rfl ?_
                refine x_iload 118 C dX7_copy_116 7 rfl rfl ?_
                refine x_acp 121 C dX7_copy_118 mw_X7_309 w_na_ac w_st_ac w_in_System (Nat.le_of_ble_eq_true rfl) (ok_1_0 (sk_sh hs3)) (ok_1_0 (sk_sh hs4)) (ol_1_0 (sk_sh hs3)) (ol_1_0 (sk_sh hs4)) (Nat.le_of_ble_eq_true rfl) rfl (fun h13 => ?_)
                refine x_iconst 122 C dX7_copy_121 ci_1 rfl ?_
                exact x_iret C E dX7_copy_122 rfl
              · exact x_ls [2] rfl (J2 (0 : Int32))
          · refine x_aload_n 69 C dX7_copy_68 2 rfl rfl rfl ?_
            refine x_iconst 70 C dX7_copy_69 ci_4 rfl ?_
            refine x_cvI 73 [.int (4 : Int32)] [] C 0 dX7_copy_70 v_X7_163 (fun u hu => m_X7_found hu) rfl sk_0 rfl (Nat.le_of_ble_eq_true rfl) (Nat.le_of_ble_eq_true rfl) rfl (fun h14 x15 => ?_)
            exact x_iret C E dX7_copy_73 rfl
        · exact x_ls [2] rfl (J1 (0 : Int32))
    · refine x_bipush 16 C dX7_copy_14 cb_m2 rfl ?_
      exact x_iret C E dX7_copy_16 rfl

def f_X7_write (h : Hp) (a1 : Int32) (a2 : Int32) : Option (Hp × Int32) :=
  bdr (f_X7_isWalker h a1) fun x1 =>
  if x1 = 0 then (
    some (h, (-2 : Int32)))
  else (
    bdr (f_X7_isSheet a2) fun x2 =>
    if x2 = 0 then (
      some (h, (-2 : Int32)))
    else (
      ck a2 4 (
        if (h.1 (60 + 2 * a2.toNatClampNeg) 1) = 0 then (
          bnd (f_X7_shown h) fun h4 c5 =>
          cy (sk c5 = 2) (
            nm (jmin (h4.1 (60 + 2 * a2.toNatClampNeg) 3) (24 : Int32)) fun x7 =>
            fx2 FU (fun s1 (h8 : Hp) (x9 : Int32) =>
              if x7 ≤ x9 then (
                some (h8, x7))
              else (
                bdr (f_X0_leanBehind h8 (c5 + 5) x9 a1) fun x10 =>
                bdv (f_X1_put h8 (60 + 2 * a2.toNatClampNeg) x9 x10) fun h11 =>
                nm (x9 + (1 : Int32)) fun x12 =>
                s1 h11 x12)) h4 (0 : Int32)))
        else (
          bnd (f_X7_found h (1 : Int32)) fun h13 x14 =>
          some (h13, x14)))))
theorem dX7_write_0 : decode cX7_write 0 = .ok (.aload_n 0, 1) := by decide +kernel
theorem dX7_write_1 : decode cX7_write 1 = .ok (.iload_n 1, 1) := by decide +kernel
theorem dX7_write_2 : decode cX7_write 2 = .ok (.invokevirtual 113, 3) := by decide +kernel
theorem dX7_write_5 : decode cX7_write 5 = .ok (.ifCond .eq 10, 3) := by decide +kernel
theorem dX7_write_8 : decode cX7_write 8 = .ok (.iload_n 2, 1) := by decide +kernel
theorem dX7_write_9 : decode cX7_write 9 = .ok (.invokestatic 157, 3) := by decide +kernel
theorem dX7_write_12 : decode cX7_write 12 = .ok (.ifCond .ne 6, 3) := by decide +kernel
theorem dX7_write_15 : decode cX7_write 15 = .ok (.bipush (-2), 2) := by decide +kernel
theorem dX7_write_17 : decode cX7_write 17 = .ok (.ireturn, 1) := by decide +kernel
theorem dX7_write_18 : decode cX7_write 18 = .ok (.aload_n 0, 1) := by decide +kernel
theorem dX7_write_19 : decode cX7_write 19 = .ok (.getfield 63, 3) := by decide +kernel
theorem dX7_write_22 : decode cX7_write 22 = .ok (.iload_n 2, 1) := by decide +kernel
theorem dX7_write_23 : decode cX7_write 23 = .ok (.aaload, 1) := by decide +kernel
theorem dX7_write_24 : decode cX7_write 24 = .ok (.astore_n 3, 1) := by decide +kernel
theorem dX7_write_25 : decode cX7_write 25 = .ok (.aload_n 3, 1) := by decide +kernel
theorem dX7_write_26 : decode cX7_write 26 = .ok (.getfield 160, 3) := by decide +kernel
theorem dX7_write_29 : decode cX7_write 29 = .ok (.ifCond .eq 9, 3) := by decide +kernel
theorem dX7_write_32 : decode cX7_write 32 = .ok (.aload_n 0, 1) := by decide +kernel
theorem dX7_write_33 : decode cX7_write 33 = .ok (.iconst 1, 1) := by decide +kernel
theorem dX7_write_34 : decode cX7_write 34 = .ok (.invokevirtual 163, 3) := by decide +kernel
theorem dX7_write_37 : decode cX7_write 37 = .ok (.ireturn, 1) := by decide +kernel
theorem dX7_write_38 : decode cX7_write 38 = .ok (.aload_n 0, 1) := by decide +kernel
theorem dX7_write_39 : decode cX7_write 39 = .ok (.invokevirtual 171, 3) := by decide +kernel
theorem dX7_write_42 : decode cX7_write 42 = .ok (.getfield 175, 3) := by decide +kernel
theorem dX7_write_45 : decode cX7_write 45 = .ok (.astore 4, 2) := by decide +kernel
theorem dX7_write_47 : decode cX7_write 47 = .ok (.aload_n 3, 1) := by decide +kernel
theorem dX7_write_48 : decode cX7_write 48 = .ok (.getfield 167, 3) := by decide +kernel
theorem dX7_write_51 : decode cX7_write 51 = .ok (.bipush 24, 2) := by decide +kernel
theorem dX7_write_53 : decode cX7_write 53 = .ok (.invokestatic 315, 3) := by decide +kernel
theorem dX7_write_56 : decode cX7_write 56 = .ok (.istore 5, 2) := by decide +kernel
theorem dX7_write_58 : decode cX7_write 58 = .ok (.iconst 0, 1) := by decide +kernel
theorem dX7_write_59 : decode cX7_write 59 = .ok (.istore 6, 2) := by decide +kernel
theorem dX7_write_61 : decode cX7_write 61 = .ok (.iload 6, 2) := by decide +kernel
theorem dX7_write_63 : decode cX7_write 63 = .ok (.iload 5, 2) := by decide +kernel
theorem dX7_write_65 : decode cX7_write 65 = .ok (.if_icmp .ge 23, 3) := by decide +kernel
theorem dX7_write_68 : decode cX7_write 68 = .ok (.aload_n 3, 1) := by decide +kernel
theorem dX7_write_69 : decode cX7_write 69 = .ok (.iload 6, 2) := by decide +kernel
theorem dX7_write_71 : decode cX7_write 71 = .ok (.aload 4, 2) := by decide +kernel
theorem dX7_write_73 : decode cX7_write 73 = .ok (.iload 6, 2) := by decide +kernel
theorem dX7_write_75 : decode cX7_write 75 = .ok (.iload_n 1, 1) := by decide +kernel
theorem dX7_write_76 : decode cX7_write 76 = .ok (.invokevirtual 189, 3) := by decide +kernel
theorem dX7_write_79 : decode cX7_write 79 = .ok (.invokevirtual 299, 3) := by decide +kernel
theorem dX7_write_82 : decode cX7_write 82 = .ok (.iinc 6 1, 3) := by decide +kernel
theorem dX7_write_85 : decode cX7_write 85 = .ok (.goto (-24), 3) := by decide +kernel
theorem dX7_write_88 : decode cX7_write 88 = .ok (.iload 5, 2) := by decide +kernel
theorem dX7_write_90 : decode cX7_write 90 = .ok (.ireturn, 1) := by decide +kernel
set_option maxRecDepth 20000 in
theorem m_X7_write {h : Hp} {a1 : Int32} {a2 : Int32}  {u : (Hp × Int32)} (hu : f_X7_write h a1 a2 = some u) : Ct yX7_write cX7_write 7 (some .int) 5 [.ref 0, .int a1, .int a2] h (eI u) := by
  refine ct_of eI hu (by decide) (Nat.le_of_ble_eq_true rfl) (fun κ hn C E => ?_)
  have n3 : 3 < kn κ := by rw [hn]; decide
  have n4 : 4 < kn κ := by rw [hn]; decide
  have n5 : 5 < kn κ := by rw [hn]; decide
  have n6 : 6 < kn κ := by rw [hn]; decide
  unfold f_X7_write
  show Xz κ _ 0 [(0, .ref 0), (1, .int a1), (2, .int a2)] [] h
  refine x_aload_n 1 C dX7_write_0 0 rfl rfl rfl ?_
  refine x_iload_n 2 C dX7_write_1 1 rfl rfl rfl ?_
  refine x_cvi 5 [.int a1] [] C 1 dX7_write_2 v_X7_113 (fun u hu => m_X7_isWalker hu) rfl sk_0 rfl (Nat.le_of_ble_eq_true rfl) (Nat.le_of_ble_eq_true rfl) rfl (fun x1 => ?_)
  refine x_if_eq 8 15 C dX7_write_5 (by decide) rfl (fun _ => ?_) (fun _ => ?_)
  · refine x_bipush 17 C dX7_write_15 cb_m2 rfl ?_
    exact x_iret C E dX7_write_17 rfl
  · refine x_iload_n 9 C dX7_write_8 2 rfl rfl rfl ?_
    refine x_csi 12 [.int a2] [] C 1 dX7_write_9 s_X7_157 (fun u hu => m_X7_isSheet hu) rfl rfl (Nat.le_of_ble_eq_true rfl) (Nat.le_of_ble_eq_true rfl) rfl (fun x2 => ?_)
    refine x_if_ne 15 18 C dX7_write_12 (by decide) rfl (fun _ => ?_) (fun _ => ?_)
    · refine x_aload_n 19 C dX7_write_18 0 rfl rfl rfl ?_
      refine x_getR (c := 59) 22 C dX7_write_19 fl_X7_63 sk_0 rfl sr_0_10 rfl ?_
      refine x_iload_n 23 C dX7_write_22 2 rfl rfl rfl ?_
      refine x_aald 24 C dX7_write_23 rfl (fun hs3 => ?_)
      refine x_astore_n 25 [(3, .ref (60 + 2 * a2.toNatClampNeg)), (0, .ref 0), (1, .int a1), (2, .int a2)] C dX7_write_24 n3 rfl rfl rfl ?_
      refine x_aload_n 26 C dX7_write_25 0 rfl rfl rfl ?_
      refine x_getI 29 C dX7_write_26 fl_X7_160 (sk_sh hs3) rfl rfl ?_
      refine x_if_eq 32 38 C dX7_write_29 (by decide) rfl (fun _ => ?_) (fun _ => ?_)
      · refine x_aload_n 39 C dX7_write_38 1 rfl rfl rfl ?_
        refine x_cvR 42 [] [] C 4 dX7_write_39 v_X7_171 (fun u hu => m_X7_shown hu) rfl sk_0 rfl (Nat.le_of_ble_eq_true rfl) (Nat.le_of_ble_eq_true rfl) rfl (fun h4 c5 => ?_)
        refine x_cy (fun hr6 => ?_)
        refine x_getR (c := (c5 + 5)) 45 C dX7_write_42 fl_X7_175 hr6 rfl (of_2_1 hr6) rfl ?_
        refine x_astore 47 [(4, .ref (c5 + 5)), (3, .ref (60 + 2 * a2.toNatClampNeg)), (0, .ref 0), (1, .int a1), (2, .int a2)] C dX7_write_45 n4 rfl rfl ?_
        refine x_aload_n 48 C dX7_write_47 1 rfl rfl rfl ?_
        refine x_getI 51 C dX7_write_48 fl_X7_167 (sk_sh hs3) rfl rfl ?_
        refine x_bipush 53 C dX7_write_51 cb_24 rfl ?_
        refine x_mmin 56 C dX7_write_53 mw_X7_315 w_st_min w_in_Math w_co_min (Nat.le_of_ble_eq_true rfl) (Nat.le_of_ble_eq_true rfl) rfl ?_
        refine x_ni (fun x7 => ?_)
        refine x_istore 58 [(5, .int x7), (4, .ref (c5 + 5)), (3, .ref (60 + 2 * a2.toNatClampNeg)), (0, .ref 0), (1, .int a1), (2, .int a2)] C dX7_write_56 n5 rfl rfl ?_
        refine x_iconst 59 C dX7_write_58 ci_0 rfl ?_
        refine x_istore 61 [(6, .int (0 : Int32)), (5, .int x7), (4, .ref (c5 + 5)), (3, .ref (60 + 2 * a2.toNatClampNeg)), (0, .ref 0), (1, .int a1), (2, .int a2)] C dX7_write_59 n6 rfl rfl ?_
        refine x_ls [5, 3, 2, 1, 0] rfl (x_fx2 (ls := fun h8 x9 => [(1, .int a1), (3, .ref (60 + 2 * a2.toNatClampNeg)), (4, .ref (c5 + 5)), (5, .int x7), (6, .int x9)]) (st := fun h8 x9 => []) (hh := fun h8 x9 => h8) (fun s1 J1 h8 x9 => ?_))
        refine x_iload 63 C dX7_write_61 4 rfl rfl ?_
        refine x_iload 65 C dX7_write_63 3 rfl rfl ?_
        refine x_icmp_ge 68 88 C dX7_write_65 (by decide) rfl (fun _ => ?_) (fun _ => ?_)
        · refine x_iload 90 C dX7_write_88 3 rfl rfl ?_
          exact x_iret C E dX7_write_90 rfl
        · refine x_aload_n 69 C dX7_write_68 1 rfl rfl rfl ?_
          refine x_iload 71 C dX7_write_69 4 rfl rfl ?_
          refine x_aload 73 C dX7_write_71 2 rfl rfl ?_
          refine x_iload 75 C dX7_write_73 4 rfl rfl ?_
          refine x_iload_n 76 C dX7_write_75 0 rfl rfl rfl ?_
          refine x_cvi 79 [.int x9, .int a1] [.int x9, .ref (60 + 2 * a2.toNatClampNeg)] C 1 dX7_write_76 v_X7_189 (fun u hu => m_X0_leanBehind (ok_2_1 hr6) hu) rfl (ok_2_1 hr6) rfl (Nat.le_of_ble_eq_true rfl) (Nat.le_of_ble_eq_true rfl) rfl (fun x10 => ?_)
          refine x_cvV 82 [.int x9, .int x10] [] C 1 dX7_write_79 v_X7_299 (fun u hu => m_X1_put (sk_sh hs3) hu) rfl (sk_sh hs3) rfl (Nat.le_of_ble_eq_true rfl) (Nat.le_of_ble_eq_true rfl) rfl (fun h11 => ?_)
          refine x_iinc 85 (fun x12 => [(6, .int x12), (1, .int a1), (3, .ref (60 + 2 * a2.toNatClampNeg)), (4, .ref (c5 + 5)), (5, .int x7)]) C dX7_write_82 4 rfl ci_1 n6 (fun _ => rfl) rfl (fun x12 => ?_)
          refine x_goto 61 C dX7_write_85 (by decide) ?_
          exact x_ls [1, 2, 3, 4, 0] rfl (J1 h11 x12)
      · refine x_aload_n 33 C dX7_write_32 1 rfl rfl rfl ?_
        refine x_iconst 34 C dX7_write_33 ci_1 rfl ?_
        refine x_cvI 37 [.int (1 : Int32)] [] C 0 dX7_write_34 v_X7_163 (fun u hu => m_X7_found hu) rfl sk_0 rfl (Nat.le_of_ble_eq_true rfl) (Nat.le_of_ble_eq_true rfl) rfl (fun h13 x14 => ?_)
        exact x_iret C E dX7_write_37 rfl
    · refine x_bipush 17 C dX7_write_15 cb_m2 rfl ?_
      exact x_iret C E dX7_write_17 rfl

def f_X7_count (h : Hp) (a1 : Int32) : Option Int32 :=
  if a1 = (0 : Int32) then (
    some (h.1 5 7))
  else (
    if a1 = (1 : Int32) then (
      bdr (f_X4_faultOfRoutine h 3) fun x1 =>
      if x1 = (-1 : Int32) then (
        some (h.1 3 1))
      else (
        some (0 : Int32)))
    else (
      if a1 = (2 : Int32) then (
        some ((h.1 1 1) + (h.1 3 1)))
      else (
        if a1 = (3 : Int32) then (
          some (h.1 5 8))
        else (
          if a1 = (4 : Int32) then (
            some (h.1 5 9))
          else (
            if a1 = (5 : Int32) then (
              some (h.1 5 10))
            else (
              if a1 = (6 : Int32) then (
                some (h.1 5 11))
              else (
                if a1 = (7 : Int32) then (
                  some (h.1 13 3))
                else (
                  if a1 = (8 : Int32) then (
                    some (h.1 0 15))
                  else (
                    some (-2 : Int32))))))))))
theorem dX7_count_0 : decode cX7_count 0 = .ok (.iload_n 1, 1) := by decide +kernel
theorem dX7_count_1 : decode cX7_count 1 = .ok (.tableswitch 143 0 8 #[51, 59, 82, 98, 106, 114, 122, 130, 138], 51) := by decide +kernel
theorem dX7_count_52 : decode cX7_count 52 = .ok (.aload_n 0, 1) := by decide +kernel
theorem dX7_count_53 : decode cX7_count 53 = .ok (.getfield 26, 3) := by decide +kernel
theorem dX7_count_56 : decode cX7_count 56 = .ok (.getfield 192, 3) := by decide +kernel
theorem dX7_count_59 : decode cX7_count 59 = .ok (.ireturn, 1) := by decide +kernel
theorem dX7_count_60 : decode cX7_count 60 = .ok (.aload_n 0, 1) := by decide +kernel
theorem dX7_count_61 : decode cX7_count 61 = .ok (.getfield 20, 3) := by decide +kernel
theorem dX7_count_64 : decode cX7_count 64 = .ok (.invokevirtual 110, 3) := by decide +kernel
theorem dX7_count_67 : decode cX7_count 67 = .ok (.iconst (-1), 1) := by decide +kernel
theorem dX7_count_68 : decode cX7_count 68 = .ok (.if_icmp .ne 13, 3) := by decide +kernel
theorem dX7_count_71 : decode cX7_count 71 = .ok (.aload_n 0, 1) := by decide +kernel
theorem dX7_count_72 : decode cX7_count 72 = .ok (.getfield 20, 3) := by decide +kernel
theorem dX7_count_75 : decode cX7_count 75 = .ok (.getfield 103, 3) := by decide +kernel
theorem dX7_count_78 : decode cX7_count 78 = .ok (.goto 4, 3) := by decide +kernel
theorem dX7_count_81 : decode cX7_count 81 = .ok (.iconst 0, 1) := by decide +kernel
theorem dX7_count_82 : decode cX7_count 82 = .ok (.ireturn, 1) := by decide +kernel
theorem dX7_count_83 : decode cX7_count 83 = .ok (.aload_n 0, 1) := by decide +kernel
theorem dX7_count_84 : decode cX7_count 84 = .ok (.getfield 16, 3) := by decide +kernel
theorem dX7_count_87 : decode cX7_count 87 = .ok (.getfield 103, 3) := by decide +kernel
theorem dX7_count_90 : decode cX7_count 90 = .ok (.aload_n 0, 1) := by decide +kernel
theorem dX7_count_91 : decode cX7_count 91 = .ok (.getfield 20, 3) := by decide +kernel
theorem dX7_count_94 : decode cX7_count 94 = .ok (.getfield 103, 3) := by decide +kernel
theorem dX7_count_97 : decode cX7_count 97 = .ok (.iadd, 1) := by decide +kernel
theorem dX7_count_98 : decode cX7_count 98 = .ok (.ireturn, 1) := by decide +kernel
theorem dX7_count_99 : decode cX7_count 99 = .ok (.aload_n 0, 1) := by decide +kernel
theorem dX7_count_100 : decode cX7_count 100 = .ok (.getfield 26, 3) := by decide +kernel
theorem dX7_count_103 : decode cX7_count 103 = .ok (.getfield 154, 3) := by decide +kernel
theorem dX7_count_106 : decode cX7_count 106 = .ok (.ireturn, 1) := by decide +kernel
theorem dX7_count_107 : decode cX7_count 107 = .ok (.aload_n 0, 1) := by decide +kernel
theorem dX7_count_108 : decode cX7_count 108 = .ok (.getfield 26, 3) := by decide +kernel
theorem dX7_count_111 : decode cX7_count 111 = .ok (.getfield 132, 3) := by decide +kernel
theorem dX7_count_114 : decode cX7_count 114 = .ok (.ireturn, 1) := by decide +kernel
theorem dX7_count_115 : decode cX7_count 115 = .ok (.aload_n 0, 1) := by decide +kernel
theorem dX7_count_116 : decode cX7_count 116 = .ok (.getfield 26, 3) := by decide +kernel
theorem dX7_count_119 : decode cX7_count 119 = .ok (.getfield 138, 3) := by decide +kernel
theorem dX7_count_122 : decode cX7_count 122 = .ok (.ireturn, 1) := by decide +kernel
theorem dX7_count_123 : decode cX7_count 123 = .ok (.aload_n 0, 1) := by decide +kernel
theorem dX7_count_124 : decode cX7_count 124 = .ok (.getfield 26, 3) := by decide +kernel
theorem dX7_count_127 : decode cX7_count 127 = .ok (.getfield 141, 3) := by decide +kernel
theorem dX7_count_130 : decode cX7_count 130 = .ok (.ireturn, 1) := by decide +kernel
theorem dX7_count_131 : decode cX7_count 131 = .ok (.aload_n 0, 1) := by decide +kernel
theorem dX7_count_132 : decode cX7_count 132 = .ok (.getfield 33, 3) := by decide +kernel
theorem dX7_count_135 : decode cX7_count 135 = .ok (.getfield 243, 3) := by decide +kernel
theorem dX7_count_138 : decode cX7_count 138 = .ok (.ireturn, 1) := by decide +kernel
theorem dX7_count_139 : decode cX7_count 139 = .ok (.aload_n 0, 1) := by decide +kernel
theorem dX7_count_140 : decode cX7_count 140 = .ok (.getfield 81, 3) := by decide +kernel
theorem dX7_count_143 : decode cX7_count 143 = .ok (.ireturn, 1) := by decide +kernel
theorem dX7_count_144 : decode cX7_count 144 = .ok (.bipush (-2), 2) := by decide +kernel
theorem dX7_count_146 : decode cX7_count 146 = .ok (.ireturn, 1) := by decide +kernel
set_option maxRecDepth 20000 in
theorem m_X7_count {h : Hp} {a1 : Int32}  {u : Int32} (hu : f_X7_count h a1 = some u) : Ct yX7_count cX7_count 2 (some .int) 2 [.ref 0, .int a1] h ((rI h) u) := by
  refine ct_of (rI h) hu (by decide) (Nat.le_of_ble_eq_true rfl) (fun κ hn C E => ?_)
  unfold f_X7_count
  show Xz κ _ 0 [(0, .ref 0), (1, .int a1)] [] h
  refine x_iload_n 1 C dX7_count_0 1 rfl rfl rfl ?_
  refine x_ite (fun e0 => ?_) (fun e0 => ?_)
  · refine x_tabI (off := 51) 52 C dX7_count_1 e0 (by decide) (by decide) (by decide) (by decide) ?_
    refine x_aload_n 53 C dX7_count_52 0 rfl rfl rfl ?_
    refine x_getR (c := 5) 56 C dX7_count_53 fl_X7_26 sk_0 rfl sr_0_2 rfl ?_
    refine x_getI 59 C dX7_count_56 fl_X7_192 sk_5 rfl rfl ?_
    exact x_iret C E dX7_count_59 rfl
  refine x_ite (fun e1 => ?_) (fun e1 => ?_)
  · refine x_tabI (off := 59) 60 C dX7_count_1 e1 (by decide) (by decide) (by decide) (by decide) ?_
    refine x_aload_n 61 C dX7_count_60 0 rfl rfl rfl ?_
    refine x_getR (c := 3) 64 C dX7_count_61 fl_X7_20 sk_0 rfl sr_0_1 rfl ?_
    refine x_cvi 67 [] [] C 1 dX7_count_64 v_X7_110 (fun u hu => m_X4_faultOfRoutine sk_3 hu) rfl sk_3 rfl (Nat.le_of_ble_eq_true rfl) (Nat.le_of_ble_eq_true rfl) rfl (fun x1 => ?_)
    refine x_iconst 68 C dX7_count_67 ci_m1 rfl ?_
    refine x_icmp_ne 71 81 C dX7_count_68 (by decide) rfl (fun _ => ?_) (fun _ => ?_)
    · refine x_iconst 82 C dX7_count_81 ci_0 rfl ?_
      exact x_iret C E dX7_count_82 rfl
    · refine x_aload_n 72 C dX7_count_71 0 rfl rfl rfl ?_
      refine x_getR (c := 3) 75 C dX7_count_72 fl_X7_20 sk_0 rfl sr_0_1 rfl ?_
      refine x_getI 78 C dX7_count_75 fl_X7_103 sk_3 rfl rfl ?_
      refine x_goto 82 C dX7_count_78 (by decide) ?_
      exact x_iret C E dX7_count_82 rfl
  refine x_ite (fun e2 => ?_) (fun e2 => ?_)
  · refine x_tabI (off := 82) 83 C dX7_count_1 e2 (by decide) (by decide) (by decide) (by decide) ?_
    refine x_aload_n 84 C dX7_count_83 0 rfl rfl rfl ?_
    refine x_getR (c := 1) 87 C dX7_count_84 fl_X7_16 sk_0 rfl sr_0_0 rfl ?_
    refine x_getI 90 C dX7_count_87 fl_X7_103 sk_1 rfl rfl ?_
    refine x_aload_n 91 C dX7_count_90 0 rfl rfl rfl ?_
    refine x_getR (c := 3) 94 C dX7_count_91 fl_X7_20 sk_0 rfl sr_0_1 rfl ?_
    refine x_getI 97 C dX7_count_94 fl_X7_103 sk_3 rfl rfl ?_
    refine x_iadd 98 C dX7_count_97 rfl ?_
    exact x_iret C E dX7_count_98 rfl
  refine x_ite (fun e3 => ?_) (fun e3 => ?_)
  · refine x_tabI (off := 98) 99 C dX7_count_1 e3 (by decide) (by decide) (by decide) (by decide) ?_
    refine x_aload_n 100 C dX7_count_99 0 rfl rfl rfl ?_
    refine x_getR (c := 5) 103 C dX7_count_100 fl_X7_26 sk_0 rfl sr_0_2 rfl ?_
    refine x_getI 106 C dX7_count_103 fl_X7_154 sk_5 rfl rfl ?_
    exact x_iret C E dX7_count_106 rfl
  refine x_ite (fun e4 => ?_) (fun e4 => ?_)
  · refine x_tabI (off := 106) 107 C dX7_count_1 e4 (by decide) (by decide) (by decide) (by decide) ?_
    refine x_aload_n 108 C dX7_count_107 0 rfl rfl rfl ?_
    refine x_getR (c := 5) 111 C dX7_count_108 fl_X7_26 sk_0 rfl sr_0_2 rfl ?_
    refine x_getI 114 C dX7_count_111 fl_X7_132 sk_5 rfl rfl ?_
    exact x_iret C E dX7_count_114 rfl
  refine x_ite (fun e5 => ?_) (fun e5 => ?_)
  · refine x_tabI (off := 114) 115 C dX7_count_1 e5 (by decide) (by decide) (by decide) (by decide) ?_
    refine x_aload_n 116 C dX7_count_115 0 rfl rfl rfl ?_
    refine x_getR (c := 5) 119 C dX7_count_116 fl_X7_26 sk_0 rfl sr_0_2 rfl ?_
    refine x_getI 122 C dX7_count_119 fl_X7_138 sk_5 rfl rfl ?_
    exact x_iret C E dX7_count_122 rfl
  refine x_ite (fun e6 => ?_) (fun e6 => ?_)
  · refine x_tabI (off := 122) 123 C dX7_count_1 e6 (by decide) (by decide) (by decide) (by decide) ?_
    refine x_aload_n 124 C dX7_count_123 0 rfl rfl rfl ?_
    refine x_getR (c := 5) 127 C dX7_count_124 fl_X7_26 sk_0 rfl sr_0_2 rfl ?_
    refine x_getI 130 C dX7_count_127 fl_X7_141 sk_5 rfl rfl ?_
    exact x_iret C E dX7_count_130 rfl
  refine x_ite (fun e7 => ?_) (fun e7 => ?_)
  · refine x_tabI (off := 130) 131 C dX7_count_1 e7 (by decide) (by decide) (by decide) (by decide) ?_
    refine x_aload_n 132 C dX7_count_131 0 rfl rfl rfl ?_
    refine x_getR (c := 13) 135 C dX7_count_132 fl_X7_33 sk_0 rfl sr_0_3 rfl ?_
    refine x_getI 138 C dX7_count_135 fl_X7_243 sk_13 rfl rfl ?_
    exact x_iret C E dX7_count_138 rfl
  refine x_ite (fun e8 => ?_) (fun e8 => ?_)
  · refine x_tabI (off := 138) 139 C dX7_count_1 e8 (by decide) (by decide) (by decide) (by decide) ?_
    refine x_aload_n 140 C dX7_count_139 0 rfl rfl rfl ?_
    refine x_getI 143 C dX7_count_140 fl_X7_81 sk_0 rfl rfl ?_
    exact x_iret C E dX7_count_143 rfl
  refine x_tabO 144 C dX7_count_1 (by have := lv_neT e0 (show (0 : Int32).toInt = 0 by decide); have := lv_neT e1 (show (1 : Int32).toInt = 1 by decide); have := lv_neT e2 (show (2 : Int32).toInt = 2 by decide); have := lv_neT e3 (show (3 : Int32).toInt = 3 by decide); have := lv_neT e4 (show (4 : Int32).toInt = 4 by decide); have := lv_neT e5 (show (5 : Int32).toInt = 5 by decide); have := lv_neT e6 (show (6 : Int32).toInt = 6 by decide); have := lv_neT e7 (show (7 : Int32).toInt = 7 by decide); have := lv_neT e8 (show (8 : Int32).toInt = 8 by decide); omega) (by decide) ?_
  refine x_bipush 146 C dX7_count_144 cb_m2 rfl ?_
  exact x_iret C E dX7_count_146 rfl

def f_X7_mixed (a1 : Int64) (a2 : Int64) : Option Int64 :=
  some (((31 : Int64) * a1) + a2)
theorem dX7_mixed_0 : decode cX7_mixed 0 = .ok (.ldc2_w 402, 3) := by decide +kernel
theorem dX7_mixed_3 : decode cX7_mixed 3 = .ok (.lload_n 0, 1) := by decide +kernel
theorem dX7_mixed_4 : decode cX7_mixed 4 = .ok (.lmul, 1) := by decide +kernel
theorem dX7_mixed_5 : decode cX7_mixed 5 = .ok (.lload_n 2, 1) := by decide +kernel
theorem dX7_mixed_6 : decode cX7_mixed 6 = .ok (.ladd, 1) := by decide +kernel
theorem dX7_mixed_7 : decode cX7_mixed 7 = .ok (.lreturn, 1) := by decide +kernel
set_option maxRecDepth 20000 in
theorem m_X7_mixed {h : Hp} {a1 : Int64} {a2 : Int64}  {u : Int64} (hu : f_X7_mixed a1 a2 = some u) : Ct yX7_mixed cX7_mixed 4 (some .long) 0 [.long a1, .long a2] h ((rL h) u) := by
  refine ct_of (rL h) hu (by decide) (Nat.le_of_ble_eq_true rfl) (fun κ hn C E => ?_)
  unfold f_X7_mixed
  show Xz κ _ 0 [(0, .long a1), (2, .long a2)] [] h
  refine x_ldc2 3 C dX7_mixed_0 kw_X7_402 rfl ?_
  refine x_lload_n 4 C dX7_mixed_3 0 rfl rfl rfl ?_
  refine x_lmul 5 C dX7_mixed_4 rfl ?_
  refine x_lload_n 6 C dX7_mixed_5 1 rfl rfl rfl ?_
  refine x_ladd 7 C dX7_mixed_6 rfl ?_
  exact x_lret C E dX7_mixed_7 rfl

def f_X7_mixedBest (h : Hp) (a1 : Int64) (a2 : Int32) : Option Int64 :=
  bdr (f_X7_mixed a1 (a2.toInt64)) fun l1 =>
  bdr (f_X7_mixed l1 ((h.1 0 14).toInt64)) fun l2 =>
  some l2
theorem dX7_mixedBest_0 : decode cX7_mixedBest 0 = .ok (.lload_n 1, 1) := by decide +kernel
theorem dX7_mixedBest_1 : decode cX7_mixedBest 1 = .ok (.iload_n 3, 1) := by decide +kernel
theorem dX7_mixedBest_2 : decode cX7_mixedBest 2 = .ok (.i2l, 1) := by decide +kernel
theorem dX7_mixedBest_3 : decode cX7_mixedBest 3 = .ok (.invokestatic 323, 3) := by decide +kernel
theorem dX7_mixedBest_6 : decode cX7_mixedBest 6 = .ok (.aload_n 0, 1) := by decide +kernel
theorem dX7_mixedBest_7 : decode cX7_mixedBest 7 = .ok (.getfield 78, 3) := by decide +kernel
theorem dX7_mixedBest_10 : decode cX7_mixedBest 10 = .ok (.i2l, 1) := by decide +kernel
theorem dX7_mixedBest_11 : decode cX7_mixedBest 11 = .ok (.invokestatic 323, 3) := by decide +kernel
theorem dX7_mixedBest_14 : decode cX7_mixedBest 14 = .ok (.lreturn, 1) := by decide +kernel
set_option maxRecDepth 20000 in
theorem m_X7_mixedBest {h : Hp} {a1 : Int64} {a2 : Int32}  {u : Int64} (hu : f_X7_mixedBest h a1 a2 = some u) : Ct yX7_mixedBest cX7_mixedBest 4 (some .long) 1 [.ref 0, .long a1, .int a2] h ((rL h) u) := by
  refine ct_of (rL h) hu (by decide) (Nat.le_of_ble_eq_true rfl) (fun κ hn C E => ?_)
  unfold f_X7_mixedBest
  show Xz κ _ 0 [(0, .ref 0), (1, .long a1), (3, .int a2)] [] h
  refine x_lload_n 1 C dX7_mixedBest_0 1 rfl rfl rfl ?_
  refine x_iload_n 2 C dX7_mixedBest_1 2 rfl rfl rfl ?_
  refine x_i2l 3 C dX7_mixedBest_2 rfl ?_
  refine x_csl 6 [.long a1, .long (a2.toInt64)] [] C 0 dX7_mixedBest_3 s_X7_323 (fun u hu => m_X7_mixed hu) rfl rfl (Nat.le_of_ble_eq_true rfl) (Nat.le_of_ble_eq_true rfl) rfl (fun l1 => ?_)
  refine x_aload_n 7 C dX7_mixedBest_6 0 rfl rfl rfl ?_
  refine x_getI 10 C dX7_mixedBest_7 fl_X7_78 sk_0 rfl rfl ?_
  refine x_i2l 11 C dX7_mixedBest_10 rfl ?_
  refine x_csl 14 [.long l1, .long ((h.1 0 14).toInt64)] [] C 0 dX7_mixedBest_11 s_X7_323 (fun u hu => m_X7_mixed hu) rfl rfl (Nat.le_of_ble_eq_true rfl) (Nat.le_of_ble_eq_true rfl) rfl (fun l2 => ?_)
  exact x_lret C E dX7_mixedBest_14 rfl

def f_X7_mixedPlans (h : Hp) (a1 : Int64) (a2 : Int32) : Option (Hp × Int64) :=
  bnd (f_X7_start h a2 (0 : Int32)) fun h1 x2 =>
  bdr (f_X7_mixedBest h1 a1 x2) fun l3 =>
  bnd (f_X7_hold h1 a2 (0 : Int32)) fun h4 x5 =>
  bdr (f_X7_mixedBest h4 l3 x5) fun l6 =>
  bnd (f_X7_was h4 a2 (0 : Int32)) fun h7 x8 =>
  bdr (f_X7_mixed l6 (x8.toInt64)) fun l9 =>
  bnd (f_X7_was h7 a2 (1 : Int32)) fun h10 x11 =>
  bdr (f_X7_mixed l9 (x11.toInt64)) fun l12 =>
  bnd (f_X7_ask h10 a2) fun h13 x14 =>
  bdr (f_X7_mixed l12 (x14.toInt64)) fun l15 =>
  bnd (f_X7_chance h13 (5 : Int32) a2 (0 : Int32)) fun h16 l17 =>
  bdr (f_X7_mixed l15 l17) fun l18 =>
  bnd (f_X7_chance h16 (5 : Int32) a2 (1 : Int32)) fun h19 l20 =>
  bdr (f_X7_mixed l18 l20) fun l21 =>
  some (h19, l21)
theorem dX7_mixedPlans_0 : decode cX7_mixedPlans 0 = .ok (.aload_n 0, 1) := by decide +kernel
theorem dX7_mixedPlans_1 : decode cX7_mixedPlans 1 = .ok (.lload_n 1, 1) := by decide +kernel
theorem dX7_mixedPlans_2 : decode cX7_mixedPlans 2 = .ok (.aload_n 0, 1) := by decide +kernel
theorem dX7_mixedPlans_3 : decode cX7_mixedPlans 3 = .ok (.iload_n 3, 1) := by decide +kernel
theorem dX7_mixedPlans_4 : decode cX7_mixedPlans 4 = .ok (.iconst 0, 1) := by decide +kernel
theorem dX7_mixedPlans_5 : decode cX7_mixedPlans 5 = .ok (.invokevirtual 386, 3) := by decide +kernel
theorem dX7_mixedPlans_8 : decode cX7_mixedPlans 8 = .ok (.invokevirtual 358, 3) := by decide +kernel
theorem dX7_mixedPlans_11 : decode cX7_mixedPlans 11 = .ok (.lstore 4, 2) := by decide +kernel
theorem dX7_mixedPlans_13 : decode cX7_mixedPlans 13 = .ok (.aload_n 0, 1) := by decide +kernel
theorem dX7_mixedPlans_14 : decode cX7_mixedPlans 14 = .ok (.lload 4, 2) := by decide +kernel
theorem dX7_mixedPlans_16 : decode cX7_mixedPlans 16 = .ok (.aload_n 0, 1) := by decide +kernel
theorem dX7_mixedPlans_17 : decode cX7_mixedPlans 17 = .ok (.iload_n 3, 1) := by decide +kernel
theorem dX7_mixedPlans_18 : decode cX7_mixedPlans 18 = .ok (.iconst 0, 1) := by decide +kernel
theorem dX7_mixedPlans_19 : decode cX7_mixedPlans 19 = .ok (.invokevirtual 389, 3) := by decide +kernel
theorem dX7_mixedPlans_22 : decode cX7_mixedPlans 22 = .ok (.invokevirtual 358, 3) := by decide +kernel
theorem dX7_mixedPlans_25 : decode cX7_mixedPlans 25 = .ok (.lstore 4, 2) := by decide +kernel
theorem dX7_mixedPlans_27 : decode cX7_mixedPlans 27 = .ok (.lload 4, 2) := by decide +kernel
theorem dX7_mixedPlans_29 : decode cX7_mixedPlans 29 = .ok (.aload_n 0, 1) := by decide +kernel
theorem dX7_mixedPlans_30 : decode cX7_mixedPlans 30 = .ok (.iload_n 3, 1) := by decide +kernel
theorem dX7_mixedPlans_31 : decode cX7_mixedPlans 31 = .ok (.iconst 0, 1) := by decide +kernel
theorem dX7_mixedPlans_32 : decode cX7_mixedPlans 32 = .ok (.invokevirtual 392, 3) := by decide +kernel
theorem dX7_mixedPlans_35 : decode cX7_mixedPlans 35 = .ok (.i2l, 1) := by decide +kernel
theorem dX7_mixedPlans_36 : decode cX7_mixedPlans 36 = .ok (.invokestatic 323, 3) := by decide +kernel
theorem dX7_mixedPlans_39 : decode cX7_mixedPlans 39 = .ok (.aload_n 0, 1) := by decide +kernel
theorem dX7_mixedPlans_40 : decode cX7_mixedPlans 40 = .ok (.iload_n 3, 1) := by decide +kernel
theorem dX7_mixedPlans_41 : decode cX7_mixedPlans 41 = .ok (.iconst 1, 1) := by decide +kernel
theorem dX7_mixedPlans_42 : decode cX7_mixedPlans 42 = .ok (.invokevirtual 392, 3) := by decide +kernel
theorem dX7_mixedPlans_45 : decode cX7_mixedPlans 45 = .ok (.i2l, 1) := by decide +kernel
theorem dX7_mixedPlans_46 : decode cX7_mixedPlans 46 = .ok (.invokestatic 323, 3) := by decide +kernel
theorem dX7_mixedPlans_49 : decode cX7_mixedPlans 49 = .ok (.lstore 4, 2) := by decide +kernel
theorem dX7_mixedPlans_51 : decode cX7_mixedPlans 51 = .ok (.lload 4, 2) := by decide +kernel
theorem dX7_mixedPlans_53 : decode cX7_mixedPlans 53 = .ok (.aload_n 0, 1) := by decide +kernel
theorem dX7_mixedPlans_54 : decode cX7_mixedPlans 54 = .ok (.iload_n 3, 1) := by decide +kernel
theorem dX7_mixedPlans_55 : decode cX7_mixedPlans 55 = .ok (.invokevirtual 395, 3) := by decide +kernel
theorem dX7_mixedPlans_58 : decode cX7_mixedPlans 58 = .ok (.i2l, 1) := by decide +kernel
theorem dX7_mixedPlans_59 : decode cX7_mixedPlans 59 = .ok (.invokestatic 323, 3) := by decide +kernel
theorem dX7_mixedPlans_62 : decode cX7_mixedPlans 62 = .ok (.lstore 4, 2) := by decide +kernel
theorem dX7_mixedPlans_64 : decode cX7_mixedPlans 64 = .ok (.lload 4, 2) := by decide +kernel
theorem dX7_mixedPlans_66 : decode cX7_mixedPlans 66 = .ok (.aload_n 0, 1) := by decide +kernel
theorem dX7_mixedPlans_67 : decode cX7_mixedPlans 67 = .ok (.iconst 5, 1) := by decide +kernel
theorem dX7_mixedPlans_68 : decode cX7_mixedPlans 68 = .ok (.iload_n 3, 1) := by decide +kernel
theorem dX7_mixedPlans_69 : decode cX7_mixedPlans 69 = .ok (.iconst 0, 1) := by decide +kernel
theorem dX7_mixedPlans_70 : decode cX7_mixedPlans 70 = .ok (.invokevirtual 398, 3) := by decide +kernel
theorem dX7_mixedPlans_73 : decode cX7_mixedPlans 73 = .ok (.invokestatic 323, 3) := by decide +kernel
theorem dX7_mixedPlans_76 : decode cX7_mixedPlans 76 = .ok (.aload_n 0, 1) := by decide +kernel
theorem dX7_mixedPlans_77 : decode cX7_mixedPlans 77 = .ok (.iconst 5, 1) := by decide +kernel
theorem dX7_mixedPlans_78 : decode cX7_mixedPlans 78 = .ok (.iload_n 3, 1) := by decide +kernel
theorem dX7_mixedPlans_79 : decode cX7_mixedPlans 79 = .ok (.iconst 1, 1) := by decide +kernel
theorem dX7_mixedPlans_80 : decode cX7_mixedPlans 80 = .ok (.invokevirtual 398, 3) := by decide +kernel
theorem dX7_mixedPlans_83 : decode cX7_mixedPlans 83 = .ok (.invokestatic 323, 3) := by decide +kernel
theorem dX7_mixedPlans_86 : decode cX7_mixedPlans 86 = .ok (.lreturn, 1) := by decide +kernel
set_option maxRecDepth 20000 in
theorem m_X7_mixedPlans {h : Hp} {a1 : Int64} {a2 : Int32}  {u : (Hp × Int64)} (hu : f_X7_mixedPlans h a1 a2 = some u) : Ct yX7_mixedPlans cX7_mixedPlans 6 (some .long) 6 [.ref 0, .long a1, .int a2] h (eL u) := by
  refine ct_of eL hu (by decide) (Nat.le_of_ble_eq_true rfl) (fun κ hn C E => ?_)
  have n5 : 5 < kn κ := by rw [hn]; decide
  unfold f_X7_mixedPlans
  show Xz κ _ 0 [(0, .ref 0), (1, .long a1), (3, .int a2)] [] h
  refine x_aload_n 1 C dX7_mixedPlans_0 0 rfl rfl rfl ?_
  refine x_lload_n 2 C dX7_mixedPlans_1 1 rfl rfl rfl ?_
  refine x_aload_n 3 C dX7_mixedPlans_2 0 rfl rfl rfl ?_
  refine x_iload_n 4 C dX7_mixedPlans_3 2 rfl rfl rfl ?_
  refine x_iconst 5 C dX7_mixedPlans_4 ci_0 rfl ?_
  refine x_cvI 8 [.int a2, .int (0 : Int32)] [.long a1, .ref 0] C 5 dX7_mixedPlans_5 v_X7_386 (fun u hu => m_X7_start hu) rfl sk_0 rfl (Nat.le_of_ble_eq_true rfl) (Nat.le_of_ble_eq_true rfl) rfl (fun h1 x2 => ?_)
  refine x_cvl 11 [.long a1, .int x2] [] C 1 dX7_mixedPlans_8 v_X7_358 (fun u hu => m_X7_mixedBest hu) rfl sk_0 rfl (Nat.le_of_ble_eq_true rfl) (Nat.le_of_ble_eq_true rfl) rfl (fun l3 => ?_)
  refine x_lstore 13 [(4, .long l3), (0, .ref 0), (1, .long a1), (3, .int a2)] C dX7_mixedPlans_11 n5 rfl rfl ?_
  refine x_aload_n 14 C dX7_mixedPlans_13 1 rfl rfl rfl ?_
  refine x_lload 16 C dX7_mixedPlans_14 0 rfl rfl ?_
  refine x_aload_n 17 C dX7_mixedPlans_16 1 rfl rfl rfl ?_
  refine x_iload_n 18 C dX7_mixedPlans_17 3 rfl rfl rfl ?_
  refine x_iconst 19 C dX7_mixedPlans_18 ci_0 rfl ?_
  refine x_cvI 22 [.int a2, .int (0 : Int32)] [.long l3, .ref 0] C 5 dX7_mixedPlans_19 v_X7_389 (fun u hu => m_X7_hold hu) rfl sk_0 rfl (Nat.le_of_ble_eq_true rfl) (Nat.le_of_ble_eq_true rfl) rfl (fun h4 x5 => ?_)
  refine x_cvl 25 [.long l3, .int x5] [] C 1 dX7_mixedPlans_22 v_X7_358 (fun u hu => m_X7_mixedBest hu) rfl sk_0 rfl (Nat.le_of_ble_eq_true rfl) (Nat.le_of_ble_eq_true rfl) rfl (fun l6 => ?_)
  refine x_lstore 27 [(4, .long l6), (0, .ref 0), (1, .long a1), (3, .int a2)] C dX7_mixedPlans_25 n5 rfl rfl ?_
  refine x_lload 29 C dX7_mixedPlans_27 0 rfl rfl ?_
  refine x_aload_n 30 C dX7_mixedPlans_29 1 rfl rfl rfl ?_
  refine x_iload_n 31 C dX7_mixedPlans_30 3 rfl rfl rfl ?_
  refine x_iconst 32 C dX7_mixedPlans_31 ci_0 rfl ?_
  refine x_cvI 35 [.int a2, .int (0 : Int32)] [.long l6] C 5 dX7_mixedPlans_32 v_X7_392 (fun u hu => m_X7_was hu) rfl sk_0 rfl (Nat.le_of_ble_eq_true rfl) (Nat.le_of_ble_eq_true rfl) rfl (fun h7 x8 => ?_)
  refine x_i2l 36 C dX7_mixedPlans_35 rfl ?_
  refine x_csl 39 [.long l6, .long (x8.toInt64)] [] C 0 dX7_mixedPlans_36 s_X7_323 (fun u hu => m_X7_mixed hu) rfl rfl (Nat.le_of_ble_eq_true rfl) (Nat.le_of_ble_eq_true rfl) rfl (fun l9 => ?_)
  refine x_aload_n 40 C dX7_mixedPlans_39 1 rfl rfl rfl ?_
  refine x_iload_n 41 C dX7_mixedPlans_40 3 rfl rfl rfl ?_
  refine x_iconst 42 C dX7_mixedPlans_41 ci_1 rfl ?_
  refine x_cvI 45 [.int a2, .int (1 : Int32)] [.long l9] C 5 dX7_mixedPlans_42 v_X7_392 (fun u hu => m_X7_was hu) rfl sk_0 rfl (Nat.le_of_ble_eq_true rfl) (Nat.le_of_ble_eq_true rfl) rfl (fun h10 x11 => ?_)
  refine x_i2l 46 C dX7_mixedPlans_45 rfl ?_
  refine x_csl 49 [.long l9, .long (x11.toInt64)] [] C 0 dX7_mixedPlans_46 s_X7_323 (fun u hu => m_X7_mixed hu) rfl rfl (Nat.le_of_ble_eq_true rfl) (Nat.le_of_ble_eq_true rfl) rfl (fun l12 => ?_)
  refine x_lstore 51 [(4, .long l12), (0, .ref 0), (1, .long a1), (3, .int a2)] C dX7_mixedPlans_49 n5 rfl rfl ?_
  refine x_lload 53 C dX7_mixedPlans_51 0 rfl rfl ?_
  refine x_aload_n 54 C dX7_mixedPlans_53 1 rfl rfl rfl ?_
  refine x_iload_n 55 C dX7_mixedPlans_54 3 rfl rfl rfl ?_
  refine x_cvI 58 [.int a2] [.long l12] C 5 dX7_mixedPlans_55 v_X7_395 (fun u hu => m_X7_ask hu) rfl sk_0 rfl (Nat.le_of_ble_eq_true rfl) (Nat.le_of_ble_eq_true rfl) rfl (fun h13 x14 => ?_)
  refine x_i2l 59 C dX7_mixedPlans_58 rfl ?_
  refine x_csl 62 [.long l12, .long (x14.toInt64)] [] C 0 dX7_mixedPlans_59 s_X7_323 (fun u hu => m_X7_mixed hu) rfl rfl (Nat.le_of_ble_eq_true rfl) (Nat.le_of_ble_eq_true rfl) rfl (fun l15 => ?_)
  refine x_lstore 64 [(4, .long l15), (0, .ref 0), (1, .long a1), (3, .int a2)] C dX7_mixedPlans_62 n5 rfl rfl ?_
  refine x_lload 66 C dX7_mixedPlans_64 0 rfl rfl ?_
  refine x_aload_n 67 C dX7_mixedPlans_66 1 rfl rfl rfl ?_
  refine x_iconst 68 C dX7_mixedPlans_67 ci_5 rfl ?_
  refine x_iload_n 69 C dX7_mixedPlans_68 3 rfl rfl rfl ?_
  refine x_iconst 70 C dX7_mixedPlans_69 ci_0 rfl ?_
  refine x_cvL 73 [.int (5 : Int32), .int a2, .int (0 : Int32)] [.long l15] C 5 dX7_mixedPlans_70 v_X7_398 (fun u hu => m_X7_chance hu) rfl sk_0 rfl (Nat.le_of_ble_eq_true rfl) (Nat.le_of_ble_eq_true rfl) rfl (fun h16 l17 => ?_)
  refine x_csl 76 [.long l15, .long l17] [] C 0 dX7_mixedPlans_73 s_X7_323 (fun u hu => m_X7_mixed hu) rfl rfl (Nat.le_of_ble_eq_true rfl) (Nat.le_of_ble_eq_true rfl) rfl (fun l18 => ?_)
  refine x_aload_n 77 C dX7_mixedPlans_76 1 rfl rfl rfl ?_
  refine x_iconst 78 C dX7_mixedPlans_77 ci_5 rfl ?_
  refine x_iload_n 79 C dX7_mixedPlans_78 3 rfl rfl rfl ?_
  refine x_iconst 80 C dX7_mixedPlans_79 ci_1 rfl ?_
  refine x_cvL 83 [.int (5 : Int32), .int a2, .int (1 : Int32)] [.long l18] C 5 dX7_mixedPlans_80 v_X7_398 (fun u hu => m_X7_chance hu) rfl sk_0 rfl (Nat.le_of_ble_eq_true rfl) (Nat.le_of_ble_eq_true rfl) rfl (fun h19 l20 => ?_)
  refine x_csl 86 [.long l18, .long l20] [] C 0 dX7_mixedPlans_83 s_X7_323 (fun u hu => m_X7_mixed hu) rfl rfl (Nat.le_of_ble_eq_true rfl) (Nat.le_of_ble_eq_true rfl) rfl (fun l21 => ?_)
  exact x_lret C E dX7_mixedPlans_86 rfl

def f_X7_mixedWalk (h : Hp) (a1 : Int64) (a2 : Int32) : Option (Hp × Int64) :=
  lt1 (fun (l1 : Int64) =>
    nm (nI 4) fun x2 =>
    lt2 (fun (h3 : Hp) (l4 : Int64) =>
      fx3 FU (fun s3 (h5 : Hp) (l6 : Int64) (x7 : Int32) =>
        if (2 : Int32) < x7 then (
          some (h5, l6))
        else (
          bnd (f_X7_ends h5 a2 x7) fun h8 x9 =>
          bdr (f_X7_mixed l6 (x9.toInt64)) fun l10 =>
          nm (x7 + (1 : Int32)) fun x11 =>
          s3 h8 l10 x11)) h3 l4 (0 : Int32)) fun k2 =>
    fx3 FU (fun s4 (h12 : Hp) (l13 : Int64) (x14 : Int32) =>
      if x2 ≤ x14 then (
        k2 h12 l13)
      else (
        ck x14 4 (
          nm (dbF x14.toNatClampNeg) fun x15 =>
          bnd (f_X7_at h12 x15 a2 (0 : Int32)) fun h16 x17 =>
          bdr (f_X7_mixed l13 (x17.toInt64)) fun l18 =>
          bnd (f_X7_at h16 x15 a2 (1 : Int32)) fun h19 x20 =>
          bdr (f_X7_mixed l18 (x20.toInt64)) fun l21 =>
          bnd (f_X7_lean h19 x15 a2) fun h22 x23 =>
          bdr (f_X7_mixed l21 (x23.toInt64)) fun l24 =>
          nm (x14 + (1 : Int32)) fun x25 =>
          s4 h22 l24 x25))) h l1 (0 : Int32)) fun k1 =>
  fx2 FU (fun s5 (l26 : Int64) (x27 : Int32) =>
    if (2 : Int32) < x27 then (
      k1 l26)
    else (
      bdr (f_X7_walker h a2 x27) fun x28 =>
      bdr (f_X7_mixed l26 (x28.toInt64)) fun l29 =>
      nm (x27 + (1 : Int32)) fun x30 =>
      s5 l29 x30)) a1 (0 : Int32)
theorem dX7_mixedWalk_0 : decode cX7_mixedWalk 0 = .ok (.lload_n 1, 1) := by decide +kernel
theorem dX7_mixedWalk_1 : decode cX7_mixedWalk 1 = .ok (.lstore 4, 2) := by decide +kernel
theorem dX7_mixedWalk_3 : decode cX7_mixedWalk 3 = .ok (.iconst 0, 1) := by decide +kernel
theorem dX7_mixedWalk_4 : decode cX7_mixedWalk 4 = .ok (.istore 6, 2) := by decide +kernel
theorem dX7_mixedWalk_6 : decode cX7_mixedWalk 6 = .ok (.iload 6, 2) := by decide +kernel
theorem dX7_mixedWalk_8 : decode cX7_mixedWalk 8 = .ok (.iconst 2, 1) := by decide +kernel
theorem dX7_mixedWalk_9 : decode cX7_mixedWalk 9 = .ok (.if_icmp .gt 24, 3) := by decide +kernel
theorem dX7_mixedWalk_12 : decode cX7_mixedWalk 12 = .ok (.lload 4, 2) := by decide +kernel
theorem dX7_mixedWalk_14 : decode cX7_mixedWalk 14 = .ok (.aload_n 0, 1) := by decide +kernel
theorem dX7_mixedWalk_15 : decode cX7_mixedWalk 15 = .ok (.iload_n 3, 1) := by decide +kernel
theorem dX7_mixedWalk_16 : decode cX7_mixedWalk 16 = .ok (.iload 6, 2) := by decide +kernel
theorem dX7_mixedWalk_18 : decode cX7_mixedWalk 18 = .ok (.invokevirtual 371, 3) := by decide +kernel
theorem dX7_mixedWalk_21 : decode cX7_mixedWalk 21 = .ok (.i2l, 1) := by decide +kernel
theorem dX7_mixedWalk_22 : decode cX7_mixedWalk 22 = .ok (.invokestatic 323, 3) := by decide +kernel
theorem dX7_mixedWalk_25 : decode cX7_mixedWalk 25 = .ok (.lstore 4, 2) := by decide +kernel
theorem dX7_mixedWalk_27 : decode cX7_mixedWalk 27 = .ok (.iinc 6 1, 3) := by decide +kernel
theorem dX7_mixedWalk_30 : decode cX7_mixedWalk 30 = .ok (.goto (-24), 3) := by decide +kernel
theorem dX7_mixedWalk_33 : decode cX7_mixedWalk 33 = .ok (.getstatic 374, 3) := by decide +kernel
theorem dX7_mixedWalk_36 : decode cX7_mixedWalk 36 = .ok (.astore 6, 2) := by decide +kernel
theorem dX7_mixedWalk_38 : decode cX7_mixedWalk 38 = .ok (.aload 6, 2) := by decide +kernel
theorem dX7_mixedWalk_40 : decode cX7_mixedWalk 40 = .ok (.arraylength, 1) := by decide +kernel
theorem dX7_mixedWalk_41 : decode cX7_mixedWalk 41 = .ok (.istore 7, 2) := by decide +kernel
theorem dX7_mixedWalk_43 : decode cX7_mixedWalk 43 = .ok (.iconst 0, 1) := by decide +kernel
theorem dX7_mixedWalk_44 : decode cX7_mixedWalk 44 = .ok (.istore 8, 2) := by decide +kernel
theorem dX7_mixedWalk_46 : decode cX7_mixedWalk 46 = .ok (.iload 8, 2) := by decide +kernel
theorem dX7_mixedWalk_48 : decode cX7_mixedWalk 48 = .ok (.iload 7, 2) := by decide +kernel
theorem dX7_mixedWalk_50 : decode cX7_mixedWalk 50 = .ok (.if_icmp .ge 55, 3) := by decide +kernel
theorem dX7_mixedWalk_53 : decode cX7_mixedWalk 53 = .ok (.aload 6, 2) := by decide +kernel
theorem dX7_mixedWalk_55 : decode cX7_mixedWalk 55 = .ok (.iload 8, 2) := by decide +kernel
theorem dX7_mixedWalk_57 : decode cX7_mixedWalk 57 = .ok (.iaload, 1) := by decide +kernel
theorem dX7_mixedWalk_58 : decode cX7_mixedWalk 58 = .ok (.istore 9, 2) := by decide +kernel
theorem dX7_mixedWalk_60 : decode cX7_mixedWalk 60 = .ok (.lload 4, 2) := by decide +kernel
theorem dX7_mixedWalk_62 : decode cX7_mixedWalk 62 = .ok (.aload_n 0, 1) := by decide +kernel
theorem dX7_mixedWalk_63 : decode cX7_mixedWalk 63 = .ok (.iload 9, 2) := by decide +kernel
theorem dX7_mixedWalk_65 : decode cX7_mixedWalk 65 = .ok (.iload_n 3, 1) := by decide +kernel
theorem dX7_mixedWalk_66 : decode cX7_mixedWalk 66 = .ok (.iconst 0, 1) := by decide +kernel
theorem dX7_mixedWalk_67 : decode cX7_mixedWalk 67 = .ok (.invokevirtual 377, 3) := by decide +kernel
theorem dX7_mixedWalk_70 : decode cX7_mixedWalk 70 = .ok (.i2l, 1) := by decide +kernel
theorem dX7_mixedWalk_71 : decode cX7_mixedWalk 71 = .ok (.invokestatic 323, 3) := by decide +kernel
theorem dX7_mixedWalk_74 : decode cX7_mixedWalk 74 = .ok (.aload_n 0, 1) := by decide +kernel
theorem dX7_mixedWalk_75 : decode cX7_mixedWalk 75 = .ok (.iload 9, 2) := by decide +kernel
theorem dX7_mixedWalk_77 : decode cX7_mixedWalk 77 = .ok (.iload_n 3, 1) := by decide +kernel
theorem dX7_mixedWalk_78 : decode cX7_mixedWalk 78 = .ok (.iconst 1, 1) := by decide +kernel
theorem dX7_mixedWalk_79 : decode cX7_mixedWalk 79 = .ok (.invokevirtual 377, 3) := by decide +kernel
theorem dX7_mixedWalk_82 : decode cX7_mixedWalk 82 = .ok (.i2l, 1) := by decide +kernel
theorem dX7_mixedWalk_83 : decode cX7_mixedWalk 83 = .ok (.invokestatic 323, 3) := by decide +kernel
theorem dX7_mixedWalk_86 : decode cX7_mixedWalk 86 = .ok (.aload_n 0, 1) := by decide +kernel
theorem dX7_mixedWalk_87 : decode cX7_mixedWalk 87 = .ok (.iload 9, 2) := by decide +kernel
theorem dX7_mixedWalk_89 : decode cX7_mixedWalk 89 = .ok (.iload_n 3, 1) := by decide +kernel
theorem dX7_mixedWalk_90 : decode cX7_mixedWalk 90 = .ok (.invokevirtual 380, 3) := by decide +kernel
theorem dX7_mixedWalk_93 : decode cX7_mixedWalk 93 = .ok (.i2l, 1) := by decide +kernel
theorem dX7_mixedWalk_94 : decode cX7_mixedWalk 94 = .ok (.invokestatic 323, 3) := by decide +kernel
theorem dX7_mixedWalk_97 : decode cX7_mixedWalk 97 = .ok (.lstore 4, 2) := by decide +kernel
theorem dX7_mixedWalk_99 : decode cX7_mixedWalk 99 = .ok (.iinc 8 1, 3) := by decide +kernel
theorem dX7_mixedWalk_102 : decode cX7_mixedWalk 102 = .ok (.goto (-56), 3) := by decide +kernel
theorem dX7_mixedWalk_105 : decode cX7_mixedWalk 105 = .ok (.iconst 0, 1) := by decide +kernel
theorem dX7_mixedWalk_106 : decode cX7_mixedWalk 106 = .ok (.istore 6, 2) := by decide +kernel
theorem dX7_mixedWalk_108 : decode cX7_mixedWalk 108 = .ok (.iload 6, 2) := by decide +kernel
theorem dX7_mixedWalk_110 : decode cX7_mixedWalk 110 = .ok (.iconst 2, 1) := by decide +kernel
theorem dX7_mixedWalk_111 : decode cX7_mixedWalk 111 = .ok (.if_icmp .gt 24, 3) := by decide +kernel
theorem dX7_mixedWalk_114 : decode cX7_mixedWalk 114 = .ok (.lload 4, 2) := by decide +kernel
theorem dX7_mixedWalk_116 : decode cX7_mixedWalk 116 = .ok (.aload_n 0, 1) := by decide +kernel
theorem dX7_mixedWalk_117 : decode cX7_mixedWalk 117 = .ok (.iload_n 3, 1) := by decide +kernel
theorem dX7_mixedWalk_118 : decode cX7_mixedWalk 118 = .ok (.iload 6, 2) := by decide +kernel
theorem dX7_mixedWalk_120 : decode cX7_mixedWalk 120 = .ok (.invokevirtual 383, 3) := by decide +kernel
theorem dX7_mixedWalk_123 : decode cX7_mixedWalk 123 = .ok (.i2l, 1) := by decide +kernel
theorem dX7_mixedWalk_124 : decode cX7_mixedWalk 124 = .ok (.invokestatic 323, 3) := by decide +kernel
theorem dX7_mixedWalk_127 : decode cX7_mixedWalk 127 = .ok (.lstore 4, 2) := by decide +kernel
theorem dX7_mixedWalk_129 : decode cX7_mixedWalk 129 = .ok (.iinc 6 1, 3) := by decide +kernel
theorem dX7_mixedWalk_132 : decode cX7_mixedWalk 132 = .ok (.goto (-24), 3) := by decide +kernel
theorem dX7_mixedWalk_135 : decode cX7_mixedWalk 135 = .ok (.lload 4, 2) := by decide +kernel
theorem dX7_mixedWalk_137 : decode cX7_mixedWalk 137 = .ok (.lreturn, 1) := by decide +kernel
set_option maxRecDepth 20000 in
theorem m_X7_mixedWalk {h : Hp} {a1 : Int64} {a2 : Int32}  {u : (Hp × Int64)} (hu : f_X7_mixedWalk h a1 a2 = some u) : Ct yX7_mixedWalk cX7_mixedWalk 10 (some .long) 6 [.ref 0, .long a1, .int a2] h (eL u) := by
  refine ct_of eL hu (by decide) (Nat.le_of_ble_eq_true rfl) (fun κ hn C E => ?_)
  have n5 : 5 < kn κ := by rw [hn]; decide
  have n6 : 6 < kn κ := by rw [hn]; decide
  have n7 : 7 < kn κ := by rw [hn]; decide
  have n8 : 8 < kn κ := by rw [hn]; decide
  have n9 : 9 < kn κ := by rw [hn]; decide
  unfold f_X7_mixedWalk
  show Xz κ _ 0 [(0, .ref 0), (1, .long a1), (3, .int a2)] [] h
  refine x_lload_n 1 C dX7_mixedWalk_0 1 rfl rfl rfl ?_
  refine x_lstore 3 [(4, .long a1), (0, .ref 0), (1, .long a1), (3, .int a2)] C dX7_mixedWalk_1 n5 rfl rfl ?_
  refine x_iconst 4 C dX7_mixedWalk_3 ci_0 rfl ?_
  refine x_istore 6 [(6, .int (0 : Int32)), (4, .long a1), (0, .ref 0), (1, .long a1), (3, .int a2)] C dX7_mixedWalk_4 n6 rfl rfl ?_
  refine x_lt1 (q := 33) (ls := fun l1 => [(0, .ref 0), (3, .int a2), (4, .long l1)]) (st := fun l1 => []) (hh := fun l1 => h) (fun l1 => ?_) (fun k1 J1 => ?_)
  · refine x_gets 36 C dX7_mixedWalk_33 gs_X7_374 rfl ?_
    refine x_astore 38 [(6, .ref 94), (0, .ref 0), (3, .int a2), (4, .long l1)] C dX7_mixedWalk_36 n6 rfl rfl ?_
    refine x_aload 40 C dX7_mixedWalk_38 0 rfl rfl ?_
    refine x_tlen 41 C dX7_mixedWalk_40 rfl ?_
    refine x_ni (fun x2 => ?_)
    refine x_istore 43 [(7, .int x2), (6, .ref 94), (0, .ref 0), (3, .int a2), (4, .long l1)] C dX7_mixedWalk_41 n7 rfl rfl ?_
    refine x_iconst 44 C dX7_mixedWalk_43 ci_0 rfl ?_
    refine x_istore 46 [(8, .int (0 : Int32)), (7, .int x2), (6, .ref 94), (0, .ref 0), (3, .int a2), (4, .long l1)] C dX7_mixedWalk_44 n8 rfl rfl ?_
    refine x_lt2 (q := 105) (ls := fun h3 l4 => [(0, .ref 0), (3, .int a2), (4, .long l4)]) (st := fun h3 l4 => []) (hh := fun h3 l4 => h3) (fun h3 l4 => ?_) (fun k2 J2 => ?_)
    · refine x_iconst 106 C dX7_mixedWalk_105 ci_0 rfl ?_
      refine x_istore 108 [(6, .int (0 : Int32)), (0, .ref 0), (3, .int a2), (4, .long l4)] C dX7_mixedWalk_106 n6 rfl rfl ?_
      refine x_ls [1, 2, 3, 0] rfl (x_fx3 (ls := fun h5 l6 x7 => [(0, .ref 0), (3, .int a2), (4, .long l6), (6, .int x7)]) (st := fun h5 l6 x7 => []) (hh := fun h5 l6 x7 => h5) (fun s3 J3 h5 l6 x7 => ?_))
      refine x_iload 110 C dX7_mixedWalk_108 3 rfl rfl ?_
      refine x_iconst 111 C dX7_mixedWalk_110 ci_2 rfl ?_
      refine x_icmp_gt 114 135 C dX7_mixedWalk_111 (by decide) rfl (fun _ => ?_) (fun _ => ?_)
      · refine x_lload 137 C dX7_mixedWalk_135 2 rfl rfl ?_
        exact x_lret C E dX7_mixedWalk_137 rfl
      · refine x_lload 116 C dX7_mixedWalk_114 2 rfl rfl ?_
        refine x_aload_n 117 C dX7_mixedWalk_116 0 rfl rfl rfl ?_
        refine x_iload_n 118 C dX7_mixedWalk_117 1 rfl rfl rfl ?_
        refine x_iload 120 C dX7_mixedWalk_118 3 rfl rfl ?_
        refine x_cvI 123 [.int a2, .int x7] [.long l6] C 5 dX7_mixedWalk_120 v_X7_383 (fun u hu => m_X7_ends hu) rfl sk_0 rfl (Nat.le_of_ble_eq_true rfl) (Nat.le_of_ble_eq_true rfl) rfl (fun h8 x9 => ?_)
        refine x_i2l 124 C dX7_mixedWalk_123 rfl ?_
        refine x_csl 127 [.long l6, .long (x9.toInt64)] [] C 0 dX7_mixedWalk_124 s_X7_323 (fun u hu => m_X7_mixed hu) rfl rfl (Nat.le_of_ble_eq_true rfl) (Nat.le_of_ble_eq_true rfl) rfl (fun l10 => ?_)
        refine x_lstore 129 [(4, .long l10), (0, .ref 0), (3, .int a2), (6, .int x7)] C dX7_mixedWalk_127 n5 rfl rfl ?_
        refine x_iinc 132 (fun x11 => [(6, .int x11), (4, .long l10), (0, .ref 0), (3, .int a2)]) C dX7_mixedWalk_129 3 rfl ci_1 n6 (fun _ => rfl) rfl (fun x11 => ?_)
        refine x_goto 108 C dX7_mixedWalk_132 (by decide) ?_
        exact x_ls [2, 3, 1, 0] rfl (J3 h8 l10 x11)
    refine x_ls [3, 4, 5, 2, 1, 0] rfl (x_fx3 (ls := fun h12 l13 x14 => [(0, .ref 0), (3, .int a2), (4, .long l13), (6, .ref 94), (7, .int x2), (8, .int x14)]) (st := fun h12 l13 x14 => []) (hh := fun h12 l13 x14 => h12) (fun s4 J4 h12 l13 x14 => ?_))
    refine x_iload 48 C dX7_mixedWalk_46 5 rfl rfl ?_
    refine x_iload 50 C dX7_mixedWalk_48 4 rfl rfl ?_
    refine x_icmp_ge 53 105 C dX7_mixedWalk_50 (by decide) rfl (fun _ => ?_) (fun _ => ?_)
    · exact x_ls [0, 1, 2] rfl (J2 h12 l13)
    · refine x_aload 55 C dX7_mixedWalk_53 3 rfl rfl ?_
      refine x_iload 57 C dX7_mixedWalk_55 5 rfl rfl ?_
      refine x_tald 58 C dX7_mixedWalk_57 rfl ?_
      refine x_ni (fun x15 => ?_)
      refine x_istore 60 [(9, .int x15), (0, .ref 0), (3, .int a2), (4, .long l13), (6, .ref 94), (7, .int x2), (8, .int x14)] C dX7_mixedWalk_58 n9 rfl rfl ?_
      refine x_lload 62 C dX7_mixedWalk_60 3 rfl rfl ?_
      refine x_aload_n 63 C dX7_mixedWalk_62 1 rfl rfl rfl ?_
      refine x_iload 65 C dX7_mixedWalk_63 0 rfl rfl ?_
      refine x_iload_n 66 C dX7_mixedWalk_65 2 rfl rfl rfl ?_
      refine x_iconst 67 C dX7_mixedWalk_66 ci_0 rfl ?_
      refine x_cvI 70 [.int x15, .int a2, .int (0 : Int32)] [.long l13] C 5 dX7_mixedWalk_67 v_X7_377 (fun u hu => m_X7_at hu) rfl sk_0 rfl (Nat.le_of_ble_eq_true rfl) (Nat.le_of_ble_eq_true rfl) rfl (fun h16 x17 => ?_)
      refine x_i2l 71 C dX7_mixedWalk_70 rfl ?_
      refine x_csl 74 [.long l13, .long (x17.toInt64)] [] C 0 dX7_mixedWalk_71 s_X7_323 (fun u hu => m_X7_mixed hu) rfl rfl (Nat.le_of_ble_eq_true rfl) (Nat.le_of_ble_eq_true rfl) rfl (fun l18 => ?_)
      refine x_aload_n 75 C dX7_mixedWalk_74 1 rfl rfl rfl ?_
      refine x_iload 77 C dX7_mixedWalk_75 0 rfl rfl ?_
      refine x_iload_n 78 C dX7_mixedWalk_77 2 rfl rfl rfl ?_
      refine x_iconst 79 C dX7_mixedWalk_78 ci_1 rfl ?_
      refine x_cvI 82 [.int x15, .int a2, .int (1 : Int32)] [.long l18] C 5 dX7_mixedWalk_79 v_X7_377 (fun u hu => m_X7_at hu) rfl sk_0 rfl (Nat.le_of_ble_eq_true rfl) (Nat.le_of_ble_eq_true rfl) rfl (fun h19 x20 => ?_)
      refine x_i2l 83 C dX7_mixedWalk_82 rfl ?_
      refine x_csl 86 [.long l18, .long (x20.toInt64)] [] C 0 dX7_mixedWalk_83 s_X7_323 (fun u hu => m_X7_mixed hu) rfl rfl (Nat.le_of_ble_eq_true rfl) (Nat.le_of_ble_eq_true rfl) rfl (fun l21 => ?_)
      refine x_aload_n 87 C dX7_mixedWalk_86 1 rfl rfl rfl ?_
      refine x_iload 89 C dX7_mixedWalk_87 0 rfl rfl ?_
      refine x_iload_n 90 C dX7_mixedWalk_89 2 rfl rfl rfl ?_
      refine x_cvI 93 [.int x15, .int a2] [.long l21] C 5 dX7_mixedWalk_90 v_X7_380 (fun u hu => m_X7_lean hu) rfl sk_0 rfl (Nat.le_of_ble_eq_true rfl) (Nat.le_of_ble_eq_true rfl) rfl (fun h22 x23 => ?_)
      refine x_i2l 94 C dX7_mixedWalk_93 rfl ?_
      refine x_csl 97 [.long l21, .long (x23.toInt64)] [] C 0 dX7_mixedWalk_94 s_X7_323 (fun u hu => m_X7_mixed hu) rfl rfl (Nat.le_of_ble_eq_true rfl) (Nat.le_of_ble_eq_true rfl) rfl (fun l24 => ?_)
      refine x_lstore 99 [(4, .long l24), (9, .int x15), (0, .ref 0), (3, .int a2), (6, .ref 94), (7, .int x2), (8, .int x14)] C dX7_mixedWalk_97 n5 rfl rfl ?_
      refine x_iinc 102 (fun x25 => [(8, .int x25), (4, .long l24), (9, .int x15), (0, .ref 0), (3, .int a2), (6, .ref 94), (7, .int x2)]) C dX7_mixedWalk_99 6 rfl ci_1 n8 (fun _ => rfl) rfl (fun x25 => ?_)
      refine x_goto 46 C dX7_mixedWalk_102 (by decide) ?_
      exact x_ls [3, 4, 1, 5, 6, 0] rfl (J4 h22 l24 x25)
  refine x_ls [2, 4, 1, 0] rfl (x_fx2 (ls := fun l26 x27 => [(0, .ref 0), (3, .int a2), (4, .long l26), (6, .int x27)]) (st := fun l26 x27 => []) (hh := fun l26 x27 => h) (fun s5 J5 l26 x27 => ?_))
  refine x_iload 8 C dX7_mixedWalk_6 3 rfl rfl ?_
  refine x_iconst 9 C dX7_mixedWalk_8 ci_2 rfl ?_
  refine x_icmp_gt 12 33 C dX7_mixedWalk_9 (by decide) rfl (fun _ => ?_) (fun _ => ?_)
  · exact x_ls [0, 1, 2] rfl (J1 l26)
  · refine x_lload 14 C dX7_mixedWalk_12 2 rfl rfl ?_
    refine x_aload_n 15 C dX7_mixedWalk_14 0 rfl rfl rfl ?_
    refine x_iload_n 16 C dX7_mixedWalk_15 1 rfl rfl rfl ?_
    refine x_iload 18 C dX7_mixedWalk_16 3 rfl rfl ?_
    refine x_cvi 21 [.int a2, .int x27] [.long l26] C 2 dX7_mixedWalk_18 v_X7_371 (fun u hu => m_X7_walker hu) rfl sk_0 rfl (Nat.le_of_ble_eq_true rfl) (Nat.le_of_ble_eq_true rfl) rfl (fun x28 => ?_)
    refine x_i2l 22 C dX7_mixedWalk_21 rfl ?_
    refine x_csl 25 [.long l26, .long (x28.toInt64)] [] C 0 dX7_mixedWalk_22 s_X7_323 (fun u hu => m_X7_mixed hu) rfl rfl (Nat.le_of_ble_eq_true rfl) (Nat.le_of_ble_eq_true rfl) rfl (fun l29 => ?_)
    refine x_lstore 27 [(4, .long l29), (0, .ref 0), (3, .int a2), (6, .int x27)] C dX7_mixedWalk_25 n5 rfl rfl ?_
    refine x_iinc 30 (fun x30 => [(6, .int x30), (4, .long l29), (0, .ref 0), (3, .int a2)]) C dX7_mixedWalk_27 3 rfl ci_1 n6 (fun _ => rfl) rfl (fun x30 => ?_)
    refine x_goto 6 C dX7_mixedWalk_30 (by decide) ?_
    exact x_ls [2, 3, 1, 0] rfl (J5 l29 x30)
