def f_X7_copy (h : Hp) (a1 : Int32) (a2 : Int32) (a3 : Int32) (a4 : Int32) (a5 : Int32) : Option (Hp × Int32) :=
  bdr (f_X7_isSheet a1) fun x1 =>
  if x1 = 0 then (
    some (h, (-2 : Int32)))
  else (
    bdr (f_X7_isSheet a3) fun x2 =>
    if x2 = 0 then (
      some (h, (-2 : Int32)))
    else (
      ck a1 4 (
        ck a3 4 (
          lt1 (fun (u5 : Int32) =>
            bnd (f_X7_found h (1 : Int32)) fun h6 x7 =>
            some (h6, x7)) fun k1 =>
          if (h.1 (60 + 2 * a1.toNatClampNeg) 1) = 0 then (
            if (h.1 (60 + 2 * a3.toNatClampNeg) 1) = 0 then (
              if (h.1 (60 + 2 * a1.toNatClampNeg) 2) = (h.1 (60 + 2 * a3.toNatClampNeg) 2) then (
                bdr (f_X1_hasRun h (60 + 2 * a1.toNatClampNeg) a2 a5) fun x8 =>
                lt1 (fun (u9 : Int32) =>
                  bnd (f_X7_found h (2 : Int32)) fun h10 x11 =>
                  some (h10, x11)) fun k2 =>
                if x8 = 0 then (
                  k2 (0 : Int32))
                else (
                  bdr (f_X1_hasRun h (60 + 2 * a3.toNatClampNeg) a4 a5) fun x12 =>
                  if x12 = 0 then (
                    k2 (0 : Int32))
                  else (
                    cy (¬ a2 < 0 ∧ ¬ a4 < 0 ∧ ¬ a5 < 0 ∧ a2.toNatClampNeg + a5.toNatClampNeg ≤ 60 ∧ a4.toNatClampNeg + a5.toNatClampNeg ≤ 60) (nm (ucp h ((60 + 2 * a1.toNatClampNeg) + 1) ((60 + 2 * a3.toNatClampNeg) + 1) a2 a4 a5) fun h13 =>
                    some (h13, (1 : Int32))))))
              else (
                bnd (f_X7_found h (4 : Int32)) fun h14 x15 =>
                some (h14, x15)))
            else (
              k1 (0 : Int32)))
          else (
            k1 (0 : Int32))))))
theorem dX7_copy_0 : decode cX7_copy 0 = .ok (.iload_n 1, 1) := by decide +kernel
theorem dX7_copy_1 : decode cX7_copy 1 = .ok (.invokestatic 157, 3) := by decide +kernel
theorem dX7_copy_4 : decode cX7_copy 4 = .ok (.ifCond .eq 10, 3) := by decide +kernel
theorem dX7_copy_7 : decode cX7_copy 7 = .ok (.iload_n 3, 1) := by decide +kernel
theorem dX7_copy_8 : decode cX7_copy 8 = .ok (.invokestatic 157, 3) := by decide +kernel
theorem dX7_copy_11 : decode cX7_copy 11 = .ok (.ifCond .ne 6, 3) := by decide +kernel
theorem dX7_copy_14 : decode cX7_copy 14 = .ok (.bipush (-2), 2) := by decide +kernel
theorem dX7_copy_16 : decode cX7_copy 16 = .ok (.ireturn, 1) := by decide +kernel
theorem dX7_copy_17 : decode cX7_copy 17 = .ok (.aload_n 0, 1) := by decide +kernel
theorem dX7_copy_18 : decode cX7_copy 18 = .ok (.getfield 63, 3) := by decide +kernel
theorem dX7_copy_21 : decode cX7_copy 21 = .ok (.iload_n 1, 1) := by decide +kernel
theorem dX7_copy_22 : decode cX7_copy 22 = .ok (.aaload, 1) := by decide +kernel
theorem dX7_copy_23 : decode cX7_copy 23 = .ok (.astore 6, 2) := by decide +kernel
theorem dX7_copy_25 : decode cX7_copy 25 = .ok (.aload_n 0, 1) := by decide +kernel
theorem dX7_copy_26 : decode cX7_copy 26 = .ok (.getfield 63, 3) := by decide +kernel
theorem dX7_copy_29 : decode cX7_copy 29 = .ok (.iload_n 3, 1) := by decide +kernel
theorem dX7_copy_30 : decode cX7_copy 30 = .ok (.aaload, 1) := by decide +kernel
theorem dX7_copy_31 : decode cX7_copy 31 = .ok (.astore 7, 2) := by decide +kernel
theorem dX7_copy_33 : decode cX7_copy 33 = .ok (.aload 6, 2) := by decide +kernel
theorem dX7_copy_35 : decode cX7_copy 35 = .ok (.getfield 160, 3) := by decide +kernel
theorem dX7_copy_38 : decode cX7_copy 38 = .ok (.ifCond .ne 11, 3) := by decide +kernel
theorem dX7_copy_41 : decode cX7_copy 41 = .ok (.aload 7, 2) := by decide +kernel
theorem dX7_copy_43 : decode cX7_copy 43 = .ok (.getfield 160, 3) := by decide +kernel
theorem dX7_copy_46 : decode cX7_copy 46 = .ok (.ifCond .eq 9, 3) := by decide +kernel
theorem dX7_copy_49 : decode cX7_copy 49 = .ok (.aload_n 0, 1) := by decide +kernel
theorem dX7_copy_50 : decode cX7_copy 50 = .ok (.iconst 1, 1) := by decide +kernel
theorem dX7_copy_51 : decode cX7_copy 51 = .ok (.invokevirtual 163, 3) := by decide +kernel
theorem dX7_copy_54 : decode cX7_copy 54 = .ok (.ireturn, 1) := by decide +kernel
theorem dX7_copy_55 : decode cX7_copy 55 = .ok (.aload 6, 2) := by decide +kernel
theorem dX7_copy_57 : decode cX7_copy 57 = .ok (.getfield 301, 3) := by decide +kernel
theorem dX7_copy_60 : decode cX7_copy 60 = .ok (.aload 7, 2) := by decide +kernel
theorem dX7_copy_62 : decode cX7_copy 62 = .ok (.getfield 301, 3) := by decide +kernel
theorem dX7_copy_65 : decode cX7_copy 65 = .ok (.if_icmp .eq 9, 3) := by decide +kernel
theorem dX7_copy_68 : decode cX7_copy 68 = .ok (.aload_n 0, 1) := by decide +kernel
theorem dX7_copy_69 : decode cX7_copy 69 = .ok (.iconst 4, 1) := by decide +kernel
theorem dX7_copy_70 : decode cX7_copy 70 = .ok (.invokevirtual 163, 3) := by decide +kernel
theorem dX7_copy_73 : decode cX7_copy 73 = .ok (.ireturn, 1) := by decide +kernel
theorem dX7_copy_74 : decode cX7_copy 74 = .ok (.aload 6, 2) := by decide +kernel
theorem dX7_copy_76 : decode cX7_copy 76 = .ok (.iload_n 2, 1) := by decide +kernel
theorem dX7_copy_77 : decode cX7_copy 77 = .ok (.iload 5, 2) := by decide +kernel
theorem dX7_copy_79 : decode cX7_copy 79 = .ok (.invokevirtual 304, 3) := by decide +kernel
theorem dX7_copy_82 : decode cX7_copy 82 = .ok (.ifCond .eq 15, 3) := by decide +kernel
theorem dX7_copy_85 : decode cX7_copy 85 = .ok (.aload 7, 2) := by decide +kernel
theorem dX7_copy_87 : decode cX7_copy 87 = .ok (.iload 4, 2) := by decide +kernel
theorem dX7_copy_89 : decode cX7_copy 89 = .ok (.iload 5, 2) := by decide +kernel
theorem dX7_copy_91 : decode cX7_copy 91 = .ok (.invokevirtual 304, 3) := by decide +kernel
theorem dX7_copy_94 : decode cX7_copy 94 = .ok (.ifCond .ne 9, 3) := by decide +kernel
theorem dX7_copy_97 : decode cX7_copy 97 = .ok (.aload_n 0, 1) := by decide +kernel
theorem dX7_copy_98 : decode cX7_copy 98 = .ok (.iconst 2, 1) := by decide +kernel
theorem dX7_copy_99 : decode cX7_copy 99 = .ok (.invokevirtual 163, 3) := by decide +kernel
theorem dX7_copy_102 : decode cX7_copy 102 = .ok (.ireturn, 1) := by decide +kernel
theorem dX7_copy_103 : decode cX7_copy 103 = .ok (.aload 6, 2) := by decide +kernel
theorem dX7_copy_105 : decode cX7_copy 105 = .ok (.getfield 168, 3) := by decide +kernel
theorem dX7_copy_108 : decode cX7_copy 108 = .ok (.iload_n 2, 1) := by decide +kernel
theorem dX7_copy_109 : decode cX7_copy 109 = .ok (.aload 7, 2) := by decide +kernel
theorem dX7_copy_111 : decode cX7_copy 111 = .ok (.getfield 168, 3) := by decide +kernel
theorem dX7_copy_114 : decode cX7_copy 114 = .ok (.iload 4, 2) := by decide +kernel
theorem dX7_copy_116 : decode cX7_copy 116 = .ok (.iload 5, 2) := by decide +kernel
theorem dX7_copy_118 : decode cX7_copy 118 = .ok (.invokestatic 308, 3) := by decide +kernel
theorem dX7_copy_121 : decode cX7_copy 121 = .ok (.iconst 1, 1) := by decide +kernel
theorem dX7_copy_122 : decode cX7_copy 122 = .ok (.ireturn, 1) := by decide +kernel
set_option maxRecDepth 20000 in
theorem m_X7_copy {h : Hp} {a1 : Int32} {a2 : Int32} {a3 : Int32} {a4 : Int32} {a5 : Int32}  {u : (Hp × Int32)} (hu : f_X7_copy h a1 a2 a3 a4 a5 = some u) : Ct yX7_copy cX7_copy 8 (some .int) 2 [.ref 0, .int a1, .int a2, .int a3, .int a4, .int a5] h (eI u) := by
  refine ct_of eI hu (by decide) (Nat.le_of_ble_eq_true rfl) (fun κ hn C E => ?_)
  have n6 : 6 < kn κ := by rw [hn]; decide
  have n7 : 7 < kn κ := by rw [hn]; decide
  unfold f_X7_copy
  show Xz κ _ 0 [(0, .ref 0), (1, .int a1), (2, .int a2), (3, .int a3), (4, .int a4), (5, .int a5)] [] h
  refine x_iload_n 1 C dX7_copy_0 1 rfl rfl rfl ?_
  refine x_csi 4 [.int a1] [] C 1 dX7_copy_1 s_X7_157 (fun u hu => m_X7_isSheet hu) rfl rfl (Nat.le_of_ble_eq_true rfl) (Nat.le_of_ble_eq_true rfl) rfl (fun x1 => ?_)
  refine x_if_eq 7 14 C dX7_copy_4 (by decide) rfl (fun _ => ?_) (fun _ => ?_)
  · refine x_bipush 16 C dX7_copy_14 cb_m2 rfl ?_
    exact x_iret C E dX7_copy_16 rfl
  · refine x_iload_n 8 C dX7_copy_7 3 rfl rfl rfl ?_
    refine x_csi 11 [.int a3] [] C 1 dX7_copy_8 s_X7_157 (fun u hu => m_X7_isSheet hu) rfl rfl (Nat.le_of_ble_eq_true rfl) (Nat.le_of_ble_eq_true rfl) rfl (fun x2 => ?_)
    refine x_if_ne 14 17 C dX7_copy_11 (by decide) rfl (fun _ => ?_) (fun _ => ?_)
    · refine x_aload_n 18 C dX7_copy_17 0 rfl rfl rfl ?_
      refine x_getR (c := 59) 21 C dX7_copy_18 fl_X7_63 sk_0 rfl sr_0_10 rfl ?_
      refine x_iload_n 22 C dX7_copy_21 1 rfl rfl rfl ?_
      refine x_aald 23 C dX7_copy_22 rfl (fun hs3 => ?_)
      refine x_astore 25 [(6, .ref (60 + 2 * a1.toNatClampNeg)), (0, .ref 0), (1, .int a1), (2, .int a2), (3, .int a3), (4, .int a4), (5, .int a5)] C dX7_copy_23 n6 rfl rfl ?_
      refine x_aload_n 26 C dX7_copy_25 1 rfl rfl rfl ?_
      refine x_getR (c := 59) 29 C dX7_copy_26 fl_X7_63 sk_0 rfl sr_0_10 rfl ?_
      refine x_iload_n 30 C dX7_copy_29 4 rfl rfl rfl ?_
      refine x_aald 31 C dX7_copy_30 rfl (fun hs4 => ?_)
      refine x_astore 33 [(7, .ref (60 + 2 * a3.toNatClampNeg)), (6, .ref (60 + 2 * a1.toNatClampNeg)), (0, .ref 0), (1, .int a1), (2, .int a2), (3, .int a3), (4, .int a4), (5, .int a5)] C dX7_copy_31 n7 rfl rfl ?_
      refine x_aload 35 C dX7_copy_33 1 rfl rfl ?_
      refine x_getI 38 C dX7_copy_35 fl_X7_160 (sk_sh hs3) rfl rfl ?_
      refine x_lt1 (q := 49) (ls := fun u5 => [(0, .ref 0)]) (st := fun u5 => []) (hh := fun u5 => h) (fun u5 => ?_) (fun k1 J1 => ?_)
      · refine x_aload_n 50 C dX7_copy_49 0 rfl rfl rfl ?_
        refine x_iconst 51 C dX7_copy_50 ci_1 rfl ?_
        refine x_cvI 54 [.int (1 : Int32)] [] C 0 dX7_copy_51 v_X7_163 (fun u hu => m_X7_found hu) rfl sk_0 rfl (Nat.le_of_ble_eq_true rfl) (Nat.le_of_ble_eq_true rfl) rfl (fun h6 x7 => ?_)
        exact x_iret C E dX7_copy_54 rfl
      refine x_if_ne 41 49 C dX7_copy_38 (by decide) rfl (fun _ => ?_) (fun _ => ?_)
      · exact x_ls [2] rfl (J1 (0 : Int32))
      · refine x_aload 43 C dX7_copy_41 0 rfl rfl ?_
        refine x_getI 46 C dX7_copy_43 fl_X7_160 (sk_sh hs4) rfl rfl ?_
        refine x_if_eq 49 55 C dX7_copy_46 (by decide) rfl (fun _ => ?_) (fun _ => ?_)
        · refine x_aload 57 C dX7_copy_55 1 rfl rfl ?_
          refine x_getI 60 C dX7_copy_57 fl_X7_301 (sk_sh hs3) rfl rfl ?_
          refine x_aload 62 C dX7_copy_60 0 rfl rfl ?_
          refine x_getI 65 C dX7_copy_62 fl_X7_301 (sk_sh hs4) rfl rfl ?_
          refine x_icmp_eq 68 74 C dX7_copy_65 (by decide) rfl (fun _ => ?_) (fun _ => ?_)
          · refine x_aload 76 C dX7_copy_74 1 rfl rfl ?_
            refine x_iload_n 77 C dX7_copy_76 4 rfl rfl rfl ?_
            refine x_iload 79 C dX7_copy_77 7 rfl rfl ?_
            refine x_cvi 82 [.int a2, .int a5] [] C 0 dX7_copy_79 v_X7_304 (fun u hu => m_X1_hasRun (sk_sh hs3) hu) rfl (sk_sh hs3) rfl (Nat.le_of_ble_eq_true rfl) (Nat.le_of_ble_eq_true rfl) rfl (fun x8 => ?_)
            refine x_lt1 (q := 97) (ls := fun u9 => [(0, .ref 0)]) (st := fun u9 => []) (hh := fun u9 => h) (fun u9 => ?_) (fun k2 J2 => ?_)
            · refine x_aload_n 98 C dX7_copy_97 0 rfl rfl rfl ?_
              refine x_iconst 99 C dX7_copy_98 ci_2 rfl ?_
              refine x_cvI 102 [.int (2 : Int32)] [] C 0 dX7_copy_99 v_X7_163 (fun u hu => m_X7_found hu) rfl sk_0 rfl (Nat.le_of_ble_eq_true rfl) (Nat.le_of_ble_eq_true rfl) rfl (fun h10 x11 => ?_)
              exact x_iret C E dX7_copy_102 rfl
            refine x_if_eq 85 97 C dX7_copy_82 (by decide) rfl (fun _ => ?_) (fun _ => ?_)
            · exact x_ls [2] rfl (J2 (0 : Int32))
            · refine x_aload 87 C dX7_copy_85 0 rfl rfl ?_
              refine x_iload 89 C dX7_copy_87 6 rfl rfl ?_
              refine x_iload 91 C dX7_copy_89 7 rfl rfl ?_
              refine x_cvi 94 [.int a4, .int a5] [] C 0 dX7_copy_91 v_X7_304 (fun u hu => m_X1_hasRun (sk_sh hs4) hu) rfl (sk_sh hs4) rfl (Nat.le_of_ble_eq_true rfl) (Nat.le_of_ble_eq_true rfl) rfl (fun x12 => ?_)
              refine x_if_ne 97 103 C dX7_copy_94 (by decide) rfl (fun _ => ?_) (fun _ => ?_)
              · refine x_aload 105 C dX7_copy_103 1 rfl rfl ?_
                refine x_getR (c := ((60 + 2 * a1.toNatClampNeg) + 1)) 108 C dX7_copy_105 fl_X7_168 (sk_sh hs3) rfl (of_1_0 (sk_sh hs3)) rfl ?_
                refine x_iload_n 109 C dX7_copy_108 4 rfl rfl rfl ?_
                refine x_aload 111 C dX7_copy_109 0 rfl rfl ?_
                refine x_getR (c := ((60 + 2 * a3.toNatClampNeg) + 1)) 114 C dX7_copy_111 fl_X7_168 (sk_sh hs4) rfl (of_1_0 (sk_sh hs4)) rfl ?_
                refine x_iload 116 C dX7_copy_114 6 rfl rfl ?_
                refine x_iload 118 C dX7_copy_116 7 rfl rfl ?_
                refine x_acp 121 C dX7_copy_118 mw_X7_308 w_na_ac w_st_ac w_in_System (Nat.le_of_ble_eq_true rfl) (ok_1_0 (sk_sh hs3)) (ok_1_0 (sk_sh hs4)) (ol_1_0 (sk_sh hs3)) (ol_1_0 (sk_sh hs4)) (Nat.le_of_ble_eq_true rfl) rfl (fun h13 => ?_)
                refine x_iconst 122 C dX7_copy_121 ci_1 rfl ?_
                exact x_iret C E dX7_copy_122 rfl
              · exact x_ls [2] rfl (J2 (0 : Int32))
          · refine x_aload_n 69 C dX7_copy_68 2 rfl rfl rfl ?_
            refine x_iconst 70 C dX7_copy_69 ci_4 rfl ?_
            refine x_cvI 73 [.int (4 : Int32)] [] C 0 dX7_copy_70 v_X7_163 (fun u hu => m_X7_found hu) rfl sk_0 rfl (Nat.le_of_ble_eq_true rfl) (Nat.le_of_ble_eq_true rfl) rfl (fun h14 x15 => ?_)
            exact x_iret C E dX7_copy_73 rfl
        · exact x_ls [2] rfl (J1 (0 : Int32))
    · refine x_bipush 16 C dX7_copy_14 cb_m2 rfl ?_
      exact x_iret C E dX7_copy_16 rfl

def f_X7_write (h : Hp) (a1 : Int32) (a2 : Int32) : Option (Hp × Int32) :=
  bdr (f_X7_isWalker h a1) fun x1 =>
  if x1 = 0 then (
    some (h, (-2 : Int32)))
  else (
    bdr (f_X7_isSheet a2) fun x2 =>
    if x2 = 0 then (
      some (h, (-2 : Int32)))
    else (
      ck a2 4 (
        if (h.1 (60 + 2 * a2.toNatClampNeg) 1) = 0 then (
          bnd (f_X7_shown h) fun h4 c5 =>
          cy (sk c5 = 2) (
            nm (jmin (h4.1 (60 + 2 * a2.toNatClampNeg) 3) (24 : Int32)) fun x7 =>
            fx2 FU (fun s1 (h8 : Hp) (x9 : Int32) =>
              if x7 ≤ x9 then (
                some (h8, x7))
              else (
                bdr (f_X0_leanBehind h8 (c5 + 5) x9 a1) fun x10 =>
                bdv (f_X1_put h8 (60 + 2 * a2.toNatClampNeg) x9 x10) fun h11 =>
                nm (x9 + (1 : Int32)) fun x12 =>
                s1 h11 x12)) h4 (0 : Int32)))
        else (
          bnd (f_X7_found h (1 : Int32)) fun h13 x14 =>
          some (h13, x14)))))
theorem dX7_write_0 : decode cX7_write 0 = .ok (.aload_n 0, 1) := by decide +kernel
theorem dX7_write_1 : decode cX7_write 1 = .ok (.iload_n 1, 1) := by decide +kernel
theorem dX7_write_2 : decode cX7_write 2 = .ok (.invokevirtual 113, 3) := by decide +kernel
theorem dX7_write_5 : decode cX7_write 5 = .ok (.ifCond .eq 10, 3) := by decide +kernel
theorem dX7_write_8 : decode cX7_write 8 = .ok (.iload_n 2, 1) := by decide +kernel
theorem dX7_write_9 : decode cX7_write 9 = .ok (.invokestatic 157, 3) := by decide +kernel
theorem dX7_write_12 : decode cX7_write 12 = .ok (.ifCond .ne 6, 3) := by decide +kernel
theorem dX7_write_15 : decode cX7_write 15 = .ok (.bipush (-2), 2) := by decide +kernel
theorem dX7_write_17 : decode cX7_write 17 = .ok (.ireturn, 1) := by decide +kernel
theorem dX7_write_18 : decode cX7_write 18 = .ok (.aload_n 0, 1) := by decide +kernel
theorem dX7_write_19 : decode cX7_write 19 = .ok (.getfield 63, 3) := by decide +kernel
theorem dX7_write_22 : decode cX7_write 22 = .ok (.iload_n 2, 1) := by decide +kernel
theorem dX7_write_23 : decode cX7_write 23 = .ok (.aaload, 1) := by decide +kernel
theorem dX7_write_24 : decode cX7_write 24 = .ok (.astore_n 3, 1) := by decide +kernel
theorem dX7_write_25 : decode cX7_write 25 = .ok (.aload_n 3, 1) := by decide +kernel
theorem dX7_write_26 : decode cX7_write 26 = .ok (.getfield 160, 3) := by decide +kernel
theorem dX7_write_29 : decode cX7_write 29 = .ok (.ifCond .eq 9, 3) := by decide +kernel
theorem dX7_write_32 : decode cX7_write 32 = .ok (.aload_n 0, 1) := by decide +kernel
theorem dX7_write_33 : decode cX7_write 33 = .ok (.iconst 1, 1) := by decide +kernel
theorem dX7_write_34 : decode cX7_write 34 = .ok (.invokevirtual 163, 3) := by decide +kernel
theorem dX7_write_37 : decode cX7_write 37 = .ok (.ireturn, 1) := by decide +kernel
theorem dX7_write_38 : decode cX7_write 38 = .ok (.aload_n 0, 1) := by decide +kernel
theorem dX7_write_39 : decode cX7_write 39 = .ok (.invokevirtual 171, 3) := by decide +kernel
theorem dX7_write_42 : decode cX7_write 42 = .ok (.getfield 175, 3) := by decide +kernel
theorem dX7_write_45 : decode cX7_write 45 = .ok (.astore 4, 2) := by decide +kernel
theorem dX7_write_47 : decode cX7_write 47 = .ok (.aload_n 3, 1) := by decide +kernel
theorem dX7_write_48 : decode cX7_write 48 = .ok (.getfield 167, 3) := by decide +kernel
theorem dX7_write_51 : decode cX7_write 51 = .ok (.bipush 24, 2) := by decide +kernel
theorem dX7_write_53 : decode cX7_write 53 = .ok (.invokestatic 314, 3) := by decide +kernel
theorem dX7_write_56 : decode cX7_write 56 = .ok (.istore 5, 2) := by decide +kernel
theorem dX7_write_58 : decode cX7_write 58 = .ok (.iconst 0, 1) := by decide +kernel
theorem dX7_write_59 : decode cX7_write 59 = .ok (.istore 6, 2) := by decide +kernel
theorem dX7_write_61 : decode cX7_write 61 = .ok (.iload 6, 2) := by decide +kernel
theorem dX7_write_63 : decode cX7_write 63 = .ok (.iload 5, 2) := by decide +kernel
theorem dX7_write_65 : decode cX7_write 65 = .ok (.if_icmp .ge 23, 3) := by decide +kernel
theorem dX7_write_68 : decode cX7_write 68 = .ok (.aload_n 3, 1) := by decide +kernel
theorem dX7_write_69 : decode cX7_write 69 = .ok (.iload 6, 2) := by decide +kernel
theorem dX7_write_71 : decode cX7_write 71 = .ok (.aload 4, 2) := by decide +kernel
theorem dX7_write_73 : decode cX7_write 73 = .ok (.iload 6, 2) := by decide +kernel
theorem dX7_write_75 : decode cX7_write 75 = .ok (.iload_n 1, 1) := by decide +kernel
theorem dX7_write_76 : decode cX7_write 76 = .ok (.invokevirtual 189, 3) := by decide +kernel
theorem dX7_write_79 : decode cX7_write 79 = .ok (.invokevirtual 298, 3) := by decide +kernel
theorem dX7_write_82 : decode cX7_write 82 = .ok (.iinc 6 1, 3) := by decide +kernel
theorem dX7_write_85 : decode cX7_write 85 = .ok (.goto (-24), 3) := by decide +kernel
theorem dX7_write_88 : decode cX7_write 88 = .ok (.iload 5, 2) := by decide +kernel
theorem dX7_write_90 : decode cX7_write 90 = .ok (.ireturn, 1) := by decide +kernel
set_option maxRecDepth 20000 in
theorem m_X7_write {h : Hp} {a1 : Int32} {a2 : Int32}  {u : (Hp × Int32)} (hu : f_X7_write h a1 a2 = some u) : Ct yX7_write cX7_write 7 (some .int) 7 [.ref 0, .int a1, .int a2] h (eI u) := by
  refine ct_of eI hu (by decide) (Nat.le_of_ble_eq_true rfl) (fun κ hn C E => ?_)
  have n3 : 3 < kn κ := by rw [hn]; decide
  have n4 : 4 < kn κ := by rw [hn]; decide
  have n5 : 5 < kn κ := by rw [hn]; decide
  have n6 : 6 < kn κ := by rw [hn]; decide
  unfold f_X7_write
  show Xz κ _ 0 [(0, .ref 0), (1, .int a1), (2, .int a2)] [] h
  refine x_aload_n 1 C dX7_write_0 0 rfl rfl rfl ?_
  refine x_iload_n 2 C dX7_write_1 1 rfl rfl rfl ?_
  refine x_cvi 5 [.int a1] [] C 1 dX7_write_2 v_X7_113 (fun u hu => m_X7_isWalker hu) rfl sk_0 rfl (Nat.le_of_ble_eq_true rfl) (Nat.le_of_ble_eq_true rfl) rfl (fun x1 => ?_)
  refine x_if_eq 8 15 C dX7_write_5 (by decide) rfl (fun _ => ?_) (fun _ => ?_)
  · refine x_bipush 17 C dX7_write_15 cb_m2 rfl ?_
    exact x_iret C E dX7_write_17 rfl
  · refine x_iload_n 9 C dX7_write_8 2 rfl rfl rfl ?_
    refine x_csi 12 [.int a2] [] C 1 dX7_write_9 s_X7_157 (fun u hu => m_X7_isSheet hu) rfl rfl (Nat.le_of_ble_eq_true rfl) (Nat.le_of_ble_eq_true rfl) rfl (fun x2 => ?_)
    refine x_if_ne 15 18 C dX7_write_12 (by decide) rfl (fun _ => ?_) (fun _ => ?_)
    · refine x_aload_n 19 C dX7_write_18 0 rfl rfl rfl ?_
      refine x_getR (c := 59) 22 C dX7_write_19 fl_X7_63 sk_0 rfl sr_0_10 rfl ?_
      refine x_iload_n 23 C dX7_write_22 2 rfl rfl rfl ?_
      refine x_aald 24 C dX7_write_23 rfl (fun hs3 => ?_)
      refine x_astore_n 25 [(3, .ref (60 + 2 * a2.toNatClampNeg)), (0, .ref 0), (1, .int a1), (2, .int a2)] C dX7_write_24 n3 rfl rfl rfl ?_
      refine x_aload_n 26 C dX7_write_25 0 rfl rfl rfl ?_
      refine x_getI 29 C dX7_write_26 fl_X7_160 (sk_sh hs3) rfl rfl ?_
      refine x_if_eq 32 38 C dX7_write_29 (by decide) rfl (fun _ => ?_) (fun _ => ?_)
      · refine x_aload_n 39 C dX7_write_38 1 rfl rfl rfl ?_
        refine x_cvR 42 [] [] C 6 dX7_write_39 v_X7_171 (fun u hu => m_X7_shown hu) rfl sk_0 rfl (Nat.le_of_ble_eq_true rfl) (Nat.le_of_ble_eq_true rfl) rfl (fun h4 c5 => ?_)
        refine x_cy (fun hr6 => ?_)
        refine x_getR (c := (c5 + 5)) 45 C dX7_write_42 fl_X7_175 hr6 rfl (of_2_1 hr6) rfl ?_
        refine x_astore 47 [(4, .ref (c5 + 5)), (3, .ref (60 + 2 * a2.toNatClampNeg)), (0, .ref 0), (1, .int a1), (2, .int a2)] C dX7_write_45 n4 rfl rfl ?_
        refine x_aload_n 48 C dX7_write_47 1 rfl rfl rfl ?_
        refine x_getI 51 C dX7_write_48 fl_X7_167 (sk_sh hs3) rfl rfl ?_
        refine x_bipush 53 C dX7_write_51 cb_24 rfl ?_
        refine x_mmin 56 C dX7_write_53 mw_X7_314 w_st_min w_in_Math w_co_min (Nat.le_of_ble_eq_true rfl) (Nat.le_of_ble_eq_true rfl) rfl ?_
        refine x_ni (fun x7 => ?_)
        refine x_istore 58 [(5, .int x7), (4, .ref (c5 + 5)), (3, .ref (60 + 2 * a2.toNatClampNeg)), (0, .ref 0), (1, .int a1), (2, .int a2)] C dX7_write_56 n5 rfl rfl ?_
        refine x_iconst 59 C dX7_write_58 ci_0 rfl ?_
        refine x_istore 61 [(6, .int (0 : Int32)), (5, .int x7), (4, .ref (c5 + 5)), (3, .ref (60 + 2 * a2.toNatClampNeg)), (0, .ref 0), (1, .int a1), (2, .int a2)] C dX7_write_59 n6 rfl rfl ?_
        refine x_ls [5, 3, 2, 1, 0] rfl (x_fx2 (ls := fun h8 x9 => [(1, .int a1), (3, .ref (60 + 2 * a2.toNatClampNeg)), (4, .ref (c5 + 5)), (5, .int x7), (6, .int x9)]) (st := fun h8 x9 => []) (hh := fun h8 x9 => h8) (fun s1 J1 h8 x9 => ?_))
        refine x_iload 63 C dX7_write_61 4 rfl rfl ?_
        refine x_iload 65 C dX7_write_63 3 rfl rfl ?_
        refine x_icmp_ge 68 88 C dX7_write_65 (by decide) rfl (fun _ => ?_) (fun _ => ?_)
        · refine x_iload 90 C dX7_write_88 3 rfl rfl ?_
          exact x_iret C E dX7_write_90 rfl
        · refine x_aload_n 69 C dX7_write_68 1 rfl rfl rfl ?_
          refine x_iload 71 C dX7_write_69 4 rfl rfl ?_
          refine x_aload 73 C dX7_write_71 2 rfl rfl ?_
          refine x_iload 75 C dX7_write_73 4 rfl rfl ?_
          refine x_iload_n 76 C dX7_write_75 0 rfl rfl rfl ?_
          refine x_cvi 79 [.int x9, .int a1] [.int x9, .ref (60 + 2 * a2.toNatClampNeg)] C 3 dX7_write_76 v_X7_189 (fun u hu => m_X0_leanBehind (ok_2_1 hr6) hu) rfl (ok_2_1 hr6) rfl (Nat.le_of_ble_eq_true rfl) (Nat.le_of_ble_eq_true rfl) rfl (fun x10 => ?_)
          refine x_cvV 82 [.int x9, .int x10] [] C 1 dX7_write_79 v_X7_298 (fun u hu => m_X1_put (sk_sh hs3) hu) rfl (sk_sh hs3) rfl (Nat.le_of_ble_eq_true rfl) (Nat.le_of_ble_eq_true rfl) rfl (fun h11 => ?_)
          refine x_iinc 85 (fun x12 => [(6, .int x12), (1, .int a1), (3, .ref (60 + 2 * a2.toNatClampNeg)), (4, .ref (c5 + 5)), (5, .int x7)]) C dX7_write_82 4 rfl ci_1 n6 (fun _ => rfl) rfl (fun x12 => ?_)
          refine x_goto 61 C dX7_write_85 (by decide) ?_
          exact x_ls [1, 2, 3, 4, 0] rfl (J1 h11 x12)
      · refine x_aload_n 33 C dX7_write_32 1 rfl rfl rfl ?_
        refine x_iconst 34 C dX7_write_33 ci_1 rfl ?_
        refine x_cvI 37 [.int (1 : Int32)] [] C 0 dX7_write_34 v_X7_163 (fun u hu => m_X7_found hu) rfl sk_0 rfl (Nat.le_of_ble_eq_true rfl) (Nat.le_of_ble_eq_true rfl) rfl (fun h13 x14 => ?_)
        exact x_iret C E dX7_write_37 rfl
    · refine x_bipush 17 C dX7_write_15 cb_m2 rfl ?_
      exact x_iret C E dX7_write_17 rfl

def f_X7_count (h : Hp) (a1 : Int32) : Option Int32 :=
  if a1 = (0 : Int32) then (
    some (h.1 5 7))
  else (
    if a1 = (1 : Int32) then (
      bdr (f_X4_faultOfRoutine h 3) fun x1 =>
      if x1 = (-1 : Int32) then (
        some (h.1 3 1))
      else (
        some (0 : Int32)))
    else (
      if a1 = (2 : Int32) then (
        some ((h.1 1 1) + (h.1 3 1)))
      else (
        if a1 = (3 : Int32) then (
          some (h.1 5 8))
        else (
          if a1 = (4 : Int32) then (
            some (h.1 5 9))
          else (
            if a1 = (5 : Int32) then (
              some (h.1 5 10))
            else (
              if a1 = (6 : Int32) then (
                some (h.1 5 11))
              else (
                if a1 = (7 : Int32) then (
                  some (h.1 13 3))
                else (
                  if a1 = (8 : Int32) then (
                    some (h.1 0 15))
                  else (
                    some (-2 : Int32))))))))))
theorem dX7_count_0 : decode cX7_count 0 = .ok (.iload_n 1, 1) := by decide +kernel
theorem dX7_count_1 : decode cX7_count 1 = .ok (.tableswitch 143 0 8 #[51, 59, 82, 98, 106, 114, 122, 130, 138], 51) := by decide +kernel
theorem dX7_count_52 : decode cX7_count 52 = .ok (.aload_n 0, 1) := by decide +kernel
theorem dX7_count_53 : decode cX7_count 53 = .ok (.getfield 26, 3) := by decide +kernel
theorem dX7_count_56 : decode cX7_count 56 = .ok (.getfield 192, 3) := by decide +kernel
theorem dX7_count_59 : decode cX7_count 59 = .ok (.ireturn, 1) := by decide +kernel
theorem dX7_count_60 : decode cX7_count 60 = .ok (.aload_n 0, 1) := by decide +kernel
theorem dX7_count_61 : decode cX7_count 61 = .ok (.getfield 20, 3) := by decide +kernel
theorem dX7_count_64 : decode cX7_count 64 = .ok (.invokevirtual 110, 3) := by decide +kernel
theorem dX7_count_67 : decode cX7_count 67 = .ok (.iconst (-1), 1) := by decide +kernel
theorem dX7_count_68 : decode cX7_count 68 = .ok (.if_icmp .ne 13, 3) := by decide +kernel
theorem dX7_count_71 : decode cX7_count 71 = .ok (.aload_n 0, 1) := by decide +kernel
theorem dX7_count_72 : decode cX7_count 72 = .ok (.getfield 20, 3) := by decide +kernel
theorem dX7_count_75 : decode cX7_count 75 = .ok (.getfield 103, 3) := by decide +kernel
theorem dX7_count_78 : decode cX7_count 78 = .ok (.goto 4, 3) := by decide +kernel
theorem dX7_count_81 : decode cX7_count 81 = .ok (.iconst 0, 1) := by decide +kernel
theorem dX7_count_82 : decode cX7_count 82 = .ok (.ireturn, 1) := by decide +kernel
theorem dX7_count_83 : decode cX7_count 83 = .ok (.aload_n 0, 1) := by decide +kernel
theorem dX7_count_84 : decode cX7_count 84 = .ok (.getfield 16, 3) := by decide +kernel
theorem dX7_count_87 : decode cX7_count 87 = .ok (.getfield 103, 3) := by decide +kernel
theorem dX7_count_90 : decode cX7_count 90 = .ok (.aload_n 0, 1) := by decide +kernel
theorem dX7_count_91 : decode cX7_count 91 = .ok (.getfield 20, 3) := by decide +kernel
theorem dX7_count_94 : decode cX7_count 94 = .ok (.getfield 103, 3) := by decide +kernel
theorem dX7_count_97 : decode cX7_count 97 = .ok (.iadd, 1) := by decide +kernel
theorem dX7_count_98 : decode cX7_count 98 = .ok (.ireturn, 1) := by decide +kernel
theorem dX7_count_99 : decode cX7_count 99 = .ok (.aload_n 0, 1) := by decide +kernel
theorem dX7_count_100 : decode cX7_count 100 = .ok (.getfield 26, 3) := by decide +kernel
theorem dX7_count_103 : decode cX7_count 103 = .ok (.getfield 154, 3) := by decide +kernel
theorem dX7_count_106 : decode cX7_count 106 = .ok (.ireturn, 1) := by decide +kernel
theorem dX7_count_107 : decode cX7_count 107 = .ok (.aload_n 0, 1) := by decide +kernel
theorem dX7_count_108 : decode cX7_count 108 = .ok (.getfield 26, 3) := by decide +kernel
theorem dX7_count_111 : decode cX7_count 111 = .ok (.getfield 132, 3) := by decide +kernel
theorem dX7_count_114 : decode cX7_count 114 = .ok (.ireturn, 1) := by decide +kernel
theorem dX7_count_115 : decode cX7_count 115 = .ok (.aload_n 0, 1) := by decide +kernel
theorem dX7_count_116 : decode cX7_count 116 = .ok (.getfield 26, 3) := by decide +kernel
theorem dX7_count_119 : decode cX7_count 119 = .ok (.getfield 138, 3) := by decide +kernel
theorem dX7_count_122 : decode cX7_count 122 = .ok (.ireturn, 1) := by decide +kernel
theorem dX7_count_123 : decode cX7_count 123 = .ok (.aload_n 0, 1) := by decide +kernel
theorem dX7_count_124 : decode cX7_count 124 = .ok (.getfield 26, 3) := by decide +kernel
theorem dX7_count_127 : decode cX7_count 127 = .ok (.getfield 141, 3) := by decide +kernel
theorem dX7_count_130 : decode cX7_count 130 = .ok (.ireturn, 1) := by decide +kernel
theorem dX7_count_131 : decode cX7_count 131 = .ok (.aload_n 0, 1) := by decide +kernel
theorem dX7_count_132 : decode cX7_count 132 = .ok (.getfield 33, 3) := by decide +kernel
theorem dX7_count_135 : decode cX7_count 135 = .ok (.getfield 242, 3) := by decide +kernel
theorem dX7_count_138 : decode cX7_count 138 = .ok (.ireturn, 1) := by decide +kernel
theorem dX7_count_139 : decode cX7_count 139 = .ok (.aload_n 0, 1) := by decide +kernel
theorem dX7_count_140 : decode cX7_count 140 = .ok (.getfield 81, 3) := by decide +kernel
theorem dX7_count_143 : decode cX7_count 143 = .ok (.ireturn, 1) := by decide +kernel
theorem dX7_count_144 : decode cX7_count 144 = .ok (.bipush (-2), 2) := by decide +kernel
theorem dX7_count_146 : decode cX7_count 146 = .ok (.ireturn, 1) := by decide +kernel
set_option maxRecDepth 20000 in
theorem m_X7_count {h : Hp} {a1 : Int32}  {u : Int32} (hu : f_X7_count h a1 = some u) : Ct yX7_count cX7_count 2 (some .int) 2 [.ref 0, .int a1] h ((rI h) u) := by
  refine ct_of (rI h) hu (by decide) (Nat.le_of_ble_eq_true rfl) (fun κ hn C E => ?_)
  unfold f_X7_count
  show Xz κ _ 0 [(0, .ref 0), (1, .int a1)] [] h
  refine x_iload_n 1 C dX7_count_0 1 rfl rfl rfl ?_
  refine x_ite (fun e0 => ?_) (fun e0 => ?_)
  · refine x_tabI (off := 51) 52 C dX7_count_1 e0 (by decide) (by decide) (by decide) (by decide) ?_
    refine x_aload_n 53 C dX7_count_52 0 rfl rfl rfl ?_
    refine x_getR (c := 5) 56 C dX7_count_53 fl_X7_26 sk_0 rfl sr_0_2 rfl ?_
    refine x_getI 59 C dX7_count_56 fl_X7_192 sk_5 rfl rfl ?_
    exact x_iret C E dX7_count_59 rfl
  refine x_ite (fun e1 => ?_) (fun e1 => ?_)
  · refine x_tabI (off := 59) 60 C dX7_count_1 e1 (by decide) (by decide) (by decide) (by decide) ?_
    refine x_aload_n 61 C dX7_count_60 0 rfl rfl rfl ?_
    refine x_getR (c := 3) 64 C dX7_count_61 fl_X7_20 sk_0 rfl sr_0_1 rfl ?_
    refine x_cvi 67 [] [] C 1 dX7_count_64 v_X7_110 (fun u hu => m_X4_faultOfRoutine sk_3 hu) rfl sk_3 rfl (Nat.le_of_ble_eq_true rfl) (Nat.le_of_ble_eq_true rfl) rfl (fun x1 => ?_)
    refine x_iconst 68 C dX7_count_67 ci_m1 rfl ?_
    refine x_icmp_ne 71 81 C dX7_count_68 (by decide) rfl (fun _ => ?_) (fun _ => ?_)
    · refine x_iconst 82 C dX7_count_81 ci_0 rfl ?_
      exact x_iret C E dX7_count_82 rfl
    · refine x_aload_n 72 C dX7_count_71 0 rfl rfl rfl ?_
      refine x_getR (c := 3) 75 C dX7_count_72 fl_X7_20 sk_0 rfl sr_0_1 rfl ?_
      refine x_getI 78 C dX7_count_75 fl_X7_103 sk_3 rfl rfl ?_
      refine x_goto 82 C dX7_count_78 (by decide) ?_
      exact x_iret C E dX7_count_82 rfl
  refine x_ite (fun e2 => ?_) (fun e2 => ?_)
  · refine x_tabI (off := 82) 83 C dX7_count_1 e2 (by decide) (by decide) (by decide) (by decide) ?_
    refine x_aload_n 84 C dX7_count_83 0 rfl rfl rfl ?_
    refine x_getR (c := 1) 87 C dX7_count_84 fl_X7_16 sk_0 rfl sr_0_0 rfl ?_
    refine x_getI 90 C dX7_count_87 fl_X7_103 sk_1 rfl rfl ?_
    refine x_aload_n 91 C dX7_count_90 0 rfl rfl rfl ?_
    refine x_getR (c := 3) 94 C dX7_count_91 fl_X7_20 sk_0 rfl sr_0_1 rfl ?_
    refine x_getI 97 C dX7_count_94 fl_X7_103 sk_3 rfl rfl ?_
    refine x_iadd 98 C dX7_count_97 rfl ?_
    exact x_iret C E dX7_count_98 rfl
  refine x_ite (fun e3 => ?_) (fun e3 => ?_)
  · refine x_tabI (off := 98) 99 C dX7_count_1 e3 (by decide) (by decide) (by decide) (by decide) ?_
    refine x_aload_n 100 C dX7_count_99 0 rfl rfl rfl ?_
    refine x_getR (c := 5) 103 C dX7_count_100 fl_X7_26 sk_0 rfl sr_0_2 rfl ?_
    refine x_getI 106 C dX7_count_103 fl_X7_154 sk_5 rfl rfl ?_
    exact x_iret C E dX7_count_106 rfl
  refine x_ite (fun e4 => ?_) (fun e4 => ?_)
  · refine x_tabI (off := 106) 107 C dX7_count_1 e4 (by decide) (by decide) (by decide) (by decide) ?_
    refine x_aload_n 108 C dX7_count_107 0 rfl rfl rfl ?_
    refine x_getR (c := 5) 111 C dX7_count_108 fl_X7_26 sk_0 rfl sr_0_2 rfl ?_
    refine x_getI 114 C dX7_count_111 fl_X7_132 sk_5 rfl rfl ?_
    exact x_iret C E dX7_count_114 rfl
  refine x_ite (fun e5 => ?_) (fun e5 => ?_)
  · refine x_tabI (off := 114) 115 C dX7_count_1 e5 (by decide) (by decide) (by decide) (by decide) ?_
    refine x_aload_n 116 C dX7_count_115 0 rfl rfl rfl ?_
    refine x_getR (c := 5) 119 C dX7_count_116 fl_X7_26 sk_0 rfl sr_0_2 rfl ?_
    refine x_getI 122 C dX7_count_119 fl_X7_138 sk_5 rfl rfl ?_
    exact x_iret C E dX7_count_122 rfl
  refine x_ite (fun e6 => ?_) (fun e6 => ?_)
  · refine x_tabI (off := 122) 123 C dX7_count_1 e6 (by decide) (by decide) (by decide) (by decide) ?_
    refine x_aload_n 124 C dX7_count_123 0 rfl rfl rfl ?_
    refine x_getR (c := 5) 127 C dX7_count_124 fl_X7_26 sk_0 rfl sr_0_2 rfl ?_
    refine x_getI 130 C dX7_count_127 fl_X7_141 sk_5 rfl rfl ?_
    exact x_iret C E dX7_count_130 rfl
  refine x_ite (fun e7 => ?_) (fun e7 => ?_)
  · refine x_tabI (off := 130) 131 C dX7_count_1 e7 (by decide) (by decide) (by decide) (by decide) ?_
    refine x_aload_n 132 C dX7_count_131 0 rfl rfl rfl ?_
    refine x_getR (c := 13) 135 C dX7_count_132 fl_X7_33 sk_0 rfl sr_0_3 rfl ?_
    refine x_getI 138 C dX7_count_135 fl_X7_242 sk_13 rfl rfl ?_
    exact x_iret C E dX7_count_138 rfl
  refine x_ite (fun e8 => ?_) (fun e8 => ?_)
  · refine x_tabI (off := 138) 139 C dX7_count_1 e8 (by decide) (by decide) (by decide) (by decide) ?_
    refine x_aload_n 140 C dX7_count_139 0 rfl rfl rfl ?_
    refine x_getI 143 C dX7_count_140 fl_X7_81 sk_0 rfl rfl ?_
    exact x_iret C E dX7_count_143 rfl
  refine x_tabO 144 C dX7_count_1 (by have := lv_neT e0 (show (0 : Int32).toInt = 0 by decide); have := lv_neT e1 (show (1 : Int32).toInt = 1 by decide); have := lv_neT e2 (show (2 : Int32).toInt = 2 by decide); have := lv_neT e3 (show (3 : Int32).toInt = 3 by decide); have := lv_neT e4 (show (4 : Int32).toInt = 4 by decide); have := lv_neT e5 (show (5 : Int32).toInt = 5 by decide); have := lv_neT e6 (show (6 : Int32).toInt = 6 by decide); have := lv_neT e7 (show (7 : Int32).toInt = 7 by decide); have := lv_neT e8 (show (8 : Int32).toInt = 8 by decide); omega) (by decide) ?_
  refine x_bipush 146 C dX7_count_144 cb_m2 rfl ?_
  exact x_iret C E dX7_count_146 rfl

def f_X7_mixed (a1 : Int64) (a2 : Int64) : Option Int64 :=
  some (((31 : Int64) * a1) + a2)
theorem dX7_mixed_0 : decode cX7_mixed 0 = .ok (.ldc2_w 406, 3) := by decide +kernel
theorem dX7_mixed_3 : decode cX7_mixed 3 = .ok (.lload_n 0, 1) := by decide +kernel
theorem dX7_mixed_4 : decode cX7_mixed 4 = .ok (.lmul, 1) := by decide +kernel
theorem dX7_mixed_5 : decode cX7_mixed 5 = .ok (.lload_n 2, 1) := by decide +kernel
theorem dX7_mixed_6 : decode cX7_mixed 6 = .ok (.ladd, 1) := by decide +kernel
theorem dX7_mixed_7 : decode cX7_mixed 7 = .ok (.lreturn, 1) := by decide +kernel
set_option maxRecDepth 20000 in
theorem m_X7_mixed {h : Hp} {a1 : Int64} {a2 : Int64}  {u : Int64} (hu : f_X7_mixed a1 a2 = some u) : Ct yX7_mixed cX7_mixed 4 (some .long) 0 [.long a1, .long a2] h ((rL h) u) := by
  refine ct_of (rL h) hu (by decide) (Nat.le_of_ble_eq_true rfl) (fun κ hn C E => ?_)
  unfold f_X7_mixed
  show Xz κ _ 0 [(0, .long a1), (2, .long a2)] [] h
  refine x_ldc2 3 C dX7_mixed_0 kw_X7_406 rfl ?_
  refine x_lload_n 4 C dX7_mixed_3 0 rfl rfl rfl ?_
  refine x_lmul 5 C dX7_mixed_4 rfl ?_
  refine x_lload_n 6 C dX7_mixed_5 1 rfl rfl rfl ?_
  refine x_ladd 7 C dX7_mixed_6 rfl ?_
  exact x_lret C E dX7_mixed_7 rfl

def f_X7_mixedBest (h : Hp) (a1 : Int64) (a2 : Int32) : Option Int64 :=
  bdr (f_X7_mixed a1 (a2.toInt64)) fun l1 =>
  bdr (f_X7_mixed l1 ((h.1 0 14).toInt64)) fun l2 =>
  some l2
theorem dX7_mixedBest_0 : decode cX7_mixedBest 0 = .ok (.lload_n 1, 1) := by decide +kernel
theorem dX7_mixedBest_1 : decode cX7_mixedBest 1 = .ok (.iload_n 3, 1) := by decide +kernel
theorem dX7_mixedBest_2 : decode cX7_mixedBest 2 = .ok (.i2l, 1) := by decide +kernel
theorem dX7_mixedBest_3 : decode cX7_mixedBest 3 = .ok (.invokestatic 322, 3) := by decide +kernel
theorem dX7_mixedBest_6 : decode cX7_mixedBest 6 = .ok (.aload_n 0, 1) := by decide +kernel
theorem dX7_mixedBest_7 : decode cX7_mixedBest 7 = .ok (.getfield 78, 3) := by decide +kernel
theorem dX7_mixedBest_10 : decode cX7_mixedBest 10 = .ok (.i2l, 1) := by decide +kernel
theorem dX7_mixedBest_11 : decode cX7_mixedBest 11 = .ok (.invokestatic 322, 3) := by decide +kernel
theorem dX7_mixedBest_14 : decode cX7_mixedBest 14 = .ok (.lreturn, 1) := by decide +kernel
set_option maxRecDepth 20000 in
theorem m_X7_mixedBest {h : Hp} {a1 : Int64} {a2 : Int32}  {u : Int64} (hu : f_X7_mixedBest h a1 a2 = some u) : Ct yX7_mixedBest cX7_mixedBest 4 (some .long) 1 [.ref 0, .long a1, .int a2] h ((rL h) u) := by
  refine ct_of (rL h) hu (by decide) (Nat.le_of_ble_eq_true rfl) (fun κ hn C E => ?_)
  unfold f_X7_mixedBest
  show Xz κ _ 0 [(0, .ref 0), (1, .long a1), (3, .int a2)] [] h
  refine x_lload_n 1 C dX7_mixedBest_0 1 rfl rfl rfl ?_
  refine x_iload_n 2 C dX7_mixedBest_1 2 rfl rfl rfl ?_
  refine x_i2l 3 C dX7_mixedBest_2 rfl ?_
  refine x_csl 6 [.long a1, .long (a2.toInt64)] [] C 0 dX7_mixedBest_3 s_X7_322 (fun u hu => m_X7_mixed hu) rfl rfl (Nat.le_of_ble_eq_true rfl) (Nat.le_of_ble_eq_true rfl) rfl (fun l1 => ?_)
  refine x_aload_n 7 C dX7_mixedBest_6 0 rfl rfl rfl ?_
  refine x_getI 10 C dX7_mixedBest_7 fl_X7_78 sk_0 rfl rfl ?_
  refine x_i2l 11 C dX7_mixedBest_10 rfl ?_
  refine x_csl 14 [.long l1, .long ((h.1 0 14).toInt64)] [] C 0 dX7_mixedBest_11 s_X7_322 (fun u hu => m_X7_mixed hu) rfl rfl (Nat.le_of_ble_eq_true rfl) (Nat.le_of_ble_eq_true rfl) rfl (fun l2 => ?_)
  exact x_lret C E dX7_mixedBest_14 rfl

def f_X7_mixedPlans (h : Hp) (a1 : Int64) (a2 : Int32) : Option (Hp × Int64) :=
  bnd (f_X7_start h a2 (0 : Int32)) fun h1 x2 =>
  bdr (f_X7_mixedBest h1 a1 x2) fun l3 =>
  bnd (f_X7_hold h1 a2 (0 : Int32)) fun h4 x5 =>
  bdr (f_X7_mixedBest h4 l3 x5) fun l6 =>
  bnd (f_X7_was h4 a2 (0 : Int32)) fun h7 x8 =>
  bdr (f_X7_mixed l6 (x8.toInt64)) fun l9 =>
  bnd (f_X7_was h7 a2 (1 : Int32)) fun h10 x11 =>
  bdr (f_X7_mixed l9 (x11.toInt64)) fun l12 =>
  bnd (f_X7_ask h10 a2) fun h13 x14 =>
  bdr (f_X7_mixed l12 (x14.toInt64)) fun l15 =>
  bnd (f_X7_chance h13 (5 : Int32) a2 (0 : Int32)) fun h16 l17 =>
  bdr (f_X7_mixed l15 l17) fun l18 =>
  bnd (f_X7_chance h16 (5 : Int32) a2 (1 : Int32)) fun h19 l20 =>
  bdr (f_X7_mixed l18 l20) fun l21 =>
  some (h19, l21)
theorem dX7_mixedPlans_0 : decode cX7_mixedPlans 0 = .ok (.aload_n 0, 1) := by decide +kernel
theorem dX7_mixedPlans_1 : decode cX7_mixedPlans 1 = .ok (.lload_n 1, 1) := by decide +kernel
theorem dX7_mixedPlans_2 : decode cX7_mixedPlans 2 = .ok (.aload_n 0, 1) := by decide +kernel
theorem dX7_mixedPlans_3 : decode cX7_mixedPlans 3 = .ok (.iload_n 3, 1) := by decide +kernel
theorem dX7_mixedPlans_4 : decode cX7_mixedPlans 4 = .ok (.iconst 0, 1) := by decide +kernel
theorem dX7_mixedPlans_5 : decode cX7_mixedPlans 5 = .ok (.invokevirtual 366, 3) := by decide +kernel
theorem dX7_mixedPlans_8 : decode cX7_mixedPlans 8 = .ok (.invokevirtual 369, 3) := by decide +kernel
theorem dX7_mixedPlans_11 : decode cX7_mixedPlans 11 = .ok (.lstore 4, 2) := by decide +kernel
theorem dX7_mixedPlans_13 : decode cX7_mixedPlans 13 = .ok (.aload_n 0, 1) := by decide +kernel
theorem dX7_mixedPlans_14 : decode cX7_mixedPlans 14 = .ok (.lload 4, 2) := by decide +kernel
theorem dX7_mixedPlans_16 : decode cX7_mixedPlans 16 = .ok (.aload_n 0, 1) := by decide +kernel
theorem dX7_mixedPlans_17 : decode cX7_mixedPlans 17 = .ok (.iload_n 3, 1) := by decide +kernel
theorem dX7_mixedPlans_18 : decode cX7_mixedPlans 18 = .ok (.iconst 0, 1) := by decide +kernel
theorem dX7_mixedPlans_19 : decode cX7_mixedPlans 19 = .ok (.invokevirtual 372, 3) := by decide +kernel
theorem dX7_mixedPlans_22 : decode cX7_mixedPlans 22 = .ok (.invokevirtual 369, 3) := by decide +kernel
theorem dX7_mixedPlans_25 : decode cX7_mixedPlans 25 = .ok (.lstore 4, 2) := by decide +kernel
theorem dX7_mixedPlans_27 : decode cX7_mixedPlans 27 = .ok (.lload 4, 2) := by decide +kernel
theorem dX7_mixedPlans_29 : decode cX7_mixedPlans 29 = .ok (.aload_n 0, 1) := by decide +kernel
theorem dX7_mixedPlans_30 : decode cX7_mixedPlans 30 = .ok (.iload_n 3, 1) := by decide +kernel
theorem dX7_mixedPlans_31 : decode cX7_mixedPlans 31 = .ok (.iconst 0, 1) := by decide +kernel
theorem dX7_mixedPlans_32 : decode cX7_mixedPlans 32 = .ok (.invokevirtual 375, 3) := by decide +kernel
theorem dX7_mixedPlans_35 : decode cX7_mixedPlans 35 = .ok (.i2l, 1) := by decide +kernel
theorem dX7_mixedPlans_36 : decode cX7_mixedPlans 36 = .ok (.invokestatic 322, 3) := by decide +kernel
theorem dX7_mixedPlans_39 : decode cX7_mixedPlans 39 = .ok (.aload_n 0, 1) := by decide +kernel
theorem dX7_mixedPlans_40 : decode cX7_mixedPlans 40 = .ok (.iload_n 3, 1) := by decide +kernel
theorem dX7_mixedPlans_41 : decode cX7_mixedPlans 41 = .ok (.iconst 1, 1) := by decide +kernel
theorem dX7_mixedPlans_42 : decode cX7_mixedPlans 42 = .ok (.invokevirtual 375, 3) := by decide +kernel
theorem dX7_mixedPlans_45 : decode cX7_mixedPlans 45 = .ok (.i2l, 1) := by decide +kernel
theorem dX7_mixedPlans_46 : decode cX7_mixedPlans 46 = .ok (.invokestatic 322, 3) := by decide +kernel
theorem dX7_mixedPlans_49 : decode cX7_mixedPlans 49 = .ok (.lstore 4, 2) := by decide +kernel
theorem dX7_mixedPlans_51 : decode cX7_mixedPlans 51 = .ok (.lload 4, 2) := by decide +kernel
theorem dX7_mixedPlans_53 : decode cX7_mixedPlans 53 = .ok (.aload_n 0, 1) := by decide +kernel
theorem dX7_mixedPlans_54 : decode cX7_mixedPlans 54 = .ok (.iload_n 3, 1) := by decide +kernel
theorem dX7_mixedPlans_55 : decode cX7_mixedPlans 55 = .ok (.invokevirtual 378, 3) := by decide +kernel
theorem dX7_mixedPlans_58 : decode cX7_mixedPlans 58 = .ok (.i2l, 1) := by decide +kernel
theorem dX7_mixedPlans_59 : decode cX7_mixedPlans 59 = .ok (.invokestatic 322, 3) := by decide +kernel
theorem dX7_mixedPlans_62 : decode cX7_mixedPlans 62 = .ok (.lstore 4, 2) := by decide +kernel
theorem dX7_mixedPlans_64 : decode cX7_mixedPlans 64 = .ok (.lload 4, 2) := by decide +kernel
theorem dX7_mixedPlans_66 : decode cX7_mixedPlans 66 = .ok (.aload_n 0, 1) := by decide +kernel
theorem dX7_mixedPlans_67 : decode cX7_mixedPlans 67 = .ok (.iconst 5, 1) := by decide +kernel
theorem dX7_mixedPlans_68 : decode cX7_mixedPlans 68 = .ok (.iload_n 3, 1) := by decide +kernel
theorem dX7_mixedPlans_69 : decode cX7_mixedPlans 69 = .ok (.iconst 0, 1) := by decide +kernel
theorem dX7_mixedPlans_70 : decode cX7_mixedPlans 70 = .ok (.invokevirtual 381, 3) := by decide +kernel
theorem dX7_mixedPlans_73 : decode cX7_mixedPlans 73 = .ok (.invokestatic 322, 3) := by decide +kernel
theorem dX7_mixedPlans_76 : decode cX7_mixedPlans 76 = .ok (.aload_n 0, 1) := by decide +kernel
theorem dX7_mixedPlans_77 : decode cX7_mixedPlans 77 = .ok (.iconst 5, 1) := by decide +kernel
theorem dX7_mixedPlans_78 : decode cX7_mixedPlans 78 = .ok (.iload_n 3, 1) := by decide +kernel
theorem dX7_mixedPlans_79 : decode cX7_mixedPlans 79 = .ok (.iconst 1, 1) := by decide +kernel
theorem dX7_mixedPlans_80 : decode cX7_mixedPlans 80 = .ok (.invokevirtual 381, 3) := by decide +kernel
theorem dX7_mixedPlans_83 : decode cX7_mixedPlans 83 = .ok (.invokestatic 322, 3) := by decide +kernel
theorem dX7_mixedPlans_86 : decode cX7_mixedPlans 86 = .ok (.lreturn, 1) := by decide +kernel
set_option maxRecDepth 20000 in
theorem m_X7_mixedPlans {h : Hp} {a1 : Int64} {a2 : Int32}  {u : (Hp × Int64)} (hu : f_X7_mixedPlans h a1 a2 = some u) : Ct yX7_mixedPlans cX7_mixedPlans 6 (some .long) 8 [.ref 0, .long a1, .int a2] h (eL u) := by
  refine ct_of eL hu (by decide) (Nat.le_of_ble_eq_true rfl) (fun κ hn C E => ?_)
  have n5 : 5 < kn κ := by rw [hn]; decide
  unfold f_X7_mixedPlans
  show Xz κ _ 0 [(0, .ref 0), (1, .long a1), (3, .int a2)] [] h
  refine x_aload_n 1 C dX7_mixedPlans_0 0 rfl rfl rfl ?_
  refine x_lload_n 2 C dX7_mixedPlans_1 1 rfl rfl rfl ?_
  refine x_aload_n 3 C dX7_mixedPlans_2 0 rfl rfl rfl ?_
  refine x_iload_n 4 C dX7_mixedPlans_3 2 rfl rfl rfl ?_
  refine x_iconst 5 C dX7_mixedPlans_4 ci_0 rfl ?_
  refine x_cvI 8 [.int a2, .int (0 : Int32)] [.long a1, .ref 0] C 7 dX7_mixedPlans_5 v_X7_366 (fun u hu => m_X7_start hu) rfl sk_0 rfl (Nat.le_of_ble_eq_true rfl) (Nat.le_of_ble_eq_true rfl) rfl (fun h1 x2 => ?_)
  refine x_cvl 11 [.long a1, .int x2] [] C 1 dX7_mixedPlans_8 v_X7_369 (fun u hu => m_X7_mixedBest hu) rfl sk_0 rfl (Nat.le_of_ble_eq_true rfl) (Nat.le_of_ble_eq_true rfl) rfl (fun l3 => ?_)
  refine x_lstore 13 [(4, .long l3), (0, .ref 0), (1, .long a1), (3, .int a2)] C dX7_mixedPlans_11 n5 rfl rfl ?_
  refine x_aload_n 14 C dX7_mixedPlans_13 1 rfl rfl rfl ?_
  refine x_lload 16 C dX7_mixedPlans_14 0 rfl rfl ?_
  refine x_aload_n 17 C dX7_mixedPlans_16 1 rfl rfl rfl ?_
  refine x_iload_n 18 C dX7_mixedPlans_17 3 rfl rfl rfl ?_
  refine x_iconst 19 C dX7_mixedPlans_18 ci_0 rfl ?_
  refine x_cvI 22 [.int a2, .int (0 : Int32)] [.long l3, .ref 0] C 7 dX7_mixedPlans_19 v_X7_372 (fun u hu => m_X7_hold hu) rfl sk_0 rfl (Nat.le_of_ble_eq_true rfl) (Nat.le_of_ble_eq_true rfl) rfl (fun h4 x5 => ?_)
  refine x_cvl 25 [.long l3, .int x5] [] C 1 dX7_mixedPlans_22 v_X7_369 (fun u hu => m_X7_mixedBest hu) rfl sk_0 rfl (Nat.le_of_ble_eq_true rfl) (Nat.le_of_ble_eq_true rfl) rfl (fun l6 => ?_)
  refine x_lstore 27 [(4, .long l6), (0, .ref 0), (1, .long a1), (3, .int a2)] C dX7_mixedPlans_25 n5 rfl rfl ?_
  refine x_lload 29 C dX7_mixedPlans_27 0 rfl rfl ?_
  refine x_aload_n 30 C dX7_mixedPlans_29 1 rfl rfl rfl ?_
  refine x_iload_n 31 C dX7_mixedPlans_30 3 rfl rfl rfl ?_
  refine x_iconst 32 C dX7_mixedPlans_31 ci_0 rfl ?_
  refine x_cvI 35 [.int a2, .int (0 : Int32)] [.long l6] C 7 dX7_mixedPlans_32 v_X7_375 (fun u hu => m_X7_was hu) rfl sk_0 rfl (Nat.le_of_ble_eq_true rfl) (Nat.le_of_ble_eq_true rfl) rfl (fun h7 x8 => ?_)
  refine x_i2l 36 C dX7_mixedPlans_35 rfl ?_
  refine x_csl 39 [.long l6, .long (x8.toInt64)] [] C 0 dX7_mixedPlans_36 s_X7_322 (fun u hu => m_X7_mixed hu) rfl rfl (Nat.le_of_ble_eq_true rfl) (Nat.le_of_ble_eq_true rfl) rfl (fun l9 => ?_)
  refine x_aload_n 40 C dX7_mixedPlans_39 1 rfl rfl rfl ?_
  refine x_iload_n 41 C dX7_mixedPlans_40 3 rfl rfl rfl ?_
  refine x_iconst 42 C dX7_mixedPlans_41 ci_1 rfl ?_
  refine x_cvI 45 [.int a2, .int (1 : Int32)] [.long l9] C 7 dX7_mixedPlans_42 v_X7_375 (fun u hu => m_X7_was hu) rfl sk_0 rfl (Nat.le_of_ble_eq_true rfl) (Nat.le_of_ble_eq_true rfl) rfl (fun h10 x11 => ?_)
  refine x_i2l 46 C dX7_mixedPlans_45 rfl ?_
  refine x_csl 49 [.long l9, .long (x11.toInt64)] [] C 0 dX7_mixedPlans_46 s_X7_322 (fun u hu => m_X7_mixed hu) rfl rfl (Nat.le_of_ble_eq_true rfl) (Nat.le_of_ble_eq_true rfl) rfl (fun l12 => ?_)
  refine x_lstore 51 [(4, .long l12), (0, .ref 0), (1, .long a1), (3, .int a2)] C dX7_mixedPlans_49 n5 rfl rfl ?_
  refine x_lload 53 C dX7_mixedPlans_51 0 rfl rfl ?_
  refine x_aload_n 54 C dX7_mixedPlans_53 1 rfl rfl rfl ?_
  refine x_iload_n 55 C dX7_mixedPlans_54 3 rfl rfl rfl ?_
  refine x_cvI 58 [.int a2] [.long l12] C 7 dX7_mixedPlans_55 v_X7_378 (fun u hu => m_X7_ask hu) rfl sk_0 rfl (Nat.le_of_ble_eq_true rfl) (Nat.le_of_ble_eq_true rfl) rfl (fun h13 x14 => ?_)
  refine x_i2l 59 C dX7_mixedPlans_58 rfl ?_
  refine x_csl 62 [.long l12, .long (x14.toInt64)] [] C 0 dX7_mixedPlans_59 s_X7_322 (fun u hu => m_X7_mixed hu) rfl rfl (Nat.le_of_ble_eq_true rfl) (Nat.le_of_ble_eq_true rfl) rfl (fun l15 => ?_)
  refine x_lstore 64 [(4, .long l15), (0, .ref 0), (1, .long a1), (3, .int a2)] C dX7_mixedPlans_62 n5 rfl rfl ?_
  refine x_lload 66 C dX7_mixedPlans_64 0 rfl rfl ?_
  refine x_aload_n 67 C dX7_mixedPlans_66 1 rfl rfl rfl ?_
  refine x_iconst 68 C dX7_mixedPlans_67 ci_5 rfl ?_
  refine x_iload_n 69 C dX7_mixedPlans_68 3 rfl rfl rfl ?_
  refine x_iconst 70 C dX7_mixedPlans_69 ci_0 rfl ?_
  refine x_cvL 73 [.int (5 : Int32), .int a2, .int (0 : Int32)] [.long l15] C 7 dX7_mixedPlans_70 v_X7_381 (fun u hu => m_X7_chance hu) rfl sk_0 rfl (Nat.le_of_ble_eq_true rfl) (Nat.le_of_ble_eq_true rfl) rfl (fun h16 l17 => ?_)
  refine x_csl 76 [.long l15, .long l17] [] C 0 dX7_mixedPlans_73 s_X7_322 (fun u hu => m_X7_mixed hu) rfl rfl (Nat.le_of_ble_eq_true rfl) (Nat.le_of_ble_eq_true rfl) rfl (fun l18 => ?_)
  refine x_aload_n 77 C dX7_mixedPlans_76 1 rfl rfl rfl ?_
  refine x_iconst 78 C dX7_mixedPlans_77 ci_5 rfl ?_
  refine x_iload_n 79 C dX7_mixedPlans_78 3 rfl rfl rfl ?_
  refine x_iconst 80 C dX7_mixedPlans_79 ci_1 rfl ?_
  refine x_cvL 83 [.int (5 : Int32), .int a2, .int (1 : Int32)] [.long l18] C 7 dX7_mixedPlans_80 v_X7_381 (fun u hu => m_X7_chance hu) rfl sk_0 rfl (Nat.le_of_ble_eq_true rfl) (Nat.le_of_ble_eq_true rfl) rfl (fun h19 l20 => ?_)
  refine x_csl 86 [.long l18, .long l20] [] C 0 dX7_mixedPlans_83 s_X7_322 (fun u hu => m_X7_mixed hu) rfl rfl (Nat.le_of_ble_eq_true rfl) (Nat.le_of_ble_eq_true rfl) rfl (fun l21 => ?_)
  exact x_lret C E dX7_mixedPlans_86 rfl

def f_X7_mixedRest (h : Hp) (a1 : Int64) : Option (Hp × Int64) :=
  lt2 (fun (h1 : Hp) (l2 : Int64) =>
    bnd (f_X7_who h1 (0 : Int32)) fun h3 x4 =>
    bdr (f_X7_mixed l2 (x4.toInt64)) fun l5 =>
    bnd (f_X7_who h3 (1 : Int32)) fun h6 x7 =>
    bdr (f_X7_mixed l5 (x7.toInt64)) fun l8 =>
    bnd (f_X7_bare h6) fun h9 x10 =>
    bdr (f_X7_mixed l8 (x10.toInt64)) fun l11 =>
    bnd (f_X7_act h9 (2 : Int32) (0 : Int32)) fun h12 x13 =>
    bdr (f_X7_mixedBest h12 l11 x13) fun l14 =>
    bnd (f_X7_act h12 (6 : Int32) (0 : Int32)) fun h15 x16 =>
    bdr (f_X7_mixedBest h15 l14 x16) fun l17 =>
    bnd (f_X7_spare h15 (-1 : Int32)) fun h18 x19 =>
    bdr (f_X7_mixed l17 (x19.toInt64)) fun l20 =>
    bnd (f_X7_spare h18 (0 : Int32)) fun h21 x22 =>
    bdr (f_X7_mixed l20 (x22.toInt64)) fun l23 =>
    bnd (f_X7_never h21) fun h24 x25 =>
    bdr (f_X7_mixed l23 (x25.toInt64)) fun l26 =>
    bnd (f_X7_shows h24 (7 : Int32) (18 : Int32) (0 : Int32)) fun h27 x28 =>
    bdr (f_X7_mixed l26 (x28.toInt64)) fun l29 =>
    bnd (f_X7_shows h27 (7 : Int32) (18 : Int32) (1 : Int32)) fun h30 x31 =>
    bdr (f_X7_mixed l29 (x31.toInt64)) fun l32 =>
    some (h30, l32)) fun k1 =>
  fx3 FU (fun s2 (h33 : Hp) (l34 : Int64) (x35 : Int32) =>
    if (2 : Int32) < x35 then (
      k1 h33 l34)
    else (
      bnd (f_X7_sum h33 x35) fun h36 x37 =>
      bdr (f_X7_mixed l34 (x37.toInt64)) fun l38 =>
      nm (x35 + (1 : Int32)) fun x39 =>
      s2 h36 l38 x39)) h a1 (0 : Int32)
theorem dX7_mixedRest_0 : decode cX7_mixedRest 0 = .ok (.lload_n 1, 1) := by decide +kernel
theorem dX7_mixedRest_1 : decode cX7_mixedRest 1 = .ok (.lstore_n 3, 1) := by decide +kernel
theorem dX7_mixedRest_2 : decode cX7_mixedRest 2 = .ok (.iconst 0, 1) := by decide +kernel
theorem dX7_mixedRest_3 : decode cX7_mixedRest 3 = .ok (.istore 5, 2) := by decide +kernel
theorem dX7_mixedRest_5 : decode cX7_mixedRest 5 = .ok (.iload 5, 2) := by decide +kernel
theorem dX7_mixedRest_7 : decode cX7_mixedRest 7 = .ok (.iconst 2, 1) := by decide +kernel
theorem dX7_mixedRest_8 : decode cX7_mixedRest 8 = .ok (.if_icmp .gt 21, 3) := by decide +kernel
theorem dX7_mixedRest_11 : decode cX7_mixedRest 11 = .ok (.lload_n 3, 1) := by decide +kernel
theorem dX7_mixedRest_12 : decode cX7_mixedRest 12 = .ok (.aload_n 0, 1) := by decide +kernel
theorem dX7_mixedRest_13 : decode cX7_mixedRest 13 = .ok (.iload 5, 2) := by decide +kernel
theorem dX7_mixedRest_15 : decode cX7_mixedRest 15 = .ok (.invokevirtual 385, 3) := by decide +kernel
theorem dX7_mixedRest_18 : decode cX7_mixedRest 18 = .ok (.i2l, 1) := by decide +kernel
theorem dX7_mixedRest_19 : decode cX7_mixedRest 19 = .ok (.invokestatic 322, 3) := by decide +kernel
theorem dX7_mixedRest_22 : decode cX7_mixedRest 22 = .ok (.lstore_n 3, 1) := by decide +kernel
theorem dX7_mixedRest_23 : decode cX7_mixedRest 23 = .ok (.iinc 5 1, 3) := by decide +kernel
theorem dX7_mixedRest_26 : decode cX7_mixedRest 26 = .ok (.goto (-21), 3) := by decide +kernel
theorem dX7_mixedRest_29 : decode cX7_mixedRest 29 = .ok (.lload_n 3, 1) := by decide +kernel
theorem dX7_mixedRest_30 : decode cX7_mixedRest 30 = .ok (.aload_n 0, 1) := by decide +kernel
theorem dX7_mixedRest_31 : decode cX7_mixedRest 31 = .ok (.iconst 0, 1) := by decide +kernel
theorem dX7_mixedRest_32 : decode cX7_mixedRest 32 = .ok (.invokevirtual 388, 3) := by decide +kernel
theorem dX7_mixedRest_35 : decode cX7_mixedRest 35 = .ok (.i2l, 1) := by decide +kernel
theorem dX7_mixedRest_36 : decode cX7_mixedRest 36 = .ok (.invokestatic 322, 3) := by decide +kernel
theorem dX7_mixedRest_39 : decode cX7_mixedRest 39 = .ok (.aload_n 0, 1) := by decide +kernel
theorem dX7_mixedRest_40 : decode cX7_mixedRest 40 = .ok (.iconst 1, 1) := by decide +kernel
theorem dX7_mixedRest_41 : decode cX7_mixedRest 41 = .ok (.invokevirtual 388, 3) := by decide +kernel
theorem dX7_mixedRest_44 : decode cX7_mixedRest 44 = .ok (.i2l, 1) := by decide +kernel
theorem dX7_mixedRest_45 : decode cX7_mixedRest 45 = .ok (.invokestatic 322, 3) := by decide +kernel
theorem dX7_mixedRest_48 : decode cX7_mixedRest 48 = .ok (.aload_n 0, 1) := by decide +kernel
theorem dX7_mixedRest_49 : decode cX7_mixedRest 49 = .ok (.invokevirtual 391, 3) := by decide +kernel
theorem dX7_mixedRest_52 : decode cX7_mixedRest 52 = .ok (.i2l, 1) := by decide +kernel
theorem dX7_mixedRest_53 : decode cX7_mixedRest 53 = .ok (.invokestatic 322, 3) := by decide +kernel
theorem dX7_mixedRest_56 : decode cX7_mixedRest 56 = .ok (.lstore_n 3, 1) := by decide +kernel
theorem dX7_mixedRest_57 : decode cX7_mixedRest 57 = .ok (.aload_n 0, 1) := by decide +kernel
theorem dX7_mixedRest_58 : decode cX7_mixedRest 58 = .ok (.lload_n 3, 1) := by decide +kernel
theorem dX7_mixedRest_59 : decode cX7_mixedRest 59 = .ok (.aload_n 0, 1) := by decide +kernel
theorem dX7_mixedRest_60 : decode cX7_mixedRest 60 = .ok (.iconst 2, 1) := by decide +kernel
theorem dX7_mixedRest_61 : decode cX7_mixedRest 61 = .ok (.iconst 0, 1) := by decide +kernel
theorem dX7_mixedRest_62 : decode cX7_mixedRest 62 = .ok (.invokevirtual 394, 3) := by decide +kernel
theorem dX7_mixedRest_65 : decode cX7_mixedRest 65 = .ok (.invokevirtual 369, 3) := by decide +kernel
theorem dX7_mixedRest_68 : decode cX7_mixedRest 68 = .ok (.lstore_n 3, 1) := by decide +kernel
theorem dX7_mixedRest_69 : decode cX7_mixedRest 69 = .ok (.aload_n 0, 1) := by decide +kernel
theorem dX7_mixedRest_70 : decode cX7_mixedRest 70 = .ok (.lload_n 3, 1) := by decide +kernel
theorem dX7_mixedRest_71 : decode cX7_mixedRest 71 = .ok (.aload_n 0, 1) := by decide +kernel
theorem dX7_mixedRest_72 : decode cX7_mixedRest 72 = .ok (.bipush 6, 2) := by decide +kernel
theorem dX7_mixedRest_74 : decode cX7_mixedRest 74 = .ok (.iconst 0, 1) := by decide +kernel
theorem dX7_mixedRest_75 : decode cX7_mixedRest 75 = .ok (.invokevirtual 394, 3) := by decide +kernel
theorem dX7_mixedRest_78 : decode cX7_mixedRest 78 = .ok (.invokevirtual 369, 3) := by decide +kernel
theorem dX7_mixedRest_81 : decode cX7_mixedRest 81 = .ok (.lstore_n 3, 1) := by decide +kernel
theorem dX7_mixedRest_82 : decode cX7_mixedRest 82 = .ok (.lload_n 3, 1) := by decide +kernel
theorem dX7_mixedRest_83 : decode cX7_mixedRest 83 = .ok (.aload_n 0, 1) := by decide +kernel
theorem dX7_mixedRest_84 : decode cX7_mixedRest 84 = .ok (.iconst (-1), 1) := by decide +kernel
theorem dX7_mixedRest_85 : decode cX7_mixedRest 85 = .ok (.invokevirtual 397, 3) := by decide +kernel
theorem dX7_mixedRest_88 : decode cX7_mixedRest 88 = .ok (.i2l, 1) := by decide +kernel
theorem dX7_mixedRest_89 : decode cX7_mixedRest 89 = .ok (.invokestatic 322, 3) := by decide +kernel
theorem dX7_mixedRest_92 : decode cX7_mixedRest 92 = .ok (.aload_n 0, 1) := by decide +kernel
theorem dX7_mixedRest_93 : decode cX7_mixedRest 93 = .ok (.iconst 0, 1) := by decide +kernel
theorem dX7_mixedRest_94 : decode cX7_mixedRest 94 = .ok (.invokevirtual 397, 3) := by decide +kernel
theorem dX7_mixedRest_97 : decode cX7_mixedRest 97 = .ok (.i2l, 1) := by decide +kernel
theorem dX7_mixedRest_98 : decode cX7_mixedRest 98 = .ok (.invokestatic 322, 3) := by decide +kernel
theorem dX7_mixedRest_101 : decode cX7_mixedRest 101 = .ok (.lstore_n 3, 1) := by decide +kernel
theorem dX7_mixedRest_102 : decode cX7_mixedRest 102 = .ok (.lload_n 3, 1) := by decide +kernel
theorem dX7_mixedRest_103 : decode cX7_mixedRest 103 = .ok (.aload_n 0, 1) := by decide +kernel
theorem dX7_mixedRest_104 : decode cX7_mixedRest 104 = .ok (.invokevirtual 400, 3) := by decide +kernel
theorem dX7_mixedRest_107 : decode cX7_mixedRest 107 = .ok (.i2l, 1) := by decide +kernel
theorem dX7_mixedRest_108 : decode cX7_mixedRest 108 = .ok (.invokestatic 322, 3) := by decide +kernel
theorem dX7_mixedRest_111 : decode cX7_mixedRest 111 = .ok (.lstore_n 3, 1) := by decide +kernel
theorem dX7_mixedRest_112 : decode cX7_mixedRest 112 = .ok (.lload_n 3, 1) := by decide +kernel
theorem dX7_mixedRest_113 : decode cX7_mixedRest 113 = .ok (.aload_n 0, 1) := by decide +kernel
theorem dX7_mixedRest_114 : decode cX7_mixedRest 114 = .ok (.bipush 7, 2) := by decide +kernel
theorem dX7_mixedRest_116 : decode cX7_mixedRest 116 = .ok (.bipush 18, 2) := by decide +kernel
theorem dX7_mixedRest_118 : decode cX7_mixedRest 118 = .ok (.iconst 0, 1) := by decide +kernel
theorem dX7_mixedRest_119 : decode cX7_mixedRest 119 = .ok (.invokevirtual 403, 3) := by decide +kernel
theorem dX7_mixedRest_122 : decode cX7_mixedRest 122 = .ok (.i2l, 1) := by decide +kernel
theorem dX7_mixedRest_123 : decode cX7_mixedRest 123 = .ok (.invokestatic 322, 3) := by decide +kernel
theorem dX7_mixedRest_126 : decode cX7_mixedRest 126 = .ok (.aload_n 0, 1) := by decide +kernel
theorem dX7_mixedRest_127 : decode cX7_mixedRest 127 = .ok (.bipush 7, 2) := by decide +kernel
theorem dX7_mixedRest_129 : decode cX7_mixedRest 129 = .ok (.bipush 18, 2) := by decide +kernel
theorem dX7_mixedRest_131 : decode cX7_mixedRest 131 = .ok (.iconst 1, 1) := by decide +kernel
theorem dX7_mixedRest_132 : decode cX7_mixedRest 132 = .ok (.invokevirtual 403, 3) := by decide +kernel
theorem dX7_mixedRest_135 : decode cX7_mixedRest 135 = .ok (.i2l, 1) := by decide +kernel
theorem dX7_mixedRest_136 : decode cX7_mixedRest 136 = .ok (.invokestatic 322, 3) := by decide +kernel
theorem dX7_mixedRest_139 : decode cX7_mixedRest 139 = .ok (.lreturn, 1) := by decide +kernel
set_option maxRecDepth 20000 in
theorem m_X7_mixedRest {h : Hp} {a1 : Int64}  {u : (Hp × Int64)} (hu : f_X7_mixedRest h a1 = some u) : Ct yX7_mixedRest cX7_mixedRest 6 (some .long) 9 [.ref 0, .long a1] h (eL u) := by
  refine ct_of eL hu (by decide) (Nat.le_of_ble_eq_true rfl) (fun κ hn C E => ?_)
  have n4 : 4 < kn κ := by rw [hn]; decide
  have n5 : 5 < kn κ := by rw [hn]; decide
  unfold f_X7_mixedRest
  show Xz κ _ 0 [(0, .ref 0), (1, .long a1)] [] h
  refine x_lload_n 1 C dX7_mixedRest_0 1 rfl rfl rfl ?_
  refine x_lstore_n 2 [(3, .long a1), (0, .ref 0), (1, .long a1)] C dX7_mixedRest_1 n4 rfl rfl rfl ?_
  refine x_iconst 3 C dX7_mixedRest_2 ci_0 rfl ?_
  refine x_istore 5 [(5, .int (0 : Int32)), (3, .long a1), (0, .ref 0), (1, .long a1)] C dX7_mixedRest_3 n5 rfl rfl ?_
  refine x_lt2 (q := 29) (ls := fun h1 l2 => [(0, .ref 0), (3, .long l2)]) (st := fun h1 l2 => []) (hh := fun h1 l2 => h1) (fun h1 l2 => ?_) (fun k1 J1 => ?_)
  · refine x_lload_n 30 C dX7_mixedRest_29 1 rfl rfl rfl ?_
    refine x_aload_n 31 C dX7_mixedRest_30 0 rfl rfl rfl ?_
    refine x_iconst 32 C dX7_mixedRest_31 ci_0 rfl ?_
    refine x_cvI 35 [.int (0 : Int32)] [.long l2] C 8 dX7_mixedRest_32 v_X7_388 (fun u hu => m_X7_who hu) rfl sk_0 rfl (Nat.le_of_ble_eq_true rfl) (Nat.le_of_ble_eq_true rfl) rfl (fun h3 x4 => ?_)
    refine x_i2l 36 C dX7_mixedRest_35 rfl ?_
    refine x_csl 39 [.long l2, .long (x4.toInt64)] [] C 0 dX7_mixedRest_36 s_X7_322 (fun u hu => m_X7_mixed hu) rfl rfl (Nat.le_of_ble_eq_true rfl) (Nat.le_of_ble_eq_true rfl) rfl (fun l5 => ?_)
    refine x_aload_n 40 C dX7_mixedRest_39 0 rfl rfl rfl ?_
    refine x_iconst 41 C dX7_mixedRest_40 ci_1 rfl ?_
    refine x_cvI 44 [.int (1 : Int32)] [.long l5] C 8 dX7_mixedRest_41 v_X7_388 (fun u hu => m_X7_who hu) rfl sk_0 rfl (Nat.le_of_ble_eq_true rfl) (Nat.le_of_ble_eq_true rfl) rfl (fun h6 x7 => ?_)
    refine x_i2l 45 C dX7_mixedRest_44 rfl ?_
    refine x_csl 48 [.long l5, .long (x7.toInt64)] [] C 0 dX7_mixedRest_45 s_X7_322 (fun u hu => m_X7_mixed hu) rfl rfl (Nat.le_of_ble_eq_true rfl) (Nat.le_of_ble_eq_true rfl) rfl (fun l8 => ?_)
    refine x_aload_n 49 C dX7_mixedRest_48 0 rfl rfl rfl ?_
    refine x_cvI 52 [] [.long l8] C 7 dX7_mixedRest_49 v_X7_391 (fun u hu => m_X7_bare hu) rfl sk_0 rfl (Nat.le_of_ble_eq_true rfl) (Nat.le_of_ble_eq_true rfl) rfl (fun h9 x10 => ?_)
    refine x_i2l 53 C dX7_mixedRest_52 rfl ?_
    refine x_csl 56 [.long l8, .long (x10.toInt64)] [] C 0 dX7_mixedRest_53 s_X7_322 (fun u hu => m_X7_mixed hu) rfl rfl (Nat.le_of_ble_eq_true rfl) (Nat.le_of_ble_eq_true rfl) rfl (fun l11 => ?_)
    refine x_lstore_n 57 [(3, .long l11), (0, .ref 0)] C dX7_mixedRest_56 n4 rfl rfl rfl ?_
    refine x_aload_n 58 C dX7_mixedRest_57 1 rfl rfl rfl ?_
    refine x_lload_n 59 C dX7_mixedRest_58 0 rfl rfl rfl ?_
    refine x_aload_n 60 C dX7_mixedRest_59 1 rfl rfl rfl ?_
    refine x_iconst 61 C dX7_mixedRest_60 ci_2 rfl ?_
    refine x_iconst 62 C dX7_mixedRest_61 ci_0 rfl ?_
    refine x_cvI 65 [.int (2 : Int32), .int (0 : Int32)] [.long l11, .ref 0] C 7 dX7_mixedRest_62 v_X7_394 (fun u hu => m_X7_act hu) rfl sk_0 rfl (Nat.le_of_ble_eq_true rfl) (Nat.le_of_ble_eq_true rfl) rfl (fun h12 x13 => ?_)
    refine x_cvl 68 [.long l11, .int x13] [] C 1 dX7_mixedRest_65 v_X7_369 (fun u hu => m_X7_mixedBest hu) rfl sk_0 rfl (Nat.le_of_ble_eq_true rfl) (Nat.le_of_ble_eq_true rfl) rfl (fun l14 => ?_)
    refine x_lstore_n 69 [(3, .long l14), (0, .ref 0)] C dX7_mixedRest_68 n4 rfl rfl rfl ?_
    refine x_aload_n 70 C dX7_mixedRest_69 1 rfl rfl rfl ?_
    refine x_lload_n 71 C dX7_mixedRest_70 0 rfl rfl rfl ?_
    refine x_aload_n 72 C dX7_mixedRest_71 1 rfl rfl rfl ?_
    refine x_bipush 74 C dX7_mixedRest_72 cb_6 rfl ?_
    refine x_iconst 75 C dX7_mixedRest_74 ci_0 rfl ?_
    refine x_cvI 78 [.int (6 : Int32), .int (0 : Int32)] [.long l14, .ref 0] C 7 dX7_mixedRest_75 v_X7_394 (fun u hu => m_X7_act hu) rfl sk_0 rfl (Nat.le_of_ble_eq_true rfl) (Nat.le_of_ble_eq_true rfl) rfl (fun h15 x16 => ?_)
    refine x_cvl 81 [.long l14, .int x16] [] C 1 dX7_mixedRest_78 v_X7_369 (fun u hu => m_X7_mixedBest hu) rfl sk_0 rfl (Nat.le_of_ble_eq_true rfl) (Nat.le_of_ble_eq_true rfl) rfl (fun l17 => ?_)
    refine x_lstore_n 82 [(3, .long l17), (0, .ref 0)] C dX7_mixedRest_81 n4 rfl rfl rfl ?_
    refine x_lload_n 83 C dX7_mixedRest_82 0 rfl rfl rfl ?_
    refine x_aload_n 84 C dX7_mixedRest_83 1 rfl rfl rfl ?_
    refine x_iconst 85 C dX7_mixedRest_84 ci_m1 rfl ?_
    refine x_cvI 88 [.int (-1 : Int32)] [.long l17] C 8 dX7_mixedRest_85 v_X7_397 (fun u hu => m_X7_spare hu) rfl sk_0 rfl (Nat.le_of_ble_eq_true rfl) (Nat.le_of_ble_eq_true rfl) rfl (fun h18 x19 => ?_)
    refine x_i2l 89 C dX7_mixedRest_88 rfl ?_
    refine x_csl 92 [.long l17, .long (x19.toInt64)] [] C 0 dX7_mixedRest_89 s_X7_322 (fun u hu => m_X7_mixed hu) rfl rfl (Nat.le_of_ble_eq_true rfl) (Nat.le_of_ble_eq_true rfl) rfl (fun l20 => ?_)
    refine x_aload_n 93 C dX7_mixedRest_92 1 rfl rfl rfl ?_
    refine x_iconst 94 C dX7_mixedRest_93 ci_0 rfl ?_
    refine x_cvI 97 [.int (0 : Int32)] [.long l20] C 8 dX7_mixedRest_94 v_X7_397 (fun u hu => m_X7_spare hu) rfl sk_0 rfl (Nat.le_of_ble_eq_true rfl) (Nat.le_of_ble_eq_true rfl) rfl (fun h21 x22 => ?_)
    refine x_i2l 98 C dX7_mixedRest_97 rfl ?_
    refine x_csl 101 [.long l20, .long (x22.toInt64)] [] C 0 dX7_mixedRest_98 s_X7_322 (fun u hu => m_X7_mixed hu) rfl rfl (Nat.le_of_ble_eq_true rfl) (Nat.le_of_ble_eq_true rfl) rfl (fun l23 => ?_)
    refine x_lstore_n 102 [(3, .long l23), (0, .ref 0)] C dX7_mixedRest_101 n4 rfl rfl rfl ?_
    refine x_lload_n 103 C dX7_mixedRest_102 0 rfl rfl rfl ?_
    refine x_aload_n 104 C dX7_mixedRest_103 1 rfl rfl rfl ?_
    refine x_cvI 107 [] [.long l23] C 6 dX7_mixedRest_104 v_X7_400 (fun u hu => m_X7_never hu) rfl sk_0 rfl (Nat.le_of_ble_eq_true rfl) (Nat.le_of_ble_eq_true rfl) rfl (fun h24 x25 => ?_)
    refine x_i2l 108 C dX7_mixedRest_107 rfl ?_
    refine x_csl 111 [.long l23, .long (x25.toInt64)] [] C 0 dX7_mixedRest_108 s_X7_322 (fun u hu => m_X7_mixed hu) rfl rfl (Nat.le_of_ble_eq_true rfl) (Nat.le_of_ble_eq_true rfl) rfl (fun l26 => ?_)
    refine x_lstore_n 112 [(3, .long l26), (0, .ref 0)] C dX7_mixedRest_111 n4 rfl rfl rfl ?_
    refine x_lload_n 113 C dX7_mixedRest_112 0 rfl rfl rfl ?_
    refine x_aload_n 114 C dX7_mixedRest_113 1 rfl rfl rfl ?_
    refine x_bipush 116 C dX7_mixedRest_114 cb_7 rfl ?_
    refine x_bipush 118 C dX7_mixedRest_116 cb_18 rfl ?_
    refine x_iconst 119 C dX7_mixedRest_118 ci_0 rfl ?_
    refine x_cvI 122 [.int (7 : Int32), .int (18 : Int32), .int (0 : Int32)] [.long l26] C 6 dX7_mixedRest_119 v_X7_403 (fun u hu => m_X7_shows hu) rfl sk_0 rfl (Nat.le_of_ble_eq_true rfl) (Nat.le_of_ble_eq_true rfl) rfl (fun h27 x28 => ?_)
    refine x_i2l 123 C dX7_mixedRest_122 rfl ?_
    refine x_csl 126 [.long l26, .long (x28.toInt64)] [] C 0 dX7_mixedRest_123 s_X7_322 (fun u hu => m_X7_mixed hu) rfl rfl (Nat.le_of_ble_eq_true rfl) (Nat.le_of_ble_eq_true rfl) rfl (fun l29 => ?_)
    refine x_aload_n 127 C dX7_mixedRest_126 1 rfl rfl rfl ?_
    refine x_bipush 129 C dX7_mixedRest_127 cb_7 rfl ?_
    refine x_bipush 131 C dX7_mixedRest_129 cb_18 rfl ?_
    refine x_iconst 132 C dX7_mixedRest_131 ci_1 rfl ?_
    refine x_cvI 135 [.int (7 : Int32), .int (18 : Int32), .int (1 : Int32)] [.long l29] C 6 dX7_mixedRest_132 v_X7_403 (fun u hu => m_X7_shows hu) rfl sk_0 rfl (Nat.le_of_ble_eq_true rfl) (Nat.le_of_ble_eq_true rfl) rfl (fun h30 x31 => ?_)
    refine x_i2l 136 C dX7_mixedRest_135 rfl ?_
    refine x_csl 139 [.long l29, .long (x31.toInt64)] [] C 0 dX7_mixedRest_136 s_X7_322 (fun u hu => m_X7_mixed hu) rfl rfl (Nat.le_of_ble_eq_true rfl) (Nat.le_of_ble_eq_true rfl) rfl (fun l32 => ?_)
    exact x_lret C E dX7_mixedRest_139 rfl
  refine x_ls [2, 1, 0] rfl (x_fx3 (ls := fun h33 l34 x35 => [(0, .ref 0), (3, .long l34), (5, .int x35)]) (st := fun h33 l34 x35 => []) (hh := fun h33 l34 x35 => h33) (fun s2 J2 h33 l34 x35 => ?_))
  refine x_iload 7 C dX7_mixedRest_5 2 rfl rfl ?_
  refine x_iconst 8 C dX7_mixedRest_7 ci_2 rfl ?_
  refine x_icmp_gt 11 29 C dX7_mixedRest_8 (by decide) rfl (fun _ => ?_) (fun _ => ?_)
  · exact x_ls [0, 1] rfl (J1 h33 l34)
  · refine x_lload_n 12 C dX7_mixedRest_11 1 rfl rfl rfl ?_
    refine x_aload_n 13 C dX7_mixedRest_12 0 rfl rfl rfl ?_
    refine x_iload 15 C dX7_mixedRest_13 2 rfl rfl ?_
    refine x_cvI 18 [.int x35] [.long l34] C 7 dX7_mixedRest_15 v_X7_385 (fun u hu => m_X7_sum hu) rfl sk_0 rfl (Nat.le_of_ble_eq_true rfl) (Nat.le_of_ble_eq_true rfl) rfl (fun h36 x37 => ?_)
    refine x_i2l 19 C dX7_mixedRest_18 rfl ?_
    refine x_csl 22 [.long l34, .long (x37.toInt64)] [] C 0 dX7_mixedRest_19 s_X7_322 (fun u hu => m_X7_mixed hu) rfl rfl (Nat.le_of_ble_eq_true rfl) (Nat.le_of_ble_eq_true rfl) rfl (fun l38 => ?_)
    refine x_lstore_n 23 [(3, .long l38), (0, .ref 0), (5, .int x35)] C dX7_mixedRest_22 n4 rfl rfl rfl ?_
    refine x_iinc 26 (fun x39 => [(5, .int x39), (3, .long l38), (0, .ref 0)]) C dX7_mixedRest_23 2 rfl ci_1 n5 (fun _ => rfl) rfl (fun x39 => ?_)
    refine x_goto 5 C dX7_mixedRest_26 (by decide) ?_
    exact x_ls [2, 1, 0] rfl (J2 h36 l38 x39)
