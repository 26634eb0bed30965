def f_X7_sees (h : Hp) (a1 : Int32) (a2 : Int32) : Option (Hp × Int32) :=
  bdr (f_X7_isBeat a1) fun x1 =>
  if x1 = 0 then (
    some (h, (-2 : Int32)))
  else (
    bdr (f_X7_within a2 (0 : Int32) (40 : Int32)) fun x2 =>
    if x2 = 0 then (
      some (h, (-2 : Int32)))
    else (
      bnd (f_X7_shown h) fun h3 c4 =>
      cy (sk c4 = 2) (
        fx1 FU (fun s1 (x6 : Int32) =>
          if (h3.1 5 7) ≤ x6 then (
            some (h3, (-1 : Int32)))
          else (
            bdr (f_X0_stateBehind h3 (c4 + 5) a1 x6) fun x7 =>
            lt1 (fun (u8 : Int32) =>
              nm (x6 + (1 : Int32)) fun x9 =>
              s1 x9) fun k2 =>
            if x7 = (1 : Int32) then (
              bdr (f_X0_placeBehind h3 (c4 + 5) a1 x6) fun x10 =>
              if x10 = a2 then (
                some (h3, x6))
              else (
                k2 (0 : Int32)))
            else (
              k2 (0 : Int32)))) (0 : Int32))))
theorem dX7_sees_0 : decode cX7_sees 0 = .ok (.iload_n 1, 1) := by decide +kernel
theorem dX7_sees_1 : decode cX7_sees 1 = .ok (.invokestatic 126, 3) := by decide +kernel
theorem dX7_sees_4 : decode cX7_sees 4 = .ok (.ifCond .eq 13, 3) := by decide +kernel
theorem dX7_sees_7 : decode cX7_sees 7 = .ok (.iload_n 2, 1) := by decide +kernel
theorem dX7_sees_8 : decode cX7_sees 8 = .ok (.iconst 0, 1) := by decide +kernel
theorem dX7_sees_9 : decode cX7_sees 9 = .ok (.bipush 40, 2) := by decide +kernel
theorem dX7_sees_11 : decode cX7_sees 11 = .ok (.invokestatic 85, 3) := by decide +kernel
theorem dX7_sees_14 : decode cX7_sees 14 = .ok (.ifCond .ne 6, 3) := by decide +kernel
theorem dX7_sees_17 : decode cX7_sees 17 = .ok (.bipush (-2), 2) := by decide +kernel
theorem dX7_sees_19 : decode cX7_sees 19 = .ok (.ireturn, 1) := by decide +kernel
theorem dX7_sees_20 : decode cX7_sees 20 = .ok (.aload_n 0, 1) := by decide +kernel
theorem dX7_sees_21 : decode cX7_sees 21 = .ok (.invokevirtual 171, 3) := by decide +kernel
theorem dX7_sees_24 : decode cX7_sees 24 = .ok (.getfield 175, 3) := by decide +kernel
theorem dX7_sees_27 : decode cX7_sees 27 = .ok (.astore_n 3, 1) := by decide +kernel
theorem dX7_sees_28 : decode cX7_sees 28 = .ok (.iconst 0, 1) := by decide +kernel
theorem dX7_sees_29 : decode cX7_sees 29 = .ok (.istore 4, 2) := by decide +kernel
theorem dX7_sees_31 : decode cX7_sees 31 = .ok (.iload 4, 2) := by decide +kernel
theorem dX7_sees_33 : decode cX7_sees 33 = .ok (.aload_n 0, 1) := by decide +kernel
theorem dX7_sees_34 : decode cX7_sees 34 = .ok (.getfield 26, 3) := by decide +kernel
theorem dX7_sees_37 : decode cX7_sees 37 = .ok (.getfield 192, 3) := by decide +kernel
theorem dX7_sees_40 : decode cX7_sees 40 = .ok (.if_icmp .ge 34, 3) := by decide +kernel
theorem dX7_sees_43 : decode cX7_sees 43 = .ok (.aload_n 3, 1) := by decide +kernel
theorem dX7_sees_44 : decode cX7_sees 44 = .ok (.iload_n 1, 1) := by decide +kernel
theorem dX7_sees_45 : decode cX7_sees 45 = .ok (.iload 4, 2) := by decide +kernel
theorem dX7_sees_47 : decode cX7_sees 47 = .ok (.invokevirtual 179, 3) := by decide +kernel
theorem dX7_sees_50 : decode cX7_sees 50 = .ok (.iconst 1, 1) := by decide +kernel
theorem dX7_sees_51 : decode cX7_sees 51 = .ok (.if_icmp .ne 17, 3) := by decide +kernel
theorem dX7_sees_54 : decode cX7_sees 54 = .ok (.aload_n 3, 1) := by decide +kernel
theorem dX7_sees_55 : decode cX7_sees 55 = .ok (.iload_n 1, 1) := by decide +kernel
theorem dX7_sees_56 : decode cX7_sees 56 = .ok (.iload 4, 2) := by decide +kernel
theorem dX7_sees_58 : decode cX7_sees 58 = .ok (.invokevirtual 185, 3) := by decide +kernel
theorem dX7_sees_61 : decode cX7_sees 61 = .ok (.iload_n 2, 1) := by decide +kernel
theorem dX7_sees_62 : decode cX7_sees 62 = .ok (.if_icmp .ne 6, 3) := by decide +kernel
theorem dX7_sees_65 : decode cX7_sees 65 = .ok (.iload 4, 2) := by decide +kernel
theorem dX7_sees_67 : decode cX7_sees 67 = .ok (.ireturn, 1) := by decide +kernel
theorem dX7_sees_68 : decode cX7_sees 68 = .ok (.iinc 4 1, 3) := by decide +kernel
theorem dX7_sees_71 : decode cX7_sees 71 = .ok (.goto (-40), 3) := by decide +kernel
theorem dX7_sees_74 : decode cX7_sees 74 = .ok (.iconst (-1), 1) := by decide +kernel
theorem dX7_sees_75 : decode cX7_sees 75 = .ok (.ireturn, 1) := by decide +kernel
set_option maxRecDepth 20000 in
theorem m_X7_sees {h : Hp} {a1 : Int32} {a2 : Int32}  {u : (Hp × Int32)} (hu : f_X7_sees h a1 a2 = some u) : Ct yX7_sees cX7_sees 5 (some .int) 5 [.ref 0, .int a1, .int a2] h (eI u) := by
  refine ct_of eI hu (by decide) (Nat.le_of_ble_eq_true rfl) (fun κ hn C E => ?_)
  have n3 : 3 < kn κ := by rw [hn]; decide
  have n4 : 4 < kn κ := by rw [hn]; decide
  unfold f_X7_sees
  show Xz κ _ 0 [(0, .ref 0), (1, .int a1), (2, .int a2)] [] h
  refine x_iload_n 1 C dX7_sees_0 1 rfl rfl rfl ?_
  refine x_csi 4 [.int a1] [] C 1 dX7_sees_1 s_X7_126 (fun u hu => m_X7_isBeat hu) rfl rfl (Nat.le_of_ble_eq_true rfl) (Nat.le_of_ble_eq_true rfl) rfl (fun x1 => ?_)
  refine x_if_eq 7 17 C dX7_sees_4 (by decide) rfl (fun _ => ?_) (fun _ => ?_)
  · refine x_bipush 19 C dX7_sees_17 cb_m2 rfl ?_
    exact x_iret C E dX7_sees_19 rfl
  · refine x_iload_n 8 C dX7_sees_7 2 rfl rfl rfl ?_
    refine x_iconst 9 C dX7_sees_8 ci_0 rfl ?_
    refine x_bipush 11 C dX7_sees_9 cb_40 rfl ?_
    refine x_csi 14 [.int a2, .int (0 : Int32), .int (40 : Int32)] [] C 0 dX7_sees_11 s_X7_85 (fun u hu => m_X7_within hu) rfl rfl (Nat.le_of_ble_eq_true rfl) (Nat.le_of_ble_eq_true rfl) rfl (fun x2 => ?_)
    refine x_if_ne 17 20 C dX7_sees_14 (by decide) rfl (fun _ => ?_) (fun _ => ?_)
    · refine x_aload_n 21 C dX7_sees_20 0 rfl rfl rfl ?_
      refine x_cvR 24 [] [] C 4 dX7_sees_21 v_X7_171 (fun u hu => m_X7_shown hu) rfl sk_0 rfl (Nat.le_of_ble_eq_true rfl) (Nat.le_of_ble_eq_true rfl) rfl (fun h3 c4 => ?_)
      refine x_cy (fun hr5 => ?_)
      refine x_getR (c := (c4 + 5)) 27 C dX7_sees_24 fl_X7_175 hr5 rfl (of_2_1 hr5) rfl ?_
      refine x_astore_n 28 [(3, .ref (c4 + 5)), (0, .ref 0), (1, .int a1), (2, .int a2)] C dX7_sees_27 n3 rfl rfl rfl ?_
      refine x_iconst 29 C dX7_sees_28 ci_0 rfl ?_
      refine x_istore 31 [(4, .int (0 : Int32)), (3, .ref (c4 + 5)), (0, .ref 0), (1, .int a1), (2, .int a2)] C dX7_sees_29 n4 rfl rfl ?_
      refine x_ls [2, 3, 4, 1, 0] rfl (x_fx1 (ls := fun x6 => [(0, .ref 0), (1, .int a1), (2, .int a2), (3, .ref (c4 + 5)), (4, .int x6)]) (st := fun x6 => []) (hh := fun x6 => h3) (fun s1 J1 x6 => ?_))
      refine x_iload 33 C dX7_sees_31 4 rfl rfl ?_
      refine x_aload_n 34 C dX7_sees_33 0 rfl rfl rfl ?_
      refine x_getR (c := 5) 37 C dX7_sees_34 fl_X7_26 sk_0 rfl sr_0_2 rfl ?_
      refine x_getI 40 C dX7_sees_37 fl_X7_192 sk_5 rfl rfl ?_
      refine x_icmp_ge 43 74 C dX7_sees_40 (by decide) rfl (fun _ => ?_) (fun _ => ?_)
      · refine x_iconst 75 C dX7_sees_74 ci_m1 rfl ?_
        exact x_iret C E dX7_sees_75 rfl
      · refine x_aload_n 44 C dX7_sees_43 3 rfl rfl rfl ?_
        refine x_iload_n 45 C dX7_sees_44 1 rfl rfl rfl ?_
        refine x_iload 47 C dX7_sees_45 4 rfl rfl ?_
        refine x_cvi 50 [.int a1, .int x6] [] C 1 dX7_sees_47 v_X7_179 (fun u hu => m_X0_stateBehind (ok_2_1 hr5) hu) rfl (ok_2_1 hr5) rfl (Nat.le_of_ble_eq_true rfl) (Nat.le_of_ble_eq_true rfl) rfl (fun x7 => ?_)
        refine x_iconst 51 C dX7_sees_50 ci_1 rfl ?_
        refine x_lt1 (q := 68) (ls := fun u8 => [(0, .ref 0), (1, .int a1), (2, .int a2), (3, .ref (c4 + 5)), (4, .int x6)]) (st := fun u8 => []) (hh := fun u8 => h3) (fun u8 => ?_) (fun k2 J2 => ?_)
        · refine x_iinc 71 (fun x9 => [(4, .int x9), (0, .ref 0), (1, .int a1), (2, .int a2), (3, .ref (c4 + 5))]) C dX7_sees_68 4 rfl ci_1 n4 (fun _ => rfl) rfl (fun x9 => ?_)
          refine x_goto 31 C dX7_sees_71 (by decide) ?_
          exact x_ls [1, 2, 3, 4, 0] rfl (J1 x9)
        refine x_icmp_ne 54 68 C dX7_sees_51 (by decide) rfl (fun _ => ?_) (fun _ => ?_)
        · exact x_ls [0, 1, 2, 3, 4] rfl (J2 (0 : Int32))
        · refine x_aload_n 55 C dX7_sees_54 3 rfl rfl rfl ?_
          refine x_iload_n 56 C dX7_sees_55 1 rfl rfl rfl ?_
          refine x_iload 58 C dX7_sees_56 4 rfl rfl ?_
          refine x_cvi 61 [.int a1, .int x6] [] C 1 dX7_sees_58 v_X7_185 (fun u hu => m_X0_placeBehind (ok_2_1 hr5) hu) rfl (ok_2_1 hr5) rfl (Nat.le_of_ble_eq_true rfl) (Nat.le_of_ble_eq_true rfl) rfl (fun x10 => ?_)
          refine x_iload_n 62 C dX7_sees_61 2 rfl rfl rfl ?_
          refine x_icmp_ne 65 68 C dX7_sees_62 (by decide) rfl (fun _ => ?_) (fun _ => ?_)
          · exact x_ls [0, 1, 2, 3, 4] rfl (J2 (0 : Int32))
          · refine x_iload 67 C dX7_sees_65 4 rfl rfl ?_
            exact x_iret C E dX7_sees_67 rfl
    · refine x_bipush 19 C dX7_sees_17 cb_m2 rfl ?_
      exact x_iret C E dX7_sees_19 rfl

def f_X7_sway (h : Hp) (a1 : Int32) : Option (Hp × Int32) :=
  bdr (f_X7_isBeat a1) fun x1 =>
  if x1 = 0 then (
    some (h, (-2147483648 : Int32)))
  else (
    bnd (f_X7_shown h) fun h2 c3 =>
    cy (sk c3 = 2) (
      ck a1 24 (
        some (h2, (ia h2 ((c3 + 5) + 4) a1)))))
theorem dX7_sway_0 : decode cX7_sway 0 = .ok (.iload_n 1, 1) := by decide +kernel
theorem dX7_sway_1 : decode cX7_sway 1 = .ok (.invokestatic 126, 3) := by decide +kernel
theorem dX7_sway_4 : decode cX7_sway 4 = .ok (.ifCond .eq 18, 3) := by decide +kernel
theorem dX7_sway_7 : decode cX7_sway 7 = .ok (.aload_n 0, 1) := by decide +kernel
theorem dX7_sway_8 : decode cX7_sway 8 = .ok (.invokevirtual 171, 3) := by decide +kernel
theorem dX7_sway_11 : decode cX7_sway 11 = .ok (.getfield 175, 3) := by decide +kernel
theorem dX7_sway_14 : decode cX7_sway 14 = .ok (.getfield 195, 3) := by decide +kernel
theorem dX7_sway_17 : decode cX7_sway 17 = .ok (.iload_n 1, 1) := by decide +kernel
theorem dX7_sway_18 : decode cX7_sway 18 = .ok (.iaload, 1) := by decide +kernel
theorem dX7_sway_19 : decode cX7_sway 19 = .ok (.goto 5, 3) := by decide +kernel
theorem dX7_sway_22 : decode cX7_sway 22 = .ok (.ldc 188, 2) := by decide +kernel
theorem dX7_sway_24 : decode cX7_sway 24 = .ok (.ireturn, 1) := by decide +kernel
set_option maxRecDepth 20000 in
theorem m_X7_sway {h : Hp} {a1 : Int32}  {u : (Hp × Int32)} (hu : f_X7_sway h a1 = some u) : Ct yX7_sway cX7_sway 2 (some .int) 5 [.ref 0, .int a1] h (eI u) := by
  refine ct_of eI hu (by decide) (Nat.le_of_ble_eq_true rfl) (fun κ hn C E => ?_)
  unfold f_X7_sway
  show Xz κ _ 0 [(0, .ref 0), (1, .int a1)] [] h
  refine x_iload_n 1 C dX7_sway_0 1 rfl rfl rfl ?_
  refine x_csi 4 [.int a1] [] C 1 dX7_sway_1 s_X7_126 (fun u hu => m_X7_isBeat hu) rfl rfl (Nat.le_of_ble_eq_true rfl) (Nat.le_of_ble_eq_true rfl) rfl (fun x1 => ?_)
  refine x_if_eq 7 22 C dX7_sway_4 (by decide) rfl (fun _ => ?_) (fun _ => ?_)
  · refine x_ldc 24 C dX7_sway_22 kw_X7_188 rfl ?_
    exact x_iret C E dX7_sway_24 rfl
  · refine x_aload_n 8 C dX7_sway_7 0 rfl rfl rfl ?_
    refine x_cvR 11 [] [] C 4 dX7_sway_8 v_X7_171 (fun u hu => m_X7_shown hu) rfl sk_0 rfl (Nat.le_of_ble_eq_true rfl) (Nat.le_of_ble_eq_true rfl) rfl (fun h2 c3 => ?_)
    refine x_cy (fun hr4 => ?_)
    refine x_getR (c := (c3 + 5)) 14 C dX7_sway_11 fl_X7_175 hr4 rfl (of_2_1 hr4) rfl ?_
    refine x_getR (c := ((c3 + 5) + 4)) 17 C dX7_sway_14 fl_X7_195 (ok_2_1 hr4) rfl (of_0_3 (ok_2_1 hr4)) rfl ?_
    refine x_iload_n 18 C dX7_sway_17 1 rfl rfl rfl ?_
    refine x_iald 19 C dX7_sway_18 (ok_0_3 (ok_2_1 hr4)) (ol_0_3 (ok_2_1 hr4)) rfl ?_
    refine x_goto 24 C dX7_sway_19 (by decide) ?_
    exact x_iret C E dX7_sway_24 rfl

def f_X7_ends (h : Hp) (a1 : Int32) (a2 : Int32) : Option (Hp × Int32) :=
  bdr (f_X7_isWalker h a1) fun x1 =>
  if x1 = 0 then (
    some (h, (-2 : Int32)))
  else (
    bdr (f_X7_within a2 (0 : Int32) (2 : Int32)) fun x2 =>
    if x2 = 0 then (
      some (h, (-2 : Int32)))
    else (
      bnd (f_X7_shown h) fun h3 c4 =>
      cy (sk c4 = 2) (
        if a2 = 0 then (
          ck a1 6 (
            some (h3, (ia h3 (c4 + 15) a1))))
        else (
          if a2 = (1 : Int32) then (
            ck a1 6 (
              some (h3, (ia h3 (c4 + 16) a1))))
          else (
            ck a1 6 (
              some (h3, (ia h3 (c4 + 17) a1))))))))
theorem dX7_ends_0 : decode cX7_ends 0 = .ok (.aload_n 0, 1) := by decide +kernel
theorem dX7_ends_1 : decode cX7_ends 1 = .ok (.iload_n 1, 1) := by decide +kernel
theorem dX7_ends_2 : decode cX7_ends 2 = .ok (.invokevirtual 113, 3) := by decide +kernel
theorem dX7_ends_5 : decode cX7_ends 5 = .ok (.ifCond .eq 12, 3) := by decide +kernel
theorem dX7_ends_8 : decode cX7_ends 8 = .ok (.iload_n 2, 1) := by decide +kernel
theorem dX7_ends_9 : decode cX7_ends 9 = .ok (.iconst 0, 1) := by decide +kernel
theorem dX7_ends_10 : decode cX7_ends 10 = .ok (.iconst 2, 1) := by decide +kernel
theorem dX7_ends_11 : decode cX7_ends 11 = .ok (.invokestatic 85, 3) := by decide +kernel
theorem dX7_ends_14 : decode cX7_ends 14 = .ok (.ifCond .ne 6, 3) := by decide +kernel
theorem dX7_ends_17 : decode cX7_ends 17 = .ok (.bipush (-2), 2) := by decide +kernel
theorem dX7_ends_19 : decode cX7_ends 19 = .ok (.ireturn, 1) := by decide +kernel
theorem dX7_ends_20 : decode cX7_ends 20 = .ok (.aload_n 0, 1) := by decide +kernel
theorem dX7_ends_21 : decode cX7_ends 21 = .ok (.invokevirtual 171, 3) := by decide +kernel
theorem dX7_ends_24 : decode cX7_ends 24 = .ok (.astore_n 3, 1) := by decide +kernel
theorem dX7_ends_25 : decode cX7_ends 25 = .ok (.iload_n 2, 1) := by decide +kernel
theorem dX7_ends_26 : decode cX7_ends 26 = .ok (.ifCond .ne 10, 3) := by decide +kernel
theorem dX7_ends_29 : decode cX7_ends 29 = .ok (.aload_n 3, 1) := by decide +kernel
theorem dX7_ends_30 : decode cX7_ends 30 = .ok (.getfield 198, 3) := by decide +kernel
theorem dX7_ends_33 : decode cX7_ends 33 = .ok (.iload_n 1, 1) := by decide +kernel
theorem dX7_ends_34 : decode cX7_ends 34 = .ok (.iaload, 1) := by decide +kernel
theorem dX7_ends_35 : decode cX7_ends 35 = .ok (.ireturn, 1) := by decide +kernel
theorem dX7_ends_36 : decode cX7_ends 36 = .ok (.iload_n 2, 1) := by decide +kernel
theorem dX7_ends_37 : decode cX7_ends 37 = .ok (.iconst 1, 1) := by decide +kernel
theorem dX7_ends_38 : decode cX7_ends 38 = .ok (.if_icmp .ne 12, 3) := by decide +kernel
theorem dX7_ends_41 : decode cX7_ends 41 = .ok (.aload_n 3, 1) := by decide +kernel
theorem dX7_ends_42 : decode cX7_ends 42 = .ok (.getfield 201, 3) := by decide +kernel
theorem dX7_ends_45 : decode cX7_ends 45 = .ok (.iload_n 1, 1) := by decide +kernel
theorem dX7_ends_46 : decode cX7_ends 46 = .ok (.iaload, 1) := by decide +kernel
theorem dX7_ends_47 : decode cX7_ends 47 = .ok (.goto 9, 3) := by decide +kernel
theorem dX7_ends_50 : decode cX7_ends 50 = .ok (.aload_n 3, 1) := by decide +kernel
theorem dX7_ends_51 : decode cX7_ends 51 = .ok (.getfield 204, 3) := by decide +kernel
theorem dX7_ends_54 : decode cX7_ends 54 = .ok (.iload_n 1, 1) := by decide +kernel
theorem dX7_ends_55 : decode cX7_ends 55 = .ok (.iaload, 1) := by decide +kernel
theorem dX7_ends_56 : decode cX7_ends 56 = .ok (.ireturn, 1) := by decide +kernel
set_option maxRecDepth 20000 in
theorem m_X7_ends {h : Hp} {a1 : Int32} {a2 : Int32}  {u : (Hp × Int32)} (hu : f_X7_ends h a1 a2 = some u) : Ct yX7_ends cX7_ends 4 (some .int) 5 [.ref 0, .int a1, .int a2] h (eI u) := by
  refine ct_of eI hu (by decide) (Nat.le_of_ble_eq_true rfl) (fun κ hn C E => ?_)
  have n3 : 3 < kn κ := by rw [hn]; decide
  unfold f_X7_ends
  show Xz κ _ 0 [(0, .ref 0), (1, .int a1), (2, .int a2)] [] h
  refine x_aload_n 1 C dX7_ends_0 0 rfl rfl rfl ?_
  refine x_iload_n 2 C dX7_ends_1 1 rfl rfl rfl ?_
  refine x_cvi 5 [.int a1] [] C 1 dX7_ends_2 v_X7_113 (fun u hu => m_X7_isWalker hu) rfl sk_0 rfl (Nat.le_of_ble_eq_true rfl) (Nat.le_of_ble_eq_true rfl) rfl (fun x1 => ?_)
  refine x_if_eq 8 17 C dX7_ends_5 (by decide) rfl (fun _ => ?_) (fun _ => ?_)
  · refine x_bipush 19 C dX7_ends_17 cb_m2 rfl ?_
    exact x_iret C E dX7_ends_19 rfl
  · refine x_iload_n 9 C dX7_ends_8 2 rfl rfl rfl ?_
    refine x_iconst 10 C dX7_ends_9 ci_0 rfl ?_
    refine x_iconst 11 C dX7_ends_10 ci_2 rfl ?_
    refine x_csi 14 [.int a2, .int (0 : Int32), .int (2 : Int32)] [] C 0 dX7_ends_11 s_X7_85 (fun u hu => m_X7_within hu) rfl rfl (Nat.le_of_ble_eq_true rfl) (Nat.le_of_ble_eq_true rfl) rfl (fun x2 => ?_)
    refine x_if_ne 17 20 C dX7_ends_14 (by decide) rfl (fun _ => ?_) (fun _ => ?_)
    · refine x_aload_n 21 C dX7_ends_20 0 rfl rfl rfl ?_
      refine x_cvR 24 [] [] C 4 dX7_ends_21 v_X7_171 (fun u hu => m_X7_shown hu) rfl sk_0 rfl (Nat.le_of_ble_eq_true rfl) (Nat.le_of_ble_eq_true rfl) rfl (fun h3 c4 => ?_)
      refine x_cy (fun hr5 => ?_)
      refine x_astore_n 25 [(3, .ref c4), (0, .ref 0), (1, .int a1), (2, .int a2)] C dX7_ends_24 n3 rfl rfl rfl ?_
      refine x_iload_n 26 C dX7_ends_25 3 rfl rfl rfl ?_
      refine x_if_ne 29 36 C dX7_ends_26 (by decide) rfl (fun _ => ?_) (fun _ => ?_)
      · refine x_iload_n 37 C dX7_ends_36 3 rfl rfl rfl ?_
        refine x_iconst 38 C dX7_ends_37 ci_1 rfl ?_
        refine x_icmp_ne 41 50 C dX7_ends_38 (by decide) rfl (fun _ => ?_) (fun _ => ?_)
        · refine x_aload_n 51 C dX7_ends_50 0 rfl rfl rfl ?_
          refine x_getR (c := (c4 + 17)) 54 C dX7_ends_51 fl_X7_204 hr5 rfl (of_2_9 hr5) rfl ?_
          refine x_iload_n 55 C dX7_ends_54 2 rfl rfl rfl ?_
          refine x_iald 56 C dX7_ends_55 (ok_2_9 hr5) (ol_2_9 hr5) rfl ?_
          exact x_iret C E dX7_ends_56 rfl
        · refine x_aload_n 42 C dX7_ends_41 0 rfl rfl rfl ?_
          refine x_getR (c := (c4 + 16)) 45 C dX7_ends_42 fl_X7_201 hr5 rfl (of_2_8 hr5) rfl ?_
          refine x_iload_n 46 C dX7_ends_45 2 rfl rfl rfl ?_
          refine x_iald 47 C dX7_ends_46 (ok_2_8 hr5) (ol_2_8 hr5) rfl ?_
          refine x_goto 56 C dX7_ends_47 (by decide) ?_
          exact x_iret C E dX7_ends_56 rfl
      · refine x_aload_n 30 C dX7_ends_29 0 rfl rfl rfl ?_
        refine x_getR (c := (c4 + 15)) 33 C dX7_ends_30 fl_X7_198 hr5 rfl (of_2_7 hr5) rfl ?_
        refine x_iload_n 34 C dX7_ends_33 2 rfl rfl rfl ?_
        refine x_iald 35 C dX7_ends_34 (ok_2_7 hr5) (ol_2_7 hr5) rfl ?_
        exact x_iret C E dX7_ends_35 rfl
    · refine x_bipush 19 C dX7_ends_17 cb_m2 rfl ?_
      exact x_iret C E dX7_ends_19 rfl

def f_X7_sum (h : Hp) (a1 : Int32) : Option (Hp × Int32) :=
  bdr (f_X7_within a1 (0 : Int32) (2 : Int32)) fun x1 =>
  if x1 = 0 then (
    some (h, (-2 : Int32)))
  else (
    bnd (f_X7_shown h) fun h2 c3 =>
    cy (sk c3 = 2) (
      if a1 = 0 then (
        some (h2, (h2.1 c3 13)))
      else (
        if a1 = (1 : Int32) then (
          some (h2, (h2.1 c3 14)))
        else (
          some (h2, (h2.1 c3 12))))))
theorem dX7_sum_0 : decode cX7_sum 0 = .ok (.iload_n 1, 1) := by decide +kernel
theorem dX7_sum_1 : decode cX7_sum 1 = .ok (.iconst 0, 1) := by decide +kernel
theorem dX7_sum_2 : decode cX7_sum 2 = .ok (.iconst 2, 1) := by decide +kernel
theorem dX7_sum_3 : decode cX7_sum 3 = .ok (.invokestatic 85, 3) := by decide +kernel
theorem dX7_sum_6 : decode cX7_sum 6 = .ok (.ifCond .ne 6, 3) := by decide +kernel
theorem dX7_sum_9 : decode cX7_sum 9 = .ok (.bipush (-2), 2) := by decide +kernel
theorem dX7_sum_11 : decode cX7_sum 11 = .ok (.ireturn, 1) := by decide +kernel
theorem dX7_sum_12 : decode cX7_sum 12 = .ok (.aload_n 0, 1) := by decide +kernel
theorem dX7_sum_13 : decode cX7_sum 13 = .ok (.invokevirtual 171, 3) := by decide +kernel
theorem dX7_sum_16 : decode cX7_sum 16 = .ok (.astore_n 2, 1) := by decide +kernel
theorem dX7_sum_17 : decode cX7_sum 17 = .ok (.iload_n 1, 1) := by decide +kernel
theorem dX7_sum_18 : decode cX7_sum 18 = .ok (.ifCond .ne 8, 3) := by decide +kernel
theorem dX7_sum_21 : decode cX7_sum 21 = .ok (.aload_n 2, 1) := by decide +kernel
theorem dX7_sum_22 : decode cX7_sum 22 = .ok (.getfield 207, 3) := by decide +kernel
theorem dX7_sum_25 : decode cX7_sum 25 = .ok (.ireturn, 1) := by decide +kernel
theorem dX7_sum_26 : decode cX7_sum 26 = .ok (.iload_n 1, 1) := by decide +kernel
theorem dX7_sum_27 : decode cX7_sum 27 = .ok (.iconst 1, 1) := by decide +kernel
theorem dX7_sum_28 : decode cX7_sum 28 = .ok (.if_icmp .ne 10, 3) := by decide +kernel
theorem dX7_sum_31 : decode cX7_sum 31 = .ok (.aload_n 2, 1) := by decide +kernel
theorem dX7_sum_32 : decode cX7_sum 32 = .ok (.getfield 210, 3) := by decide +kernel
theorem dX7_sum_35 : decode cX7_sum 35 = .ok (.goto 7, 3) := by decide +kernel
theorem dX7_sum_38 : decode cX7_sum 38 = .ok (.aload_n 2, 1) := by decide +kernel
theorem dX7_sum_39 : decode cX7_sum 39 = .ok (.getfield 213, 3) := by decide +kernel
theorem dX7_sum_42 : decode cX7_sum 42 = .ok (.ireturn, 1) := by decide +kernel
set_option maxRecDepth 20000 in
theorem m_X7_sum {h : Hp} {a1 : Int32}  {u : (Hp × Int32)} (hu : f_X7_sum h a1 = some u) : Ct yX7_sum cX7_sum 3 (some .int) 5 [.ref 0, .int a1] h (eI u) := by
  refine ct_of eI hu (by decide) (Nat.le_of_ble_eq_true rfl) (fun κ hn C E => ?_)
  have n2 : 2 < kn κ := by rw [hn]; decide
  unfold f_X7_sum
  show Xz κ _ 0 [(0, .ref 0), (1, .int a1)] [] h
  refine x_iload_n 1 C dX7_sum_0 1 rfl rfl rfl ?_
  refine x_iconst 2 C dX7_sum_1 ci_0 rfl ?_
  refine x_iconst 3 C dX7_sum_2 ci_2 rfl ?_
  refine x_csi 6 [.int a1, .int (0 : Int32), .int (2 : Int32)] [] C 0 dX7_sum_3 s_X7_85 (fun u hu => m_X7_within hu) rfl rfl (Nat.le_of_ble_eq_true rfl) (Nat.le_of_ble_eq_true rfl) rfl (fun x1 => ?_)
  refine x_if_ne 9 12 C dX7_sum_6 (by decide) rfl (fun _ => ?_) (fun _ => ?_)
  · refine x_aload_n 13 C dX7_sum_12 0 rfl rfl rfl ?_
    refine x_cvR 16 [] [] C 4 dX7_sum_13 v_X7_171 (fun u hu => m_X7_shown hu) rfl sk_0 rfl (Nat.le_of_ble_eq_true rfl) (Nat.le_of_ble_eq_true rfl) rfl (fun h2 c3 => ?_)
    refine x_cy (fun hr4 => ?_)
    refine x_astore_n 17 [(2, .ref c3), (0, .ref 0), (1, .int a1)] C dX7_sum_16 n2 rfl rfl rfl ?_
    refine x_iload_n 18 C dX7_sum_17 2 rfl rfl rfl ?_
    refine x_if_ne 21 26 C dX7_sum_18 (by decide) rfl (fun _ => ?_) (fun _ => ?_)
    · refine x_iload_n 27 C dX7_sum_26 2 rfl rfl rfl ?_
      refine x_iconst 28 C dX7_sum_27 ci_1 rfl ?_
      refine x_icmp_ne 31 38 C dX7_sum_28 (by decide) rfl (fun _ => ?_) (fun _ => ?_)
      · refine x_aload_n 39 C dX7_sum_38 0 rfl rfl rfl ?_
        refine x_getI 42 C dX7_sum_39 fl_X7_213 hr4 rfl rfl ?_
        exact x_iret C E dX7_sum_42 rfl
      · refine x_aload_n 32 C dX7_sum_31 0 rfl rfl rfl ?_
        refine x_getI 35 C dX7_sum_32 fl_X7_210 hr4 rfl rfl ?_
        refine x_goto 42 C dX7_sum_35 (by decide) ?_
        exact x_iret C E dX7_sum_42 rfl
    · refine x_aload_n 22 C dX7_sum_21 0 rfl rfl rfl ?_
      refine x_getI 25 C dX7_sum_22 fl_X7_207 hr4 rfl rfl ?_
      exact x_iret C E dX7_sum_25 rfl
  · refine x_bipush 11 C dX7_sum_9 cb_m2 rfl ?_
    exact x_iret C E dX7_sum_11 rfl

def f_X7_farthestLeaning (h : Hp) (a1 : Nat) : Option Int32 :=
  fx3 FU (fun s1 (x1 : Int32) (x2 : Int32) (x3 : Int32) =>
    if (h.1 5 7) ≤ x3 then (
      some x1)
    else (
      ck x3 6 (
        lt2 (fun (x4 : Int32) (x5 : Int32) =>
          nm (x3 + (1 : Int32)) fun x6 =>
          s1 x4 x5 x6) fun k2 =>
        if (ia h (a1 + 17) x3) ≤ x2 then (
          k2 x1 x2)
        else (
          ck x3 6 (
            nm (ia h (a1 + 17) x3) fun x7 =>
            k2 x3 x7))))) (-1 : Int32) (0 : Int32) (0 : Int32)
theorem dX7_farthestLeaning_0 : decode cX7_farthestLeaning 0 = .ok (.iconst (-1), 1) := by decide +kernel
theorem dX7_farthestLeaning_1 : decode cX7_farthestLeaning 1 = .ok (.istore_n 2, 1) := by decide +kernel
theorem dX7_farthestLeaning_2 : decode cX7_farthestLeaning 2 = .ok (.iconst 0, 1) := by decide +kernel
theorem dX7_farthestLeaning_3 : decode cX7_farthestLeaning 3 = .ok (.istore_n 3, 1) := by decide +kernel
theorem dX7_farthestLeaning_4 : decode cX7_farthestLeaning 4 = .ok (.iconst 0, 1) := by decide +kernel
theorem dX7_farthestLeaning_5 : decode cX7_farthestLeaning 5 = .ok (.istore 4, 2) := by decide +kernel
theorem dX7_farthestLeaning_7 : decode cX7_farthestLeaning 7 = .ok (.iload 4, 2) := by decide +kernel
theorem dX7_farthestLeaning_9 : decode cX7_farthestLeaning 9 = .ok (.aload_n 0, 1) := by decide +kernel
theorem dX7_farthestLeaning_10 : decode cX7_farthestLeaning 10 = .ok (.getfield 26, 3) := by decide +kernel
theorem dX7_farthestLeaning_13 : decode cX7_farthestLeaning 13 = .ok (.getfield 192, 3) := by decide +kernel
theorem dX7_farthestLeaning_16 : decode cX7_farthestLeaning 16 = .ok (.if_icmp .ge 31, 3) := by decide +kernel
theorem dX7_farthestLeaning_19 : decode cX7_farthestLeaning 19 = .ok (.aload_n 1, 1) := by decide +kernel
theorem dX7_farthestLeaning_20 : decode cX7_farthestLeaning 20 = .ok (.getfield 204, 3) := by decide +kernel
theorem dX7_farthestLeaning_23 : decode cX7_farthestLeaning 23 = .ok (.iload 4, 2) := by decide +kernel
theorem dX7_farthestLeaning_25 : decode cX7_farthestLeaning 25 = .ok (.iaload, 1) := by decide +kernel
theorem dX7_farthestLeaning_26 : decode cX7_farthestLeaning 26 = .ok (.iload_n 3, 1) := by decide +kernel
theorem dX7_farthestLeaning_27 : decode cX7_farthestLeaning 27 = .ok (.if_icmp .le 14, 3) := by decide +kernel
theorem dX7_farthestLeaning_30 : decode cX7_farthestLeaning 30 = .ok (.aload_n 1, 1) := by decide +kernel
theorem dX7_farthestLeaning_31 : decode cX7_farthestLeaning 31 = .ok (.getfield 204, 3) := by decide +kernel
theorem dX7_farthestLeaning_34 : decode cX7_farthestLeaning 34 = .ok (.iload 4, 2) := by decide +kernel
theorem dX7_farthestLeaning_36 : decode cX7_farthestLeaning 36 = .ok (.iaload, 1) := by decide +kernel
theorem dX7_farthestLeaning_37 : decode cX7_farthestLeaning 37 = .ok (.istore_n 3, 1) := by decide +kernel
theorem dX7_farthestLeaning_38 : decode cX7_farthestLeaning 38 = .ok (.iload 4, 2) := by decide +kernel
theorem dX7_farthestLeaning_40 : decode cX7_farthestLeaning 40 = .ok (.istore_n 2, 1) := by decide +kernel
theorem dX7_farthestLeaning_41 : decode cX7_farthestLeaning 41 = .ok (.iinc 4 1, 3) := by decide +kernel
theorem dX7_farthestLeaning_44 : decode cX7_farthestLeaning 44 = .ok (.goto (-37), 3) := by decide +kernel
theorem dX7_farthestLeaning_47 : decode cX7_farthestLeaning 47 = .ok (.iload_n 2, 1) := by decide +kernel
theorem dX7_farthestLeaning_48 : decode cX7_farthestLeaning 48 = .ok (.ireturn, 1) := by decide +kernel
set_option maxRecDepth 20000 in
theorem m_X7_farthestLeaning {h : Hp} {a1 : Nat} (ha1 : sk a1 = 2) {u : Int32} (hu : f_X7_farthestLeaning h a1 = some u) : Ct yX7_farthestLeaning cX7_farthestLeaning 5 (some .int) 0 [.ref 0, .ref a1] h ((rI h) u) := by
  refine ct_of (rI h) hu (by decide) (Nat.le_of_ble_eq_true rfl) (fun κ hn C E => ?_)
  have n2 : 2 < kn κ := by rw [hn]; decide
  have n3 : 3 < kn κ := by rw [hn]; decide
  have n4 : 4 < kn κ := by rw [hn]; decide
  unfold f_X7_farthestLeaning
  show Xz κ _ 0 [(0, .ref 0), (1, .ref a1)] [] h
  refine x_iconst 1 C dX7_farthestLeaning_0 ci_m1 rfl ?_
  refine x_istore_n 2 [(2, .int (-1 : Int32)), (0, .ref 0), (1, .ref a1)] C dX7_farthestLeaning_1 n2 rfl rfl rfl ?_
  refine x_iconst 3 C dX7_farthestLeaning_2 ci_0 rfl ?_
  refine x_istore_n 4 [(3, .int (0 : Int32)), (2, .int (-1 : Int32)), (0, .ref 0), (1, .ref a1)] C dX7_farthestLeaning_3 n3 rfl rfl rfl ?_
  refine x_iconst 5 C dX7_farthestLeaning_4 ci_0 rfl ?_
  refine x_istore 7 [(4, .int (0 : Int32)), (3, .int (0 : Int32)), (2, .int (-1 : Int32)), (0, .ref 0), (1, .ref a1)] C dX7_farthestLeaning_5 n4 rfl rfl ?_
  refine x_ls [3, 4, 2, 1, 0] rfl (x_fx3 (ls := fun x1 x2 x3 => [(0, .ref 0), (1, .ref a1), (2, .int x1), (3, .int x2), (4, .int x3)]) (st := fun x1 x2 x3 => []) (hh := fun x1 x2 x3 => h) (fun s1 J1 x1 x2 x3 => ?_))
  refine x_iload 9 C dX7_farthestLeaning_7 4 rfl rfl ?_
  refine x_aload_n 10 C dX7_farthestLeaning_9 0 rfl rfl rfl ?_
  refine x_getR (c := 5) 13 C dX7_farthestLeaning_10 fl_X7_26 sk_0 rfl sr_0_2 rfl ?_
  refine x_getI 16 C dX7_farthestLeaning_13 fl_X7_192 sk_5 rfl rfl ?_
  refine x_icmp_ge 19 47 C dX7_farthestLeaning_16 (by decide) rfl (fun _ => ?_) (fun _ => ?_)
  · refine x_iload_n 48 C dX7_farthestLeaning_47 2 rfl rfl rfl ?_
    exact x_iret C E dX7_farthestLeaning_48 rfl
  · refine x_aload_n 20 C dX7_farthestLeaning_19 1 rfl rfl rfl ?_
    refine x_getR (c := (a1 + 17)) 23 C dX7_farthestLeaning_20 fl_X7_204 ha1 rfl (of_2_9 ha1) rfl ?_
    refine x_iload 25 C dX7_farthestLeaning_23 4 rfl rfl ?_
    refine x_iald 26 C dX7_farthestLeaning_25 (ok_2_9 ha1) (ol_2_9 ha1) rfl ?_
    refine x_iload_n 27 C dX7_farthestLeaning_26 3 rfl rfl rfl ?_
    refine x_lt2 (q := 41) (ls := fun x4 x5 => [(0, .ref 0), (1, .ref a1), (2, .int x4), (3, .int x5), (4, .int x3)]) (st := fun x4 x5 => []) (hh := fun x4 x5 => h) (fun x4 x5 => ?_) (fun k2 J2 => ?_)
    · refine x_iinc 44 (fun x6 => [(4, .int x6), (0, .ref 0), (1, .ref a1), (2, .int x4), (3, .int x5)]) C dX7_farthestLeaning_41 4 rfl ci_1 n4 (fun _ => rfl) rfl (fun x6 => ?_)
      refine x_goto 7 C dX7_farthestLeaning_44 (by decide) ?_
      exact x_ls [1, 2, 3, 4, 0] rfl (J1 x4 x5 x6)
    refine x_icmp_le 30 41 C dX7_farthestLeaning_27 (by decide) rfl (fun _ => ?_) (fun _ => ?_)
    · exact x_ls [0, 1, 2, 3, 4] rfl (J2 x1 x2)
    · refine x_aload_n 31 C dX7_farthestLeaning_30 1 rfl rfl rfl ?_
      refine x_getR (c := (a1 + 17)) 34 C dX7_farthestLeaning_31 fl_X7_204 ha1 rfl (of_2_9 ha1) rfl ?_
      refine x_iload 36 C dX7_farthestLeaning_34 4 rfl rfl ?_
      refine x_iald 37 C dX7_farthestLeaning_36 (ok_2_9 ha1) (ol_2_9 ha1) rfl ?_
      refine x_ni (fun x7 => ?_)
      refine x_istore_n 38 [(3, .int x7), (0, .ref 0), (1, .ref a1), (2, .int x1), (4, .int x3)] C dX7_farthestLeaning_37 n3 rfl rfl rfl ?_
      refine x_iload 40 C dX7_farthestLeaning_38 4 rfl rfl ?_
      refine x_istore_n 41 [(2, .int x3), (3, .int x7), (0, .ref 0), (1, .ref a1), (4, .int x3)] C dX7_farthestLeaning_40 n2 rfl rfl rfl ?_
      exact x_ls [2, 3, 0, 1, 4] rfl (J2 x3 x7)

def f_X7_firstOver (h : Hp) (a1 : Nat) : Option Int32 :=
  fx3 FU (fun s1 (x1 : Int32) (x2 : Int32) (x3 : Int32) =>
    if (h.1 5 7) ≤ x3 then (
      some x1)
    else (
      ck x3 6 (
        lt2 (fun (x4 : Int32) (x5 : Int32) =>
          nm (x3 + (1 : Int32)) fun x6 =>
          s1 x4 x5 x6) fun k2 =>
        if (ia h (a1 + 10) x3) = (2 : Int32) then (
          ck x3 6 (
            if x2 ≤ (ia h (a1 + 15) x3) then (
              k2 x1 x2)
            else (
              ck x3 6 (
                nm (ia h (a1 + 15) x3) fun x7 =>
                k2 x3 x7))))
        else (
          k2 x1 x2)))) (-1 : Int32) (24 : Int32) (0 : Int32)
theorem dX7_firstOver_0 : decode cX7_firstOver 0 = .ok (.iconst (-1), 1) := by decide +kernel
theorem dX7_firstOver_1 : decode cX7_firstOver 1 = .ok (.istore_n 2, 1) := by decide +kernel
theorem dX7_firstOver_2 : decode cX7_firstOver 2 = .ok (.bipush 24, 2) := by decide +kernel
theorem dX7_firstOver_4 : decode cX7_firstOver 4 = .ok (.istore_n 3, 1) := by decide +kernel
theorem dX7_firstOver_5 : decode cX7_firstOver 5 = .ok (.iconst 0, 1) := by decide +kernel
theorem dX7_firstOver_6 : decode cX7_firstOver 6 = .ok (.istore 4, 2) := by decide +kernel
theorem dX7_firstOver_8 : decode cX7_firstOver 8 = .ok (.iload 4, 2) := by decide +kernel
theorem dX7_firstOver_10 : decode cX7_firstOver 10 = .ok (.aload_n 0, 1) := by decide +kernel
theorem dX7_firstOver_11 : decode cX7_firstOver 11 = .ok (.getfield 26, 3) := by decide +kernel
theorem dX7_firstOver_14 : decode cX7_firstOver 14 = .ok (.getfield 192, 3) := by decide +kernel
theorem dX7_firstOver_17 : decode cX7_firstOver 17 = .ok (.if_icmp .ge 42, 3) := by decide +kernel
theorem dX7_firstOver_20 : decode cX7_firstOver 20 = .ok (.aload_n 1, 1) := by decide +kernel
theorem dX7_firstOver_21 : decode cX7_firstOver 21 = .ok (.getfield 223, 3) := by decide +kernel
theorem dX7_firstOver_24 : decode cX7_firstOver 24 = .ok (.iload 4, 2) := by decide +kernel
theorem dX7_firstOver_26 : decode cX7_firstOver 26 = .ok (.iaload, 1) := by decide +kernel
theorem dX7_firstOver_27 : decode cX7_firstOver 27 = .ok (.iconst 2, 1) := by decide +kernel
theorem dX7_firstOver_28 : decode cX7_firstOver 28 = .ok (.if_icmp .ne 25, 3) := by decide +kernel
theorem dX7_firstOver_31 : decode cX7_firstOver 31 = .ok (.aload_n 1, 1) := by decide +kernel
theorem dX7_firstOver_32 : decode cX7_firstOver 32 = .ok (.getfield 198, 3) := by decide +kernel
theorem dX7_firstOver_35 : decode cX7_firstOver 35 = .ok (.iload 4, 2) := by decide +kernel
theorem dX7_firstOver_37 : decode cX7_firstOver 37 = .ok (.iaload, 1) := by decide +kernel
theorem dX7_firstOver_38 : decode cX7_firstOver 38 = .ok (.iload_n 3, 1) := by decide +kernel
theorem dX7_firstOver_39 : decode cX7_firstOver 39 = .ok (.if_icmp .ge 14, 3) := by decide +kernel
theorem dX7_firstOver_42 : decode cX7_firstOver 42 = .ok (.aload_n 1, 1) := by decide +kernel
theorem dX7_firstOver_43 : decode cX7_firstOver 43 = .ok (.getfield 198, 3) := by decide +kernel
theorem dX7_firstOver_46 : decode cX7_firstOver 46 = .ok (.iload 4, 2) := by decide +kernel
theorem dX7_firstOver_48 : decode cX7_firstOver 48 = .ok (.iaload, 1) := by decide +kernel
theorem dX7_firstOver_49 : decode cX7_firstOver 49 = .ok (.istore_n 3, 1) := by decide +kernel
theorem dX7_firstOver_50 : decode cX7_firstOver 50 = .ok (.iload 4, 2) := by decide +kernel
theorem dX7_firstOver_52 : decode cX7_firstOver 52 = .ok (.istore_n 2, 1) := by decide +kernel
theorem dX7_firstOver_53 : decode cX7_firstOver 53 = .ok (.iinc 4 1, 3) := by decide +kernel
theorem dX7_firstOver_56 : decode cX7_firstOver 56 = .ok (.goto (-48), 3) := by decide +kernel
theorem dX7_firstOver_59 : decode cX7_firstOver 59 = .ok (.iload_n 2, 1) := by decide +kernel
theorem dX7_firstOver_60 : decode cX7_firstOver 60 = .ok (.ireturn, 1) := by decide +kernel
set_option maxRecDepth 20000 in
theorem m_X7_firstOver {h : Hp} {a1 : Nat} (ha1 : sk a1 = 2) {u : Int32} (hu : f_X7_firstOver h a1 = some u) : Ct yX7_firstOver cX7_firstOver 5 (some .int) 0 [.ref 0, .ref a1] h ((rI h) u) := by
  refine ct_of (rI h) hu (by decide) (Nat.le_of_ble_eq_true rfl) (fun κ hn C E => ?_)
  have n2 : 2 < kn κ := by rw [hn]; decide
  have n3 : 3 < kn κ := by rw [hn]; decide
  have n4 : 4 < kn κ := by rw [hn]; decide
  unfold f_X7_firstOver
  show Xz κ _ 0 [(0, .ref 0), (1, .ref a1)] [] h
  refine x_iconst 1 C dX7_firstOver_0 ci_m1 rfl ?_
  refine x_istore_n 2 [(2, .int (-1 : Int32)), (0, .ref 0), (1, .ref a1)] C dX7_firstOver_1 n2 rfl rfl rfl ?_
  refine x_bipush 4 C dX7_firstOver_2 cb_24 rfl ?_
  refine x_istore_n 5 [(3, .int (24 : Int32)), (2, .int (-1 : Int32)), (0, .ref 0), (1, .ref a1)] C dX7_firstOver_4 n3 rfl rfl rfl ?_
  refine x_iconst 6 C dX7_firstOver_5 ci_0 rfl ?_
  refine x_istore 8 [(4, .int (0 : Int32)), (3, .int (24 : Int32)), (2, .int (-1 : Int32)), (0, .ref 0), (1, .ref a1)] C dX7_firstOver_6 n4 rfl rfl ?_
  refine x_ls [3, 4, 2, 1, 0] rfl (x_fx3 (ls := fun x1 x2 x3 => [(0, .ref 0), (1, .ref a1), (2, .int x1), (3, .int x2), (4, .int x3)]) (st := fun x1 x2 x3 => []) (hh := fun x1 x2 x3 => h) (fun s1 J1 x1 x2 x3 => ?_))
  refine x_iload 10 C dX7_firstOver_8 4 rfl rfl ?_
  refine x_aload_n 11 C dX7_firstOver_10 0 rfl rfl rfl ?_
  refine x_getR (c := 5) 14 C dX7_firstOver_11 fl_X7_26 sk_0 rfl sr_0_2 rfl ?_
  refine x_getI 17 C dX7_firstOver_14 fl_X7_192 sk_5 rfl rfl ?_
  refine x_icmp_ge 20 59 C dX7_firstOver_17 (by decide) rfl (fun _ => ?_) (fun _ => ?_)
  · refine x_iload_n 60 C dX7_firstOver_59 2 rfl rfl rfl ?_
    exact x_iret C E dX7_firstOver_60 rfl
  · refine x_aload_n 21 C dX7_firstOver_20 1 rfl rfl rfl ?_
    refine x_getR (c := (a1 + 10)) 24 C dX7_firstOver_21 fl_X7_223 ha1 rfl (of_2_2 ha1) rfl ?_
    refine x_iload 26 C dX7_firstOver_24 4 rfl rfl ?_
    refine x_iald 27 C dX7_firstOver_26 (ok_2_2 ha1) (ol_2_2 ha1) rfl ?_
    refine x_iconst 28 C dX7_firstOver_27 ci_2 rfl ?_
    refine x_lt2 (q := 53) (ls := fun x4 x5 => [(0, .ref 0), (1, .ref a1), (2, .int x4), (3, .int x5), (4, .int x3)]) (st := fun x4 x5 => []) (hh := fun x4 x5 => h) (fun x4 x5 => ?_) (fun k2 J2 => ?_)
    · refine x_iinc 56 (fun x6 => [(4, .int x6), (0, .ref 0), (1, .ref a1), (2, .int x4), (3, .int x5)]) C dX7_firstOver_53 4 rfl ci_1 n4 (fun _ => rfl) rfl (fun x6 => ?_)
      refine x_goto 8 C dX7_firstOver_56 (by decide) ?_
      exact x_ls [1, 2, 3, 4, 0] rfl (J1 x4 x5 x6)
    refine x_icmp_ne 31 53 C dX7_firstOver_28 (by decide) rfl (fun _ => ?_) (fun _ => ?_)
    · exact x_ls [0, 1, 2, 3, 4] rfl (J2 x1 x2)
    · refine x_aload_n 32 C dX7_firstOver_31 1 rfl rfl rfl ?_
      refine x_getR (c := (a1 + 15)) 35 C dX7_firstOver_32 fl_X7_198 ha1 rfl (of_2_7 ha1) rfl ?_
      refine x_iload 37 C dX7_firstOver_35 4 rfl rfl ?_
      refine x_iald 38 C dX7_firstOver_37 (ok_2_7 ha1) (ol_2_7 ha1) rfl ?_
      refine x_iload_n 39 C dX7_firstOver_38 3 rfl rfl rfl ?_
      refine x_icmp_ge 42 53 C dX7_firstOver_39 (by decide) rfl (fun _ => ?_) (fun _ => ?_)
      · exact x_ls [0, 1, 2, 3, 4] rfl (J2 x1 x2)
      · refine x_aload_n 43 C dX7_firstOver_42 1 rfl rfl rfl ?_
        refine x_getR (c := (a1 + 15)) 46 C dX7_firstOver_43 fl_X7_198 ha1 rfl (of_2_7 ha1) rfl ?_
        refine x_iload 48 C dX7_firstOver_46 4 rfl rfl ?_
        refine x_iald 49 C dX7_firstOver_48 (ok_2_7 ha1) (ol_2_7 ha1) rfl ?_
        refine x_ni (fun x7 => ?_)
        refine x_istore_n 50 [(3, .int x7), (0, .ref 0), (1, .ref a1), (2, .int x1), (4, .int x3)] C dX7_firstOver_49 n3 rfl rfl rfl ?_
        refine x_iload 52 C dX7_firstOver_50 4 rfl rfl ?_
        refine x_istore_n 53 [(2, .int x3), (3, .int x7), (0, .ref 0), (1, .ref a1), (4, .int x3)] C dX7_firstOver_52 n2 rfl rfl rfl ?_
        exact x_ls [2, 3, 0, 1, 4] rfl (J2 x3 x7)

def f_X7_who (h : Hp) (a1 : Int32) : Option (Hp × Int32) :=
  bdr (f_X7_within a1 (0 : Int32) (1 : Int32)) fun x1 =>
  if x1 = 0 then (
    some (h, (-2 : Int32)))
  else (
    bnd (f_X7_shown h) fun h2 c3 =>
    cy (sk c3 = 2) (
      if a1 = 0 then (
        bdr (f_X7_firstOver h2 c3) fun x6 =>
        some (h2, x6))
      else (
        bdr (f_X7_farthestLeaning h2 c3) fun x5 =>
        some (h2, x5))))
theorem dX7_who_0 : decode cX7_who 0 = .ok (.iload_n 1, 1) := by decide +kernel
theorem dX7_who_1 : decode cX7_who 1 = .ok (.iconst 0, 1) := by decide +kernel
theorem dX7_who_2 : decode cX7_who 2 = .ok (.iconst 1, 1) := by decide +kernel
theorem dX7_who_3 : decode cX7_who 3 = .ok (.invokestatic 85, 3) := by decide +kernel
theorem dX7_who_6 : decode cX7_who 6 = .ok (.ifCond .ne 6, 3) := by decide +kernel
theorem dX7_who_9 : decode cX7_who 9 = .ok (.bipush (-2), 2) := by decide +kernel
theorem dX7_who_11 : decode cX7_who 11 = .ok (.ireturn, 1) := by decide +kernel
theorem dX7_who_12 : decode cX7_who 12 = .ok (.aload_n 0, 1) := by decide +kernel
theorem dX7_who_13 : decode cX7_who 13 = .ok (.invokevirtual 171, 3) := by decide +kernel
theorem dX7_who_16 : decode cX7_who 16 = .ok (.astore_n 2, 1) := by decide +kernel
theorem dX7_who_17 : decode cX7_who 17 = .ok (.iload_n 1, 1) := by decide +kernel
theorem dX7_who_18 : decode cX7_who 18 = .ok (.ifCond .ne 11, 3) := by decide +kernel
theorem dX7_who_21 : decode cX7_who 21 = .ok (.aload_n 0, 1) := by decide +kernel
theorem dX7_who_22 : decode cX7_who 22 = .ok (.aload_n 2, 1) := by decide +kernel
theorem dX7_who_23 : decode cX7_who 23 = .ok (.invokevirtual 216, 3) := by decide +kernel
theorem dX7_who_26 : decode cX7_who 26 = .ok (.goto 8, 3) := by decide +kernel
theorem dX7_who_29 : decode cX7_who 29 = .ok (.aload_n 0, 1) := by decide +kernel
theorem dX7_who_30 : decode cX7_who 30 = .ok (.aload_n 2, 1) := by decide +kernel
theorem dX7_who_31 : decode cX7_who 31 = .ok (.invokevirtual 220, 3) := by decide +kernel
theorem dX7_who_34 : decode cX7_who 34 = .ok (.ireturn, 1) := by decide +kernel
set_option maxRecDepth 20000 in
theorem m_X7_who {h : Hp} {a1 : Int32}  {u : (Hp × Int32)} (hu : f_X7_who h a1 = some u) : Ct yX7_who cX7_who 3 (some .int) 5 [.ref 0, .int a1] h (eI u) := by
  refine ct_of eI hu (by decide) (Nat.le_of_ble_eq_true rfl) (fun κ hn C E => ?_)
  have n2 : 2 < kn κ := by rw [hn]; decide
  unfold f_X7_who
  show Xz κ _ 0 [(0, .ref 0), (1, .int a1)] [] h
  refine x_iload_n 1 C dX7_who_0 1 rfl rfl rfl ?_
  refine x_iconst 2 C dX7_who_1 ci_0 rfl ?_
  refine x_iconst 3 C dX7_who_2 ci_1 rfl ?_
  refine x_csi 6 [.int a1, .int (0 : Int32), .int (1 : Int32)] [] C 0 dX7_who_3 s_X7_85 (fun u hu => m_X7_within hu) rfl rfl (Nat.le_of_ble_eq_true rfl) (Nat.le_of_ble_eq_true rfl) rfl (fun x1 => ?_)
  refine x_if_ne 9 12 C dX7_who_6 (by decide) rfl (fun _ => ?_) (fun _ => ?_)
  · refine x_aload_n 13 C dX7_who_12 0 rfl rfl rfl ?_
    refine x_cvR 16 [] [] C 4 dX7_who_13 v_X7_171 (fun u hu => m_X7_shown hu) rfl sk_0 rfl (Nat.le_of_ble_eq_true rfl) (Nat.le_of_ble_eq_true rfl) rfl (fun h2 c3 => ?_)
    refine x_cy (fun hr4 => ?_)
    refine x_astore_n 17 [(2, .ref c3), (0, .ref 0), (1, .int a1)] C dX7_who_16 n2 rfl rfl rfl ?_
    refine x_iload_n 18 C dX7_who_17 2 rfl rfl rfl ?_
    refine x_if_ne 21 29 C dX7_who_18 (by decide) rfl (fun _ => ?_) (fun _ => ?_)
    · refine x_aload_n 30 C dX7_who_29 1 rfl rfl rfl ?_
      refine x_aload_n 31 C dX7_who_30 0 rfl rfl rfl ?_
      refine x_cvi 34 [.ref c3] [] C 0 dX7_who_31 v_X7_220 (fun u hu => m_X7_farthestLeaning hr4 hu) rfl sk_0 rfl (Nat.le_of_ble_eq_true rfl) (Nat.le_of_ble_eq_true rfl) rfl (fun x5 => ?_)
      exact x_iret C E dX7_who_34 rfl
    · refine x_aload_n 22 C dX7_who_21 1 rfl rfl rfl ?_
      refine x_aload_n 23 C dX7_who_22 0 rfl rfl rfl ?_
      refine x_cvi 26 [.ref c3] [] C 0 dX7_who_23 v_X7_216 (fun u hu => m_X7_firstOver hr4 hu) rfl sk_0 rfl (Nat.le_of_ble_eq_true rfl) (Nat.le_of_ble_eq_true rfl) rfl (fun x6 => ?_)
      refine x_goto 34 C dX7_who_26 (by decide) ?_
      exact x_iret C E dX7_who_34 rfl
  · refine x_bipush 11 C dX7_who_9 cb_m2 rfl ?_
    exact x_iret C E dX7_who_11 rfl

def f_X7_bare (h : Hp) : Option (Hp × Int32) :=
  bnd (f_X7_shown h) fun h1 c2 =>
  cy (sk c2 = 2) (
    fx2 FU (fun s1 (x4 : Int32) (x5 : Int32) =>
      if (24 : Int32) ≤ x5 then (
        some (h1, x4))
      else (
        lt1 (fun (x6 : Int32) =>
          lt1 (fun (x7 : Int32) =>
            nm (x4 + x7) fun x8 =>
            nm (x5 + (1 : Int32)) fun x9 =>
            s1 x8 x9) fun k3 =>
          if x6 = 0 then (
            k3 (1 : Int32))
          else (
            k3 (0 : Int32))) fun k2 =>
        fx2 FU (fun s4 (x10 : Int32) (x11 : Int32) =>
          if (h1.1 5 7) ≤ x11 then (
            k2 x10)
          else (
            lt1 (fun (x12 : Int32) =>
              nm (x11 + (1 : Int32)) fun x13 =>
              s4 x12 x13) fun k5 =>
            lt1 (fun (u14 : Int32) =>
              k5 (1 : Int32)) fun k6 =>
            if x10 = 0 then (
              bdr (f_X0_stateBehind h1 (c2 + 5) x5 x11) fun x15 =>
              if x15 = (1 : Int32) then (
                k6 (0 : Int32))
              else (
                k5 (0 : Int32)))
            else (
              k6 (0 : Int32)))) (0 : Int32) (0 : Int32))) (0 : Int32) (0 : Int32))
theorem dX7_bare_0 : decode cX7_bare 0 = .ok (.aload_n 0, 1) := by decide +kernel
theorem dX7_bare_1 : decode cX7_bare 1 = .ok (.invokevirtual 171, 3) := by decide +kernel
theorem dX7_bare_4 : decode cX7_bare 4 = .ok (.getfield 175, 3) := by decide +kernel
theorem dX7_bare_7 : decode cX7_bare 7 = .ok (.astore_n 1, 1) := by decide +kernel
theorem dX7_bare_8 : decode cX7_bare 8 = .ok (.iconst 0, 1) := by decide +kernel
theorem dX7_bare_9 : decode cX7_bare 9 = .ok (.istore_n 2, 1) := by decide +kernel
theorem dX7_bare_10 : decode cX7_bare 10 = .ok (.iconst 0, 1) := by decide +kernel
theorem dX7_bare_11 : decode cX7_bare 11 = .ok (.istore_n 3, 1) := by decide +kernel
theorem dX7_bare_12 : decode cX7_bare 12 = .ok (.iload_n 3, 1) := by decide +kernel
theorem dX7_bare_13 : decode cX7_bare 13 = .ok (.bipush 24, 2) := by decide +kernel
theorem dX7_bare_15 : decode cX7_bare 15 = .ok (.if_icmp .ge 69, 3) := by decide +kernel
theorem dX7_bare_18 : decode cX7_bare 18 = .ok (.iconst 0, 1) := by decide +kernel
theorem dX7_bare_19 : decode cX7_bare 19 = .ok (.istore 4, 2) := by decide +kernel
theorem dX7_bare_21 : decode cX7_bare 21 = .ok (.iconst 0, 1) := by decide +kernel
theorem dX7_bare_22 : decode cX7_bare 22 = .ok (.istore 5, 2) := by decide +kernel
theorem dX7_bare_24 : decode cX7_bare 24 = .ok (.iload 5, 2) := by decide +kernel
theorem dX7_bare_26 : decode cX7_bare 26 = .ok (.aload_n 0, 1) := by decide +kernel
theorem dX7_bare_27 : decode cX7_bare 27 = .ok (.getfield 26, 3) := by decide +kernel
theorem dX7_bare_30 : decode cX7_bare 30 = .ok (.getfield 192, 3) := by decide +kernel
theorem dX7_bare_33 : decode cX7_bare 33 = .ok (.if_icmp .ge 32, 3) := by decide +kernel
theorem dX7_bare_36 : decode cX7_bare 36 = .ok (.iload 4, 2) := by decide +kernel
theorem dX7_bare_38 : decode cX7_bare 38 = .ok (.ifCond .ne 14, 3) := by decide +kernel
theorem dX7_bare_41 : decode cX7_bare 41 = .ok (.aload_n 1, 1) := by decide +kernel
theorem dX7_bare_42 : decode cX7_bare 42 = .ok (.iload_n 3, 1) := by decide +kernel
theorem dX7_bare_43 : decode cX7_bare 43 = .ok (.iload 5, 2) := by decide +kernel
theorem dX7_bare_45 : decode cX7_bare 45 = .ok (.invokevirtual 179, 3) := by decide +kernel
theorem dX7_bare_48 : decode cX7_bare 48 = .ok (.iconst 1, 1) := by decide +kernel
theorem dX7_bare_49 : decode cX7_bare 49 = .ok (.if_icmp .ne 7, 3) := by decide +kernel
theorem dX7_bare_52 : decode cX7_bare 52 = .ok (.iconst 1, 1) := by decide +kernel
theorem dX7_bare_53 : decode cX7_bare 53 = .ok (.goto 4, 3) := by decide +kernel
theorem dX7_bare_56 : decode cX7_bare 56 = .ok (.iconst 0, 1) := by decide +kernel
theorem dX7_bare_57 : decode cX7_bare 57 = .ok (.istore 4, 2) := by decide +kernel
theorem dX7_bare_59 : decode cX7_bare 59 = .ok (.iinc 5 1, 3) := by decide +kernel
theorem dX7_bare_62 : decode cX7_bare 62 = .ok (.goto (-38), 3) := by decide +kernel
theorem dX7_bare_65 : decode cX7_bare 65 = .ok (.iload_n 2, 1) := by decide +kernel
theorem dX7_bare_66 : decode cX7_bare 66 = .ok (.iload 4, 2) := by decide +kernel
theorem dX7_bare_68 : decode cX7_bare 68 = .ok (.ifCond .eq 7, 3) := by decide +kernel
theorem dX7_bare_71 : decode cX7_bare 71 = .ok (.iconst 0, 1) := by decide +kernel
theorem dX7_bare_72 : decode cX7_bare 72 = .ok (.goto 4, 3) := by decide +kernel
theorem dX7_bare_75 : decode cX7_bare 75 = .ok (.iconst 1, 1) := by decide +kernel
theorem dX7_bare_76 : decode cX7_bare 76 = .ok (.iadd, 1) := by decide +kernel
theorem dX7_bare_77 : decode cX7_bare 77 = .ok (.istore_n 2, 1) := by decide +kernel
theorem dX7_bare_78 : decode cX7_bare 78 = .ok (.iinc 3 1, 3) := by decide +kernel
theorem dX7_bare_81 : decode cX7_bare 81 = .ok (.goto (-69), 3) := by decide +kernel
theorem dX7_bare_84 : decode cX7_bare 84 = .ok (.iload_n 2, 1) := by decide +kernel
theorem dX7_bare_85 : decode cX7_bare 85 = .ok (.ireturn, 1) := by decide +kernel
set_option maxRecDepth 20000 in
theorem m_X7_bare {h : Hp}  {u : (Hp × Int32)} (hu : f_X7_bare h = some u) : Ct yX7_bare cX7_bare 6 (some .int) 5 [.ref 0] h (eI u) := by
  refine ct_of eI hu (by decide) (Nat.le_of_ble_eq_true rfl) (fun κ hn C E => ?_)
  have n1 : 1 < kn κ := by rw [hn]; decide
  have n2 : 2 < kn κ := by rw [hn]; decide
  have n3 : 3 < kn κ := by rw [hn]; decide
  have n4 : 4 < kn κ := by rw [hn]; decide
  have n5 : 5 < kn κ := by rw [hn]; decide
  unfold f_X7_bare
  show Xz κ _ 0 [(0, .ref 0)] [] h
  refine x_aload_n 1 C dX7_bare_0 0 rfl rfl rfl ?_
  refine x_cvR 4 [] [] C 4 dX7_bare_1 v_X7_171 (fun u hu => m_X7_shown hu) rfl sk_0 rfl (Nat.le_of_ble_eq_true rfl) (Nat.le_of_ble_eq_true rfl) rfl (fun h1 c2 => ?_)
  refine x_cy (fun hr3 => ?_)
  refine x_getR (c := (c2 + 5)) 7 C dX7_bare_4 fl_X7_175 hr3 rfl (of_2_1 hr3) rfl ?_
  refine x_astore_n 8 [(1, .ref (c2 + 5)), (0, .ref 0)] C dX7_bare_7 n1 rfl rfl rfl ?_
  refine x_iconst 9 C dX7_bare_8 ci_0 rfl ?_
  refine x_istore_n 10 [(2, .int (0 : Int32)), (1, .ref (c2 + 5)), (0, .ref 0)] C dX7_bare_9 n2 rfl rfl rfl ?_
  refine x_iconst 11 C dX7_bare_10 ci_0 rfl ?_
  refine x_istore_n 12 [(3, .int (0 : Int32)), (2, .int (0 : Int32)), (1, .ref (c2 + 5)), (0, .ref 0)] C dX7_bare_11 n3 rfl rfl rfl ?_
  refine x_ls [3, 2, 1, 0] rfl (x_fx2 (ls := fun x4 x5 => [(0, .ref 0), (1, .ref (c2 + 5)), (2, .int x4), (3, .int x5)]) (st := fun x4 x5 => []) (hh := fun x4 x5 => h1) (fun s1 J1 x4 x5 => ?_))
  refine x_iload_n 13 C dX7_bare_12 3 rfl rfl rfl ?_
  refine x_bipush 15 C dX7_bare_13 cb_24 rfl ?_
  refine x_icmp_ge 18 84 C dX7_bare_15 (by decide) rfl (fun _ => ?_) (fun _ => ?_)
  · refine x_iload_n 85 C dX7_bare_84 2 rfl rfl rfl ?_
    exact x_iret C E dX7_bare_85 rfl
  · refine x_iconst 19 C dX7_bare_18 ci_0 rfl ?_
    refine x_istore 21 [(4, .int (0 : Int32)), (0, .ref 0), (1, .ref (c2 + 5)), (2, .int x4), (3, .int x5)] C dX7_bare_19 n4 rfl rfl ?_
    refine x_iconst 22 C dX7_bare_21 ci_0 rfl ?_
    refine x_istore 24 [(5, .int (0 : Int32)), (4, .int (0 : Int32)), (0, .ref 0), (1, .ref (c2 + 5)), (2, .int x4), (3, .int x5)] C dX7_bare_22 n5 rfl rfl ?_
    refine x_lt1 (q := 65) (ls := fun x6 => [(0, .ref 0), (1, .ref (c2 + 5)), (2, .int x4), (3, .int x5), (4, .int x6)]) (st := fun x6 => []) (hh := fun x6 => h1) (fun x6 => ?_) (fun k2 J2 => ?_)
    · refine x_iload_n 66 C dX7_bare_65 2 rfl rfl rfl ?_
      refine x_iload 68 C dX7_bare_66 4 rfl rfl ?_
      refine x_lt1 (q := 76) (ls := fun x7 => [(0, .ref 0), (1, .ref (c2 + 5)), (3, .int x5)]) (st := fun x7 => [.int x7, .int x4]) (hh := fun x7 => h1) (fun x7 => ?_) (fun k3 J3 => ?_)
      · refine x_iadd 77 C dX7_bare_76 rfl ?_
        refine x_ni (fun x8 => ?_)
        refine x_istore_n 78 [(2, .int x8), (0, .ref 0), (1, .ref (c2 + 5)), (3, .int x5)] C dX7_bare_77 n2 rfl rfl rfl ?_
        refine x_iinc 81 (fun x9 => [(3, .int x9), (2, .int x8), (0, .ref 0), (1, .ref (c2 + 5))]) C dX7_bare_78 3 rfl ci_1 n3 (fun _ => rfl) rfl (fun x9 => ?_)
        refine x_goto 12 C dX7_bare_81 (by decide) ?_
        exact x_ls [2, 3, 1, 0] rfl (J1 x8 x9)
      refine x_if_eq 71 75 C dX7_bare_68 (by decide) rfl (fun _ => ?_) (fun _ => ?_)
      · refine x_iconst 76 C dX7_bare_75 ci_1 rfl ?_
        exact x_ls [0, 1, 3] rfl (J3 (1 : Int32))
      · refine x_iconst 72 C dX7_bare_71 ci_0 rfl ?_
        refine x_goto 76 C dX7_bare_72 (by decide) ?_
        exact x_ls [0, 1, 3] rfl (J3 (0 : Int32))
    refine x_ls [2, 3, 4, 5, 1, 0] rfl (x_fx2 (ls := fun x10 x11 => [(0, .ref 0), (1, .ref (c2 + 5)), (2, .int x4), (3, .int x5), (4, .int x10), (5, .int x11)]) (st := fun x10 x11 => []) (hh := fun x10 x11 => h1) (fun s4 J4 x10 x11 => ?_))
    refine x_iload 26 C dX7_bare_24 5 rfl rfl ?_
    refine x_aload_n 27 C dX7_bare_26 0 rfl rfl rfl ?_
    refine x_getR (c := 5) 30 C dX7_bare_27 fl_X7_26 sk_0 rfl sr_0_2 rfl ?_
    refine x_getI 33 C dX7_bare_30 fl_X7_192 sk_5 rfl rfl ?_
    refine x_icmp_ge 36 65 C dX7_bare_33 (by decide) rfl (fun _ => ?_) (fun _ => ?_)
    · exact x_ls [0, 1, 2, 3, 4] rfl (J2 x10)
    · refine x_iload 38 C dX7_bare_36 4 rfl rfl ?_
      refine x_lt1 (q := 57) (ls := fun x12 => [(0, .ref 0), (1, .ref (c2 + 5)), (2, .int x4), (3, .int x5), (5, .int x11)]) (st := fun x12 => [.int x12]) (hh := fun x12 => h1) (fun x12 => ?_) (fun k5 J5 => ?_)
      · refine x_istore 59 [(4, .int x12), (0, .ref 0), (1, .ref (c2 + 5)), (2, .int x4), (3, .int x5), (5, .int x11)] C dX7_bare_57 n4 rfl rfl ?_
        refine x_iinc 62 (fun x13 => [(5, .int x13), (4, .int x12), (0, .ref 0), (1, .ref (c2 + 5)), (2, .int x4), (3, .int x5)]) C dX7_bare_59 5 rfl ci_1 n5 (fun _ => rfl) rfl (fun x13 => ?_)
        refine x_goto 24 C dX7_bare_62 (by decide) ?_
        exact x_ls [2, 3, 4, 5, 1, 0] rfl (J4 x12 x13)
      refine x_lt1 (q := 52) (ls := fun u14 => [(0, .ref 0), (1, .ref (c2 + 5)), (2, .int x4), (3, .int x5), (5, .int x11)]) (st := fun u14 => []) (hh := fun u14 => h1) (fun u14 => ?_) (fun k6 J6 => ?_)
      · refine x_iconst 53 C dX7_bare_52 ci_1 rfl ?_
        refine x_goto 57 C dX7_bare_53 (by decide) ?_
        exact x_ls [0, 1, 2, 3, 4] rfl (J5 (1 : Int32))
      refine x_if_ne 41 52 C dX7_bare_38 (by decide) rfl (fun _ => ?_) (fun _ => ?_)
      · exact x_ls [0, 1, 2, 3, 5] rfl (J6 (0 : Int32))
      · refine x_aload_n 42 C dX7_bare_41 1 rfl rfl rfl ?_
        refine x_iload_n 43 C dX7_bare_42 3 rfl rfl rfl ?_
        refine x_iload 45 C dX7_bare_43 5 rfl rfl ?_
        refine x_cvi 48 [.int x5, .int x11] [] C 1 dX7_bare_45 v_X7_179 (fun u hu => m_X0_stateBehind (ok_2_1 hr3) hu) rfl (ok_2_1 hr3) rfl (Nat.le_of_ble_eq_true rfl) (Nat.le_of_ble_eq_true rfl) rfl (fun x15 => ?_)
        refine x_iconst 49 C dX7_bare_48 ci_1 rfl ?_
        refine x_icmp_ne 52 56 C dX7_bare_49 (by decide) rfl (fun _ => ?_) (fun _ => ?_)
        · refine x_iconst 57 C dX7_bare_56 ci_0 rfl ?_
          exact x_ls [0, 1, 2, 3, 5] rfl (J5 (0 : Int32))
        · exact x_ls [0, 1, 2, 3, 5] rfl (J6 (0 : Int32))

def f_X7_chooseFor (h : Hp) (a1 : Nat) (a2 : Int32) (a3 : Int32) : Option Hp :=
  nm (uf h 0 13 (-1 : Int32)) fun h1 =>
  nm (uf h1 0 14 (-1 : Int32)) fun h2 =>
  if a2 < 0 then (
    some h2)
  else (
    if a2 < (nI (sl a1)) then (
      ck a2 (sl a1) (
        nm (ia h2 a1 a2) fun x3 =>
        fx2 FU (fun s1 (h4 : Hp) (x5 : Int32) =>
          if a3 ≤ x5 then (
            ck a2 (sl a1) (nm (ux h4 a1 a2 x3) fun h6 =>
            some h6))
          else (
            ck a2 (sl a1) (nm (ux h4 a1 a2 x5) fun h7 =>
            bdv (f_X2_play h7 36 9 (0 : Int32) (0 : Int32)) fun h8 =>
            lt1 (fun (h9 : Hp) =>
              nm (x5 + (1 : Int32)) fun x10 =>
              s1 h9 x10) fun k2 =>
            if (h8.1 36 13) ≤ (h8.1 0 14) then (
              k2 h8)
            else (
              nm (uf h8 0 14 (h8.1 36 13)) fun h11 =>
              nm (uf h11 0 13 x5) fun h12 =>
              k2 h12)))) h2 (0 : Int32)))
    else (
      some h2))
theorem dX7_chooseFor_0 : decode cX7_chooseFor 0 = .ok (.aload_n 0, 1) := by decide +kernel
theorem dX7_chooseFor_1 : decode cX7_chooseFor 1 = .ok (.iconst (-1), 1) := by decide +kernel
theorem dX7_chooseFor_2 : decode cX7_chooseFor 2 = .ok (.putfield 74, 3) := by decide +kernel
theorem dX7_chooseFor_5 : decode cX7_chooseFor 5 = .ok (.aload_n 0, 1) := by decide +kernel
theorem dX7_chooseFor_6 : decode cX7_chooseFor 6 = .ok (.iconst (-1), 1) := by decide +kernel
theorem dX7_chooseFor_7 : decode cX7_chooseFor 7 = .ok (.putfield 78, 3) := by decide +kernel
theorem dX7_chooseFor_10 : decode cX7_chooseFor 10 = .ok (.iload_n 2, 1) := by decide +kernel
theorem dX7_chooseFor_11 : decode cX7_chooseFor 11 = .ok (.ifCond .lt 9, 3) := by decide +kernel
theorem dX7_chooseFor_14 : decode cX7_chooseFor 14 = .ok (.iload_n 2, 1) := by decide +kernel
theorem dX7_chooseFor_15 : decode cX7_chooseFor 15 = .ok (.aload_n 1, 1) := by decide +kernel
theorem dX7_chooseFor_16 : decode cX7_chooseFor 16 = .ok (.arraylength, 1) := by decide +kernel
theorem dX7_chooseFor_17 : decode cX7_chooseFor 17 = .ok (.if_icmp .lt 4, 3) := by decide +kernel
theorem dX7_chooseFor_20 : decode cX7_chooseFor 20 = .ok (.return_, 1) := by decide +kernel
theorem dX7_chooseFor_21 : decode cX7_chooseFor 21 = .ok (.aload_n 1, 1) := by decide +kernel
theorem dX7_chooseFor_22 : decode cX7_chooseFor 22 = .ok (.iload_n 2, 1) := by decide +kernel
theorem dX7_chooseFor_23 : decode cX7_chooseFor 23 = .ok (.iaload, 1) := by decide +kernel
theorem dX7_chooseFor_24 : decode cX7_chooseFor 24 = .ok (.istore 4, 2) := by decide +kernel
theorem dX7_chooseFor_26 : decode cX7_chooseFor 26 = .ok (.iconst 0, 1) := by decide +kernel
theorem dX7_chooseFor_27 : decode cX7_chooseFor 27 = .ok (.istore 5, 2) := by decide +kernel
theorem dX7_chooseFor_29 : decode cX7_chooseFor 29 = .ok (.iload 5, 2) := by decide +kernel
theorem dX7_chooseFor_31 : decode cX7_chooseFor 31 = .ok (.iload_n 3, 1) := by decide +kernel
theorem dX7_chooseFor_32 : decode cX7_chooseFor 32 = .ok (.if_icmp .ge 65, 3) := by decide +kernel
theorem dX7_chooseFor_35 : decode cX7_chooseFor 35 = .ok (.aload_n 1, 1) := by decide +kernel
theorem dX7_chooseFor_36 : decode cX7_chooseFor 36 = .ok (.iload_n 2, 1) := by decide +kernel
theorem dX7_chooseFor_37 : decode cX7_chooseFor 37 = .ok (.iload 5, 2) := by decide +kernel
theorem dX7_chooseFor_39 : decode cX7_chooseFor 39 = .ok (.iastore, 1) := by decide +kernel
theorem dX7_chooseFor_40 : decode cX7_chooseFor 40 = .ok (.aload_n 0, 1) := by decide +kernel
theorem dX7_chooseFor_41 : decode cX7_chooseFor 41 = .ok (.getfield 44, 3) := by decide +kernel
theorem dX7_chooseFor_44 : decode cX7_chooseFor 44 = .ok (.aload_n 0, 1) := by decide +kernel
theorem dX7_chooseFor_45 : decode cX7_chooseFor 45 = .ok (.getfield 26, 3) := by decide +kernel
theorem dX7_chooseFor_48 : decode cX7_chooseFor 48 = .ok (.aload_n 0, 1) := by decide +kernel
theorem dX7_chooseFor_49 : decode cX7_chooseFor 49 = .ok (.getfield 26, 3) := by decide +kernel
theorem dX7_chooseFor_52 : decode cX7_chooseFor 52 = .ok (.getfield 129, 3) := by decide +kernel
theorem dX7_chooseFor_55 : decode cX7_chooseFor 55 = .ok (.iconst 0, 1) := by decide +kernel
theorem dX7_chooseFor_56 : decode cX7_chooseFor 56 = .ok (.iconst 0, 1) := by decide +kernel
theorem dX7_chooseFor_57 : decode cX7_chooseFor 57 = .ok (.invokevirtual 233, 3) := by decide +kernel
theorem dX7_chooseFor_60 : decode cX7_chooseFor 60 = .ok (.aload_n 0, 1) := by decide +kernel
theorem dX7_chooseFor_61 : decode cX7_chooseFor 61 = .ok (.getfield 44, 3) := by decide +kernel
theorem dX7_chooseFor_64 : decode cX7_chooseFor 64 = .ok (.getfield 207, 3) := by decide +kernel
theorem dX7_chooseFor_67 : decode cX7_chooseFor 67 = .ok (.aload_n 0, 1) := by decide +kernel
theorem dX7_chooseFor_68 : decode cX7_chooseFor 68 = .ok (.getfield 78, 3) := by decide +kernel
theorem dX7_chooseFor_71 : decode cX7_chooseFor 71 = .ok (.if_icmp .le 20, 3) := by decide +kernel
theorem dX7_chooseFor_74 : decode cX7_chooseFor 74 = .ok (.aload_n 0, 1) := by decide +kernel
theorem dX7_chooseFor_75 : decode cX7_chooseFor 75 = .ok (.aload_n 0, 1) := by decide +kernel
theorem dX7_chooseFor_76 : decode cX7_chooseFor 76 = .ok (.getfield 44, 3) := by decide +kernel
theorem dX7_chooseFor_79 : decode cX7_chooseFor 79 = .ok (.getfield 207, 3) := by decide +kernel
theorem dX7_chooseFor_82 : decode cX7_chooseFor 82 = .ok (.putfield 78, 3) := by decide +kernel
theorem dX7_chooseFor_85 : decode cX7_chooseFor 85 = .ok (.aload_n 0, 1) := by decide +kernel
theorem dX7_chooseFor_86 : decode cX7_chooseFor 86 = .ok (.iload 5, 2) := by decide +kernel
theorem dX7_chooseFor_88 : decode cX7_chooseFor 88 = .ok (.putfield 74, 3) := by decide +kernel
theorem dX7_chooseFor_91 : decode cX7_chooseFor 91 = .ok (.iinc 5 1, 3) := by decide +kernel
theorem dX7_chooseFor_94 : decode cX7_chooseFor 94 = .ok (.goto (-65), 3) := by decide +kernel
theorem dX7_chooseFor_97 : decode cX7_chooseFor 97 = .ok (.aload_n 1, 1) := by decide +kernel
theorem dX7_chooseFor_98 : decode cX7_chooseFor 98 = .ok (.iload_n 2, 1) := by decide +kernel
theorem dX7_chooseFor_99 : decode cX7_chooseFor 99 = .ok (.iload 4, 2) := by decide +kernel
theorem dX7_chooseFor_101 : decode cX7_chooseFor 101 = .ok (.iastore, 1) := by decide +kernel
theorem dX7_chooseFor_102 : decode cX7_chooseFor 102 = .ok (.return_, 1) := by decide +kernel
set_option maxRecDepth 20000 in
theorem m_X7_chooseFor {h : Hp} {a1 : Nat} {a2 : Int32} {a3 : Int32} (ha1 : sk a1 = 9) {u : Hp} (hu : f_X7_chooseFor h a1 a2 a3 = some u) : Ct yX7_chooseFor cX7_chooseFor 6 none 4 [.ref 0, .ref a1, .int a2, .int a3] h (eV u) := by
  refine ct_of eV hu (by decide) (Nat.le_of_ble_eq_true rfl) (fun κ hn C E => ?_)
  have n4 : 4 < kn κ := by rw [hn]; decide
  have n5 : 5 < kn κ := by rw [hn]; decide
  unfold f_X7_chooseFor
  show Xz κ _ 0 [(0, .ref 0), (1, .ref a1), (2, .int a2), (3, .int a3)] [] h
  refine x_aload_n 1 C dX7_chooseFor_0 0 rfl rfl rfl ?_
  refine x_iconst 2 C dX7_chooseFor_1 ci_m1 rfl ?_
  refine x_put 5 C dX7_chooseFor_2 fp_X7_74 sk_0 rfl rfl rfl rfl (fun h1 => ?_)
  refine x_aload_n 6 C dX7_chooseFor_5 0 rfl rfl rfl ?_
  refine x_iconst 7 C dX7_chooseFor_6 ci_m1 rfl ?_
  refine x_put 10 C dX7_chooseFor_7 fp_X7_78 sk_0 rfl rfl rfl rfl (fun h2 => ?_)
  refine x_iload_n 11 C dX7_chooseFor_10 2 rfl rfl rfl ?_
  refine x_if_lt 14 20 C dX7_chooseFor_11 (by decide) rfl (fun _ => ?_) (fun _ => ?_)
  · exact x_vret C E dX7_chooseFor_20 rfl
  · refine x_iload_n 15 C dX7_chooseFor_14 2 rfl rfl rfl ?_
    refine x_aload_n 16 C dX7_chooseFor_15 1 rfl rfl rfl ?_
    refine x_alen 17 C dX7_chooseFor_16 ha1 rfl rfl ?_
    refine x_icmp_lt 20 21 C dX7_chooseFor_17 (by decide) rfl (fun _ => ?_) (fun _ => ?_)
    · refine x_aload_n 22 C dX7_chooseFor_21 1 rfl rfl rfl ?_
      refine x_iload_n 23 C dX7_chooseFor_22 2 rfl rfl rfl ?_
      refine x_iald 24 C dX7_chooseFor_23 ha1 rfl rfl ?_
      refine x_ni (fun x3 => ?_)
      refine x_istore 26 [(4, .int x3), (0, .ref 0), (1, .ref a1), (2, .int a2), (3, .int a3)] C dX7_chooseFor_24 n4 rfl rfl ?_
      refine x_iconst 27 C dX7_chooseFor_26 ci_0 rfl ?_
      refine x_istore 29 [(5, .int (0 : Int32)), (4, .int x3), (0, .ref 0), (1, .ref a1), (2, .int a2), (3, .int a3)] C dX7_chooseFor_27 n5 rfl rfl ?_
      refine x_ls [2, 3, 4, 5, 1, 0] rfl (x_fx2 (ls := fun h4 x5 => [(0, .ref 0), (1, .ref a1), (2, .int a2), (3, .int a3), (4, .int x3), (5, .int x5)]) (st := fun h4 x5 => []) (hh := fun h4 x5 => h4) (fun s1 J1 h4 x5 => ?_))
      refine x_iload 31 C dX7_chooseFor_29 5 rfl rfl ?_
      refine x_iload_n 32 C dX7_chooseFor_31 3 rfl rfl rfl ?_
      refine x_icmp_ge 35 97 C dX7_chooseFor_32 (by decide) rfl (fun _ => ?_) (fun _ => ?_)
      · refine x_aload_n 98 C dX7_chooseFor_97 1 rfl rfl rfl ?_
        refine x_iload_n 99 C dX7_chooseFor_98 2 rfl rfl rfl ?_
        refine x_iload 101 C dX7_chooseFor_99 4 rfl rfl ?_
        refine x_iast 102 C dX7_chooseFor_101 ha1 rfl rfl (fun h6 => ?_)
        exact x_vret C E dX7_chooseFor_102 rfl
      · refine x_aload_n 36 C dX7_chooseFor_35 1 rfl rfl rfl ?_
        refine x_iload_n 37 C dX7_chooseFor_36 2 rfl rfl rfl ?_
        refine x_iload 39 C dX7_chooseFor_37 5 rfl rfl ?_
        refine x_iast 40 C dX7_chooseFor_39 ha1 rfl rfl (fun h7 => ?_)
        refine x_aload_n 41 C dX7_chooseFor_40 0 rfl rfl rfl ?_
        refine x_getR (c := 36) 44 C dX7_chooseFor_41 fl_X7_44 sk_0 rfl sr_0_5 rfl ?_
        refine x_aload_n 45 C dX7_chooseFor_44 0 rfl rfl rfl ?_
        refine x_getR (c := 5) 48 C dX7_chooseFor_45 fl_X7_26 sk_0 rfl sr_0_2 rfl ?_
        refine x_aload_n 49 C dX7_chooseFor_48 0 rfl rfl rfl ?_
        refine x_getR (c := 5) 52 C dX7_chooseFor_49 fl_X7_26 sk_0 rfl sr_0_2 rfl ?_
        refine x_getR (c := 9) 55 C dX7_chooseFor_52 fl_X7_129 sk_5 rfl sr_5_3 rfl ?_
        refine x_iconst 56 C dX7_chooseFor_55 ci_0 rfl ?_
        refine x_iconst 57 C dX7_chooseFor_56 ci_0 rfl ?_
        refine x_cvV 60 [.ref 5, .ref 9, .int (0 : Int32), .int (0 : Int32)] [] C 3 dX7_chooseFor_57 v_X7_233 (fun u hu => m_X2_play sk_36 sk_9 hu) rfl sk_36 rfl (Nat.le_of_ble_eq_true rfl) (Nat.le_of_ble_eq_true rfl) rfl (fun h8 => ?_)
        refine x_aload_n 61 C dX7_chooseFor_60 0 rfl rfl rfl ?_
        refine x_getR (c := 36) 64 C dX7_chooseFor_61 fl_X7_44 sk_0 rfl sr_0_5 rfl ?_
        refine x_getI 67 C dX7_chooseFor_64 fl_X7_207 sk_36 rfl rfl ?_
        refine x_aload_n 68 C dX7_chooseFor_67 0 rfl rfl rfl ?_
        refine x_getI 71 C dX7_chooseFor_68 fl_X7_78 sk_0 rfl rfl ?_
        refine x_lt1 (q := 91) (ls := fun h9 => [(0, .ref 0), (1, .ref a1), (2, .int a2), (3, .int a3), (4, .int x3), (5, .int x5)]) (st := fun h9 => []) (hh := fun h9 => h9) (fun h9 => ?_) (fun k2 J2 => ?_)
        · refine x_iinc 94 (fun x10 => [(5, .int x10), (0, .ref 0), (1, .ref a1), (2, .int a2), (3, .int a3), (4, .int x3)]) C dX7_chooseFor_91 5 rfl ci_1 n5 (fun _ => rfl) rfl (fun x10 => ?_)
          refine x_goto 29 C dX7_chooseFor_94 (by decide) ?_
          exact x_ls [1, 2, 3, 4, 5, 0] rfl (J1 h9 x10)
        refine x_icmp_le 74 91 C dX7_chooseFor_71 (by decide) rfl (fun _ => ?_) (fun _ => ?_)
        · exact x_ls [0, 1, 2, 3, 4, 5] rfl (J2 h8)
        · refine x_aload_n 75 C dX7_chooseFor_74 0 rfl rfl rfl ?_
          refine x_aload_n 76 C dX7_chooseFor_75 0 rfl rfl rfl ?_
          refine x_getR (c := 36) 79 C dX7_chooseFor_76 fl_X7_44 sk_0 rfl sr_0_5 rfl ?_
          refine x_getI 82 C dX7_chooseFor_79 fl_X7_207 sk_36 rfl rfl ?_
          refine x_put 85 C dX7_chooseFor_82 fp_X7_78 sk_0 rfl rfl rfl rfl (fun h11 => ?_)
          refine x_aload_n 86 C dX7_chooseFor_85 0 rfl rfl rfl ?_
          refine x_iload 88 C dX7_chooseFor_86 5 rfl rfl ?_
          refine x_put 91 C dX7_chooseFor_88 fp_X7_74 sk_0 rfl rfl rfl rfl (fun h12 => ?_)
          exact x_ls [0, 1, 2, 3, 4, 5] rfl (J2 h12)
    · exact x_vret C E dX7_chooseFor_20 rfl

def f_X7_start (h : Hp) (a1 : Int32) (a2 : Int32) : Option (Hp × Int32) :=
  bdr (f_X7_isWalker h a1) fun x1 =>
  if x1 = 0 then (
    some (h, (-2 : Int32)))
  else (
    bdr (f_X7_within a2 (0 : Int32) (1 : Int32)) fun x2 =>
    if x2 = 0 then (
      some (h, (-2 : Int32)))
    else (
      bdv (f_X7_chooseFor h 6 a1 (24 : Int32)) fun h3 =>
      if a2 = 0 then (
        some (h3, (h3.1 0 13)))
      else (
        some (h3, (h3.1 0 14)))))
theorem dX7_start_0 : decode cX7_start 0 = .ok (.aload_n 0, 1) := by decide +kernel
theorem dX7_start_1 : decode cX7_start 1 = .ok (.iload_n 1, 1) := by decide +kernel
theorem dX7_start_2 : decode cX7_start 2 = .ok (.invokevirtual 113, 3) := by decide +kernel
theorem dX7_start_5 : decode cX7_start 5 = .ok (.ifCond .eq 12, 3) := by decide +kernel
theorem dX7_start_8 : decode cX7_start 8 = .ok (.iload_n 2, 1) := by decide +kernel
theorem dX7_start_9 : decode cX7_start 9 = .ok (.iconst 0, 1) := by decide +kernel
theorem dX7_start_10 : decode cX7_start 10 = .ok (.iconst 1, 1) := by decide +kernel
theorem dX7_start_11 : decode cX7_start 11 = .ok (.invokestatic 85, 3) := by decide +kernel
theorem dX7_start_14 : decode cX7_start 14 = .ok (.ifCond .ne 6, 3) := by decide +kernel
theorem dX7_start_17 : decode cX7_start 17 = .ok (.bipush (-2), 2) := by decide +kernel
theorem dX7_start_19 : decode cX7_start 19 = .ok (.ireturn, 1) := by decide +kernel
theorem dX7_start_20 : decode cX7_start 20 = .ok (.aload_n 0, 1) := by decide +kernel
theorem dX7_start_21 : decode cX7_start 21 = .ok (.aload_n 0, 1) := by decide +kernel
theorem dX7_start_22 : decode cX7_start 22 = .ok (.getfield 26, 3) := by decide +kernel
theorem dX7_start_25 : decode cX7_start 25 = .ok (.getfield 117, 3) := by decide +kernel
theorem dX7_start_28 : decode cX7_start 28 = .ok (.iload_n 1, 1) := by decide +kernel
theorem dX7_start_29 : decode cX7_start 29 = .ok (.bipush 24, 2) := by decide +kernel
theorem dX7_start_31 : decode cX7_start 31 = .ok (.invokevirtual 226, 3) := by decide +kernel
theorem dX7_start_34 : decode cX7_start 34 = .ok (.iload_n 2, 1) := by decide +kernel
theorem dX7_start_35 : decode cX7_start 35 = .ok (.ifCond .ne 10, 3) := by decide +kernel
theorem dX7_start_38 : decode cX7_start 38 = .ok (.aload_n 0, 1) := by decide +kernel
theorem dX7_start_39 : decode cX7_start 39 = .ok (.getfield 74, 3) := by decide +kernel
theorem dX7_start_42 : decode cX7_start 42 = .ok (.goto 7, 3) := by decide +kernel
theorem dX7_start_45 : decode cX7_start 45 = .ok (.aload_n 0, 1) := by decide +kernel
theorem dX7_start_46 : decode cX7_start 46 = .ok (.getfield 78, 3) := by decide +kernel
theorem dX7_start_49 : decode cX7_start 49 = .ok (.ireturn, 1) := by decide +kernel
set_option maxRecDepth 20000 in
theorem m_X7_start {h : Hp} {a1 : Int32} {a2 : Int32}  {u : (Hp × Int32)} (hu : f_X7_start h a1 a2 = some u) : Ct yX7_start cX7_start 3 (some .int) 5 [.ref 0, .int a1, .int a2] h (eI u) := by
  refine ct_of eI hu (by decide) (Nat.le_of_ble_eq_true rfl) (fun κ hn C E => ?_)
  unfold f_X7_start
  show Xz κ _ 0 [(0, .ref 0), (1, .int a1), (2, .int a2)] [] h
  refine x_aload_n 1 C dX7_start_0 0 rfl rfl rfl ?_
  refine x_iload_n 2 C dX7_start_1 1 rfl rfl rfl ?_
  refine x_cvi 5 [.int a1] [] C 1 dX7_start_2 v_X7_113 (fun u hu => m_X7_isWalker hu) rfl sk_0 rfl (Nat.le_of_ble_eq_true rfl) (Nat.le_of_ble_eq_true rfl) rfl (fun x1 => ?_)
  refine x_if_eq 8 17 C dX7_start_5 (by decide) rfl (fun _ => ?_) (fun _ => ?_)
  · refine x_bipush 19 C dX7_start_17 cb_m2 rfl ?_
    exact x_iret C E dX7_start_19 rfl
  · refine x_iload_n 9 C dX7_start_8 2 rfl rfl rfl ?_
    refine x_iconst 10 C dX7_start_9 ci_0 rfl ?_
    refine x_iconst 11 C dX7_start_10 ci_1 rfl ?_
    refine x_csi 14 [.int a2, .int (0 : Int32), .int (1 : Int32)] [] C 0 dX7_start_11 s_X7_85 (fun u hu => m_X7_within hu) rfl rfl (Nat.le_of_ble_eq_true rfl) (Nat.le_of_ble_eq_true rfl) rfl (fun x2 => ?_)
    refine x_if_ne 17 20 C dX7_start_14 (by decide) rfl (fun _ => ?_) (fun _ => ?_)
    · refine x_aload_n 21 C dX7_start_20 0 rfl rfl rfl ?_
      refine x_aload_n 22 C dX7_start_21 0 rfl rfl rfl ?_
      refine x_getR (c := 5) 25 C dX7_start_22 fl_X7_26 sk_0 rfl sr_0_2 rfl ?_
      refine x_getR (c := 6) 28 C dX7_start_25 fl_X7_117 sk_5 rfl sr_5_0 rfl ?_
      refine x_iload_n 29 C dX7_start_28 1 rfl rfl rfl ?_
      refine x_bipush 31 C dX7_start_29 cb_24 rfl ?_
      refine x_cvV 34 [.ref 6, .int a1, .int (24 : Int32)] [] C 4 dX7_start_31 v_X7_226 (fun u hu => m_X7_chooseFor sk_6 hu) rfl sk_0 rfl (Nat.le_of_ble_eq_true rfl) (Nat.le_of_ble_eq_true rfl) rfl (fun h3 => ?_)
      refine x_iload_n 35 C dX7_start_34 2 rfl rfl rfl ?_
      refine x_if_ne 38 45 C dX7_start_35 (by decide) rfl (fun _ => ?_) (fun _ => ?_)
      · refine x_aload_n 46 C dX7_start_45 0 rfl rfl rfl ?_
        refine x_getI 49 C dX7_start_46 fl_X7_78 sk_0 rfl rfl ?_
        exact x_iret C E dX7_start_49 rfl
      · refine x_aload_n 39 C dX7_start_38 0 rfl rfl rfl ?_
        refine x_getI 42 C dX7_start_39 fl_X7_74 sk_0 rfl rfl ?_
        refine x_goto 49 C dX7_start_42 (by decide) ?_
        exact x_iret C E dX7_start_49 rfl
    · refine x_bipush 19 C dX7_start_17 cb_m2 rfl ?_
      exact x_iret C E dX7_start_19 rfl
