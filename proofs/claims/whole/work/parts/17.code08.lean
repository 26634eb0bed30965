def f_X7_hold (h : Hp) (a1 : Int32) (a2 : Int32) : Option (Hp × Int32) :=
  bdr (f_X7_isWalker h a1) fun x1 =>
  if x1 = 0 then (
    some (h, (-2 : Int32)))
  else (
    bdr (f_X7_within a2 (0 : Int32) (1 : Int32)) fun x2 =>
    if x2 = 0 then (
      some (h, (-2 : Int32)))
    else (
      bdv (f_X7_chooseFor h 8 a1 (10 : Int32)) fun h3 =>
      if a2 = 0 then (
        some (h3, (h3.1 0 13)))
      else (
        some (h3, (h3.1 0 14)))))
theorem dX7_hold_0 : decode cX7_hold 0 = .ok (.aload_n 0, 1) := by decide +kernel
theorem dX7_hold_1 : decode cX7_hold 1 = .ok (.iload_n 1, 1) := by decide +kernel
theorem dX7_hold_2 : decode cX7_hold 2 = .ok (.invokevirtual 113, 3) := by decide +kernel
theorem dX7_hold_5 : decode cX7_hold 5 = .ok (.ifCond .eq 12, 3) := by decide +kernel
theorem dX7_hold_8 : decode cX7_hold 8 = .ok (.iload_n 2, 1) := by decide +kernel
theorem dX7_hold_9 : decode cX7_hold 9 = .ok (.iconst 0, 1) := by decide +kernel
theorem dX7_hold_10 : decode cX7_hold 10 = .ok (.iconst 1, 1) := by decide +kernel
theorem dX7_hold_11 : decode cX7_hold 11 = .ok (.invokestatic 85, 3) := by decide +kernel
theorem dX7_hold_14 : decode cX7_hold 14 = .ok (.ifCond .ne 6, 3) := by decide +kernel
theorem dX7_hold_17 : decode cX7_hold 17 = .ok (.bipush (-2), 2) := by decide +kernel
theorem dX7_hold_19 : decode cX7_hold 19 = .ok (.ireturn, 1) := by decide +kernel
theorem dX7_hold_20 : decode cX7_hold 20 = .ok (.aload_n 0, 1) := by decide +kernel
theorem dX7_hold_21 : decode cX7_hold 21 = .ok (.aload_n 0, 1) := by decide +kernel
theorem dX7_hold_22 : decode cX7_hold 22 = .ok (.getfield 26, 3) := by decide +kernel
theorem dX7_hold_25 : decode cX7_hold 25 = .ok (.getfield 123, 3) := by decide +kernel
theorem dX7_hold_28 : decode cX7_hold 28 = .ok (.iload_n 1, 1) := by decide +kernel
theorem dX7_hold_29 : decode cX7_hold 29 = .ok (.bipush 10, 2) := by decide +kernel
theorem dX7_hold_31 : decode cX7_hold 31 = .ok (.invokevirtual 226, 3) := by decide +kernel
theorem dX7_hold_34 : decode cX7_hold 34 = .ok (.iload_n 2, 1) := by decide +kernel
theorem dX7_hold_35 : decode cX7_hold 35 = .ok (.ifCond .ne 10, 3) := by decide +kernel
theorem dX7_hold_38 : decode cX7_hold 38 = .ok (.aload_n 0, 1) := by decide +kernel
theorem dX7_hold_39 : decode cX7_hold 39 = .ok (.getfield 74, 3) := by decide +kernel
theorem dX7_hold_42 : decode cX7_hold 42 = .ok (.goto 7, 3) := by decide +kernel
theorem dX7_hold_45 : decode cX7_hold 45 = .ok (.aload_n 0, 1) := by decide +kernel
theorem dX7_hold_46 : decode cX7_hold 46 = .ok (.getfield 78, 3) := by decide +kernel
theorem dX7_hold_49 : decode cX7_hold 49 = .ok (.ireturn, 1) := by decide +kernel
set_option maxRecDepth 20000 in
theorem m_X7_hold {h : Hp} {a1 : Int32} {a2 : Int32}  {u : (Hp × Int32)} (hu : f_X7_hold h a1 a2 = some u) : Ct yX7_hold cX7_hold 3 (some .int) 5 [.ref 0, .int a1, .int a2] h (eI u) := by
  refine ct_of eI hu (by decide) (Nat.le_of_ble_eq_true rfl) (fun κ hn C E => ?_)
  unfold f_X7_hold
  show Xz κ _ 0 [(0, .ref 0), (1, .int a1), (2, .int a2)] [] h
  refine x_aload_n 1 C dX7_hold_0 0 rfl rfl rfl ?_
  refine x_iload_n 2 C dX7_hold_1 1 rfl rfl rfl ?_
  refine x_cvi 5 [.int a1] [] C 1 dX7_hold_2 v_X7_113 (fun u hu => m_X7_isWalker hu) rfl sk_0 rfl (Nat.le_of_ble_eq_true rfl) (Nat.le_of_ble_eq_true rfl) rfl (fun x1 => ?_)
  refine x_if_eq 8 17 C dX7_hold_5 (by decide) rfl (fun _ => ?_) (fun _ => ?_)
  · refine x_bipush 19 C dX7_hold_17 cb_m2 rfl ?_
    exact x_iret C E dX7_hold_19 rfl
  · refine x_iload_n 9 C dX7_hold_8 2 rfl rfl rfl ?_
    refine x_iconst 10 C dX7_hold_9 ci_0 rfl ?_
    refine x_iconst 11 C dX7_hold_10 ci_1 rfl ?_
    refine x_csi 14 [.int a2, .int (0 : Int32), .int (1 : Int32)] [] C 0 dX7_hold_11 s_X7_85 (fun u hu => m_X7_within hu) rfl rfl (Nat.le_of_ble_eq_true rfl) (Nat.le_of_ble_eq_true rfl) rfl (fun x2 => ?_)
    refine x_if_ne 17 20 C dX7_hold_14 (by decide) rfl (fun _ => ?_) (fun _ => ?_)
    · refine x_aload_n 21 C dX7_hold_20 0 rfl rfl rfl ?_
      refine x_aload_n 22 C dX7_hold_21 0 rfl rfl rfl ?_
      refine x_getR (c := 5) 25 C dX7_hold_22 fl_X7_26 sk_0 rfl sr_0_2 rfl ?_
      refine x_getR (c := 8) 28 C dX7_hold_25 fl_X7_123 sk_5 rfl sr_5_2 rfl ?_
      refine x_iload_n 29 C dX7_hold_28 1 rfl rfl rfl ?_
      refine x_bipush 31 C dX7_hold_29 cb_10 rfl ?_
      refine x_cvV 34 [.ref 8, .int a1, .int (10 : Int32)] [] C 4 dX7_hold_31 v_X7_226 (fun u hu => m_X7_chooseFor sk_8 hu) rfl sk_0 rfl (Nat.le_of_ble_eq_true rfl) (Nat.le_of_ble_eq_true rfl) rfl (fun h3 => ?_)
      refine x_iload_n 35 C dX7_hold_34 2 rfl rfl rfl ?_
      refine x_if_ne 38 45 C dX7_hold_35 (by decide) rfl (fun _ => ?_) (fun _ => ?_)
      · refine x_aload_n 46 C dX7_hold_45 0 rfl rfl rfl ?_
        refine x_getI 49 C dX7_hold_46 fl_X7_78 sk_0 rfl rfl ?_
        exact x_iret C E dX7_hold_49 rfl
      · refine x_aload_n 39 C dX7_hold_38 0 rfl rfl rfl ?_
        refine x_getI 42 C dX7_hold_39 fl_X7_74 sk_0 rfl rfl ?_
        refine x_goto 49 C dX7_hold_42 (by decide) ?_
        exact x_iret C E dX7_hold_49 rfl
    · refine x_bipush 19 C dX7_hold_17 cb_m2 rfl ?_
      exact x_iret C E dX7_hold_19 rfl

def f_X7_act (h : Hp) (a1 : Int32) (a2 : Int32) : Option (Hp × Int32) :=
  bdr (f_X7_isBeat a1) fun x1 =>
  if x1 = 0 then (
    some (h, (-2 : Int32)))
  else (
    bdr (f_X7_within a2 (0 : Int32) (1 : Int32)) fun x2 =>
    if x2 = 0 then (
      some (h, (-2 : Int32)))
    else (
      bdv (f_X7_chooseFor h 9 a1 (4 : Int32)) fun h3 =>
      if a2 = 0 then (
        some (h3, (h3.1 0 13)))
      else (
        some (h3, (h3.1 0 14)))))
theorem dX7_act_0 : decode cX7_act 0 = .ok (.iload_n 1, 1) := by decide +kernel
theorem dX7_act_1 : decode cX7_act 1 = .ok (.invokestatic 126, 3) := by decide +kernel
theorem dX7_act_4 : decode cX7_act 4 = .ok (.ifCond .eq 12, 3) := by decide +kernel
theorem dX7_act_7 : decode cX7_act 7 = .ok (.iload_n 2, 1) := by decide +kernel
theorem dX7_act_8 : decode cX7_act 8 = .ok (.iconst 0, 1) := by decide +kernel
theorem dX7_act_9 : decode cX7_act 9 = .ok (.iconst 1, 1) := by decide +kernel
theorem dX7_act_10 : decode cX7_act 10 = .ok (.invokestatic 85, 3) := by decide +kernel
theorem dX7_act_13 : decode cX7_act 13 = .ok (.ifCond .ne 6, 3) := by decide +kernel
theorem dX7_act_16 : decode cX7_act 16 = .ok (.bipush (-2), 2) := by decide +kernel
theorem dX7_act_18 : decode cX7_act 18 = .ok (.ireturn, 1) := by decide +kernel
theorem dX7_act_19 : decode cX7_act 19 = .ok (.aload_n 0, 1) := by decide +kernel
theorem dX7_act_20 : decode cX7_act 20 = .ok (.aload_n 0, 1) := by decide +kernel
theorem dX7_act_21 : decode cX7_act 21 = .ok (.getfield 26, 3) := by decide +kernel
theorem dX7_act_24 : decode cX7_act 24 = .ok (.getfield 129, 3) := by decide +kernel
theorem dX7_act_27 : decode cX7_act 27 = .ok (.iload_n 1, 1) := by decide +kernel
theorem dX7_act_28 : decode cX7_act 28 = .ok (.iconst 4, 1) := by decide +kernel
theorem dX7_act_29 : decode cX7_act 29 = .ok (.invokevirtual 226, 3) := by decide +kernel
theorem dX7_act_32 : decode cX7_act 32 = .ok (.iload_n 2, 1) := by decide +kernel
theorem dX7_act_33 : decode cX7_act 33 = .ok (.ifCond .ne 10, 3) := by decide +kernel
theorem dX7_act_36 : decode cX7_act 36 = .ok (.aload_n 0, 1) := by decide +kernel
theorem dX7_act_37 : decode cX7_act 37 = .ok (.getfield 74, 3) := by decide +kernel
theorem dX7_act_40 : decode cX7_act 40 = .ok (.goto 7, 3) := by decide +kernel
theorem dX7_act_43 : decode cX7_act 43 = .ok (.aload_n 0, 1) := by decide +kernel
theorem dX7_act_44 : decode cX7_act 44 = .ok (.getfield 78, 3) := by decide +kernel
theorem dX7_act_47 : decode cX7_act 47 = .ok (.ireturn, 1) := by decide +kernel
set_option maxRecDepth 20000 in
theorem m_X7_act {h : Hp} {a1 : Int32} {a2 : Int32}  {u : (Hp × Int32)} (hu : f_X7_act h a1 a2 = some u) : Ct yX7_act cX7_act 3 (some .int) 5 [.ref 0, .int a1, .int a2] h (eI u) := by
  refine ct_of eI hu (by decide) (Nat.le_of_ble_eq_true rfl) (fun κ hn C E => ?_)
  unfold f_X7_act
  show Xz κ _ 0 [(0, .ref 0), (1, .int a1), (2, .int a2)] [] h
  refine x_iload_n 1 C dX7_act_0 1 rfl rfl rfl ?_
  refine x_csi 4 [.int a1] [] C 1 dX7_act_1 s_X7_126 (fun u hu => m_X7_isBeat hu) rfl rfl (Nat.le_of_ble_eq_true rfl) (Nat.le_of_ble_eq_true rfl) rfl (fun x1 => ?_)
  refine x_if_eq 7 16 C dX7_act_4 (by decide) rfl (fun _ => ?_) (fun _ => ?_)
  · refine x_bipush 18 C dX7_act_16 cb_m2 rfl ?_
    exact x_iret C E dX7_act_18 rfl
  · refine x_iload_n 8 C dX7_act_7 2 rfl rfl rfl ?_
    refine x_iconst 9 C dX7_act_8 ci_0 rfl ?_
    refine x_iconst 10 C dX7_act_9 ci_1 rfl ?_
    refine x_csi 13 [.int a2, .int (0 : Int32), .int (1 : Int32)] [] C 0 dX7_act_10 s_X7_85 (fun u hu => m_X7_within hu) rfl rfl (Nat.le_of_ble_eq_true rfl) (Nat.le_of_ble_eq_true rfl) rfl (fun x2 => ?_)
    refine x_if_ne 16 19 C dX7_act_13 (by decide) rfl (fun _ => ?_) (fun _ => ?_)
    · refine x_aload_n 20 C dX7_act_19 0 rfl rfl rfl ?_
      refine x_aload_n 21 C dX7_act_20 0 rfl rfl rfl ?_
      refine x_getR (c := 5) 24 C dX7_act_21 fl_X7_26 sk_0 rfl sr_0_2 rfl ?_
      refine x_getR (c := 9) 27 C dX7_act_24 fl_X7_129 sk_5 rfl sr_5_3 rfl ?_
      refine x_iload_n 28 C dX7_act_27 1 rfl rfl rfl ?_
      refine x_iconst 29 C dX7_act_28 ci_4 rfl ?_
      refine x_cvV 32 [.ref 9, .int a1, .int (4 : Int32)] [] C 4 dX7_act_29 v_X7_226 (fun u hu => m_X7_chooseFor sk_9 hu) rfl sk_0 rfl (Nat.le_of_ble_eq_true rfl) (Nat.le_of_ble_eq_true rfl) rfl (fun h3 => ?_)
      refine x_iload_n 33 C dX7_act_32 2 rfl rfl rfl ?_
      refine x_if_ne 36 43 C dX7_act_33 (by decide) rfl (fun _ => ?_) (fun _ => ?_)
      · refine x_aload_n 44 C dX7_act_43 0 rfl rfl rfl ?_
        refine x_getI 47 C dX7_act_44 fl_X7_78 sk_0 rfl rfl ?_
        exact x_iret C E dX7_act_47 rfl
      · refine x_aload_n 37 C dX7_act_36 0 rfl rfl rfl ?_
        refine x_getI 40 C dX7_act_37 fl_X7_74 sk_0 rfl rfl ?_
        refine x_goto 47 C dX7_act_40 (by decide) ?_
        exact x_iret C E dX7_act_47 rfl
    · refine x_bipush 18 C dX7_act_16 cb_m2 rfl ?_
      exact x_iret C E dX7_act_18 rfl

def f_X7_nobodyFallsWithout (h : Hp) (a1 : Int32) : Option (Hp × Int32) :=
  bdv (f_X2_play h 36 9 a1 (0 : Int32)) fun h1 =>
  if (h1.1 36 14) = 0 then (
    some (h1, (1 : Int32)))
  else (
    some (h1, (0 : Int32)))
theorem dX7_nobodyFallsWithout_0 : decode cX7_nobodyFallsWithout 0 = .ok (.aload_n 0, 1) := by decide +kernel
theorem dX7_nobodyFallsWithout_1 : decode cX7_nobodyFallsWithout 1 = .ok (.getfield 44, 3) := by decide +kernel
theorem dX7_nobodyFallsWithout_4 : decode cX7_nobodyFallsWithout 4 = .ok (.aload_n 0, 1) := by decide +kernel
theorem dX7_nobodyFallsWithout_5 : decode cX7_nobodyFallsWithout 5 = .ok (.getfield 26, 3) := by decide +kernel
theorem dX7_nobodyFallsWithout_8 : decode cX7_nobodyFallsWithout 8 = .ok (.aload_n 0, 1) := by decide +kernel
theorem dX7_nobodyFallsWithout_9 : decode cX7_nobodyFallsWithout 9 = .ok (.getfield 26, 3) := by decide +kernel
theorem dX7_nobodyFallsWithout_12 : decode cX7_nobodyFallsWithout 12 = .ok (.getfield 129, 3) := by decide +kernel
theorem dX7_nobodyFallsWithout_15 : decode cX7_nobodyFallsWithout 15 = .ok (.iload_n 1, 1) := by decide +kernel
theorem dX7_nobodyFallsWithout_16 : decode cX7_nobodyFallsWithout 16 = .ok (.iconst 0, 1) := by decide +kernel
theorem dX7_nobodyFallsWithout_17 : decode cX7_nobodyFallsWithout 17 = .ok (.invokevirtual 233, 3) := by decide +kernel
theorem dX7_nobodyFallsWithout_20 : decode cX7_nobodyFallsWithout 20 = .ok (.aload_n 0, 1) := by decide +kernel
theorem dX7_nobodyFallsWithout_21 : decode cX7_nobodyFallsWithout 21 = .ok (.getfield 44, 3) := by decide +kernel
theorem dX7_nobodyFallsWithout_24 : decode cX7_nobodyFallsWithout 24 = .ok (.getfield 210, 3) := by decide +kernel
theorem dX7_nobodyFallsWithout_27 : decode cX7_nobodyFallsWithout 27 = .ok (.ifCond .ne 7, 3) := by decide +kernel
theorem dX7_nobodyFallsWithout_30 : decode cX7_nobodyFallsWithout 30 = .ok (.iconst 1, 1) := by decide +kernel
theorem dX7_nobodyFallsWithout_31 : decode cX7_nobodyFallsWithout 31 = .ok (.goto 4, 3) := by decide +kernel
theorem dX7_nobodyFallsWithout_34 : decode cX7_nobodyFallsWithout 34 = .ok (.iconst 0, 1) := by decide +kernel
theorem dX7_nobodyFallsWithout_35 : decode cX7_nobodyFallsWithout 35 = .ok (.ireturn, 1) := by decide +kernel
set_option maxRecDepth 20000 in
theorem m_X7_nobodyFallsWithout {h : Hp} {a1 : Int32}  {u : (Hp × Int32)} (hu : f_X7_nobodyFallsWithout h a1 = some u) : Ct yX7_nobodyFallsWithout cX7_nobodyFallsWithout 2 (some .boolean) 4 [.ref 0, .int a1] h (eI u) := by
  refine ct_of eI hu (by decide) (Nat.le_of_ble_eq_true rfl) (fun κ hn C E => ?_)
  unfold f_X7_nobodyFallsWithout
  show Xz κ _ 0 [(0, .ref 0), (1, .int a1)] [] h
  refine x_aload_n 1 C dX7_nobodyFallsWithout_0 0 rfl rfl rfl ?_
  refine x_getR (c := 36) 4 C dX7_nobodyFallsWithout_1 fl_X7_44 sk_0 rfl sr_0_5 rfl ?_
  refine x_aload_n 5 C dX7_nobodyFallsWithout_4 0 rfl rfl rfl ?_
  refine x_getR (c := 5) 8 C dX7_nobodyFallsWithout_5 fl_X7_26 sk_0 rfl sr_0_2 rfl ?_
  refine x_aload_n 9 C dX7_nobodyFallsWithout_8 0 rfl rfl rfl ?_
  refine x_getR (c := 5) 12 C dX7_nobodyFallsWithout_9 fl_X7_26 sk_0 rfl sr_0_2 rfl ?_
  refine x_getR (c := 9) 15 C dX7_nobodyFallsWithout_12 fl_X7_129 sk_5 rfl sr_5_3 rfl ?_
  refine x_iload_n 16 C dX7_nobodyFallsWithout_15 1 rfl rfl rfl ?_
  refine x_iconst 17 C dX7_nobodyFallsWithout_16 ci_0 rfl ?_
  refine x_cvV 20 [.ref 5, .ref 9, .int a1, .int (0 : Int32)] [] C 3 dX7_nobodyFallsWithout_17 v_X7_233 (fun u hu => m_X2_play sk_36 sk_9 hu) rfl sk_36 rfl (Nat.le_of_ble_eq_true rfl) (Nat.le_of_ble_eq_true rfl) rfl (fun h1 => ?_)
  refine x_aload_n 21 C dX7_nobodyFallsWithout_20 0 rfl rfl rfl ?_
  refine x_getR (c := 36) 24 C dX7_nobodyFallsWithout_21 fl_X7_44 sk_0 rfl sr_0_5 rfl ?_
  refine x_getI 27 C dX7_nobodyFallsWithout_24 fl_X7_210 sk_36 rfl rfl ?_
  refine x_if_ne 30 34 C dX7_nobodyFallsWithout_27 (by decide) rfl (fun _ => ?_) (fun _ => ?_)
  · refine x_iconst 35 C dX7_nobodyFallsWithout_34 ci_0 rfl ?_
    exact x_zret C E dX7_nobodyFallsWithout_35 (Or.inl rfl) rfl
  · refine x_iconst 31 C dX7_nobodyFallsWithout_30 ci_1 rfl ?_
    refine x_goto 35 C dX7_nobodyFallsWithout_31 (by decide) ?_
    exact x_zret C E dX7_nobodyFallsWithout_35 (Or.inr rfl) rfl

def f_X7_spareFewest (h : Hp) : Option (Hp × Int32) :=
  bnd (f_X7_nobodyFallsWithout h (0 : Int32)) fun h1 x2 =>
  if x2 = 0 then (
    lt1 (fun (h3 : Hp) =>
      fx2 FU (fun s2 (h4 : Hp) (x5 : Int32) =>
        if (h4.1 5 8) ≤ x5 then (
          some (h4, (-1 : Int32)))
        else (
          nm (x5 + (1 : Int32)) fun x6 =>
          lt1 (fun (h7 : Hp) =>
            nm (x5 + (1 : Int32)) fun x8 =>
            s2 h7 x8) fun k3 =>
          fx2 FU (fun s4 (h9 : Hp) (x10 : Int32) =>
            if (h9.1 5 8) ≤ x10 then (
              k3 h9)
            else (
              bnd (f_X7_nobodyFallsWithout h9 (((1 : Int32) <<< (x5 &&& 31)) ||| ((1 : Int32) <<< (x10 &&& 31)))) fun h11 x12 =>
              if x12 = 0 then (
                nm (x10 + (1 : Int32)) fun x13 =>
                s4 h11 x13)
              else (
                ck (0 : Int32) 2 (nm (ux h11 58 (0 : Int32) x5) fun h14 =>
                ck (1 : Int32) 2 (nm (ux h14 58 (1 : Int32) x10) fun h15 =>
                some (h15, (2 : Int32))))))) h4 x6)) h3 (0 : Int32)) fun k1 =>
    fx2 FU (fun s5 (h16 : Hp) (x17 : Int32) =>
      if (h16.1 5 8) ≤ x17 then (
        k1 h16)
      else (
        bnd (f_X7_nobodyFallsWithout h16 ((1 : Int32) <<< (x17 &&& 31))) fun h18 x19 =>
        if x19 = 0 then (
          nm (x17 + (1 : Int32)) fun x20 =>
          s5 h18 x20)
        else (
          ck (0 : Int32) 2 (nm (ux h18 58 (0 : Int32) x17) fun h21 =>
          some (h21, (1 : Int32)))))) h1 (0 : Int32))
  else (
    some (h1, (0 : Int32)))
theorem dX7_spareFewest_0 : decode cX7_spareFewest 0 = .ok (.aload_n 0, 1) := by decide +kernel
theorem dX7_spareFewest_1 : decode cX7_spareFewest 1 = .ok (.iconst 0, 1) := by decide +kernel
theorem dX7_spareFewest_2 : decode cX7_spareFewest 2 = .ok (.invokevirtual 237, 3) := by decide +kernel
theorem dX7_spareFewest_5 : decode cX7_spareFewest 5 = .ok (.ifCond .eq 5, 3) := by decide +kernel
theorem dX7_spareFewest_8 : decode cX7_spareFewest 8 = .ok (.iconst 0, 1) := by decide +kernel
theorem dX7_spareFewest_9 : decode cX7_spareFewest 9 = .ok (.ireturn, 1) := by decide +kernel
theorem dX7_spareFewest_10 : decode cX7_spareFewest 10 = .ok (.iconst 0, 1) := by decide +kernel
theorem dX7_spareFewest_11 : decode cX7_spareFewest 11 = .ok (.istore_n 1, 1) := by decide +kernel
theorem dX7_spareFewest_12 : decode cX7_spareFewest 12 = .ok (.iload_n 1, 1) := by decide +kernel
theorem dX7_spareFewest_13 : decode cX7_spareFewest 13 = .ok (.aload_n 0, 1) := by decide +kernel
theorem dX7_spareFewest_14 : decode cX7_spareFewest 14 = .ok (.getfield 26, 3) := by decide +kernel
theorem dX7_spareFewest_17 : decode cX7_spareFewest 17 = .ok (.getfield 154, 3) := by decide +kernel
theorem dX7_spareFewest_20 : decode cX7_spareFewest 20 = .ok (.if_icmp .ge 28, 3) := by decide +kernel
theorem dX7_spareFewest_23 : decode cX7_spareFewest 23 = .ok (.aload_n 0, 1) := by decide +kernel
theorem dX7_spareFewest_24 : decode cX7_spareFewest 24 = .ok (.iconst 1, 1) := by decide +kernel
theorem dX7_spareFewest_25 : decode cX7_spareFewest 25 = .ok (.iload_n 1, 1) := by decide +kernel
theorem dX7_spareFewest_26 : decode cX7_spareFewest 26 = .ok (.ishl, 1) := by decide +kernel
theorem dX7_spareFewest_27 : decode cX7_spareFewest 27 = .ok (.invokevirtual 237, 3) := by decide +kernel
theorem dX7_spareFewest_30 : decode cX7_spareFewest 30 = .ok (.ifCond .eq 12, 3) := by decide +kernel
theorem dX7_spareFewest_33 : decode cX7_spareFewest 33 = .ok (.aload_n 0, 1) := by decide +kernel
theorem dX7_spareFewest_34 : decode cX7_spareFewest 34 = .ok (.getfield 58, 3) := by decide +kernel
theorem dX7_spareFewest_37 : decode cX7_spareFewest 37 = .ok (.iconst 0, 1) := by decide +kernel
theorem dX7_spareFewest_38 : decode cX7_spareFewest 38 = .ok (.iload_n 1, 1) := by decide +kernel
theorem dX7_spareFewest_39 : decode cX7_spareFewest 39 = .ok (.iastore, 1) := by decide +kernel
theorem dX7_spareFewest_40 : decode cX7_spareFewest 40 = .ok (.iconst 1, 1) := by decide +kernel
theorem dX7_spareFewest_41 : decode cX7_spareFewest 41 = .ok (.ireturn, 1) := by decide +kernel
theorem dX7_spareFewest_42 : decode cX7_spareFewest 42 = .ok (.iinc 1 1, 3) := by decide +kernel
theorem dX7_spareFewest_45 : decode cX7_spareFewest 45 = .ok (.goto (-33), 3) := by decide +kernel
theorem dX7_spareFewest_48 : decode cX7_spareFewest 48 = .ok (.iconst 0, 1) := by decide +kernel
theorem dX7_spareFewest_49 : decode cX7_spareFewest 49 = .ok (.istore_n 1, 1) := by decide +kernel
theorem dX7_spareFewest_50 : decode cX7_spareFewest 50 = .ok (.iload_n 1, 1) := by decide +kernel
theorem dX7_spareFewest_51 : decode cX7_spareFewest 51 = .ok (.aload_n 0, 1) := by decide +kernel
theorem dX7_spareFewest_52 : decode cX7_spareFewest 52 = .ok (.getfield 26, 3) := by decide +kernel
theorem dX7_spareFewest_55 : decode cX7_spareFewest 55 = .ok (.getfield 154, 3) := by decide +kernel
theorem dX7_spareFewest_58 : decode cX7_spareFewest 58 = .ok (.if_icmp .ge 60, 3) := by decide +kernel
theorem dX7_spareFewest_61 : decode cX7_spareFewest 61 = .ok (.iload_n 1, 1) := by decide +kernel
theorem dX7_spareFewest_62 : decode cX7_spareFewest 62 = .ok (.iconst 1, 1) := by decide +kernel
theorem dX7_spareFewest_63 : decode cX7_spareFewest 63 = .ok (.iadd, 1) := by decide +kernel
theorem dX7_spareFewest_64 : decode cX7_spareFewest 64 = .ok (.istore_n 2, 1) := by decide +kernel
theorem dX7_spareFewest_65 : decode cX7_spareFewest 65 = .ok (.iload_n 2, 1) := by decide +kernel
theorem dX7_spareFewest_66 : decode cX7_spareFewest 66 = .ok (.aload_n 0, 1) := by decide +kernel
theorem dX7_spareFewest_67 : decode cX7_spareFewest 67 = .ok (.getfield 26, 3) := by decide +kernel
theorem dX7_spareFewest_70 : decode cX7_spareFewest 70 = .ok (.getfield 154, 3) := by decide +kernel
theorem dX7_spareFewest_73 : decode cX7_spareFewest 73 = .ok (.if_icmp .ge 39, 3) := by decide +kernel
theorem dX7_spareFewest_76 : decode cX7_spareFewest 76 = .ok (.aload_n 0, 1) := by decide +kernel
theorem dX7_spareFewest_77 : decode cX7_spareFewest 77 = .ok (.iconst 1, 1) := by decide +kernel
theorem dX7_spareFewest_78 : decode cX7_spareFewest 78 = .ok (.iload_n 1, 1) := by decide +kernel
theorem dX7_spareFewest_79 : decode cX7_spareFewest 79 = .ok (.ishl, 1) := by decide +kernel
theorem dX7_spareFewest_80 : decode cX7_spareFewest 80 = .ok (.iconst 1, 1) := by decide +kernel
theorem dX7_spareFewest_81 : decode cX7_spareFewest 81 = .ok (.iload_n 2, 1) := by decide +kernel
theorem dX7_spareFewest_82 : decode cX7_spareFewest 82 = .ok (.ishl, 1) := by decide +kernel
theorem dX7_spareFewest_83 : decode cX7_spareFewest 83 = .ok (.ior, 1) := by decide +kernel
theorem dX7_spareFewest_84 : decode cX7_spareFewest 84 = .ok (.invokevirtual 237, 3) := by decide +kernel
theorem dX7_spareFewest_87 : decode cX7_spareFewest 87 = .ok (.ifCond .eq 19, 3) := by decide +kernel
theorem dX7_spareFewest_90 : decode cX7_spareFewest 90 = .ok (.aload_n 0, 1) := by decide +kernel
theorem dX7_spareFewest_91 : decode cX7_spareFewest 91 = .ok (.getfield 58, 3) := by decide +kernel
theorem dX7_spareFewest_94 : decode cX7_spareFewest 94 = .ok (.iconst 0, 1) := by decide +kernel
theorem dX7_spareFewest_95 : decode cX7_spareFewest 95 = .ok (.iload_n 1, 1) := by decide +kernel
theorem dX7_spareFewest_96 : decode cX7_spareFewest 96 = .ok (.iastore, 1) := by decide +kernel
theorem dX7_spareFewest_97 : decode cX7_spareFewest 97 = .ok (.aload_n 0, 1) := by decide +kernel
theorem dX7_spareFewest_98 : decode cX7_spareFewest 98 = .ok (.getfield 58, 3) := by decide +kernel
theorem dX7_spareFewest_101 : decode cX7_spareFewest 101 = .ok (.iconst 1, 1) := by decide +kernel
theorem dX7_spareFewest_102 : decode cX7_spareFewest 102 = .ok (.iload_n 2, 1) := by decide +kernel
theorem dX7_spareFewest_103 : decode cX7_spareFewest 103 = .ok (.iastore, 1) := by decide +kernel
theorem dX7_spareFewest_104 : decode cX7_spareFewest 104 = .ok (.iconst 2, 1) := by decide +kernel
theorem dX7_spareFewest_105 : decode cX7_spareFewest 105 = .ok (.ireturn, 1) := by decide +kernel
theorem dX7_spareFewest_106 : decode cX7_spareFewest 106 = .ok (.iinc 2 1, 3) := by decide +kernel
theorem dX7_spareFewest_109 : decode cX7_spareFewest 109 = .ok (.goto (-44), 3) := by decide +kernel
theorem dX7_spareFewest_112 : decode cX7_spareFewest 112 = .ok (.iinc 1 1, 3) := by decide +kernel
theorem dX7_spareFewest_115 : decode cX7_spareFewest 115 = .ok (.goto (-65), 3) := by decide +kernel
theorem dX7_spareFewest_118 : decode cX7_spareFewest 118 = .ok (.iconst (-1), 1) := by decide +kernel
theorem dX7_spareFewest_119 : decode cX7_spareFewest 119 = .ok (.ireturn, 1) := by decide +kernel
set_option maxRecDepth 20000 in
theorem m_X7_spareFewest {h : Hp}  {u : (Hp × Int32)} (hu : f_X7_spareFewest h = some u) : Ct yX7_spareFewest cX7_spareFewest 3 (some .int) 5 [.ref 0] h (eI u) := by
  refine ct_of eI hu (by decide) (Nat.le_of_ble_eq_true rfl) (fun κ hn C E => ?_)
  have n1 : 1 < kn κ := by rw [hn]; decide
  have n2 : 2 < kn κ := by rw [hn]; decide
  unfold f_X7_spareFewest
  show Xz κ _ 0 [(0, .ref 0)] [] h
  refine x_aload_n 1 C dX7_spareFewest_0 0 rfl rfl rfl ?_
  refine x_iconst 2 C dX7_spareFewest_1 ci_0 rfl ?_
  refine x_cvI 5 [.int (0 : Int32)] [] C 4 dX7_spareFewest_2 v_X7_237 (fun u hu => m_X7_nobodyFallsWithout hu) rfl sk_0 rfl (Nat.le_of_ble_eq_true rfl) (Nat.le_of_ble_eq_true rfl) rfl (fun h1 x2 => ?_)
  refine x_if_eq 8 10 C dX7_spareFewest_5 (by decide) rfl (fun _ => ?_) (fun _ => ?_)
  · refine x_iconst 11 C dX7_spareFewest_10 ci_0 rfl ?_
    refine x_istore_n 12 [(1, .int (0 : Int32)), (0, .ref 0)] C dX7_spareFewest_11 n1 rfl rfl rfl ?_
    refine x_lt1 (q := 48) (ls := fun h3 => [(0, .ref 0)]) (st := fun h3 => []) (hh := fun h3 => h3) (fun h3 => ?_) (fun k1 J1 => ?_)
    · refine x_iconst 49 C dX7_spareFewest_48 ci_0 rfl ?_
      refine x_istore_n 50 [(1, .int (0 : Int32)), (0, .ref 0)] C dX7_spareFewest_49 n1 rfl rfl rfl ?_
      refine x_ls [1, 0] rfl (x_fx2 (ls := fun h4 x5 => [(0, .ref 0), (1, .int x5)]) (st := fun h4 x5 => []) (hh := fun h4 x5 => h4) (fun s2 J2 h4 x5 => ?_))
      refine x_iload_n 51 C dX7_spareFewest_50 1 rfl rfl rfl ?_
      refine x_aload_n 52 C dX7_spareFewest_51 0 rfl rfl rfl ?_
      refine x_getR (c := 5) 55 C dX7_spareFewest_52 fl_X7_26 sk_0 rfl sr_0_2 rfl ?_
      refine x_getI 58 C dX7_spareFewest_55 fl_X7_154 sk_5 rfl rfl ?_
      refine x_icmp_ge 61 118 C dX7_spareFewest_58 (by decide) rfl (fun _ => ?_) (fun _ => ?_)
      · refine x_iconst 119 C dX7_spareFewest_118 ci_m1 rfl ?_
        exact x_iret C E dX7_spareFewest_119 rfl
      · refine x_iload_n 62 C dX7_spareFewest_61 1 rfl rfl rfl ?_
        refine x_iconst 63 C dX7_spareFewest_62 ci_1 rfl ?_
        refine x_iadd 64 C dX7_spareFewest_63 rfl ?_
        refine x_ni (fun x6 => ?_)
        refine x_istore_n 65 [(2, .int x6), (0, .ref 0), (1, .int x5)] C dX7_spareFewest_64 n2 rfl rfl rfl ?_
        refine x_lt1 (q := 112) (ls := fun h7 => [(0, .ref 0), (1, .int x5)]) (st := fun h7 => []) (hh := fun h7 => h7) (fun h7 => ?_) (fun k3 J3 => ?_)
        · refine x_iinc 115 (fun x8 => [(1, .int x8), (0, .ref 0)]) C dX7_spareFewest_112 1 rfl ci_1 n1 (fun _ => rfl) rfl (fun x8 => ?_)
          refine x_goto 50 C dX7_spareFewest_115 (by decide) ?_
          exact x_ls [1, 0] rfl (J2 h7 x8)
        refine x_ls [1, 2, 0] rfl (x_fx2 (ls := fun h9 x10 => [(0, .ref 0), (1, .int x5), (2, .int x10)]) (st := fun h9 x10 => []) (hh := fun h9 x10 => h9) (fun s4 J4 h9 x10 => ?_))
        refine x_iload_n 66 C dX7_spareFewest_65 2 rfl rfl rfl ?_
        refine x_aload_n 67 C dX7_spareFewest_66 0 rfl rfl rfl ?_
        refine x_getR (c := 5) 70 C dX7_spareFewest_67 fl_X7_26 sk_0 rfl sr_0_2 rfl ?_
        refine x_getI 73 C dX7_spareFewest_70 fl_X7_154 sk_5 rfl rfl ?_
        refine x_icmp_ge 76 112 C dX7_spareFewest_73 (by decide) rfl (fun _ => ?_) (fun _ => ?_)
        · exact x_ls [0, 1] rfl (J3 h9)
        · refine x_aload_n 77 C dX7_spareFewest_76 0 rfl rfl rfl ?_
          refine x_iconst 78 C dX7_spareFewest_77 ci_1 rfl ?_
          refine x_iload_n 79 C dX7_spareFewest_78 1 rfl rfl rfl ?_
          refine x_ishl 80 C dX7_spareFewest_79 rfl ?_
          refine x_iconst 81 C dX7_spareFewest_80 ci_1 rfl ?_
          refine x_iload_n 82 C dX7_spareFewest_81 2 rfl rfl rfl ?_
          refine x_ishl 83 C dX7_spareFewest_82 rfl ?_
          refine x_ior 84 C dX7_spareFewest_83 rfl ?_
          refine x_cvI 87 [.int (((1 : Int32) <<< (x5 &&& 31)) ||| ((1 : Int32) <<< (x10 &&& 31)))] [] C 4 dX7_spareFewest_84 v_X7_237 (fun u hu => m_X7_nobodyFallsWithout hu) rfl sk_0 rfl (Nat.le_of_ble_eq_true rfl) (Nat.le_of_ble_eq_true rfl) rfl (fun h11 x12 => ?_)
          refine x_if_eq 90 106 C dX7_spareFewest_87 (by decide) rfl (fun _ => ?_) (fun _ => ?_)
          · refine x_iinc 109 (fun x13 => [(2, .int x13), (0, .ref 0), (1, .int x5)]) C dX7_spareFewest_106 2 rfl ci_1 n2 (fun _ => rfl) rfl (fun x13 => ?_)
            refine x_goto 65 C dX7_spareFewest_109 (by decide) ?_
            exact x_ls [1, 2, 0] rfl (J4 h11 x13)
          · refine x_aload_n 91 C dX7_spareFewest_90 0 rfl rfl rfl ?_
            refine x_getR (c := 58) 94 C dX7_spareFewest_91 fl_X7_58 sk_0 rfl sr_0_9 rfl ?_
            refine x_iconst 95 C dX7_spareFewest_94 ci_0 rfl ?_
            refine x_iload_n 96 C dX7_spareFewest_95 1 rfl rfl rfl ?_
            refine x_iast 97 C dX7_spareFewest_96 sk_58 sl_58 rfl (fun h14 => ?_)
            refine x_aload_n 98 C dX7_spareFewest_97 0 rfl rfl rfl ?_
            refine x_getR (c := 58) 101 C dX7_spareFewest_98 fl_X7_58 sk_0 rfl sr_0_9 rfl ?_
            refine x_iconst 102 C dX7_spareFewest_101 ci_1 rfl ?_
            refine x_iload_n 103 C dX7_spareFewest_102 2 rfl rfl rfl ?_
            refine x_iast 104 C dX7_spareFewest_103 sk_58 sl_58 rfl (fun h15 => ?_)
            refine x_iconst 105 C dX7_spareFewest_104 ci_2 rfl ?_
            exact x_iret C E dX7_spareFewest_105 rfl
    refine x_ls [1, 0] rfl (x_fx2 (ls := fun h16 x17 => [(0, .ref 0), (1, .int x17)]) (st := fun h16 x17 => []) (hh := fun h16 x17 => h16) (fun s5 J5 h16 x17 => ?_))
    refine x_iload_n 13 C dX7_spareFewest_12 1 rfl rfl rfl ?_
    refine x_aload_n 14 C dX7_spareFewest_13 0 rfl rfl rfl ?_
    refine x_getR (c := 5) 17 C dX7_spareFewest_14 fl_X7_26 sk_0 rfl sr_0_2 rfl ?_
    refine x_getI 20 C dX7_spareFewest_17 fl_X7_154 sk_5 rfl rfl ?_
    refine x_icmp_ge 23 48 C dX7_spareFewest_20 (by decide) rfl (fun _ => ?_) (fun _ => ?_)
    · exact x_ls [0] rfl (J1 h16)
    · refine x_aload_n 24 C dX7_spareFewest_23 0 rfl rfl rfl ?_
      refine x_iconst 25 C dX7_spareFewest_24 ci_1 rfl ?_
      refine x_iload_n 26 C dX7_spareFewest_25 1 rfl rfl rfl ?_
      refine x_ishl 27 C dX7_spareFewest_26 rfl ?_
      refine x_cvI 30 [.int ((1 : Int32) <<< (x17 &&& 31))] [] C 4 dX7_spareFewest_27 v_X7_237 (fun u hu => m_X7_nobodyFallsWithout hu) rfl sk_0 rfl (Nat.le_of_ble_eq_true rfl) (Nat.le_of_ble_eq_true rfl) rfl (fun h18 x19 => ?_)
      refine x_if_eq 33 42 C dX7_spareFewest_30 (by decide) rfl (fun _ => ?_) (fun _ => ?_)
      · refine x_iinc 45 (fun x20 => [(1, .int x20), (0, .ref 0)]) C dX7_spareFewest_42 1 rfl ci_1 n1 (fun _ => rfl) rfl (fun x20 => ?_)
        refine x_goto 12 C dX7_spareFewest_45 (by decide) ?_
        exact x_ls [1, 0] rfl (J5 h18 x20)
      · refine x_aload_n 34 C dX7_spareFewest_33 0 rfl rfl rfl ?_
        refine x_getR (c := 58) 37 C dX7_spareFewest_34 fl_X7_58 sk_0 rfl sr_0_9 rfl ?_
        refine x_iconst 38 C dX7_spareFewest_37 ci_0 rfl ?_
        refine x_iload_n 39 C dX7_spareFewest_38 1 rfl rfl rfl ?_
        refine x_iast 40 C dX7_spareFewest_39 sk_58 sl_58 rfl (fun h21 => ?_)
        refine x_iconst 41 C dX7_spareFewest_40 ci_1 rfl ?_
        exact x_iret C E dX7_spareFewest_41 rfl
  · refine x_iconst 9 C dX7_spareFewest_8 ci_0 rfl ?_
    exact x_iret C E dX7_spareFewest_9 rfl

def f_X7_spare (h : Hp) (a1 : Int32) : Option (Hp × Int32) :=
  bdr (f_X7_within a1 (-1 : Int32) (1 : Int32)) fun x1 =>
  if x1 = 0 then (
    some (h, (-2 : Int32)))
  else (
    bnd (f_X7_spareFewest h) fun h2 x3 =>
    if a1 = (-1 : Int32) then (
      some (h2, x3))
    else (
      if x3 ≤ a1 then (
        some (h2, (-1 : Int32)))
      else (
        ck a1 2 (
          some (h2, (ia h2 58 a1))))))
theorem dX7_spare_0 : decode cX7_spare 0 = .ok (.iload_n 1, 1) := by decide +kernel
theorem dX7_spare_1 : decode cX7_spare 1 = .ok (.iconst (-1), 1) := by decide +kernel
theorem dX7_spare_2 : decode cX7_spare 2 = .ok (.iconst 1, 1) := by decide +kernel
theorem dX7_spare_3 : decode cX7_spare 3 = .ok (.invokestatic 85, 3) := by decide +kernel
theorem dX7_spare_6 : decode cX7_spare 6 = .ok (.ifCond .ne 6, 3) := by decide +kernel
theorem dX7_spare_9 : decode cX7_spare 9 = .ok (.bipush (-2), 2) := by decide +kernel
theorem dX7_spare_11 : decode cX7_spare 11 = .ok (.ireturn, 1) := by decide +kernel
theorem dX7_spare_12 : decode cX7_spare 12 = .ok (.aload_n 0, 1) := by decide +kernel
theorem dX7_spare_13 : decode cX7_spare 13 = .ok (.invokevirtual 230, 3) := by decide +kernel
theorem dX7_spare_16 : decode cX7_spare 16 = .ok (.istore_n 2, 1) := by decide +kernel
theorem dX7_spare_17 : decode cX7_spare 17 = .ok (.iload_n 1, 1) := by decide +kernel
theorem dX7_spare_18 : decode cX7_spare 18 = .ok (.iconst (-1), 1) := by decide +kernel
theorem dX7_spare_19 : decode cX7_spare 19 = .ok (.if_icmp .ne 5, 3) := by decide +kernel
theorem dX7_spare_22 : decode cX7_spare 22 = .ok (.iload_n 2, 1) := by decide +kernel
theorem dX7_spare_23 : decode cX7_spare 23 = .ok (.ireturn, 1) := by decide +kernel
theorem dX7_spare_24 : decode cX7_spare 24 = .ok (.iload_n 1, 1) := by decide +kernel
theorem dX7_spare_25 : decode cX7_spare 25 = .ok (.iload_n 2, 1) := by decide +kernel
theorem dX7_spare_26 : decode cX7_spare 26 = .ok (.if_icmp .ge 12, 3) := by decide +kernel
theorem dX7_spare_29 : decode cX7_spare 29 = .ok (.aload_n 0, 1) := by decide +kernel
theorem dX7_spare_30 : decode cX7_spare 30 = .ok (.getfield 58, 3) := by decide +kernel
theorem dX7_spare_33 : decode cX7_spare 33 = .ok (.iload_n 1, 1) := by decide +kernel
theorem dX7_spare_34 : decode cX7_spare 34 = .ok (.iaload, 1) := by decide +kernel
theorem dX7_spare_35 : decode cX7_spare 35 = .ok (.goto 4, 3) := by decide +kernel
theorem dX7_spare_38 : decode cX7_spare 38 = .ok (.iconst (-1), 1) := by decide +kernel
theorem dX7_spare_39 : decode cX7_spare 39 = .ok (.ireturn, 1) := by decide +kernel
set_option maxRecDepth 20000 in
theorem m_X7_spare {h : Hp} {a1 : Int32}  {u : (Hp × Int32)} (hu : f_X7_spare h a1 = some u) : Ct yX7_spare cX7_spare 3 (some .int) 6 [.ref 0, .int a1] h (eI u) := by
  refine ct_of eI hu (by decide) (Nat.le_of_ble_eq_true rfl) (fun κ hn C E => ?_)
  have n2 : 2 < kn κ := by rw [hn]; decide
  unfold f_X7_spare
  show Xz κ _ 0 [(0, .ref 0), (1, .int a1)] [] h
  refine x_iload_n 1 C dX7_spare_0 1 rfl rfl rfl ?_
  refine x_iconst 2 C dX7_spare_1 ci_m1 rfl ?_
  refine x_iconst 3 C dX7_spare_2 ci_1 rfl ?_
  refine x_csi 6 [.int a1, .int (-1 : Int32), .int (1 : Int32)] [] C 0 dX7_spare_3 s_X7_85 (fun u hu => m_X7_within hu) rfl rfl (Nat.le_of_ble_eq_true rfl) (Nat.le_of_ble_eq_true rfl) rfl (fun x1 => ?_)
  refine x_if_ne 9 12 C dX7_spare_6 (by decide) rfl (fun _ => ?_) (fun _ => ?_)
  · refine x_aload_n 13 C dX7_spare_12 0 rfl rfl rfl ?_
    refine x_cvI 16 [] [] C 5 dX7_spare_13 v_X7_230 (fun u hu => m_X7_spareFewest hu) rfl sk_0 rfl (Nat.le_of_ble_eq_true rfl) (Nat.le_of_ble_eq_true rfl) rfl (fun h2 x3 => ?_)
    refine x_istore_n 17 [(2, .int x3), (0, .ref 0), (1, .int a1)] C dX7_spare_16 n2 rfl rfl rfl ?_
    refine x_iload_n 18 C dX7_spare_17 2 rfl rfl rfl ?_
    refine x_iconst 19 C dX7_spare_18 ci_m1 rfl ?_
    refine x_icmp_ne 22 24 C dX7_spare_19 (by decide) rfl (fun _ => ?_) (fun _ => ?_)
    · refine x_iload_n 25 C dX7_spare_24 2 rfl rfl rfl ?_
      refine x_iload_n 26 C dX7_spare_25 0 rfl rfl rfl ?_
      refine x_icmp_ge 29 38 C dX7_spare_26 (by decide) rfl (fun _ => ?_) (fun _ => ?_)
      · refine x_iconst 39 C dX7_spare_38 ci_m1 rfl ?_
        exact x_iret C E dX7_spare_39 rfl
      · refine x_aload_n 30 C dX7_spare_29 1 rfl rfl rfl ?_
        refine x_getR (c := 58) 33 C dX7_spare_30 fl_X7_58 sk_0 rfl sr_0_9 rfl ?_
        refine x_iload_n 34 C dX7_spare_33 2 rfl rfl rfl ?_
        refine x_iald 35 C dX7_spare_34 sk_58 sl_58 rfl ?_
        refine x_goto 39 C dX7_spare_35 (by decide) ?_
        exact x_iret C E dX7_spare_39 rfl
    · refine x_iload_n 23 C dX7_spare_22 0 rfl rfl rfl ?_
      exact x_iret C E dX7_spare_23 rfl
  · refine x_bipush 11 C dX7_spare_9 cb_m2 rfl ?_
    exact x_iret C E dX7_spare_11 rfl

def f_X7_seen (h : Hp) (a1 : Int32) (a2 : Int32) (a3 : Int32) : Option (Hp × Int32) :=
  bdr (f_X7_isBeat a1) fun x1 =>
  if x1 = 0 then (
    some (h, (-2 : Int32)))
  else (
    bdr (f_X7_within a2 (0 : Int32) (5 : Int32)) fun x2 =>
    if x2 = 0 then (
      some (h, (-2 : Int32)))
    else (
      bdr (f_X7_within a3 (0 : Int32) (3 : Int32)) fun x3 =>
      if x3 = 0 then (
        some (h, (-2 : Int32)))
      else (
        bdr (f_X3_hasRoom h) fun x4 =>
        if x4 = 0 then (
          some (h, (-4 : Int32)))
        else (
          bdv (f_X3_add h a1 a2 a3) fun h5 =>
          some (h5, (h5.1 13 3))))))
theorem dX7_seen_0 : decode cX7_seen 0 = .ok (.iload_n 1, 1) := by decide +kernel
theorem dX7_seen_1 : decode cX7_seen 1 = .ok (.invokestatic 126, 3) := by decide +kernel
theorem dX7_seen_4 : decode cX7_seen 4 = .ok (.ifCond .eq 21, 3) := by decide +kernel
theorem dX7_seen_7 : decode cX7_seen 7 = .ok (.iload_n 2, 1) := by decide +kernel
theorem dX7_seen_8 : decode cX7_seen 8 = .ok (.iconst 0, 1) := by decide +kernel
theorem dX7_seen_9 : decode cX7_seen 9 = .ok (.iconst 5, 1) := by decide +kernel
theorem dX7_seen_10 : decode cX7_seen 10 = .ok (.invokestatic 85, 3) := by decide +kernel
theorem dX7_seen_13 : decode cX7_seen 13 = .ok (.ifCond .eq 12, 3) := by decide +kernel
theorem dX7_seen_16 : decode cX7_seen 16 = .ok (.iload_n 3, 1) := by decide +kernel
theorem dX7_seen_17 : decode cX7_seen 17 = .ok (.iconst 0, 1) := by decide +kernel
theorem dX7_seen_18 : decode cX7_seen 18 = .ok (.iconst 3, 1) := by decide +kernel
theorem dX7_seen_19 : decode cX7_seen 19 = .ok (.invokestatic 85, 3) := by decide +kernel
theorem dX7_seen_22 : decode cX7_seen 22 = .ok (.ifCond .ne 6, 3) := by decide +kernel
theorem dX7_seen_25 : decode cX7_seen 25 = .ok (.bipush (-2), 2) := by decide +kernel
theorem dX7_seen_27 : decode cX7_seen 27 = .ok (.ireturn, 1) := by decide +kernel
theorem dX7_seen_28 : decode cX7_seen 28 = .ok (.aload_n 0, 1) := by decide +kernel
theorem dX7_seen_29 : decode cX7_seen 29 = .ok (.getfield 33, 3) := by decide +kernel
theorem dX7_seen_32 : decode cX7_seen 32 = .ok (.invokevirtual 240, 3) := by decide +kernel
theorem dX7_seen_35 : decode cX7_seen 35 = .ok (.ifCond .ne 6, 3) := by decide +kernel
theorem dX7_seen_38 : decode cX7_seen 38 = .ok (.bipush (-4), 2) := by decide +kernel
theorem dX7_seen_40 : decode cX7_seen 40 = .ok (.ireturn, 1) := by decide +kernel
theorem dX7_seen_41 : decode cX7_seen 41 = .ok (.aload_n 0, 1) := by decide +kernel
theorem dX7_seen_42 : decode cX7_seen 42 = .ok (.getfield 33, 3) := by decide +kernel
theorem dX7_seen_45 : decode cX7_seen 45 = .ok (.iload_n 1, 1) := by decide +kernel
theorem dX7_seen_46 : decode cX7_seen 46 = .ok (.iload_n 2, 1) := by decide +kernel
theorem dX7_seen_47 : decode cX7_seen 47 = .ok (.iload_n 3, 1) := by decide +kernel
theorem dX7_seen_48 : decode cX7_seen 48 = .ok (.invokevirtual 241, 3) := by decide +kernel
theorem dX7_seen_51 : decode cX7_seen 51 = .ok (.aload_n 0, 1) := by decide +kernel
theorem dX7_seen_52 : decode cX7_seen 52 = .ok (.getfield 33, 3) := by decide +kernel
theorem dX7_seen_55 : decode cX7_seen 55 = .ok (.getfield 243, 3) := by decide +kernel
theorem dX7_seen_58 : decode cX7_seen 58 = .ok (.ireturn, 1) := by decide +kernel
set_option maxRecDepth 20000 in
theorem m_X7_seen {h : Hp} {a1 : Int32} {a2 : Int32} {a3 : Int32}  {u : (Hp × Int32)} (hu : f_X7_seen h a1 a2 a3 = some u) : Ct yX7_seen cX7_seen 4 (some .int) 2 [.ref 0, .int a1, .int a2, .int a3] h (eI u) := by
  refine ct_of eI hu (by decide) (Nat.le_of_ble_eq_true rfl) (fun κ hn C E => ?_)
  unfold f_X7_seen
  show Xz κ _ 0 [(0, .ref 0), (1, .int a1), (2, .int a2), (3, .int a3)] [] h
  refine x_iload_n 1 C dX7_seen_0 1 rfl rfl rfl ?_
  refine x_csi 4 [.int a1] [] C 1 dX7_seen_1 s_X7_126 (fun u hu => m_X7_isBeat hu) rfl rfl (Nat.le_of_ble_eq_true rfl) (Nat.le_of_ble_eq_true rfl) rfl (fun x1 => ?_)
  refine x_if_eq 7 25 C dX7_seen_4 (by decide) rfl (fun _ => ?_) (fun _ => ?_)
  · refine x_bipush 27 C dX7_seen_25 cb_m2 rfl ?_
    exact x_iret C E dX7_seen_27 rfl
  · refine x_iload_n 8 C dX7_seen_7 2 rfl rfl rfl ?_
    refine x_iconst 9 C dX7_seen_8 ci_0 rfl ?_
    refine x_iconst 10 C dX7_seen_9 ci_5 rfl ?_
    refine x_csi 13 [.int a2, .int (0 : Int32), .int (5 : Int32)] [] C 0 dX7_seen_10 s_X7_85 (fun u hu => m_X7_within hu) rfl rfl (Nat.le_of_ble_eq_true rfl) (Nat.le_of_ble_eq_true rfl) rfl (fun x2 => ?_)
    refine x_if_eq 16 25 C dX7_seen_13 (by decide) rfl (fun _ => ?_) (fun _ => ?_)
    · refine x_bipush 27 C dX7_seen_25 cb_m2 rfl ?_
      exact x_iret C E dX7_seen_27 rfl
    · refine x_iload_n 17 C dX7_seen_16 3 rfl rfl rfl ?_
      refine x_iconst 18 C dX7_seen_17 ci_0 rfl ?_
      refine x_iconst 19 C dX7_seen_18 ci_3 rfl ?_
      refine x_csi 22 [.int a3, .int (0 : Int32), .int (3 : Int32)] [] C 0 dX7_seen_19 s_X7_85 (fun u hu => m_X7_within hu) rfl rfl (Nat.le_of_ble_eq_true rfl) (Nat.le_of_ble_eq_true rfl) rfl (fun x3 => ?_)
      refine x_if_ne 25 28 C dX7_seen_22 (by decide) rfl (fun _ => ?_) (fun _ => ?_)
      · refine x_aload_n 29 C dX7_seen_28 0 rfl rfl rfl ?_
        refine x_getR (c := 13) 32 C dX7_seen_29 fl_X7_33 sk_0 rfl sr_0_3 rfl ?_
        refine x_cvi 35 [] [] C 0 dX7_seen_32 v_X7_240 (fun u hu => m_X3_hasRoom hu) rfl sk_13 rfl (Nat.le_of_ble_eq_true rfl) (Nat.le_of_ble_eq_true rfl) rfl (fun x4 => ?_)
        refine x_if_ne 38 41 C dX7_seen_35 (by decide) rfl (fun _ => ?_) (fun _ => ?_)
        · refine x_aload_n 42 C dX7_seen_41 0 rfl rfl rfl ?_
          refine x_getR (c := 13) 45 C dX7_seen_42 fl_X7_33 sk_0 rfl sr_0_3 rfl ?_
          refine x_iload_n 46 C dX7_seen_45 1 rfl rfl rfl ?_
          refine x_iload_n 47 C dX7_seen_46 2 rfl rfl rfl ?_
          refine x_iload_n 48 C dX7_seen_47 3 rfl rfl rfl ?_
          refine x_cvV 51 [.int a1, .int a2, .int a3] [] C 0 dX7_seen_48 v_X7_241 (fun u hu => m_X3_add hu) rfl sk_13 rfl (Nat.le_of_ble_eq_true rfl) (Nat.le_of_ble_eq_true rfl) rfl (fun h5 => ?_)
          refine x_aload_n 52 C dX7_seen_51 0 rfl rfl rfl ?_
          refine x_getR (c := 13) 55 C dX7_seen_52 fl_X7_33 sk_0 rfl sr_0_3 rfl ?_
          refine x_getI 58 C dX7_seen_55 fl_X7_243 sk_13 rfl rfl ?_
          exact x_iret C E dX7_seen_58 rfl
        · refine x_bipush 40 C dX7_seen_38 cb_m4 rfl ?_
          exact x_iret C E dX7_seen_40 rfl
      · refine x_bipush 27 C dX7_seen_25 cb_m2 rfl ?_
        exact x_iret C E dX7_seen_27 rfl

def f_X7_forget (h : Hp) : Option (Hp × Int32) :=
  nm (h.1 13 3) fun x1 =>
  nm (uf h 13 3 (0 : Int32)) fun h2 =>
  some (h2, x1)
theorem dX7_forget_0 : decode cX7_forget 0 = .ok (.aload_n 0, 1) := by decide +kernel
theorem dX7_forget_1 : decode cX7_forget 1 = .ok (.getfield 33, 3) := by decide +kernel
theorem dX7_forget_4 : decode cX7_forget 4 = .ok (.getfield 243, 3) := by decide +kernel
theorem dX7_forget_7 : decode cX7_forget 7 = .ok (.istore_n 1, 1) := by decide +kernel
theorem dX7_forget_8 : decode cX7_forget 8 = .ok (.aload_n 0, 1) := by decide +kernel
theorem dX7_forget_9 : decode cX7_forget 9 = .ok (.getfield 33, 3) := by decide +kernel
theorem dX7_forget_12 : decode cX7_forget 12 = .ok (.iconst 0, 1) := by decide +kernel
theorem dX7_forget_13 : decode cX7_forget 13 = .ok (.putfield 243, 3) := by decide +kernel
theorem dX7_forget_16 : decode cX7_forget 16 = .ok (.iload_n 1, 1) := by decide +kernel
theorem dX7_forget_17 : decode cX7_forget 17 = .ok (.ireturn, 1) := by decide +kernel
set_option maxRecDepth 20000 in
theorem m_X7_forget {h : Hp}  {u : (Hp × Int32)} (hu : f_X7_forget h = some u) : Ct yX7_forget cX7_forget 2 (some .int) 0 [.ref 0] h (eI u) := by
  refine ct_of eI hu (by decide) (Nat.le_of_ble_eq_true rfl) (fun κ hn C E => ?_)
  have n1 : 1 < kn κ := by rw [hn]; decide
  unfold f_X7_forget
  show Xz κ _ 0 [(0, .ref 0)] [] h
  refine x_aload_n 1 C dX7_forget_0 0 rfl rfl rfl ?_
  refine x_getR (c := 13) 4 C dX7_forget_1 fl_X7_33 sk_0 rfl sr_0_3 rfl ?_
  refine x_getI 7 C dX7_forget_4 fl_X7_243 sk_13 rfl rfl ?_
  refine x_ni (fun x1 => ?_)
  refine x_istore_n 8 [(1, .int x1), (0, .ref 0)] C dX7_forget_7 n1 rfl rfl rfl ?_
  refine x_aload_n 9 C dX7_forget_8 1 rfl rfl rfl ?_
  refine x_getR (c := 13) 12 C dX7_forget_9 fl_X7_33 sk_0 rfl sr_0_3 rfl ?_
  refine x_iconst 13 C dX7_forget_12 ci_0 rfl ?_
  refine x_put 16 C dX7_forget_13 fp_X7_243 sk_13 rfl rfl rfl rfl (fun h2 => ?_)
  refine x_iload_n 17 C dX7_forget_16 0 rfl rfl rfl ?_
  exact x_iret C E dX7_forget_17 rfl

def f_X7_never (h : Hp) : Option (Hp × Int32) :=
  fx3 FU (fun s1 (h1 : Hp) (x2 : Int32) (x3 : Int32) =>
    if (h1.1 5 8) ≤ x3 then (
      some (h1, x2))
    else (
      bdv (f_X2_play h1 36 9 ((1 : Int32) <<< (x3 &&& 31)) (1 : Int32)) fun h4 =>
      bdr (f_X3_fit h4 (h4.1 5 7)) fun x5 =>
      lt1 (fun (x6 : Int32) =>
        nm (x3 + (1 : Int32)) fun x7 =>
        s1 h4 x6 x7) fun k2 =>
      if x5 = 0 then (
        k2 x2)
      else (
        nm (x2 ||| ((1 : Int32) <<< (x3 &&& 31))) fun x8 =>
        k2 x8))) h (0 : Int32) (0 : Int32)
theorem dX7_never_0 : decode cX7_never 0 = .ok (.iconst 0, 1) := by decide +kernel
theorem dX7_never_1 : decode cX7_never 1 = .ok (.istore_n 1, 1) := by decide +kernel
theorem dX7_never_2 : decode cX7_never 2 = .ok (.iconst 0, 1) := by decide +kernel
theorem dX7_never_3 : decode cX7_never 3 = .ok (.istore_n 2, 1) := by decide +kernel
theorem dX7_never_4 : decode cX7_never 4 = .ok (.iload_n 2, 1) := by decide +kernel
theorem dX7_never_5 : decode cX7_never 5 = .ok (.aload_n 0, 1) := by decide +kernel
theorem dX7_never_6 : decode cX7_never 6 = .ok (.getfield 26, 3) := by decide +kernel
theorem dX7_never_9 : decode cX7_never 9 = .ok (.getfield 154, 3) := by decide +kernel
theorem dX7_never_12 : decode cX7_never 12 = .ok (.if_icmp .ge 61, 3) := by decide +kernel
theorem dX7_never_15 : decode cX7_never 15 = .ok (.aload_n 0, 1) := by decide +kernel
theorem dX7_never_16 : decode cX7_never 16 = .ok (.getfield 44, 3) := by decide +kernel
theorem dX7_never_19 : decode cX7_never 19 = .ok (.aload_n 0, 1) := by decide +kernel
theorem dX7_never_20 : decode cX7_never 20 = .ok (.getfield 26, 3) := by decide +kernel
theorem dX7_never_23 : decode cX7_never 23 = .ok (.aload_n 0, 1) := by decide +kernel
theorem dX7_never_24 : decode cX7_never 24 = .ok (.getfield 26, 3) := by decide +kernel
theorem dX7_never_27 : decode cX7_never 27 = .ok (.getfield 129, 3) := by decide +kernel
theorem dX7_never_30 : decode cX7_never 30 = .ok (.iconst 1, 1) := by decide +kernel
theorem dX7_never_31 : decode cX7_never 31 = .ok (.iload_n 2, 1) := by decide +kernel
theorem dX7_never_32 : decode cX7_never 32 = .ok (.ishl, 1) := by decide +kernel
theorem dX7_never_33 : decode cX7_never 33 = .ok (.iconst 1, 1) := by decide +kernel
theorem dX7_never_34 : decode cX7_never 34 = .ok (.invokevirtual 233, 3) := by decide +kernel
theorem dX7_never_37 : decode cX7_never 37 = .ok (.aload_n 0, 1) := by decide +kernel
theorem dX7_never_38 : decode cX7_never 38 = .ok (.getfield 33, 3) := by decide +kernel
theorem dX7_never_41 : decode cX7_never 41 = .ok (.aload_n 0, 1) := by decide +kernel
theorem dX7_never_42 : decode cX7_never 42 = .ok (.getfield 44, 3) := by decide +kernel
theorem dX7_never_45 : decode cX7_never 45 = .ok (.getfield 175, 3) := by decide +kernel
theorem dX7_never_48 : decode cX7_never 48 = .ok (.aload_n 0, 1) := by decide +kernel
theorem dX7_never_49 : decode cX7_never 49 = .ok (.getfield 26, 3) := by decide +kernel
theorem dX7_never_52 : decode cX7_never 52 = .ok (.getfield 192, 3) := by decide +kernel
theorem dX7_never_55 : decode cX7_never 55 = .ok (.invokevirtual 244, 3) := by decide +kernel
theorem dX7_never_58 : decode cX7_never 58 = .ok (.ifCond .eq 9, 3) := by decide +kernel
theorem dX7_never_61 : decode cX7_never 61 = .ok (.iload_n 1, 1) := by decide +kernel
theorem dX7_never_62 : decode cX7_never 62 = .ok (.iconst 1, 1) := by decide +kernel
theorem dX7_never_63 : decode cX7_never 63 = .ok (.iload_n 2, 1) := by decide +kernel
theorem dX7_never_64 : decode cX7_never 64 = .ok (.ishl, 1) := by decide +kernel
theorem dX7_never_65 : decode cX7_never 65 = .ok (.ior, 1) := by decide +kernel
theorem dX7_never_66 : decode cX7_never 66 = .ok (.istore_n 1, 1) := by decide +kernel
theorem dX7_never_67 : decode cX7_never 67 = .ok (.iinc 2 1, 3) := by decide +kernel
theorem dX7_never_70 : decode cX7_never 70 = .ok (.goto (-66), 3) := by decide +kernel
theorem dX7_never_73 : decode cX7_never 73 = .ok (.iload_n 1, 1) := by decide +kernel
theorem dX7_never_74 : decode cX7_never 74 = .ok (.ireturn, 1) := by decide +kernel
set_option maxRecDepth 20000 in
theorem m_X7_never {h : Hp}  {u : (Hp × Int32)} (hu : f_X7_never h = some u) : Ct yX7_never cX7_never 3 (some .int) 4 [.ref 0] h (eI u) := by
  refine ct_of eI hu (by decide) (Nat.le_of_ble_eq_true rfl) (fun κ hn C E => ?_)
  have n1 : 1 < kn κ := by rw [hn]; decide
  have n2 : 2 < kn κ := by rw [hn]; decide
  unfold f_X7_never
  show Xz κ _ 0 [(0, .ref 0)] [] h
  refine x_iconst 1 C dX7_never_0 ci_0 rfl ?_
  refine x_istore_n 2 [(1, .int (0 : Int32)), (0, .ref 0)] C dX7_never_1 n1 rfl rfl rfl ?_
  refine x_iconst 3 C dX7_never_2 ci_0 rfl ?_
  refine x_istore_n 4 [(2, .int (0 : Int32)), (1, .int (0 : Int32)), (0, .ref 0)] C dX7_never_3 n2 rfl rfl rfl ?_
  refine x_ls [2, 1, 0] rfl (x_fx3 (ls := fun h1 x2 x3 => [(0, .ref 0), (1, .int x2), (2, .int x3)]) (st := fun h1 x2 x3 => []) (hh := fun h1 x2 x3 => h1) (fun s1 J1 h1 x2 x3 => ?_))
  refine x_iload_n 5 C dX7_never_4 2 rfl rfl rfl ?_
  refine x_aload_n 6 C dX7_never_5 0 rfl rfl rfl ?_
  refine x_getR (c := 5) 9 C dX7_never_6 fl_X7_26 sk_0 rfl sr_0_2 rfl ?_
  refine x_getI 12 C dX7_never_9 fl_X7_154 sk_5 rfl rfl ?_
  refine x_icmp_ge 15 73 C dX7_never_12 (by decide) rfl (fun _ => ?_) (fun _ => ?_)
  · refine x_iload_n 74 C dX7_never_73 1 rfl rfl rfl ?_
    exact x_iret C E dX7_never_74 rfl
  · refine x_aload_n 16 C dX7_never_15 0 rfl rfl rfl ?_
    refine x_getR (c := 36) 19 C dX7_never_16 fl_X7_44 sk_0 rfl sr_0_5 rfl ?_
    refine x_aload_n 20 C dX7_never_19 0 rfl rfl rfl ?_
    refine x_getR (c := 5) 23 C dX7_never_20 fl_X7_26 sk_0 rfl sr_0_2 rfl ?_
    refine x_aload_n 24 C dX7_never_23 0 rfl rfl rfl ?_
    refine x_getR (c := 5) 27 C dX7_never_24 fl_X7_26 sk_0 rfl sr_0_2 rfl ?_
    refine x_getR (c := 9) 30 C dX7_never_27 fl_X7_129 sk_5 rfl sr_5_3 rfl ?_
    refine x_iconst 31 C dX7_never_30 ci_1 rfl ?_
    refine x_iload_n 32 C dX7_never_31 2 rfl rfl rfl ?_
    refine x_ishl 33 C dX7_never_32 rfl ?_
    refine x_iconst 34 C dX7_never_33 ci_1 rfl ?_
    refine x_cvV 37 [.ref 5, .ref 9, .int ((1 : Int32) <<< (x3 &&& 31)), .int (1 : Int32)] [] C 3 dX7_never_34 v_X7_233 (fun u hu => m_X2_play sk_36 sk_9 hu) rfl sk_36 rfl (Nat.le_of_ble_eq_true rfl) (Nat.le_of_ble_eq_true rfl) rfl (fun h4 => ?_)
    refine x_aload_n 38 C dX7_never_37 0 rfl rfl rfl ?_
    refine x_getR (c := 13) 41 C dX7_never_38 fl_X7_33 sk_0 rfl sr_0_3 rfl ?_
    refine x_aload_n 42 C dX7_never_41 0 rfl rfl rfl ?_
    refine x_getR (c := 36) 45 C dX7_never_42 fl_X7_44 sk_0 rfl sr_0_5 rfl ?_
    refine x_getR (c := 41) 48 C dX7_never_45 fl_X7_175 sk_36 rfl sr_36_1 rfl ?_
    refine x_aload_n 49 C dX7_never_48 0 rfl rfl rfl ?_
    refine x_getR (c := 5) 52 C dX7_never_49 fl_X7_26 sk_0 rfl sr_0_2 rfl ?_
    refine x_getI 55 C dX7_never_52 fl_X7_192 sk_5 rfl rfl ?_
    refine x_cvi 58 [.ref 41, .int (h4.1 5 7)] [] C 2 dX7_never_55 v_X7_244 (fun u hu => m_X3_fit hu) rfl sk_13 rfl (Nat.le_of_ble_eq_true rfl) (Nat.le_of_ble_eq_true rfl) rfl (fun x5 => ?_)
    refine x_lt1 (q := 67) (ls := fun x6 => [(0, .ref 0), (1, .int x6), (2, .int x3)]) (st := fun x6 => []) (hh := fun x6 => h4) (fun x6 => ?_) (fun k2 J2 => ?_)
    · refine x_iinc 70 (fun x7 => [(2, .int x7), (0, .ref 0), (1, .int x6)]) C dX7_never_67 2 rfl ci_1 n2 (fun _ => rfl) rfl (fun x7 => ?_)
      refine x_goto 4 C dX7_never_70 (by decide) ?_
      exact x_ls [1, 2, 0] rfl (J1 h4 x6 x7)
    refine x_if_eq 61 67 C dX7_never_58 (by decide) rfl (fun _ => ?_) (fun _ => ?_)
    · exact x_ls [0, 1, 2] rfl (J2 x2)
    · refine x_iload_n 62 C dX7_never_61 1 rfl rfl rfl ?_
      refine x_iconst 63 C dX7_never_62 ci_1 rfl ?_
      refine x_iload_n 64 C dX7_never_63 2 rfl rfl rfl ?_
      refine x_ishl 65 C dX7_never_64 rfl ?_
      refine x_ior 66 C dX7_never_65 rfl ?_
      refine x_ni (fun x8 => ?_)
      refine x_istore_n 67 [(1, .int x8), (0, .ref 0), (2, .int x3)] C dX7_never_66 n1 rfl rfl rfl ?_
      exact x_ls [1, 0, 2] rfl (J2 x8)

def f_X7_markPlaces (h : Hp) (a1 : Int32) : Option Hp :=
  fx2 FU (fun s1 (h1 : Hp) (x2 : Int32) =>
    if (24 : Int32) ≤ x2 then (
      some h1)
    else (
      nm ((a1 * (24 : Int32)) + x2) fun x3 =>
      lt1 (fun (h4 : Hp) =>
        nm (x2 + (1 : Int32)) fun x5 =>
        s1 h4 x5) fun k2 =>
      if x3 < 0 then (
        k2 h1)
      else (
        if (nI 240) ≤ x3 then (
          k2 h1)
        else (
          bdr (f_X0_markOfPlaces h1 41 x2 (h1.1 5 7)) fun l6 =>
          ck x3 240 (nm (uy h1 57 x3 l6) fun h7 =>
          k2 h7))))) h (0 : Int32)
theorem dX7_markPlaces_0 : decode cX7_markPlaces 0 = .ok (.iconst 0, 1) := by decide +kernel
theorem dX7_markPlaces_1 : decode cX7_markPlaces 1 = .ok (.istore_n 2, 1) := by decide +kernel
theorem dX7_markPlaces_2 : decode cX7_markPlaces 2 = .ok (.iload_n 2, 1) := by decide +kernel
theorem dX7_markPlaces_3 : decode cX7_markPlaces 3 = .ok (.bipush 24, 2) := by decide +kernel
theorem dX7_markPlaces_5 : decode cX7_markPlaces 5 = .ok (.if_icmp .ge 53, 3) := by decide +kernel
theorem dX7_markPlaces_8 : decode cX7_markPlaces 8 = .ok (.iload_n 1, 1) := by decide +kernel
theorem dX7_markPlaces_9 : decode cX7_markPlaces 9 = .ok (.bipush 24, 2) := by decide +kernel
theorem dX7_markPlaces_11 : decode cX7_markPlaces 11 = .ok (.imul, 1) := by decide +kernel
theorem dX7_markPlaces_12 : decode cX7_markPlaces 12 = .ok (.iload_n 2, 1) := by decide +kernel
theorem dX7_markPlaces_13 : decode cX7_markPlaces 13 = .ok (.iadd, 1) := by decide +kernel
theorem dX7_markPlaces_14 : decode cX7_markPlaces 14 = .ok (.istore_n 3, 1) := by decide +kernel
theorem dX7_markPlaces_15 : decode cX7_markPlaces 15 = .ok (.iload_n 3, 1) := by decide +kernel
theorem dX7_markPlaces_16 : decode cX7_markPlaces 16 = .ok (.ifCond .lt 36, 3) := by decide +kernel
theorem dX7_markPlaces_19 : decode cX7_markPlaces 19 = .ok (.iload_n 3, 1) := by decide +kernel
theorem dX7_markPlaces_20 : decode cX7_markPlaces 20 = .ok (.aload_n 0, 1) := by decide +kernel
theorem dX7_markPlaces_21 : decode cX7_markPlaces 21 = .ok (.getfield 54, 3) := by decide +kernel
theorem dX7_markPlaces_24 : decode cX7_markPlaces 24 = .ok (.arraylength, 1) := by decide +kernel
theorem dX7_markPlaces_25 : decode cX7_markPlaces 25 = .ok (.if_icmp .ge 27, 3) := by decide +kernel
theorem dX7_markPlaces_28 : decode cX7_markPlaces 28 = .ok (.aload_n 0, 1) := by decide +kernel
theorem dX7_markPlaces_29 : decode cX7_markPlaces 29 = .ok (.getfield 54, 3) := by decide +kernel
theorem dX7_markPlaces_32 : decode cX7_markPlaces 32 = .ok (.iload_n 3, 1) := by decide +kernel
theorem dX7_markPlaces_33 : decode cX7_markPlaces 33 = .ok (.aload_n 0, 1) := by decide +kernel
theorem dX7_markPlaces_34 : decode cX7_markPlaces 34 = .ok (.getfield 44, 3) := by decide +kernel
theorem dX7_markPlaces_37 : decode cX7_markPlaces 37 = .ok (.getfield 175, 3) := by decide +kernel
theorem dX7_markPlaces_40 : decode cX7_markPlaces 40 = .ok (.iload_n 2, 1) := by decide +kernel
theorem dX7_markPlaces_41 : decode cX7_markPlaces 41 = .ok (.aload_n 0, 1) := by decide +kernel
theorem dX7_markPlaces_42 : decode cX7_markPlaces 42 = .ok (.getfield 26, 3) := by decide +kernel
theorem dX7_markPlaces_45 : decode cX7_markPlaces 45 = .ok (.getfield 192, 3) := by decide +kernel
theorem dX7_markPlaces_48 : decode cX7_markPlaces 48 = .ok (.invokevirtual 274, 3) := by decide +kernel
theorem dX7_markPlaces_51 : decode cX7_markPlaces 51 = .ok (.lastore, 1) := by decide +kernel
theorem dX7_markPlaces_52 : decode cX7_markPlaces 52 = .ok (.iinc 2 1, 3) := by decide +kernel
theorem dX7_markPlaces_55 : decode cX7_markPlaces 55 = .ok (.goto (-53), 3) := by decide +kernel
theorem dX7_markPlaces_58 : decode cX7_markPlaces 58 = .ok (.return_, 1) := by decide +kernel
set_option maxRecDepth 20000 in
theorem m_X7_markPlaces {h : Hp} {a1 : Int32}  {u : Hp} (hu : f_X7_markPlaces h a1 = some u) : Ct yX7_markPlaces cX7_markPlaces 4 none 2 [.ref 0, .int a1] h (eV u) := by
  refine ct_of eV hu (by decide) (Nat.le_of_ble_eq_true rfl) (fun κ hn C E => ?_)
  have n2 : 2 < kn κ := by rw [hn]; decide
  have n3 : 3 < kn κ := by rw [hn]; decide
  unfold f_X7_markPlaces
  show Xz κ _ 0 [(0, .ref 0), (1, .int a1)] [] h
  refine x_iconst 1 C dX7_markPlaces_0 ci_0 rfl ?_
  refine x_istore_n 2 [(2, .int (0 : Int32)), (0, .ref 0), (1, .int a1)] C dX7_markPlaces_1 n2 rfl rfl rfl ?_
  refine x_ls [1, 2, 0] rfl (x_fx2 (ls := fun h1 x2 => [(0, .ref 0), (1, .int a1), (2, .int x2)]) (st := fun h1 x2 => []) (hh := fun h1 x2 => h1) (fun s1 J1 h1 x2 => ?_))
  refine x_iload_n 3 C dX7_markPlaces_2 2 rfl rfl rfl ?_
  refine x_bipush 5 C dX7_markPlaces_3 cb_24 rfl ?_
  refine x_icmp_ge 8 58 C dX7_markPlaces_5 (by decide) rfl (fun _ => ?_) (fun _ => ?_)
  · exact x_vret C E dX7_markPlaces_58 rfl
  · refine x_iload_n 9 C dX7_markPlaces_8 1 rfl rfl rfl ?_
    refine x_bipush 11 C dX7_markPlaces_9 cb_24 rfl ?_
    refine x_imul 12 C dX7_markPlaces_11 rfl ?_
    refine x_iload_n 13 C dX7_markPlaces_12 2 rfl rfl rfl ?_
    refine x_iadd 14 C dX7_markPlaces_13 rfl ?_
    refine x_ni (fun x3 => ?_)
    refine x_istore_n 15 [(3, .int x3), (0, .ref 0), (1, .int a1), (2, .int x2)] C dX7_markPlaces_14 n3 rfl rfl rfl ?_
    refine x_iload_n 16 C dX7_markPlaces_15 0 rfl rfl rfl ?_
    refine x_lt1 (q := 52) (ls := fun h4 => [(0, .ref 0), (1, .int a1), (2, .int x2)]) (st := fun h4 => []) (hh := fun h4 => h4) (fun h4 => ?_) (fun k2 J2 => ?_)
    · refine x_iinc 55 (fun x5 => [(2, .int x5), (0, .ref 0), (1, .int a1)]) C dX7_markPlaces_52 2 rfl ci_1 n2 (fun _ => rfl) rfl (fun x5 => ?_)
      refine x_goto 2 C dX7_markPlaces_55 (by decide) ?_
      exact x_ls [1, 2, 0] rfl (J1 h4 x5)
    refine x_if_lt 19 52 C dX7_markPlaces_16 (by decide) rfl (fun _ => ?_) (fun _ => ?_)
    · exact x_ls [1, 2, 3] rfl (J2 h1)
    · refine x_iload_n 20 C dX7_markPlaces_19 0 rfl rfl rfl ?_
      refine x_aload_n 21 C dX7_markPlaces_20 1 rfl rfl rfl ?_
      refine x_getR (c := 57) 24 C dX7_markPlaces_21 fl_X7_54 sk_0 rfl sr_0_8 rfl ?_
      refine x_alenL 25 C dX7_markPlaces_24 sk_57 sl_57 rfl ?_
      refine x_icmp_ge 28 52 C dX7_markPlaces_25 (by decide) rfl (fun _ => ?_) (fun _ => ?_)
      · exact x_ls [1, 2, 3] rfl (J2 h1)
      · refine x_aload_n 29 C dX7_markPlaces_28 1 rfl rfl rfl ?_
        refine x_getR (c := 57) 32 C dX7_markPlaces_29 fl_X7_54 sk_0 rfl sr_0_8 rfl ?_
        refine x_iload_n 33 C dX7_markPlaces_32 0 rfl rfl rfl ?_
        refine x_aload_n 34 C dX7_markPlaces_33 1 rfl rfl rfl ?_
        refine x_getR (c := 36) 37 C dX7_markPlaces_34 fl_X7_44 sk_0 rfl sr_0_5 rfl ?_
        refine x_getR (c := 41) 40 C dX7_markPlaces_37 fl_X7_175 sk_36 rfl sr_36_1 rfl ?_
        refine x_iload_n 41 C dX7_markPlaces_40 3 rfl rfl rfl ?_
        refine x_aload_n 42 C dX7_markPlaces_41 1 rfl rfl rfl ?_
        refine x_getR (c := 5) 45 C dX7_markPlaces_42 fl_X7_26 sk_0 rfl sr_0_2 rfl ?_
        refine x_getI 48 C dX7_markPlaces_45 fl_X7_192 sk_5 rfl rfl ?_
        refine x_cvl 51 [.int x2, .int (h1.1 5 7)] [.int x3, .ref 57] C 1 dX7_markPlaces_48 v_X7_274 (fun u hu => m_X0_markOfPlaces sk_41 hu) rfl sk_41 rfl (Nat.le_of_ble_eq_true rfl) (Nat.le_of_ble_eq_true rfl) rfl (fun l6 => ?_)
        refine x_last 52 C dX7_markPlaces_51 sk_57 sl_57 rfl (fun h7 => ?_)
        exact x_ls [1, 2, 3] rfl (J2 h7)
