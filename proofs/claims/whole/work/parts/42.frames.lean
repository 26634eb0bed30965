theorem r_J7_fill_53178 (h : Hp) (a1 : Nat) (a2 : Int32) : FO a1 (a1 + 1) h (fun u => u) (f_J7_fill_53178 h a1 a2) := by
  unfold f_J7_fill_53178
  refine fo_ni (fun x1 => ?_)
  refine fo_fx2h (fun s1 Js1 h2 x3 r_h2 => ?_) _ _ FI.rf
  refine fo_ite ?_ ?_
  · exact fo_some r_h2
  · refine fo_ck (fun q1 => ?_)
    refine fo_nh (fi_ux r_h2 (by omega)) (fun h4 r_h4 => ?_)
    refine fo_ni (fun x5 => ?_)
    exact Js1 h4 x5 r_h4
theorem r_X0_note (h : Hp) (S : Nat) (a1 : Int32) (a2 : Int32) (a3 : Int32) (a4 : Int32) : FO S (S + 5) h (fun u => u) (f_X0_note h S a1 a2 a3 a4) := by
  unfold f_X0_note
  refine fo_ite ?_ ?_
  · exact fo_some FI.rf
  · refine fo_ite ?_ ?_
    · exact fo_some FI.rf
    · refine fo_ck (fun q1 => ?_)
      refine fo_nh (fi_ux FI.rf (by omega)) (fun h1 r_h1 => ?_)
      refine fo_ck (fun q2 => ?_)
      refine fo_nh (fi_ux r_h1 (by omega)) (fun h2 r_h2 => ?_)
      refine fo_ck (fun q3 => ?_)
      refine fo_nh (fi_ux r_h2 (by omega)) (fun h3 r_h3 => ?_)
      exact fo_some r_h3
theorem r_X0_noteSway (h : Hp) (S : Nat) (a1 : Int32) (a2 : Int32) : FO S (S + 5) h (fun u => u) (f_X0_noteSway h S a1 a2) := by
  unfold f_X0_noteSway
  refine fo_ite ?_ ?_
  · exact fo_some FI.rf
  · refine fo_ite ?_ ?_
    · exact fo_some FI.rf
    · refine fo_ck (fun q1 => ?_)
      refine fo_nh (fi_ux FI.rf (by omega)) (fun h1 r_h1 => ?_)
      exact fo_some r_h1
theorem r_X1_makeNew (h : Hp) (S : Nat) (a1 : Int32) (a2 : Int32) : FO S (S + 2) h (fun u => u) (f_X1_makeNew h S a1 a2) := by
  unfold f_X1_makeNew
  refine fo_bdv (fun u hu => FI.rf.tr ((r_J7_fill_53178 h (S + 1) (0 : Int32) u hu).mo (by omega))) (fun h1 r_h1 => ?_)
  refine fo_nh (fi_uf r_h1 (by omega)) (fun h2 r_h2 => ?_)
  refine fo_nh (fi_uf r_h2 (by omega)) (fun h3 r_h3 => ?_)
  refine fo_nh (fi_uf r_h3 (by omega)) (fun h4 r_h4 => ?_)
  exact fo_some r_h4
theorem r_X1_put (h : Hp) (S : Nat) (a1 : Int32) (a2 : Int32) : FO S (S + 2) h (fun u => u) (f_X1_put h S a1 a2) := by
  unfold f_X1_put
  refine fo_ite ?_ ?_
  · exact fo_some FI.rf
  · refine fo_ite ?_ ?_
    · exact fo_some FI.rf
    · refine fo_ite ?_ ?_
      · exact fo_some FI.rf
      · refine fo_bdr (fun x1 => ?_)
        refine fo_ck (fun q1 => ?_)
        refine fo_nh (fi_ux FI.rf (by omega)) (fun h2 r_h2 => ?_)
        exact fo_some r_h2
theorem r_X2_noteBeat (h : Hp) (S : Nat) (a1 : Int32) (a2 : Int32) (a3 : Int32) : FO S (S + 19) h (fun u => u) (f_X2_noteBeat h S a1 a2 a3) := by
  unfold f_X2_noteBeat
  refine fo_bdv (fun u hu => FI.rf.tr ((r_X0_noteSway h (S + 5) a1 a2 u hu).mo (by omega))) (fun h1 r_h1 => ?_)
  refine fo_fx2h (fun s1 Js1 h2 x3 r_h2 => ?_) _ _ r_h1
  refine fo_ite ?_ ?_
  · exact fo_some r_h2
  · refine fo_ite ?_ ?_
    · exact fo_some r_h2
    · refine fo_ck (fun q1 => ?_)
      refine fo_ck (fun q2 => ?_)
      refine fo_ck (fun q3 => ?_)
      refine fo_bdv (fun u hu => r_h2.tr ((r_X0_note h2 (S + 5) ((a1 * (6 : Int32)) + x3) (ia h2 (S + 10) x3) (ia h2 (S + 11) x3) (ia h2 (S + 12) x3) u hu).mo (by omega))) (fun h4 r_h4 => ?_)
      refine fo_ni (fun x5 => ?_)
      exact Js1 h4 x5 r_h4
theorem r_X2_dropPoles (h : Hp) (S : Nat) (a1 : Int32) : FO S (S + 19) h (fun u => u) (f_X2_dropPoles h S a1) := by
  unfold f_X2_dropPoles
  refine fo_fx2h (fun s1 Js1 h1 x2 r_h1 => ?_) _ _ FI.rf
  refine fo_ite ?_ ?_
  · exact fo_some r_h1
  · refine fo_lt1h (fun h3 r_h3 => ?_) (fun k2 Jk2 => ?_)
    · refine fo_ni (fun x4 => ?_)
      exact Js1 h3 x4 r_h3
    refine fo_ite ?_ ?_
    · refine fo_ck (fun q1 => ?_)
      refine fo_nh (fi_ux r_h1 (by omega)) (fun h5 r_h5 => ?_)
      exact Jk2 h5 r_h5
    · exact Jk2 h1 r_h1
theorem r_X2_perform (h : Hp) (S : Nat) (a2 : Int32) (a3 : Int32) (a4 : Int32) (a5 : Int32) : FO S (S + 19) h (fun u => u) (f_X2_perform h S a2 a3 a4 a5) := by
  unfold f_X2_perform
  refine fo_ite ?_ ?_
  · exact fo_some FI.rf
  · refine fo_ite ?_ ?_
    · refine fo_ck (fun q1 => ?_)
      refine fo_ni (fun x1 => ?_)
      refine fo_lt1h (fun h2 r_h2 => ?_) (fun k1 Jk1 => ?_)
      · refine fo_lt1 (fun x3 => ?_) (fun k2 Jk2 => ?_)
        · refine fo_ck (fun q2 => ?_)
          refine fo_ck (fun q3 => ?_)
          refine fo_ite ?_ ?_
          · refine fo_ck (fun q4 => ?_)
            refine fo_ite ?_ ?_
            · refine fo_ck (fun q5 => ?_)
              refine fo_nh (fi_ux r_h2 (by omega)) (fun h4 r_h4 => ?_)
              exact fo_some r_h4
            · refine fo_ck (fun q6 => ?_)
              refine fo_nh (fi_ux r_h2 (by omega)) (fun h5 r_h5 => ?_)
              exact fo_some r_h5
          · refine fo_ck (fun q7 => ?_)
            refine fo_nh (fi_ux r_h2 (by omega)) (fun h6 r_h6 => ?_)
            exact fo_some r_h6
        refine fo_ite ?_ ?_
        · exact Jk2 (2 : Int32)
        · exact Jk2 (0 : Int32)
      refine fo_ite ?_ ?_
      · refine fo_ck (fun q8 => ?_)
        refine fo_lt1 (fun x13 => ?_) (fun k6 Jk6 => ?_)
        · refine fo_ni (fun x14 => ?_)
          refine fo_ck (fun q9 => ?_)
          refine fo_ni (fun x15 => ?_)
          refine fo_ck (fun q10 => ?_)
          refine fo_ck (fun q11 => ?_)
          refine fo_nh (fi_ux FI.rf (by omega)) (fun h16 r_h16 => ?_)
          refine fo_nh (fi_uf r_h16 (by omega)) (fun h17 r_h17 => ?_)
          refine fo_ck (fun q12 => ?_)
          refine fo_lt1 (fun x18 => ?_) (fun k7 Jk7 => ?_)
          · refine fo_ck (fun q13 => ?_)
            refine fo_nh (fi_ux r_h17 (by omega)) (fun h19 r_h19 => ?_)
            refine fo_ck (fun q14 => ?_)
            refine fo_lt1 (fun x20 => ?_) (fun k8 Jk8 => ?_)
            · refine fo_ck (fun q15 => ?_)
              refine fo_nh (fi_ux r_h19 (by omega)) (fun h21 r_h21 => ?_)
              exact Jk1 h21 r_h21
            refine fo_ite ?_ ?_
            · exact Jk8 x15
            · exact Jk8 (0 : Int32)
          refine fo_ite ?_ ?_
          · exact Jk7 (1 : Int32)
          · exact Jk7 (0 : Int32)
        refine fo_ite ?_ ?_
        · exact Jk6 (1 : Int32)
        · exact Jk6 (0 : Int32)
      · refine fo_ite ?_ ?_
        · refine fo_ck (fun q16 => ?_)
          refine fo_ck (fun q17 => ?_)
          refine fo_lt1 (fun x11 => ?_) (fun k5 Jk5 => ?_)
          · refine fo_ck (fun q18 => ?_)
            refine fo_nh (fi_ux FI.rf (by omega)) (fun h12 r_h12 => ?_)
            exact Jk1 h12 r_h12
          refine fo_ite ?_ ?_
          · refine fo_ck (fun q19 => ?_)
            refine fo_ite ?_ ?_
            · exact Jk5 (0 : Int32)
            · exact Jk5 (1 : Int32)
          · exact Jk5 (-1 : Int32)
        · refine fo_ck (fun q20 => ?_)
          refine fo_lt1 (fun x7 => ?_) (fun k3 Jk3 => ?_)
          · refine fo_ni (fun x8 => ?_)
            refine fo_ck (fun q21 => ?_)
            refine fo_lt1 (fun x9 => ?_) (fun k4 Jk4 => ?_)
            · refine fo_ck (fun q22 => ?_)
              refine fo_nh (fi_ux FI.rf (by omega)) (fun h10 r_h10 => ?_)
              exact Jk1 h10 r_h10
            refine fo_ite ?_ ?_
            · exact Jk4 x8
            · exact Jk4 (0 - x8)
          refine fo_ite ?_ ?_
          · exact Jk3 (1 : Int32)
          · exact Jk3 (0 : Int32)
    · exact fo_some FI.rf
theorem r_X2_settle (h : Hp) (S : Nat) (a2 : Int32) (a3 : Int32) : FO S (S + 19) h (fun u => u) (f_X2_settle h S a2 a3) := by
  unfold f_X2_settle
  refine fo_ite ?_ ?_
  · exact fo_some FI.rf
  · refine fo_ite ?_ ?_
    · refine fo_ck (fun q1 => ?_)
      refine fo_lt1h (fun h1 r_h1 => ?_) (fun k1 Jk1 => ?_)
      · refine fo_ck (fun q2 => ?_)
        refine fo_ck (fun q3 => ?_)
        refine fo_ck (fun q4 => ?_)
        refine fo_nh (fi_ux r_h1 (by omega)) (fun h2 r_h2 => ?_)
        exact fo_some r_h2
      refine fo_ite ?_ ?_
      · refine fo_ck (fun q5 => ?_)
        refine fo_ite ?_ ?_
        · exact Jk1 h FI.rf
        · refine fo_ck (fun q6 => ?_)
          refine fo_nh (fi_ux FI.rf (by omega)) (fun h3 r_h3 => ?_)
          refine fo_ck (fun q7 => ?_)
          refine fo_nh (fi_ux r_h3 (by omega)) (fun h4 r_h4 => ?_)
          refine fo_nh (fi_uf r_h4 (by omega)) (fun h5 r_h5 => ?_)
          exact Jk1 h5 r_h5
      · refine fo_ck (fun q8 => ?_)
        refine fo_nh (fi_ux FI.rf (by omega)) (fun h6 r_h6 => ?_)
        refine fo_ck (fun q9 => ?_)
        refine fo_nh (fi_ux r_h6 (by omega)) (fun h7 r_h7 => ?_)
        refine fo_ck (fun q10 => ?_)
        refine fo_nh (fi_ux r_h7 (by omega)) (fun h8 r_h8 => ?_)
        refine fo_nh (fi_uf r_h8 (by omega)) (fun h9 r_h9 => ?_)
        exact Jk1 h9 r_h9
    · exact fo_some FI.rf
theorem r_X2_startNext (h : Hp) (S : Nat) (a2 : Int32) : FO S (S + 19) h (fun u => u) (f_X2_startNext h S a2) := by
  unfold f_X2_startNext
  refine fo_fx1 (fun s1 Js1 x1 => ?_) _
  refine fo_ite ?_ ?_
  · exact fo_some FI.rf
  · refine fo_ite ?_ ?_
    · exact fo_some FI.rf
    · refine fo_ck (fun q1 => ?_)
      refine fo_lt1 (fun u2 => ?_) (fun k2 Jk2 => ?_)
      · refine fo_ni (fun x3 => ?_)
        exact Js1 x3
      refine fo_ite ?_ ?_
      · refine fo_ck (fun q2 => ?_)
        refine fo_ite ?_ ?_
        · exact Jk2 (0 : Int32)
        · refine fo_ck (fun q3 => ?_)
          refine fo_nh (fi_ux FI.rf (by omega)) (fun h4 r_h4 => ?_)
          refine fo_ck (fun q4 => ?_)
          refine fo_nh (fi_ux r_h4 (by omega)) (fun h5 r_h5 => ?_)
          refine fo_ck (fun q5 => ?_)
          refine fo_nh (fi_ux r_h5 (by omega)) (fun h6 r_h6 => ?_)
          refine fo_ite ?_ ?_
          · exact fo_some r_h6
          · refine fo_ite ?_ ?_
            · exact fo_some r_h6
            · refine fo_ck (fun q6 => ?_)
              refine fo_nh (fi_ux r_h6 (by omega)) (fun h7 r_h7 => ?_)
              refine fo_nh (fi_uf r_h7 (by omega)) (fun h8 r_h8 => ?_)
              exact fo_some r_h8
      · exact Jk2 (0 : Int32)
theorem r_X2_playBeat (h : Hp) (S : Nat) (a2 : Nat) (a3 : Int32) (a4 : Int32) : FO S (S + 19) h (fun u => u) (f_X2_playBeat h S a2 a3 a4) := by
  unfold f_X2_playBeat
  refine fo_ite ?_ ?_
  · exact fo_some FI.rf
  · refine fo_ite ?_ ?_
    · refine fo_ck (fun q1 => ?_)
      refine fo_bdv (fun u hu => FI.rf.tr ((r_X2_dropPoles h S (ia h ((S + 1) + 3) a3) u hu).mo (by omega))) (fun h1 r_h1 => ?_)
      refine fo_ck (fun q2 => ?_)
      refine fo_ni (fun x2 => ?_)
      refine fo_lt2h (fun h3 x4 r_h3 => ?_) (fun k1 Jk1 => ?_)
      · refine fo_ite ?_ ?_
        · exact fo_some r_h3
        · refine fo_bdv (fun u hu => r_h3.tr ((r_X2_startNext h3 S a3 u hu).mo (by omega))) (fun h5 r_h5 => ?_)
          exact fo_some r_h5
      refine fo_fx3h (fun s2 Js2 h6 x7 x8 r_h6 => ?_) _ _ _ r_h1
      refine fo_ite ?_ ?_
      · exact Jk1 h6 x7 r_h6
      · refine fo_ite ?_ ?_
        · exact Jk1 h6 x7 r_h6
        · refine fo_ck (fun q3 => ?_)
          refine fo_ni (fun x9 => ?_)
          refine fo_lt2h (fun h10 x11 r_h10 => ?_) (fun k3 Jk3 => ?_)
          · refine fo_ni (fun x12 => ?_)
            exact Js2 h10 x11 x12 r_h10
          refine fo_ite ?_ ?_
          · exact Jk3 h6 x7 r_h6
          · refine fo_ite ?_ ?_
            · exact Jk3 h6 x7 r_h6
            · refine fo_ck (fun q4 => ?_)
              refine fo_ite ?_ ?_
              · refine fo_ck (fun q5 => ?_)
                refine fo_ck (fun q6 => ?_)
                refine fo_nh (fi_ux r_h6 (by omega)) (fun h13 r_h13 => ?_)
                refine fo_ck (fun q7 => ?_)
                refine fo_ni (fun x14 => ?_)
                refine fo_lt1 (fun x15 => ?_) (fun k4 Jk4 => ?_)
                · refine fo_ck (fun q8 => ?_)
                  refine fo_bdv (fun u hu => r_h13.tr ((r_X2_perform h13 S x9 x15 (ia h13 ((S + 1) + 2) a3) x7 u hu).mo (by omega))) (fun h16 r_h16 => ?_)
                  refine fo_bdv (fun u hu => r_h16.tr ((r_X2_settle h16 S x9 a3 u hu).mo (by omega))) (fun h17 r_h17 => ?_)
                  refine fo_ck (fun q9 => ?_)
                  refine fo_lt1 (fun x18 => ?_) (fun k5 Jk5 => ?_)
                  · exact Jk3 h17 x18 r_h17
                  refine fo_ite ?_ ?_
                  · refine fo_ck (fun q10 => ?_)
                    exact Jk5 (ia h17 (S + 11) x9)
                  · exact Jk5 x7
                refine fo_lt1 (fun u19 => ?_) (fun k6 Jk6 => ?_)
                · exact Jk4 (0 : Int32)
                refine fo_ite ?_ ?_
                · exact Jk6 (0 : Int32)
                · refine fo_ite ?_ ?_
                  · exact Jk6 (0 : Int32)
                  · refine fo_ck (fun q11 => ?_)
                    exact Jk4 (ia h13 a2 x14)
              · exact Jk3 h6 x7 r_h6
    · exact fo_some FI.rf
theorem r_X2_prepare (h : Hp) (S : Nat) (a2 : Int32) : FO S (S + 19) h (fun u => u) (f_X2_prepare h S a2) := by
  unfold f_X2_prepare
  refine fo_nh (fi_uf FI.rf (by omega)) (fun h1 r_h1 => ?_)
  refine fo_nh (fi_uf r_h1 (by omega)) (fun h2 r_h2 => ?_)
  refine fo_nh (fi_uf r_h2 (by omega)) (fun h3 r_h3 => ?_)
  refine fo_nh (fi_uf r_h3 (by omega)) (fun h4 r_h4 => ?_)
  refine fo_fx2h (fun s1 Js1 h5 x6 r_h5 => ?_) _ _ r_h4
  refine fo_ite ?_ ?_
  · exact fo_some r_h5
  · refine fo_ck (fun q1 => ?_)
    refine fo_nh (fi_ux r_h5 (by omega)) (fun h7 r_h7 => ?_)
    refine fo_ck (fun q2 => ?_)
    refine fo_nh (fi_ux r_h7 (by omega)) (fun h8 r_h8 => ?_)
    refine fo_ck (fun q3 => ?_)
    refine fo_nh (fi_ux r_h8 (by omega)) (fun h9 r_h9 => ?_)
    refine fo_ck (fun q4 => ?_)
    refine fo_ck (fun q5 => ?_)
    refine fo_nh (fi_ux r_h9 (by omega)) (fun h10 r_h10 => ?_)
    refine fo_ck (fun q6 => ?_)
    refine fo_nh (fi_ux r_h10 (by omega)) (fun h11 r_h11 => ?_)
    refine fo_ck (fun q7 => ?_)
    refine fo_nh (fi_ux r_h11 (by omega)) (fun h12 r_h12 => ?_)
    refine fo_ck (fun q8 => ?_)
    refine fo_nh (fi_ux r_h12 (by omega)) (fun h13 r_h13 => ?_)
    refine fo_ck (fun q9 => ?_)
    refine fo_nh (fi_ux r_h13 (by omega)) (fun h14 r_h14 => ?_)
    refine fo_ni (fun x15 => ?_)
    exact Js1 h14 x15 r_h14
theorem r_X6_add (h : Hp) (S : Nat) (a1 : Int32) (a2 : Int32) (a3 : Int32) : FO S (S + 4) h (fun u => u) (f_X6_add h S a1 a2 a3) := by
  unfold f_X6_add
  refine fo_ite ?_ ?_
  · exact fo_some FI.rf
  · refine fo_ite ?_ ?_
    · refine fo_ite ?_ ?_
      · refine fo_ck (fun q1 => ?_)
        refine fo_ite ?_ ?_
        · refine fo_ck (fun q2 => ?_)
          refine fo_nh (fi_ux FI.rf (by omega)) (fun h4 r_h4 => ?_)
          exact fo_some r_h4
        · refine fo_ck (fun q3 => ?_)
          refine fo_nh (fi_ux FI.rf (by omega)) (fun h3 r_h3 => ?_)
          exact fo_some r_h3
      · refine fo_ite ?_ ?_
        · refine fo_ck (fun q4 => ?_)
          refine fo_ck (fun q5 => ?_)
          refine fo_nh (fi_ux FI.rf (by omega)) (fun h2 r_h2 => ?_)
          exact fo_some r_h2
        · refine fo_ck (fun q6 => ?_)
          refine fo_nh (fi_ux FI.rf (by omega)) (fun h1 r_h1 => ?_)
          exact fo_some r_h1
    · exact fo_some FI.rf
theorem r_X6_gather (h : Hp) (S : Nat) (a2 : Int32) : FO S (S + 4) h (fun u => u) (f_X6_gather h S a2) := by
  unfold f_X6_gather
  refine fo_bdv (fun u hu => FI.rf.tr ((r_J7_fill_53178 h (S + 1) (0 : Int32) u hu).mo (by omega))) (fun h1 r_h1 => ?_)
  refine fo_bdv (fun u hu => r_h1.tr ((r_J7_fill_53178 h1 (S + 2) (0 : Int32) u hu).mo (by omega))) (fun h2 r_h2 => ?_)
  refine fo_bdv (fun u hu => r_h2.tr ((r_J7_fill_53178 h2 (S + 3) (0 : Int32) u hu).mo (by omega))) (fun h3 r_h3 => ?_)
  refine fo_fx2h (fun s1 Js1 h4 x5 r_h4 => ?_) _ _ r_h3
  refine fo_ite ?_ ?_
  · exact fo_some r_h4
  · refine fo_ite ?_ ?_
    · exact fo_some r_h4
    · refine fo_lt1h (fun h6 r_h6 => ?_) (fun k2 Jk2 => ?_)
      · refine fo_ni (fun x7 => ?_)
        exact Js1 h6 x7 r_h6
      refine fo_ite ?_ ?_
      · refine fo_ck (fun q1 => ?_)
        refine fo_ck (fun q2 => ?_)
        refine fo_ck (fun q3 => ?_)
        refine fo_bdv (fun u hu => r_h4.tr ((r_X6_add h4 S (ia h4 10 x5) (ia h4 11 x5) (ia h4 12 x5) u hu).mo (by omega))) (fun h8 r_h8 => ?_)
        exact Jk2 h8 r_h8
      · exact Jk2 h4 r_h4
theorem r_X2_play (h : Hp) (S : Nat) (a2 : Nat) (a3 : Int32) (a4 : Int32) : FO S (S + 19) h (fun u => u) (f_X2_play h S a2 a3 a4) := by
  unfold f_X2_play
  refine fo_ni (fun x1 => ?_)
  refine fo_bdv (fun u hu => FI.rf.tr ((r_X2_prepare h S x1 u hu).mo (by omega))) (fun h2 r_h2 => ?_)
  refine fo_bdv (fun u hu => r_h2.tr ((r_X6_gather h2 (S + 1) a3 u hu).mo (by omega))) (fun h3 r_h3 => ?_)
  refine fo_fx3h (fun s1 Js1 h4 x5 x6 r_h4 => ?_) _ _ _ r_h3
  refine fo_ite ?_ ?_
  · exact fo_some r_h4
  · refine fo_lt1 (fun x7 => ?_) (fun k2 Jk2 => ?_)
    · refine fo_lt1 (fun x8 => ?_) (fun k3 Jk3 => ?_)
      · refine fo_ni (fun x9 => ?_)
        refine fo_bdv (fun u hu => r_h4.tr ((r_X2_playBeat h4 S a2 x6 x8 u hu).mo (by omega))) (fun h10 r_h10 => ?_)
        refine fo_lt1 (fun x11 => ?_) (fun k4 Jk4 => ?_)
        · refine fo_lt1h (fun h12 r_h12 => ?_) (fun k5 Jk5 => ?_)
          · refine fo_ni (fun x13 => ?_)
            exact Js1 h12 x11 x13 r_h12
          refine fo_ite ?_ ?_
          · refine fo_ite ?_ ?_
            · exact Jk5 h10 r_h10
            · exact fo_some r_h10
          · refine fo_bdv (fun u hu => r_h10.tr ((r_X2_noteBeat h10 S x6 x8 x1 u hu).mo (by omega))) (fun h14 r_h14 => ?_)
            exact Jk5 h14 r_h14
        refine fo_ite ?_ ?_
        · exact Jk4 (0 : Int32)
        · exact Jk4 (1 : Int32)
      refine fo_ite ?_ ?_
      · exact Jk3 (0 : Int32)
      · exact Jk3 x7
    refine fo_ite ?_ ?_
    · exact Jk2 ((h4.1 5 10) / (2 : Int32))
    · exact Jk2 (0 - ((h4.1 5 10) / (2 : Int32)))
theorem r_X3_add (h : Hp) (a1 : Int32) (a2 : Int32) (a3 : Int32) : FO 13 17 h (fun u => u) (f_X3_add h a1 a2 a3) := by
  unfold f_X3_add
  refine fo_ite ?_ ?_
  · exact fo_some FI.rf
  · refine fo_ite ?_ ?_
    · exact fo_some FI.rf
    · refine fo_ck (fun q1 => ?_)
      refine fo_nh (fi_ux FI.rf (by decide)) (fun h1 r_h1 => ?_)
      refine fo_ck (fun q2 => ?_)
      refine fo_nh (fi_ux r_h1 (by decide)) (fun h2 r_h2 => ?_)
      refine fo_ck (fun q3 => ?_)
      refine fo_nh (fi_ux r_h2 (by decide)) (fun h3 r_h3 => ?_)
      refine fo_nh (fi_uf r_h3 (by decide)) (fun h4 r_h4 => ?_)
      exact fo_some r_h4
theorem r_X4_add (h : Hp) (S : Nat) (a1 : Int32) : FO S (S + 2) h (fun u => u) (f_X4_add h S a1) := by
  unfold f_X4_add
  refine fo_ite ?_ ?_
  · exact fo_some FI.rf
  · refine fo_ite ?_ ?_
    · exact fo_some FI.rf
    · refine fo_ck (fun q1 => ?_)
      refine fo_nh (fi_ux FI.rf (by omega)) (fun h1 r_h1 => ?_)
      refine fo_nh (fi_uf r_h1 (by omega)) (fun h2 r_h2 => ?_)
      exact fo_some r_h2
theorem r_X5_takeWalkers (h : Hp) : FO 5 13 h (fun u => u) (f_X5_takeWalkers h) := by
  unfold f_X5_takeWalkers
  refine fo_bdr (fun x1 => ?_)
  refine fo_lt1 (fun x2 => ?_) (fun k1 Jk1 => ?_)
  · refine fo_lt1 (fun x3 => ?_) (fun k2 Jk2 => ?_)
    · refine fo_nh (fi_uf FI.rf (by decide)) (fun h4 r_h4 => ?_)
      refine fo_fx2h (fun s3 Js3 h5 x6 r_h5 => ?_) _ _ r_h4
      refine fo_ite ?_ ?_
      · exact fo_some r_h5
      · refine fo_bdr (fun x7 => ?_)
        refine fo_ck (fun q1 => ?_)
        refine fo_nh (fi_ux r_h5 (by decide)) (fun h8 r_h8 => ?_)
        refine fo_bdr (fun x9 => ?_)
        refine fo_bdr (fun x10 => ?_)
        refine fo_ck (fun q2 => ?_)
        refine fo_nh (fi_ux r_h8 (by decide)) (fun h11 r_h11 => ?_)
        refine fo_bdr (fun x12 => ?_)
        refine fo_ck (fun q3 => ?_)
        refine fo_nh (fi_ux r_h11 (by decide)) (fun h13 r_h13 => ?_)
        refine fo_ni (fun x14 => ?_)
        exact Js3 h13 x14 r_h13
    refine fo_ite ?_ ?_
    · exact Jk2 (0 : Int32)
    · exact Jk2 (jmin (((h.1 1 1) + (1 : Int32)) / (4 : Int32)) (6 : Int32))
  refine fo_ite ?_ ?_
  · exact Jk1 (1 : Int32)
  · exact Jk1 (0 : Int32)
theorem r_X5_takeRoutine (h : Hp) : FO 5 13 h (fun u => u) (f_X5_takeRoutine h) := by
  unfold f_X5_takeRoutine
  refine fo_bdr (fun x1 => ?_)
  refine fo_lt1 (fun x2 => ?_) (fun k1 Jk1 => ?_)
  · refine fo_fx2h (fun s2 Js2 h3 x4 r_h3 => ?_) _ _ FI.rf
    refine fo_ite ?_ ?_
    · exact fo_some r_h3
    · refine fo_lt1 (fun x5 => ?_) (fun k3 Jk3 => ?_)
      · refine fo_ck (fun q1 => ?_)
        refine fo_nh (fi_ux r_h3 (by decide)) (fun h6 r_h6 => ?_)
        refine fo_ni (fun x7 => ?_)
        exact Js2 h6 x7 r_h6
      refine fo_lt1 (fun u8 => ?_) (fun k4 Jk4 => ?_)
      · exact Jk3 (0 : Int32)
      refine fo_ite ?_ ?_
      · exact Jk4 (0 : Int32)
      · refine fo_ite ?_ ?_
        · exact Jk4 (0 : Int32)
        · refine fo_bdr (fun x9 => ?_)
          refine fo_bdr (fun x10 => ?_)
          exact Jk3 x10
  refine fo_ite ?_ ?_
  · exact Jk1 (1 : Int32)
  · exact Jk1 (0 : Int32)
theorem r_X5_addEvent (h : Hp) (a1 : Int32) (a2 : Int32) (a3 : Int32) : FO 5 13 h (fun u => u) (f_X5_addEvent h a1 a2 a3) := by
  unfold f_X5_addEvent
  refine fo_ite ?_ ?_
  · exact fo_some FI.rf
  · refine fo_ite ?_ ?_
    · exact fo_some FI.rf
    · refine fo_ck (fun q1 => ?_)
      refine fo_nh (fi_ux FI.rf (by decide)) (fun h1 r_h1 => ?_)
      refine fo_ck (fun q2 => ?_)
      refine fo_nh (fi_ux r_h1 (by decide)) (fun h2 r_h2 => ?_)
      refine fo_ck (fun q3 => ?_)
      refine fo_nh (fi_ux r_h2 (by decide)) (fun h3 r_h3 => ?_)
      refine fo_nh (fi_uf r_h3 (by decide)) (fun h4 r_h4 => ?_)
      exact fo_some r_h4
theorem r_X7_forgetShows (h : Hp) : FO 0 68 h (fun u => u) (f_X7_forgetShows h) := by
  unfold f_X7_forgetShows
  refine fo_nh (fi_uf FI.rf (by decide)) (fun h1 r_h1 => ?_)
  refine fo_nh (fi_uf r_h1 (by decide)) (fun h2 r_h2 => ?_)
  exact fo_some r_h2
theorem r_X7_takeTexts (h : Hp) : FO 0 68 h (fun u => u) (f_X7_takeTexts h) := by
  unfold f_X7_takeTexts
  refine fo_bdv (fun u hu => FI.rf.tr ((r_X5_takeWalkers h u hu).mo (by omega))) (fun h1 r_h1 => ?_)
  refine fo_bdv (fun u hu => r_h1.tr ((r_X5_takeRoutine h1 u hu).mo (by omega))) (fun h2 r_h2 => ?_)
  refine fo_bdv (fun u hu => r_h2.tr ((r_X7_forgetShows h2 u hu).mo (by omega))) (fun h3 r_h3 => ?_)
  exact fo_some r_h3
theorem r_X7_wire (h : Hp) (a1 : Int32) (a2 : Int32) : FO 0 68 h (fun u => u.1) (f_X7_wire h a1 a2) := by
  unfold f_X7_wire
  refine fo_lt1 (fun u1 => ?_) (fun k1 Jk1 => ?_)
  · refine fo_lt1 (fun u2 => ?_) (fun k2 Jk2 => ?_)
    · refine fo_ite ?_ ?_
      · refine fo_bdr (fun x3 => ?_)
        refine fo_ite ?_ ?_
        · exact fo_some FI.rf
        · refine fo_ni (fun x4 => ?_)
          refine fo_nh (fi_uf FI.rf (by decide)) (fun h5 r_h5 => ?_)
          refine fo_bdv (fun u hu => r_h5.tr ((r_X7_forgetShows h5 u hu).mo (by omega))) (fun h6 r_h6 => ?_)
          exact fo_some r_h6
      · exact fo_some FI.rf
    refine fo_ite ?_ ?_
    · refine fo_bdr (fun x7 => ?_)
      refine fo_ite ?_ ?_
      · exact Jk2 (0 : Int32)
      · refine fo_ni (fun x8 => ?_)
        refine fo_nh (fi_uf FI.rf (by decide)) (fun h9 r_h9 => ?_)
        refine fo_bdv (fun u hu => r_h9.tr ((r_X7_forgetShows h9 u hu).mo (by omega))) (fun h10 r_h10 => ?_)
        exact fo_some r_h10
    · exact Jk2 (0 : Int32)
  refine fo_ite ?_ ?_
  · refine fo_bdr (fun x11 => ?_)
    refine fo_ite ?_ ?_
    · exact Jk1 (0 : Int32)
    · refine fo_ni (fun x12 => ?_)
      refine fo_nh (fi_uf FI.rf (by decide)) (fun h13 r_h13 => ?_)
      refine fo_bdv (fun u hu => r_h13.tr ((r_X7_forgetShows h13 u hu).mo (by omega))) (fun h14 r_h14 => ?_)
      exact fo_some r_h14
  · exact Jk1 (0 : Int32)
theorem r_X7_event (h : Hp) (a1 : Int32) (a2 : Int32) (a3 : Int32) : FO 0 68 h (fun u => u.1) (f_X7_event h a1 a2 a3) := by
  unfold f_X7_event
  refine fo_bdr (fun x1 => ?_)
  refine fo_ite ?_ ?_
  · exact fo_some FI.rf
  · refine fo_bdr (fun x2 => ?_)
    refine fo_ite ?_ ?_
    · exact fo_some FI.rf
    · refine fo_bdv (fun u hu => FI.rf.tr ((r_X5_addEvent h a1 a2 a3 u hu).mo (by omega))) (fun h3 r_h3 => ?_)
      refine fo_bdv (fun u hu => r_h3.tr ((r_X7_forgetShows h3 u hu).mo (by omega))) (fun h4 r_h4 => ?_)
      exact fo_some r_h4
theorem r_X7_back (h : Hp) : FO 0 68 h (fun u => u.1) (f_X7_back h) := by
  unfold f_X7_back
  refine fo_ite ?_ ?_
  · refine fo_nh (fi_uf FI.rf (by decide)) (fun h1 r_h1 => ?_)
    refine fo_bdv (fun u hu => r_h1.tr ((r_X7_forgetShows h1 u hu).mo (by omega))) (fun h2 r_h2 => ?_)
    exact fo_some r_h2
  · exact fo_some FI.rf
theorem r_X7_found (h : Hp) (a1 : Int32) : FO 0 68 h (fun u => u.1) (f_X7_found h a1) := by
  unfold f_X7_found
  refine fo_nh (fi_uf FI.rf (by decide)) (fun h1 r_h1 => ?_)
  exact fo_some r_h1
theorem r_X7_read (h : Hp) (a1 : Int32) : FO 0 68 h (fun u => u.1) (f_X7_read h a1) := by
  unfold f_X7_read
  refine fo_bdr (fun x1 => ?_)
  refine fo_ite ?_ ?_
  · exact fo_some FI.rf
  · refine fo_ck (fun q1 => ?_)
    refine fo_ite ?_ ?_
    · refine fo_lt2h (fun h3 x4 r_h3 => ?_) (fun k1 Jk1 => ?_)
      · refine fo_bdv (fun u hu => r_h3.tr ((r_X7_forgetShows h3 u hu).mo (by omega))) (fun h5 r_h5 => ?_)
        exact fo_some r_h5
      refine fo_fx3h (fun s2 Js2 h6 x7 x8 r_h6 => ?_) _ _ _ FI.rf
      refine fo_ite ?_ ?_
      · exact Jk1 h6 x7 r_h6
      · refine fo_ite ?_ ?_
        · exact Jk1 h6 x7 r_h6
        · refine fo_ck (fun q2 => ?_)
          refine fo_ni (fun x9 => ?_)
          refine fo_ck (fun q3 => ?_)
          refine fo_ni (fun x10 => ?_)
          refine fo_ck (fun q4 => ?_)
          refine fo_ni (fun x11 => ?_)
          refine fo_bdr (fun x12 => ?_)
          refine fo_ite ?_ ?_
          · exact Jk1 h6 x7 r_h6
          · refine fo_bdr (fun x13 => ?_)
            refine fo_ite ?_ ?_
            · exact Jk1 h6 x7 r_h6
            · refine fo_bdv (fun u hu => r_h6.tr ((r_X5_addEvent h6 x9 x10 x11 u hu).mo (by omega))) (fun h14 r_h14 => ?_)
              refine fo_ni (fun x15 => ?_)
              refine fo_ni (fun x16 => ?_)
              exact Js2 h14 x15 x16 r_h14
    · refine fo_bnd (fun u hu => FI.rf.tr ((r_X7_found h (1 : Int32) u hu).mo (by omega))) (fun h17 x18 r_h17 => ?_)
      exact fo_some r_h17
theorem r_X7_shown (h : Hp) : FO 0 68 h (fun u => u.1) (f_X7_shown h) := by
  unfold f_X7_shown
  refine fo_ite ?_ ?_
  · refine fo_bdv (fun u hu => FI.rf.tr ((r_X2_play h 17 9 (0 : Int32) (1 : Int32) u hu).mo (by omega))) (fun h1 r_h1 => ?_)
    refine fo_nh (fi_uf r_h1 (by decide)) (fun h2 r_h2 => ?_)
    exact fo_some r_h2
  · exact fo_some FI.rf
theorem r_X7_at (h : Hp) (a1 : Int32) (a2 : Int32) (a3 : Int32) : FO 0 68 h (fun u => u.1) (f_X7_at h a1 a2 a3) := by
  unfold f_X7_at
  refine fo_bdr (fun x1 => ?_)
  refine fo_ite ?_ ?_
  · exact fo_some FI.rf
  · refine fo_bdr (fun x2 => ?_)
    refine fo_ite ?_ ?_
    · exact fo_some FI.rf
    · refine fo_bdr (fun x3 => ?_)
      refine fo_ite ?_ ?_
      · exact fo_some FI.rf
      · refine fo_bnd (fun u hu => FI.rf.tr ((r_X7_shown h u hu).mo (by omega))) (fun h4 c5 r_h4 => ?_)
        refine fo_cy (fun _ => ?_)
        refine fo_ite ?_ ?_
        · refine fo_bdr (fun x8 => ?_)
          exact fo_some r_h4
        · refine fo_bdr (fun x7 => ?_)
          exact fo_some r_h4
theorem r_X7_lean (h : Hp) (a1 : Int32) (a2 : Int32) : FO 0 68 h (fun u => u.1) (f_X7_lean h a1 a2) := by
  unfold f_X7_lean
  refine fo_bdr (fun x1 => ?_)
  refine fo_ite ?_ ?_
  · exact fo_some FI.rf
  · refine fo_bdr (fun x2 => ?_)
    refine fo_ite ?_ ?_
    · exact fo_some FI.rf
    · refine fo_bnd (fun u hu => FI.rf.tr ((r_X7_shown h u hu).mo (by omega))) (fun h3 c4 r_h3 => ?_)
      refine fo_cy (fun _ => ?_)
      refine fo_bdr (fun x6 => ?_)
      exact fo_some r_h3
theorem r_X7_sees (h : Hp) (a1 : Int32) (a2 : Int32) : FO 0 68 h (fun u => u.1) (f_X7_sees h a1 a2) := by
  unfold f_X7_sees
  refine fo_bdr (fun x1 => ?_)
  refine fo_ite ?_ ?_
  · exact fo_some FI.rf
  · refine fo_bdr (fun x2 => ?_)
    refine fo_ite ?_ ?_
    · exact fo_some FI.rf
    · refine fo_bnd (fun u hu => FI.rf.tr ((r_X7_shown h u hu).mo (by omega))) (fun h3 c4 r_h3 => ?_)
      refine fo_cy (fun _ => ?_)
      refine fo_fx1 (fun s1 Js1 x6 => ?_) _
      refine fo_ite ?_ ?_
      · exact fo_some r_h3
      · refine fo_bdr (fun x7 => ?_)
        refine fo_lt1 (fun u8 => ?_) (fun k2 Jk2 => ?_)
        · refine fo_ni (fun x9 => ?_)
          exact Js1 x9
        refine fo_ite ?_ ?_
        · refine fo_bdr (fun x10 => ?_)
          refine fo_ite ?_ ?_
          · exact fo_some r_h3
          · exact Jk2 (0 : Int32)
        · exact Jk2 (0 : Int32)
theorem r_X7_sway (h : Hp) (a1 : Int32) : FO 0 68 h (fun u => u.1) (f_X7_sway h a1) := by
  unfold f_X7_sway
  refine fo_bdr (fun x1 => ?_)
  refine fo_ite ?_ ?_
  · exact fo_some FI.rf
  · refine fo_bnd (fun u hu => FI.rf.tr ((r_X7_shown h u hu).mo (by omega))) (fun h2 c3 r_h2 => ?_)
    refine fo_cy (fun _ => ?_)
    refine fo_ck (fun q1 => ?_)
    exact fo_some r_h2
theorem r_X7_ends (h : Hp) (a1 : Int32) (a2 : Int32) : FO 0 68 h (fun u => u.1) (f_X7_ends h a1 a2) := by
  unfold f_X7_ends
  refine fo_bdr (fun x1 => ?_)
  refine fo_ite ?_ ?_
  · exact fo_some FI.rf
  · refine fo_bdr (fun x2 => ?_)
    refine fo_ite ?_ ?_
    · exact fo_some FI.rf
    · refine fo_bnd (fun u hu => FI.rf.tr ((r_X7_shown h u hu).mo (by omega))) (fun h3 c4 r_h3 => ?_)
      refine fo_cy (fun _ => ?_)
      refine fo_ite ?_ ?_
      · refine fo_ck (fun q1 => ?_)
        exact fo_some r_h3
      · refine fo_ite ?_ ?_
        · refine fo_ck (fun q2 => ?_)
          exact fo_some r_h3
        · refine fo_ck (fun q3 => ?_)
          exact fo_some r_h3
theorem r_X7_sum (h : Hp) (a1 : Int32) : FO 0 68 h (fun u => u.1) (f_X7_sum h a1) := by
  unfold f_X7_sum
  refine fo_bdr (fun x1 => ?_)
  refine fo_ite ?_ ?_
  · exact fo_some FI.rf
  · refine fo_bnd (fun u hu => FI.rf.tr ((r_X7_shown h u hu).mo (by omega))) (fun h2 c3 r_h2 => ?_)
    refine fo_cy (fun _ => ?_)
    refine fo_ite ?_ ?_
    · exact fo_some r_h2
    · refine fo_ite ?_ ?_
      · exact fo_some r_h2
      · exact fo_some r_h2
theorem r_X7_who (h : Hp) (a1 : Int32) : FO 0 68 h (fun u => u.1) (f_X7_who h a1) := by
  unfold f_X7_who
  refine fo_bdr (fun x1 => ?_)
  refine fo_ite ?_ ?_
  · exact fo_some FI.rf
  · refine fo_bnd (fun u hu => FI.rf.tr ((r_X7_shown h u hu).mo (by omega))) (fun h2 c3 r_h2 => ?_)
    refine fo_cy (fun _ => ?_)
    refine fo_ite ?_ ?_
    · refine fo_bdr (fun x6 => ?_)
      exact fo_some r_h2
    · refine fo_bdr (fun x5 => ?_)
      exact fo_some r_h2
theorem r_X7_bare (h : Hp) : FO 0 68 h (fun u => u.1) (f_X7_bare h) := by
  unfold f_X7_bare
  refine fo_bnd (fun u hu => FI.rf.tr ((r_X7_shown h u hu).mo (by omega))) (fun h1 c2 r_h1 => ?_)
  refine fo_cy (fun _ => ?_)
  refine fo_fx2 (fun s1 Js1 x4 x5 => ?_) _ _
  refine fo_ite ?_ ?_
  · exact fo_some r_h1
  · refine fo_lt1 (fun x6 => ?_) (fun k2 Jk2 => ?_)
    · refine fo_lt1 (fun x7 => ?_) (fun k3 Jk3 => ?_)
      · refine fo_ni (fun x8 => ?_)
        refine fo_ni (fun x9 => ?_)
        exact Js1 x8 x9
      refine fo_ite ?_ ?_
      · exact Jk3 (1 : Int32)
      · exact Jk3 (0 : Int32)
    refine fo_fx2 (fun s4 Js4 x10 x11 => ?_) _ _
    refine fo_ite ?_ ?_
    · exact Jk2 x10
    · refine fo_lt1 (fun x12 => ?_) (fun k5 Jk5 => ?_)
      · refine fo_ni (fun x13 => ?_)
        exact Js4 x12 x13
      refine fo_lt1 (fun u14 => ?_) (fun k6 Jk6 => ?_)
      · exact Jk5 (1 : Int32)
      refine fo_ite ?_ ?_
      · refine fo_bdr (fun x15 => ?_)
        refine fo_ite ?_ ?_
        · exact Jk6 (0 : Int32)
        · exact Jk5 (0 : Int32)
      · exact Jk6 (0 : Int32)
theorem r_X7_chooseFor (h : Hp) (a1 : Nat) (a2 : Int32) (a3 : Int32) (ha : a1 < 68) : FO 0 68 h (fun u => u) (f_X7_chooseFor h a1 a2 a3) := by
  unfold f_X7_chooseFor
  refine fo_nh (fi_uf FI.rf (by decide)) (fun h1 r_h1 => ?_)
  refine fo_nh (fi_uf r_h1 (by decide)) (fun h2 r_h2 => ?_)
  refine fo_ite ?_ ?_
  · exact fo_some r_h2
  · refine fo_ite ?_ ?_
    · refine fo_ck (fun q1 => ?_)
      refine fo_ni (fun x3 => ?_)
      refine fo_fx2h (fun s1 Js1 h4 x5 r_h4 => ?_) _ _ r_h2
      refine fo_ite ?_ ?_
      · refine fo_ck (fun q2 => ?_)
        refine fo_nh (fi_ux r_h4 (by omega)) (fun h6 r_h6 => ?_)
        exact fo_some r_h6
      · refine fo_ck (fun q3 => ?_)
        refine fo_nh (fi_ux r_h4 (by omega)) (fun h7 r_h7 => ?_)
        refine fo_bdv (fun u hu => r_h7.tr ((r_X2_play h7 36 9 (0 : Int32) (0 : Int32) u hu).mo (by omega))) (fun h8 r_h8 => ?_)
        refine fo_lt1h (fun h9 r_h9 => ?_) (fun k2 Jk2 => ?_)
        · refine fo_ni (fun x10 => ?_)
          exact Js1 h9 x10 r_h9
        refine fo_ite ?_ ?_
        · exact Jk2 h8 r_h8
        · refine fo_nh (fi_uf r_h8 (by decide)) (fun h11 r_h11 => ?_)
          refine fo_nh (fi_uf r_h11 (by decide)) (fun h12 r_h12 => ?_)
          exact Jk2 h12 r_h12
    · exact fo_some r_h2
theorem r_X7_start (h : Hp) (a1 : Int32) (a2 : Int32) : FO 0 68 h (fun u => u.1) (f_X7_start h a1 a2) := by
  unfold f_X7_start
  refine fo_bdr (fun x1 => ?_)
  refine fo_ite ?_ ?_
  · exact fo_some FI.rf
  · refine fo_bdr (fun x2 => ?_)
    refine fo_ite ?_ ?_
    · exact fo_some FI.rf
    · refine fo_bdv (fun u hu => FI.rf.tr ((r_X7_chooseFor h 6 a1 (24 : Int32) (by decide) u hu).mo (by omega))) (fun h3 r_h3 => ?_)
      refine fo_ite ?_ ?_
      · exact fo_some r_h3
      · exact fo_some r_h3
theorem r_X7_hold (h : Hp) (a1 : Int32) (a2 : Int32) : FO 0 68 h (fun u => u.1) (f_X7_hold h a1 a2) := by
  unfold f_X7_hold
  refine fo_bdr (fun x1 => ?_)
  refine fo_ite ?_ ?_
  · exact fo_some FI.rf
  · refine fo_bdr (fun x2 => ?_)
    refine fo_ite ?_ ?_
    · exact fo_some FI.rf
    · refine fo_bdv (fun u hu => FI.rf.tr ((r_X7_chooseFor h 8 a1 (10 : Int32) (by decide) u hu).mo (by omega))) (fun h3 r_h3 => ?_)
      refine fo_ite ?_ ?_
      · exact fo_some r_h3
      · exact fo_some r_h3
theorem r_X7_act (h : Hp) (a1 : Int32) (a2 : Int32) : FO 0 68 h (fun u => u.1) (f_X7_act h a1 a2) := by
  unfold f_X7_act
  refine fo_bdr (fun x1 => ?_)
  refine fo_ite ?_ ?_
  · exact fo_some FI.rf
  · refine fo_bdr (fun x2 => ?_)
    refine fo_ite ?_ ?_
    · exact fo_some FI.rf
    · refine fo_bdv (fun u hu => FI.rf.tr ((r_X7_chooseFor h 9 a1 (4 : Int32) (by decide) u hu).mo (by omega))) (fun h3 r_h3 => ?_)
      refine fo_ite ?_ ?_
      · exact fo_some r_h3
      · exact fo_some r_h3
theorem r_X7_nobodyFallsWithout (h : Hp) (a1 : Int32) : FO 0 68 h (fun u => u.1) (f_X7_nobodyFallsWithout h a1) := by
  unfold f_X7_nobodyFallsWithout
  refine fo_bdv (fun u hu => FI.rf.tr ((r_X2_play h 36 9 a1 (0 : Int32) u hu).mo (by omega))) (fun h1 r_h1 => ?_)
  refine fo_ite ?_ ?_
  · exact fo_some r_h1
  · exact fo_some r_h1
theorem r_X7_spareFewest (h : Hp) : FO 0 68 h (fun u => u.1) (f_X7_spareFewest h) := by
  unfold f_X7_spareFewest
  refine fo_bnd (fun u hu => FI.rf.tr ((r_X7_nobodyFallsWithout h (0 : Int32) u hu).mo (by omega))) (fun h1 x2 r_h1 => ?_)
  refine fo_ite ?_ ?_
  · refine fo_lt1h (fun h3 r_h3 => ?_) (fun k1 Jk1 => ?_)
    · refine fo_fx2h (fun s2 Js2 h4 x5 r_h4 => ?_) _ _ r_h3
      refine fo_ite ?_ ?_
      · exact fo_some r_h4
      · refine fo_ni (fun x6 => ?_)
        refine fo_lt1h (fun h7 r_h7 => ?_) (fun k3 Jk3 => ?_)
        · refine fo_ni (fun x8 => ?_)
          exact Js2 h7 x8 r_h7
        refine fo_fx2h (fun s4 Js4 h9 x10 r_h9 => ?_) _ _ r_h4
        refine fo_ite ?_ ?_
        · exact Jk3 h9 r_h9
        · refine fo_bnd (fun u hu => r_h9.tr ((r_X7_nobodyFallsWithout h9 (((1 : Int32) <<< (x5 &&& 31)) ||| ((1 : Int32) <<< (x10 &&& 31))) u hu).mo (by omega))) (fun h11 x12 r_h11 => ?_)
          refine fo_ite ?_ ?_
          · refine fo_ni (fun x13 => ?_)
            exact Js4 h11 x13 r_h11
          · refine fo_ck (fun q1 => ?_)
            refine fo_nh (fi_ux r_h11 (by decide)) (fun h14 r_h14 => ?_)
            refine fo_ck (fun q2 => ?_)
            refine fo_nh (fi_ux r_h14 (by decide)) (fun h15 r_h15 => ?_)
            exact fo_some r_h15
    refine fo_fx2h (fun s5 Js5 h16 x17 r_h16 => ?_) _ _ r_h1
    refine fo_ite ?_ ?_
    · exact Jk1 h16 r_h16
    · refine fo_bnd (fun u hu => r_h16.tr ((r_X7_nobodyFallsWithout h16 ((1 : Int32) <<< (x17 &&& 31)) u hu).mo (by omega))) (fun h18 x19 r_h18 => ?_)
      refine fo_ite ?_ ?_
      · refine fo_ni (fun x20 => ?_)
        exact Js5 h18 x20 r_h18
      · refine fo_ck (fun q3 => ?_)
        refine fo_nh (fi_ux r_h18 (by decide)) (fun h21 r_h21 => ?_)
        exact fo_some r_h21
  · exact fo_some r_h1
theorem r_X7_spare (h : Hp) (a1 : Int32) : FO 0 68 h (fun u => u.1) (f_X7_spare h a1) := by
  unfold f_X7_spare
  refine fo_bdr (fun x1 => ?_)
  refine fo_ite ?_ ?_
  · exact fo_some FI.rf
  · refine fo_bnd (fun u hu => FI.rf.tr ((r_X7_spareFewest h u hu).mo (by omega))) (fun h2 x3 r_h2 => ?_)
    refine fo_ite ?_ ?_
    · exact fo_some r_h2
    · refine fo_ite ?_ ?_
      · exact fo_some r_h2
      · refine fo_ck (fun q1 => ?_)
        exact fo_some r_h2
theorem r_X7_seen (h : Hp) (a1 : Int32) (a2 : Int32) (a3 : Int32) : FO 0 68 h (fun u => u.1) (f_X7_seen h a1 a2 a3) := by
  unfold f_X7_seen
  refine fo_bdr (fun x1 => ?_)
  refine fo_ite ?_ ?_
  · exact fo_some FI.rf
  · refine fo_bdr (fun x2 => ?_)
    refine fo_ite ?_ ?_
    · exact fo_some FI.rf
    · refine fo_bdr (fun x3 => ?_)
      refine fo_ite ?_ ?_
      · exact fo_some FI.rf
      · refine fo_bdr (fun x4 => ?_)
        refine fo_ite ?_ ?_
        · exact fo_some FI.rf
        · refine fo_bdv (fun u hu => FI.rf.tr ((r_X3_add h a1 a2 a3 u hu).mo (by omega))) (fun h5 r_h5 => ?_)
          exact fo_some r_h5
theorem r_X7_forget (h : Hp) : FO 0 68 h (fun u => u.1) (f_X7_forget h) := by
  unfold f_X7_forget
  refine fo_ni (fun x1 => ?_)
  refine fo_nh (fi_uf FI.rf (by decide)) (fun h2 r_h2 => ?_)
  exact fo_some r_h2
theorem r_X7_never (h : Hp) : FO 0 68 h (fun u => u.1) (f_X7_never h) := by
  unfold f_X7_never
  refine fo_fx3h (fun s1 Js1 h1 x2 x3 r_h1 => ?_) _ _ _ FI.rf
  refine fo_ite ?_ ?_
  · exact fo_some r_h1
  · refine fo_bdv (fun u hu => r_h1.tr ((r_X2_play h1 36 9 ((1 : Int32) <<< (x3 &&& 31)) (1 : Int32) u hu).mo (by omega))) (fun h4 r_h4 => ?_)
    refine fo_bdr (fun x5 => ?_)
    refine fo_lt1 (fun x6 => ?_) (fun k2 Jk2 => ?_)
    · refine fo_ni (fun x7 => ?_)
      exact Js1 h4 x6 x7 r_h4
    refine fo_ite ?_ ?_
    · exact Jk2 x2
    · refine fo_ni (fun x8 => ?_)
      exact Jk2 x8
theorem r_X7_markPlaces (h : Hp) (a1 : Int32) : FO 0 68 h (fun u => u) (f_X7_markPlaces h a1) := by
  unfold f_X7_markPlaces
  refine fo_fx2h (fun s1 Js1 h1 x2 r_h1 => ?_) _ _ FI.rf
  refine fo_ite ?_ ?_
  · exact fo_some r_h1
  · refine fo_ni (fun x3 => ?_)
    refine fo_lt1h (fun h4 r_h4 => ?_) (fun k2 Jk2 => ?_)
    · refine fo_ni (fun x5 => ?_)
      exact Js1 h4 x5 r_h4
    refine fo_ite ?_ ?_
    · exact Jk2 h1 r_h1
    · refine fo_ite ?_ ?_
      · exact Jk2 h1 r_h1
      · refine fo_bdr (fun l6 => ?_)
        refine fo_ck (fun q1 => ?_)
        refine fo_nh (fi_uy r_h1 (by decide)) (fun h7 r_h7 => ?_)
        exact Jk2 h7 r_h7
theorem r_X7_fittingPoles (h : Hp) (a1 : Int32) : FO 0 68 h (fun u => u.1) (f_X7_fittingPoles h a1) := by
  unfold f_X7_fittingPoles
  refine fo_bdr (fun x1 => ?_)
  refine fo_ite ?_ ?_
  · exact fo_some FI.rf
  · refine fo_ck (fun q1 => ?_)
    refine fo_ni (fun x2 => ?_)
    refine fo_lt2h (fun h3 x4 r_h3 => ?_) (fun k1 Jk1 => ?_)
    · refine fo_ck (fun q2 => ?_)
      refine fo_nh (fi_ux r_h3 (by decide)) (fun h5 r_h5 => ?_)
      exact fo_some r_h5
    refine fo_fx3h (fun s2 Js2 h6 x7 x8 r_h6 => ?_) _ _ _ FI.rf
    refine fo_ite ?_ ?_
    · exact Jk1 h6 x7 r_h6
    · refine fo_ck (fun q3 => ?_)
      refine fo_nh (fi_ux r_h6 (by decide)) (fun h9 r_h9 => ?_)
      refine fo_bdv (fun u hu => r_h9.tr ((r_X2_play h9 36 9 (0 : Int32) (1 : Int32) u hu).mo (by omega))) (fun h10 r_h10 => ?_)
      refine fo_bdr (fun x11 => ?_)
      refine fo_lt2h (fun h12 x13 r_h12 => ?_) (fun k3 Jk3 => ?_)
      · refine fo_ni (fun x14 => ?_)
        exact Js2 h12 x13 x14 r_h12
      refine fo_ite ?_ ?_
      · exact Jk3 h10 x7 r_h10
      · refine fo_ni (fun x15 => ?_)
        refine fo_bdv (fun u hu => r_h10.tr ((r_X7_markPlaces h10 x8 u hu).mo (by omega))) (fun h16 r_h16 => ?_)
        exact Jk3 h16 x15 r_h16
theorem r_X7_fittingSorts (h : Hp) (a1 : Int32) : FO 0 68 h (fun u => u.1) (f_X7_fittingSorts h a1) := by
  unfold f_X7_fittingSorts
  refine fo_bdr (fun x1 => ?_)
  refine fo_ite ?_ ?_
  · exact fo_some FI.rf
  · refine fo_ck (fun q1 => ?_)
    refine fo_ni (fun x2 => ?_)
    refine fo_lt2h (fun h3 x4 r_h3 => ?_) (fun k1 Jk1 => ?_)
    · refine fo_ck (fun q2 => ?_)
      refine fo_nh (fi_ux r_h3 (by decide)) (fun h5 r_h5 => ?_)
      exact fo_some r_h5
    refine fo_fx3h (fun s2 Js2 h6 x7 x8 r_h6 => ?_) _ _ _ FI.rf
    refine fo_ite ?_ ?_
    · exact Jk1 h6 x7 r_h6
    · refine fo_ck (fun q3 => ?_)
      refine fo_nh (fi_ux r_h6 (by decide)) (fun h9 r_h9 => ?_)
      refine fo_bdv (fun u hu => r_h9.tr ((r_X2_play h9 36 9 (0 : Int32) (1 : Int32) u hu).mo (by omega))) (fun h10 r_h10 => ?_)
      refine fo_bdr (fun x11 => ?_)
      refine fo_lt1 (fun x12 => ?_) (fun k3 Jk3 => ?_)
      · refine fo_ni (fun x13 => ?_)
        exact Js2 h10 x12 x13 r_h10
      refine fo_ite ?_ ?_
      · exact Jk3 x7
      · refine fo_ni (fun x14 => ?_)
        exact Jk3 x14
theorem r_X7_was (h : Hp) (a1 : Int32) (a2 : Int32) : FO 0 68 h (fun u => u.1) (f_X7_was h a1 a2) := by
  unfold f_X7_was
  refine fo_bdr (fun x1 => ?_)
  refine fo_ite ?_ ?_
  · exact fo_some FI.rf
  · refine fo_bdr (fun x2 => ?_)
    refine fo_ite ?_ ?_
    · exact fo_some FI.rf
    · refine fo_ite ?_ ?_
      · refine fo_bnd (fun u hu => FI.rf.tr ((r_X7_fittingPoles h a1 u hu).mo (by omega))) (fun h5 x6 r_h5 => ?_)
        exact fo_some r_h5
      · refine fo_bnd (fun u hu => FI.rf.tr ((r_X7_fittingSorts h a1 u hu).mo (by omega))) (fun h3 x4 r_h3 => ?_)
        exact fo_some r_h3
theorem r_X7_ask (h : Hp) (a1 : Int32) : FO 0 68 h (fun u => u.1) (f_X7_ask h a1) := by
  unfold f_X7_ask
  refine fo_bdr (fun x1 => ?_)
  refine fo_ite ?_ ?_
  · exact fo_some FI.rf
  · refine fo_bnd (fun u hu => FI.rf.tr ((r_X7_fittingPoles h a1 u hu).mo (by omega))) (fun h2 x3 r_h2 => ?_)
    refine fo_fx3 (fun s1 Js1 x4 x5 x6 => ?_) _ _ _
    refine fo_ite ?_ ?_
    · exact fo_some r_h2
    · refine fo_bdr (fun x7 => ?_)
      refine fo_lt2 (fun x8 x9 => ?_) (fun k2 Jk2 => ?_)
      · refine fo_ni (fun x10 => ?_)
        exact Js1 x8 x9 x10
      refine fo_ite ?_ ?_
      · exact Jk2 x4 x5
      · exact Jk2 x6 x7
theorem r_X7_weighOdds (h : Hp) : FO 0 68 h (fun u => u) (f_X7_weighOdds h) := by
  unfold f_X7_weighOdds
  refine fo_ite ?_ ?_
  · refine fo_fx2h (fun s1 Js1 h1 x2 r_h1 => ?_) _ _ FI.rf
    refine fo_ite ?_ ?_
    · refine fo_nh (fi_uf r_h1 (by decide)) (fun h3 r_h3 => ?_)
      exact fo_some r_h3
    · refine fo_ite ?_ ?_
      · refine fo_nh (fi_uf r_h1 (by decide)) (fun h4 r_h4 => ?_)
        exact fo_some r_h4
      · refine fo_bdv (fun u hu => r_h1.tr ((r_X2_play h1 36 9 (x2 ^^^ (-1 : Int32)) (0 : Int32) u hu).mo (by omega))) (fun h5 r_h5 => ?_)
        refine fo_bdr (fun x6 => ?_)
        refine fo_ck (fun q1 => ?_)
        refine fo_nh (fi_ux r_h5 (by decide)) (fun h7 r_h7 => ?_)
        refine fo_ni (fun x8 => ?_)
        exact Js1 h7 x8 r_h7
  · exact fo_some FI.rf
theorem r_X7_chance (h : Hp) (a1 : Int32) (a2 : Int32) (a3 : Int32) : FO 0 68 h (fun u => u.1) (f_X7_chance h a1 a2 a3) := by
  unfold f_X7_chance
  refine fo_bdr (fun x1 => ?_)
  refine fo_ite ?_ ?_
  · exact fo_some FI.rf
  · refine fo_bdr (fun x2 => ?_)
    refine fo_ite ?_ ?_
    · exact fo_some FI.rf
    · refine fo_bdr (fun x3 => ?_)
      refine fo_ite ?_ ?_
      · exact fo_some FI.rf
      · refine fo_bdv (fun u hu => FI.rf.tr ((r_X7_weighOdds h u hu).mo (by omega))) (fun h4 r_h4 => ?_)
        refine fo_nl (fun l5 => ?_)
        refine fo_lt1 (fun l6 => ?_) (fun k1 Jk1 => ?_)
        · refine fo_lt2 (fun l7 l8 => ?_) (fun k2 Jk2 => ?_)
          · refine fo_ite ?_ ?_
            · exact fo_some r_h4
            · exact fo_some r_h4
          refine fo_fx3 (fun s3 Js3 l9 l10 x11 => ?_) _ _ _
          refine fo_ite ?_ ?_
          · exact Jk2 l9 l10
          · refine fo_ite ?_ ?_
            · exact Jk2 l9 l10
            · refine fo_ite ?_ ?_
              · refine fo_nl (fun l12 => ?_)
                refine fo_nl (fun l13 => ?_)
                refine fo_ni (fun x14 => ?_)
                exact Js3 l12 l13 x14
              · exact Jk2 l9 l10
        refine fo_fx2 (fun s4 Js4 l15 x16 => ?_) _ _
        refine fo_ite ?_ ?_
        · exact Jk1 l15
        · refine fo_ite ?_ ?_
          · exact Jk1 l15
          · refine fo_ck (fun q1 => ?_)
            refine fo_lt1 (fun l17 => ?_) (fun k5 Jk5 => ?_)
            · refine fo_ni (fun x18 => ?_)
              exact Js4 l17 x18
            refine fo_ite ?_ ?_
            · refine fo_bdr (fun l19 => ?_)
              refine fo_nl (fun l20 => ?_)
              exact Jk5 l20
            · exact Jk5 l15
theorem r_X7_shows (h : Hp) (a1 : Int32) (a2 : Int32) (a3 : Int32) : FO 0 68 h (fun u => u.1) (f_X7_shows h a1 a2 a3) := by
  unfold f_X7_shows
  refine fo_bdr (fun x1 => ?_)
  refine fo_ite ?_ ?_
  · exact fo_some FI.rf
  · refine fo_bdr (fun x2 => ?_)
    refine fo_ite ?_ ?_
    · exact fo_some FI.rf
    · refine fo_lt1h (fun h3 r_h3 => ?_) (fun k1 Jk1 => ?_)
      · refine fo_bdv (fun u hu => r_h3.tr ((r_X2_play h3 36 55 (0 : Int32) (0 : Int32) u hu).mo (by omega))) (fun h4 r_h4 => ?_)
        refine fo_ite ?_ ?_
        · exact fo_some r_h4
        · exact fo_some r_h4
      refine fo_fx3h (fun s2 Js2 h5 x6 x7 r_h5 => ?_) _ _ _ FI.rf
      refine fo_ite ?_ ?_
      · exact Jk1 h5 r_h5
      · refine fo_ni (fun x8 => ?_)
        refine fo_lt1 (fun x9 => ?_) (fun k3 Jk3 => ?_)
        · refine fo_ck (fun q1 => ?_)
          refine fo_nh (fi_ux r_h5 (by decide)) (fun h10 r_h10 => ?_)
          refine fo_ni (fun x11 => ?_)
          exact Js2 h10 x8 x11 r_h10
        refine fo_ite ?_ ?_
        · exact Jk3 (0 : Int32)
        · exact Jk3 (((x8.toUInt32 >>> ((16 : Int32).toUInt32 &&& Int32.toUInt32 31)).toInt32) - ((x8.toUInt32 >>> ((16 : Int32).toUInt32 &&& Int32.toUInt32 31)).toInt32) / (4 : Int32) * (4 : Int32))
theorem r_X7_sheet (h : Hp) (a1 : Int32) (a2 : Int32) (a3 : Int32) : FO 0 68 h (fun u => u.1) (f_X7_sheet h a1 a2 a3) := by
  unfold f_X7_sheet
  refine fo_bdr (fun x1 => ?_)
  refine fo_ite ?_ ?_
  · exact fo_some FI.rf
  · refine fo_bdr (fun x2 => ?_)
    refine fo_ite ?_ ?_
    · exact fo_some FI.rf
    · refine fo_ite ?_ ?_
      · refine fo_ite ?_ ?_
        · refine fo_ck (fun q1 => ?_)
          refine fo_bdv (fun u hu => FI.rf.tr ((r_X1_makeNew h (60 + 2 * a1.toNatClampNeg) a2 a3 u hu).mo (by omega))) (fun h4 r_h4 => ?_)
          exact fo_some r_h4
        · refine fo_bnd (fun u hu => FI.rf.tr ((r_X7_found h (5 : Int32) u hu).mo (by omega))) (fun h5 x6 r_h5 => ?_)
          exact fo_some r_h5
      · exact fo_some FI.rf
theorem r_X7_lose (h : Hp) (a1 : Int32) : FO 0 68 h (fun u => u.1) (f_X7_lose h a1) := by
  unfold f_X7_lose
  refine fo_bdr (fun x1 => ?_)
  refine fo_ite ?_ ?_
  · exact fo_some FI.rf
  · refine fo_ck (fun q1 => ?_)
    refine fo_ite ?_ ?_
    · refine fo_nh (fi_uf FI.rf (by omega)) (fun h3 r_h3 => ?_)
      exact fo_some r_h3
    · refine fo_bnd (fun u hu => FI.rf.tr ((r_X7_found h (1 : Int32) u hu).mo (by omega))) (fun h4 x5 r_h4 => ?_)
      exact fo_some r_h4
theorem r_X7_lay (h : Hp) (a1 : Int32) (a2 : Int32) (a3 : Int32) (a4 : Int32) : FO 0 68 h (fun u => u.1) (f_X7_lay h a1 a2 a3 a4) := by
  unfold f_X7_lay
  refine fo_bdr (fun x1 => ?_)
  refine fo_ite ?_ ?_
  · exact fo_some FI.rf
  · refine fo_bdr (fun x2 => ?_)
    refine fo_ite ?_ ?_
    · exact fo_some FI.rf
    · refine fo_ck (fun q1 => ?_)
      refine fo_bdr (fun x4 => ?_)
      refine fo_ite ?_ ?_
      · refine fo_ck (fun q2 => ?_)
        refine fo_bdv (fun u hu => FI.rf.tr ((r_X1_put h (60 + 2 * a1.toNatClampNeg) a3 a4 u hu).mo (by omega))) (fun h6 r_h6 => ?_)
        exact fo_some r_h6
      · refine fo_bnd (fun u hu => FI.rf.tr ((r_X7_found h x4 u hu).mo (by omega))) (fun h7 x8 r_h7 => ?_)
        exact fo_some r_h7
theorem r_X7_get (h : Hp) (a1 : Int32) (a2 : Int32) (a3 : Int32) : FO 0 68 h (fun u => u.1) (f_X7_get h a1 a2 a3) := by
  unfold f_X7_get
  refine fo_bdr (fun x1 => ?_)
  refine fo_ite ?_ ?_
  · exact fo_some FI.rf
  · refine fo_bdr (fun x2 => ?_)
    refine fo_ite ?_ ?_
    · exact fo_some FI.rf
    · refine fo_ck (fun q1 => ?_)
      refine fo_bdr (fun x4 => ?_)
      refine fo_ite ?_ ?_
      · refine fo_ck (fun q2 => ?_)
        refine fo_ck (fun q3 => ?_)
        exact fo_some FI.rf
      · refine fo_bnd (fun u hu => FI.rf.tr ((r_X7_found h x4 u hu).mo (by omega))) (fun h6 x7 r_h6 => ?_)
        exact fo_some r_h6
theorem r_X7_copy (h : Hp) (a1 : Int32) (a2 : Int32) (a3 : Int32) (a4 : Int32) (a5 : Int32) : FO 0 68 h (fun u => u.1) (f_X7_copy h a1 a2 a3 a4 a5) := by
  unfold f_X7_copy
  refine fo_bdr (fun x1 => ?_)
  refine fo_ite ?_ ?_
  · exact fo_some FI.rf
  · refine fo_bdr (fun x2 => ?_)
    refine fo_ite ?_ ?_
    · exact fo_some FI.rf
    · refine fo_ck (fun q1 => ?_)
      refine fo_ck (fun q2 => ?_)
      refine fo_lt1 (fun u5 => ?_) (fun k1 Jk1 => ?_)
      · refine fo_bnd (fun u hu => FI.rf.tr ((r_X7_found h (1 : Int32) u hu).mo (by omega))) (fun h6 x7 r_h6 => ?_)
        exact fo_some r_h6
      refine fo_ite ?_ ?_
      · refine fo_ite ?_ ?_
        · refine fo_ite ?_ ?_
          · refine fo_bdr (fun x8 => ?_)
            refine fo_lt1 (fun u9 => ?_) (fun k2 Jk2 => ?_)
            · refine fo_bnd (fun u hu => FI.rf.tr ((r_X7_found h (2 : Int32) u hu).mo (by omega))) (fun h10 x11 r_h10 => ?_)
              exact fo_some r_h10
            refine fo_ite ?_ ?_
            · exact Jk2 (0 : Int32)
            · refine fo_bdr (fun x12 => ?_)
              refine fo_ite ?_ ?_
              · exact Jk2 (0 : Int32)
              · refine fo_cy (fun _ => ?_)
                refine fo_nh (fi_ucp FI.rf (by omega)) (fun h13 r_h13 => ?_)
                exact fo_some r_h13
          · refine fo_bnd (fun u hu => FI.rf.tr ((r_X7_found h (4 : Int32) u hu).mo (by omega))) (fun h14 x15 r_h14 => ?_)
            exact fo_some r_h14
        · exact Jk1 (0 : Int32)
      · exact Jk1 (0 : Int32)
theorem r_X7_write (h : Hp) (a1 : Int32) (a2 : Int32) : FO 0 68 h (fun u => u.1) (f_X7_write h a1 a2) := by
  unfold f_X7_write
  refine fo_bdr (fun x1 => ?_)
  refine fo_ite ?_ ?_
  · exact fo_some FI.rf
  · refine fo_bdr (fun x2 => ?_)
    refine fo_ite ?_ ?_
    · exact fo_some FI.rf
    · refine fo_ck (fun q1 => ?_)
      refine fo_ite ?_ ?_
      · refine fo_bnd (fun u hu => FI.rf.tr ((r_X7_shown h u hu).mo (by omega))) (fun h4 c5 r_h4 => ?_)
        refine fo_cy (fun _ => ?_)
        refine fo_ni (fun x7 => ?_)
        refine fo_fx2h (fun s1 Js1 h8 x9 r_h8 => ?_) _ _ r_h4
        refine fo_ite ?_ ?_
        · exact fo_some r_h8
        · refine fo_bdr (fun x10 => ?_)
          refine fo_bdv (fun u hu => r_h8.tr ((r_X1_put h8 (60 + 2 * a2.toNatClampNeg) x9 x10 u hu).mo (by omega))) (fun h11 r_h11 => ?_)
          refine fo_ni (fun x12 => ?_)
          exact Js1 h11 x12 r_h11
      · refine fo_bnd (fun u hu => FI.rf.tr ((r_X7_found h (1 : Int32) u hu).mo (by omega))) (fun h13 x14 r_h13 => ?_)
        exact fo_some r_h13
theorem r_X7_mixedPlans (h : Hp) (a1 : Int64) (a2 : Int32) : FO 0 68 h (fun u => u.1) (f_X7_mixedPlans h a1 a2) := by
  unfold f_X7_mixedPlans
  refine fo_bnd (fun u hu => FI.rf.tr ((r_X7_start h a2 (0 : Int32) u hu).mo (by omega))) (fun h1 x2 r_h1 => ?_)
  refine fo_bdr (fun l3 => ?_)
  refine fo_bnd (fun u hu => r_h1.tr ((r_X7_hold h1 a2 (0 : Int32) u hu).mo (by omega))) (fun h4 x5 r_h4 => ?_)
  refine fo_bdr (fun l6 => ?_)
  refine fo_bnd (fun u hu => r_h4.tr ((r_X7_was h4 a2 (0 : Int32) u hu).mo (by omega))) (fun h7 x8 r_h7 => ?_)
  refine fo_bdr (fun l9 => ?_)
  refine fo_bnd (fun u hu => r_h7.tr ((r_X7_was h7 a2 (1 : Int32) u hu).mo (by omega))) (fun h10 x11 r_h10 => ?_)
  refine fo_bdr (fun l12 => ?_)
  refine fo_bnd (fun u hu => r_h10.tr ((r_X7_ask h10 a2 u hu).mo (by omega))) (fun h13 x14 r_h13 => ?_)
  refine fo_bdr (fun l15 => ?_)
  refine fo_bnd (fun u hu => r_h13.tr ((r_X7_chance h13 (5 : Int32) a2 (0 : Int32) u hu).mo (by omega))) (fun h16 l17 r_h16 => ?_)
  refine fo_bdr (fun l18 => ?_)
  refine fo_bnd (fun u hu => r_h16.tr ((r_X7_chance h16 (5 : Int32) a2 (1 : Int32) u hu).mo (by omega))) (fun h19 l20 r_h19 => ?_)
  refine fo_bdr (fun l21 => ?_)
  exact fo_some r_h19
theorem r_X7_mixedWalk (h : Hp) (a1 : Int64) (a2 : Int32) : FO 0 68 h (fun u => u.1) (f_X7_mixedWalk h a1 a2) := by
  unfold f_X7_mixedWalk
  refine fo_lt1 (fun l1 => ?_) (fun k1 Jk1 => ?_)
  · refine fo_ni (fun x2 => ?_)
    refine fo_lt2h (fun h3 l4 r_h3 => ?_) (fun k2 Jk2 => ?_)
    · refine fo_fx3h (fun s3 Js3 h5 l6 x7 r_h5 => ?_) _ _ _ r_h3
      refine fo_ite ?_ ?_
      · exact fo_some r_h5
      · refine fo_bnd (fun u hu => r_h5.tr ((r_X7_ends h5 a2 x7 u hu).mo (by omega))) (fun h8 x9 r_h8 => ?_)
        refine fo_bdr (fun l10 => ?_)
        refine fo_ni (fun x11 => ?_)
        exact Js3 h8 l10 x11 r_h8
    refine fo_fx3h (fun s4 Js4 h12 l13 x14 r_h12 => ?_) _ _ _ FI.rf
    refine fo_ite ?_ ?_
    · exact Jk2 h12 l13 r_h12
    · refine fo_ck (fun q1 => ?_)
      refine fo_ni (fun x15 => ?_)
      refine fo_bnd (fun u hu => r_h12.tr ((r_X7_at h12 x15 a2 (0 : Int32) u hu).mo (by omega))) (fun h16 x17 r_h16 => ?_)
      refine fo_bdr (fun l18 => ?_)
      refine fo_bnd (fun u hu => r_h16.tr ((r_X7_at h16 x15 a2 (1 : Int32) u hu).mo (by omega))) (fun h19 x20 r_h19 => ?_)
      refine fo_bdr (fun l21 => ?_)
      refine fo_bnd (fun u hu => r_h19.tr ((r_X7_lean h19 x15 a2 u hu).mo (by omega))) (fun h22 x23 r_h22 => ?_)
      refine fo_bdr (fun l24 => ?_)
      refine fo_ni (fun x25 => ?_)
      exact Js4 h22 l24 x25 r_h22
  refine fo_fx2 (fun s5 Js5 l26 x27 => ?_) _ _
  refine fo_ite ?_ ?_
  · exact Jk1 l26
  · refine fo_bdr (fun x28 => ?_)
    refine fo_bdr (fun l29 => ?_)
    refine fo_ni (fun x30 => ?_)
    exact Js5 l29 x30
theorem r_X7_digest (h : Hp) : FO 0 68 h (fun u => u.1) (f_X7_digest h) := by
  unfold f_X7_digest
  refine fo_lt1 (fun l1 => ?_) (fun k1 Jk1 => ?_)
  · refine fo_bdr (fun x2 => ?_)
    refine fo_bdr (fun l3 => ?_)
    refine fo_bdr (fun x4 => ?_)
    refine fo_bdr (fun l5 => ?_)
    refine fo_lt2h (fun h6 l7 r_h6 => ?_) (fun k2 Jk2 => ?_)
    · refine fo_lt2h (fun h8 l9 r_h8 => ?_) (fun k3 Jk3 => ?_)
      · refine fo_lt2h (fun h10 l11 r_h10 => ?_) (fun k4 Jk4 => ?_)
        · refine fo_lt2h (fun h12 l13 r_h12 => ?_) (fun k5 Jk5 => ?_)
          · refine fo_bnd (fun u hu => r_h12.tr ((r_X7_who h12 (0 : Int32) u hu).mo (by omega))) (fun h14 x15 r_h14 => ?_)
            refine fo_bdr (fun l16 => ?_)
            refine fo_bnd (fun u hu => r_h14.tr ((r_X7_who h14 (1 : Int32) u hu).mo (by omega))) (fun h17 x18 r_h17 => ?_)
            refine fo_bdr (fun l19 => ?_)
            refine fo_bnd (fun u hu => r_h17.tr ((r_X7_bare h17 u hu).mo (by omega))) (fun h20 x21 r_h20 => ?_)
            refine fo_bdr (fun l22 => ?_)
            refine fo_bnd (fun u hu => r_h20.tr ((r_X7_act h20 (2 : Int32) (0 : Int32) u hu).mo (by omega))) (fun h23 x24 r_h23 => ?_)
            refine fo_bdr (fun l25 => ?_)
            refine fo_bnd (fun u hu => r_h23.tr ((r_X7_act h23 (6 : Int32) (0 : Int32) u hu).mo (by omega))) (fun h26 x27 r_h26 => ?_)
            refine fo_bdr (fun l28 => ?_)
            refine fo_bnd (fun u hu => r_h26.tr ((r_X7_spare h26 (-1 : Int32) u hu).mo (by omega))) (fun h29 x30 r_h29 => ?_)
            refine fo_bdr (fun l31 => ?_)
            refine fo_bnd (fun u hu => r_h29.tr ((r_X7_spare h29 (0 : Int32) u hu).mo (by omega))) (fun h32 x33 r_h32 => ?_)
            refine fo_bdr (fun l34 => ?_)
            refine fo_bnd (fun u hu => r_h32.tr ((r_X7_never h32 u hu).mo (by omega))) (fun h35 x36 r_h35 => ?_)
            refine fo_bdr (fun l37 => ?_)
            refine fo_bnd (fun u hu => r_h35.tr ((r_X7_shows h35 (7 : Int32) (18 : Int32) (0 : Int32) u hu).mo (by omega))) (fun h38 x39 r_h38 => ?_)
            refine fo_bdr (fun l40 => ?_)
            refine fo_bnd (fun u hu => r_h38.tr ((r_X7_shows h38 (7 : Int32) (18 : Int32) (1 : Int32) u hu).mo (by omega))) (fun h41 x42 r_h41 => ?_)
            refine fo_bdr (fun l43 => ?_)
            exact fo_some r_h41
          refine fo_fx3h (fun s6 Js6 h44 l45 x46 r_h44 => ?_) _ _ _ r_h10
          refine fo_ite ?_ ?_
          · exact Jk5 h44 l45 r_h44
          · refine fo_bnd (fun u hu => r_h44.tr ((r_X7_sum h44 x46 u hu).mo (by omega))) (fun h47 x48 r_h47 => ?_)
            refine fo_bdr (fun l49 => ?_)
            refine fo_ni (fun x50 => ?_)
            exact Js6 h47 l49 x50 r_h47
        refine fo_fx3h (fun s7 Js7 h51 l52 x53 r_h51 => ?_) _ _ _ r_h8
        refine fo_ite ?_ ?_
        · exact Jk4 h51 l52 r_h51
        · refine fo_bnd (fun u hu => r_h51.tr ((r_X7_mixedWalk h51 l52 x53 u hu).mo (by omega))) (fun h54 l55 r_h54 => ?_)
          refine fo_bnd (fun u hu => r_h54.tr ((r_X7_mixedPlans h54 l55 x53 u hu).mo (by omega))) (fun h56 l57 r_h56 => ?_)
          refine fo_ni (fun x58 => ?_)
          exact Js7 h56 l57 x58 r_h56
      refine fo_fx3h (fun s8 Js8 h59 l60 x61 r_h59 => ?_) _ _ _ r_h6
      refine fo_ite ?_ ?_
      · exact Jk3 h59 l60 r_h59
      · refine fo_bnd (fun u hu => r_h59.tr ((r_X7_sees h59 (9 : Int32) x61 u hu).mo (by omega))) (fun h62 x63 r_h62 => ?_)
        refine fo_bdr (fun l64 => ?_)
        refine fo_ni (fun x65 => ?_)
        exact Js8 h62 l64 x65 r_h62
    refine fo_fx3h (fun s9 Js9 h66 l67 x68 r_h66 => ?_) _ _ _ FI.rf
    refine fo_ite ?_ ?_
    · exact Jk2 h66 l67 r_h66
    · refine fo_bdr (fun x69 => ?_)
      refine fo_bdr (fun l70 => ?_)
      refine fo_bnd (fun u hu => r_h66.tr ((r_X7_sway h66 x68 u hu).mo (by omega))) (fun h71 x72 r_h71 => ?_)
      refine fo_bdr (fun l73 => ?_)
      refine fo_ni (fun x74 => ?_)
      exact Js9 h71 l73 x74 r_h71
  refine fo_fx2 (fun s10 Js10 l75 x76 => ?_) _ _
  refine fo_ite ?_ ?_
  · exact Jk1 l75
  · refine fo_bdr (fun x77 => ?_)
    refine fo_bdr (fun l78 => ?_)
    refine fo_ni (fun x79 => ?_)
    exact Js10 l78 x79
theorem r_X8_finds (h : Hp) (a1 : Int32) : FO 68 93 h (fun u => u.1) (f_X8_finds h a1) := by
  unfold f_X8_finds
  refine fo_nh (fi_uf FI.rf (by decide)) (fun h1 r_h1 => ?_)
  exact fo_some r_h1
theorem r_X8_sheet (h : Hp) (a1 : Int32) (a2 : Int32) (a3 : Int32) : FO 68 93 h (fun u => u.1) (f_X8_sheet h a1 a2 a3) := by
  unfold f_X8_sheet
  refine fo_bdr (fun x1 => ?_)
  refine fo_ite ?_ ?_
  · exact fo_some FI.rf
  · refine fo_bdr (fun x2 => ?_)
    refine fo_ite ?_ ?_
    · exact fo_some FI.rf
    · refine fo_ite ?_ ?_
      · refine fo_ite ?_ ?_
        · refine fo_ck (fun q1 => ?_)
          refine fo_nh (fi_ux FI.rf (by decide)) (fun h3 r_h3 => ?_)
          refine fo_ck (fun q2 => ?_)
          refine fo_nh (fi_ux r_h3 (by decide)) (fun h4 r_h4 => ?_)
          refine fo_fx2h (fun s1 Js1 h5 x6 r_h5 => ?_) _ _ r_h4
          refine fo_ite ?_ ?_
          · exact fo_some r_h5
          · refine fo_ck (fun q3 => ?_)
            refine fo_nh (fi_ux r_h5 (by decide)) (fun h7 r_h7 => ?_)
            refine fo_ni (fun x8 => ?_)
            exact Js1 h7 x8 r_h7
        · refine fo_bnd (fun u hu => FI.rf.tr ((r_X8_finds h (5 : Int32) u hu).mo (by omega))) (fun h9 x10 r_h9 => ?_)
          exact fo_some r_h9
      · exact fo_some FI.rf
theorem r_X8_lose (h : Hp) (a1 : Int32) : FO 68 93 h (fun u => u.1) (f_X8_lose h a1) := by
  unfold f_X8_lose
  refine fo_bdr (fun x1 => ?_)
  refine fo_ite ?_ ?_
  · exact fo_some FI.rf
  · refine fo_ck (fun q1 => ?_)
    refine fo_ite ?_ ?_
    · refine fo_ck (fun q2 => ?_)
      refine fo_nh (fi_ux FI.rf (by decide)) (fun h2 r_h2 => ?_)
      refine fo_ck (fun q3 => ?_)
      exact fo_some r_h2
    · refine fo_bnd (fun u hu => FI.rf.tr ((r_X8_finds h (1 : Int32) u hu).mo (by omega))) (fun h3 x4 r_h3 => ?_)
      exact fo_some r_h3
theorem r_X8_lacks (h : Hp) (a1 : Int32) (a2 : Int32) (a3 : Int32) : FO 68 93 h (fun u => u.1) (f_X8_lacks h a1 a2 a3) := by
  unfold f_X8_lacks
  refine fo_ck (fun q1 => ?_)
  refine fo_ite ?_ ?_
  · refine fo_ck (fun q2 => ?_)
    refine fo_ite ?_ ?_
    · refine fo_ck (fun q3 => ?_)
      refine fo_bdr (fun x1 => ?_)
      refine fo_ite ?_ ?_
      · refine fo_bnd (fun u hu => FI.rf.tr ((r_X8_finds h (2 : Int32) u hu).mo (by omega))) (fun h2 x3 r_h2 => ?_)
        exact fo_some r_h2
      · exact fo_some FI.rf
    · refine fo_bnd (fun u hu => FI.rf.tr ((r_X8_finds h (3 : Int32) u hu).mo (by omega))) (fun h4 x5 r_h4 => ?_)
      exact fo_some r_h4
  · refine fo_bnd (fun u hu => FI.rf.tr ((r_X8_finds h (1 : Int32) u hu).mo (by omega))) (fun h6 x7 r_h6 => ?_)
    exact fo_some r_h6
theorem r_X8_lay (h : Hp) (a1 : Int32) (a2 : Int32) (a3 : Int32) (a4 : Int32) : FO 68 93 h (fun u => u.1) (f_X8_lay h a1 a2 a3 a4) := by
  unfold f_X8_lay
  refine fo_bdr (fun x1 => ?_)
  refine fo_ite ?_ ?_
  · exact fo_some FI.rf
  · refine fo_bdr (fun x2 => ?_)
    refine fo_ite ?_ ?_
    · exact fo_some FI.rf
    · refine fo_bnd (fun u hu => FI.rf.tr ((r_X8_lacks h a1 a2 a3 u hu).mo (by omega))) (fun h3 x4 r_h3 => ?_)
      refine fo_ite ?_ ?_
      · refine fo_bdr (fun x5 => ?_)
        refine fo_ck (fun q1 => ?_)
        refine fo_nh (fi_ux r_h3 (by decide)) (fun h6 r_h6 => ?_)
        exact fo_some r_h6
      · exact fo_some r_h3
theorem r_X8_get (h : Hp) (a1 : Int32) (a2 : Int32) (a3 : Int32) : FO 68 93 h (fun u => u.1) (f_X8_get h a1 a2 a3) := by
  unfold f_X8_get
  refine fo_bdr (fun x1 => ?_)
  refine fo_ite ?_ ?_
  · exact fo_some FI.rf
  · refine fo_bdr (fun x2 => ?_)
    refine fo_ite ?_ ?_
    · exact fo_some FI.rf
    · refine fo_bnd (fun u hu => FI.rf.tr ((r_X8_lacks h a1 a2 a3 u hu).mo (by omega))) (fun h3 x4 r_h3 => ?_)
      refine fo_ite ?_ ?_
      · refine fo_ck (fun q1 => ?_)
        exact fo_some r_h3
      · exact fo_some r_h3
theorem r_X8_copy (h : Hp) (a1 : Int32) (a2 : Int32) (a3 : Int32) (a4 : Int32) (a5 : Int32) : FO 68 93 h (fun u => u.1) (f_X8_copy h a1 a2 a3 a4 a5) := by
  unfold f_X8_copy
  refine fo_bdr (fun x1 => ?_)
  refine fo_ite ?_ ?_
  · exact fo_some FI.rf
  · refine fo_bdr (fun x2 => ?_)
    refine fo_ite ?_ ?_
    · exact fo_some FI.rf
    · refine fo_ck (fun q1 => ?_)
      refine fo_lt1 (fun u3 => ?_) (fun k1 Jk1 => ?_)
      · refine fo_bnd (fun u hu => FI.rf.tr ((r_X8_finds h (1 : Int32) u hu).mo (by omega))) (fun h4 x5 r_h4 => ?_)
        exact fo_some r_h4
      refine fo_ite ?_ ?_
      · exact Jk1 (0 : Int32)
      · refine fo_ck (fun q2 => ?_)
        refine fo_ite ?_ ?_
        · refine fo_ck (fun q3 => ?_)
          refine fo_ck (fun q4 => ?_)
          refine fo_ite ?_ ?_
          · refine fo_lt1 (fun u6 => ?_) (fun k2 Jk2 => ?_)
            · refine fo_bnd (fun u hu => FI.rf.tr ((r_X8_finds h (2 : Int32) u hu).mo (by omega))) (fun h7 x8 r_h7 => ?_)
              exact fo_some r_h7
            refine fo_ite ?_ ?_
            · exact Jk2 (0 : Int32)
            · refine fo_ite ?_ ?_
              · exact Jk2 (0 : Int32)
              · refine fo_ite ?_ ?_
                · exact Jk2 (0 : Int32)
                · refine fo_ck (fun q5 => ?_)
                  refine fo_ite ?_ ?_
                  · exact Jk2 (0 : Int32)
                  · refine fo_ck (fun q6 => ?_)
                    refine fo_ite ?_ ?_
                    · refine fo_lt1h (fun h9 r_h9 => ?_) (fun k3 Jk3 => ?_)
                      · refine fo_fx2h (fun s4 Js4 h10 x11 r_h10 => ?_) _ _ r_h9
                        refine fo_ite ?_ ?_
                        · exact fo_some r_h10
                        · refine fo_ck (fun q7 => ?_)
                          refine fo_ck (fun q8 => ?_)
                          refine fo_nh (fi_ux r_h10 (by decide)) (fun h12 r_h12 => ?_)
                          refine fo_ni (fun x13 => ?_)
                          exact Js4 h12 x13 r_h12
                      refine fo_fx2h (fun s5 Js5 h14 x15 r_h14 => ?_) _ _ FI.rf
                      refine fo_ite ?_ ?_
                      · exact Jk3 h14 r_h14
                      · refine fo_ck (fun q9 => ?_)
                        refine fo_ck (fun q10 => ?_)
                        refine fo_nh (fi_ux r_h14 (by decide)) (fun h16 r_h16 => ?_)
                        refine fo_ni (fun x17 => ?_)
                        exact Js5 h16 x17 r_h16
                    · exact Jk2 (0 : Int32)
          · refine fo_bnd (fun u hu => FI.rf.tr ((r_X8_finds h (4 : Int32) u hu).mo (by omega))) (fun h18 x19 r_h18 => ?_)
            exact fo_some r_h18
        · exact Jk1 (0 : Int32)
theorem r_X8_type (h : Hp) (a1 : Int32) (a2 : Int32) : FO 68 93 h (fun u => u.1) (f_X8_type h a1 a2) := by
  unfold f_X8_type
  refine fo_bdr (fun x1 => ?_)
  refine fo_ite ?_ ?_
  · exact fo_some FI.rf
  · refine fo_bdr (fun x2 => ?_)
    refine fo_ite ?_ ?_
    · exact fo_some FI.rf
    · refine fo_ck (fun q1 => ?_)
      refine fo_lt1 (fun x3 => ?_) (fun k1 Jk1 => ?_)
      · refine fo_ite ?_ ?_
        · exact fo_some FI.rf
        · refine fo_ck (fun q2 => ?_)
          refine fo_ck (fun q3 => ?_)
          refine fo_nh (fi_ux FI.rf (by decide)) (fun h4 r_h4 => ?_)
          refine fo_ck (fun q4 => ?_)
          refine fo_ck (fun q5 => ?_)
          refine fo_nh (fi_ux r_h4 (by decide)) (fun h5 r_h5 => ?_)
          refine fo_ck (fun q6 => ?_)
          exact fo_some r_h5
      refine fo_ite ?_ ?_
      · exact Jk1 (23 : Int32)
      · exact Jk1 (24 : Int32)
theorem r_X8_wipe (h : Hp) (a1 : Int32) : FO 68 93 h (fun u => u.1) (f_X8_wipe h a1) := by
  unfold f_X8_wipe
  refine fo_bdr (fun x1 => ?_)
  refine fo_ite ?_ ?_
  · exact fo_some FI.rf
  · refine fo_ck (fun q1 => ?_)
    refine fo_ni (fun x2 => ?_)
    refine fo_ck (fun q2 => ?_)
    refine fo_nh (fi_ux FI.rf (by decide)) (fun h3 r_h3 => ?_)
    exact fo_some r_h3
theorem r_X8_undo (h : Hp) (a1 : Int32) : FO 68 93 h (fun u => u.1) (f_X8_undo h a1) := by
  unfold f_X8_undo
  refine fo_bdr (fun x1 => ?_)
  refine fo_ite ?_ ?_
  · exact fo_some FI.rf
  · refine fo_ck (fun q1 => ?_)
    refine fo_ite ?_ ?_
    · exact fo_some FI.rf
    · refine fo_ck (fun q2 => ?_)
      refine fo_ck (fun q3 => ?_)
      refine fo_nh (fi_ux FI.rf (by decide)) (fun h2 r_h2 => ?_)
      refine fo_ck (fun q4 => ?_)
      exact fo_some r_h2
theorem r_X8_readsWalkers (h : Hp) : FO 68 93 h (fun u => u.1) (f_X8_readsWalkers h) := by
  unfold f_X8_readsWalkers
  refine fo_nh (fi_uf FI.rf (by decide)) (fun h1 r_h1 => ?_)
  refine fo_ni (fun x2 => ?_)
  refine fo_lt1h (fun h3 r_h3 => ?_) (fun k1 Jk1 => ?_)
  · refine fo_ite ?_ ?_
    · exact fo_some r_h3
    · refine fo_ite ?_ ?_
      · exact fo_some r_h3
      · refine fo_nh (fi_uf r_h3 (by decide)) (fun h4 r_h4 => ?_)
        exact fo_some r_h4
  refine fo_fx2h (fun s2 Js2 h5 x6 r_h5 => ?_) _ _ r_h1
  refine fo_ite ?_ ?_
  · exact Jk1 h5 r_h5
  · refine fo_ni (fun x7 => ?_)
    refine fo_ck (fun q1 => ?_)
    refine fo_bdr (fun x8 => ?_)
    refine fo_ite ?_ ?_
    · refine fo_nh (fi_uf r_h5 (by decide)) (fun h14 r_h14 => ?_)
      exact fo_some r_h14
    · refine fo_lt1h (fun h9 r_h9 => ?_) (fun k3 Jk3 => ?_)
      · refine fo_lt1 (fun x10 => ?_) (fun k4 Jk4 => ?_)
        · refine fo_nh (fi_uf r_h9 (by decide)) (fun h11 r_h11 => ?_)
          refine fo_ni (fun x12 => ?_)
          exact Js2 h11 x12 r_h11
        refine fo_ite ?_ ?_
        · exact Jk4 (1 : Int32)
        · exact Jk4 (0 : Int32)
      refine fo_ite ?_ ?_
      · exact Jk3 h5 r_h5
      · refine fo_ck (fun q2 => ?_)
        refine fo_nh (fi_ux r_h5 (by decide)) (fun h13 r_h13 => ?_)
        exact Jk3 h13 r_h13
theorem r_X8_plain (h : Hp) : FO 68 93 h (fun u => u) (f_X8_plain h) := by
  unfold f_X8_plain
  refine fo_nh (fi_uf FI.rf (by decide)) (fun h1 r_h1 => ?_)
  refine fo_fx2h (fun s1 Js1 h2 x3 r_h2 => ?_) _ _ r_h1
  refine fo_ite ?_ ?_
  · exact fo_some r_h2
  · refine fo_ck (fun q1 => ?_)
    refine fo_nh (fi_ux r_h2 (by decide)) (fun h4 r_h4 => ?_)
    refine fo_ni (fun x5 => ?_)
    exact Js1 h4 x5 r_h4
theorem r_X8_readsRoutine (h : Hp) : FO 68 93 h (fun u => u.1) (f_X8_readsRoutine h) := by
  unfold f_X8_readsRoutine
  refine fo_bdv (fun u hu => FI.rf.tr ((r_X8_plain h u hu).mo (by omega))) (fun h1 r_h1 => ?_)
  refine fo_lt1h (fun h2 r_h2 => ?_) (fun k1 Jk1 => ?_)
  · refine fo_nh (fi_uf r_h2 (by decide)) (fun h3 r_h3 => ?_)
    exact fo_some r_h3
  refine fo_fx2h (fun s2 Js2 h4 x5 r_h4 => ?_) _ _ r_h1
  refine fo_ite ?_ ?_
  · exact Jk1 h4 r_h4
  · refine fo_ck (fun q1 => ?_)
    refine fo_ni (fun x6 => ?_)
    refine fo_lt1 (fun x7 => ?_) (fun k3 Jk3 => ?_)
    · refine fo_ite ?_ ?_
      · refine fo_bdv (fun u hu => r_h4.tr ((r_X8_plain h4 u hu).mo (by omega))) (fun h10 r_h10 => ?_)
        exact fo_some r_h10
      · refine fo_ck (fun q2 => ?_)
        refine fo_nh (fi_ux r_h4 (by decide)) (fun h8 r_h8 => ?_)
        refine fo_ni (fun x9 => ?_)
        exact Js2 h8 x9 r_h8
    refine fo_ite ?_ ?_
    · exact Jk3 (0 : Int32)
    · refine fo_ite ?_ ?_
      · exact Jk3 (1 : Int32)
      · refine fo_ite ?_ ?_
        · exact Jk3 (2 : Int32)
        · refine fo_ite ?_ ?_
          · exact Jk3 (3 : Int32)
          · exact Jk3 (-9 : Int32)
theorem r_X8_readsText (h : Hp) (a1 : Int32) : FO 68 93 h (fun u => u.1) (f_X8_readsText h a1) := by
  unfold f_X8_readsText
  refine fo_ite ?_ ?_
  · refine fo_bnd (fun u hu => FI.rf.tr ((r_X8_readsWalkers h u hu).mo (by omega))) (fun h3 x4 r_h3 => ?_)
    exact fo_some r_h3
  · refine fo_bnd (fun u hu => FI.rf.tr ((r_X8_readsRoutine h u hu).mo (by omega))) (fun h1 x2 r_h1 => ?_)
    exact fo_some r_h1
theorem r_X8_fault (h : Hp) (a1 : Int32) : FO 68 93 h (fun u => u.1) (f_X8_fault h a1) := by
  unfold f_X8_fault
  refine fo_bdr (fun x1 => ?_)
  refine fo_ite ?_ ?_
  · exact fo_some FI.rf
  · refine fo_bnd (fun u hu => FI.rf.tr ((r_X8_readsText h a1 u hu).mo (by omega))) (fun h2 x3 r_h2 => ?_)
    exact fo_some r_h2
theorem r_X8_walker (h : Hp) (a1 : Int32) (a2 : Int32) : FO 68 93 h (fun u => u.1) (f_X8_walker h a1 a2) := by
  unfold f_X8_walker
  refine fo_bnd (fun u hu => FI.rf.tr ((r_X8_readsWalkers h u hu).mo (by omega))) (fun h1 x2 r_h1 => ?_)
  refine fo_bdr (fun x3 => ?_)
  refine fo_ite ?_ ?_
  · exact fo_some r_h1
  · refine fo_bdr (fun x4 => ?_)
    refine fo_ite ?_ ?_
    · exact fo_some r_h1
    · refine fo_ck (fun q1 => ?_)
      exact fo_some r_h1
theorem r_X8_routine (h : Hp) (a1 : Int32) : FO 68 93 h (fun u => u.1) (f_X8_routine h a1) := by
  unfold f_X8_routine
  refine fo_bnd (fun u hu => FI.rf.tr ((r_X8_readsRoutine h u hu).mo (by omega))) (fun h1 x2 r_h1 => ?_)
  refine fo_bdr (fun x3 => ?_)
  refine fo_ite ?_ ?_
  · exact fo_some r_h1
  · refine fo_ck (fun q1 => ?_)
    exact fo_some r_h1
theorem r_X8_wire (h : Hp) (a1 : Int32) (a2 : Int32) : FO 68 93 h (fun u => u.1) (f_X8_wire h a1 a2) := by
  unfold f_X8_wire
  refine fo_bdr (fun x1 => ?_)
  refine fo_ite ?_ ?_
  · exact fo_some FI.rf
  · refine fo_ck (fun q1 => ?_)
    refine fo_ni (fun x2 => ?_)
    refine fo_ck (fun q2 => ?_)
    refine fo_nh (fi_ux FI.rf (by decide)) (fun h3 r_h3 => ?_)
    exact fo_some r_h3
theorem r_X8_event (h : Hp) (a1 : Int32) (a2 : Int32) (a3 : Int32) : FO 68 93 h (fun u => u.1) (f_X8_event h a1 a2 a3) := by
  unfold f_X8_event
  refine fo_bdr (fun x1 => ?_)
  refine fo_ite ?_ ?_
  · exact fo_some FI.rf
  · refine fo_bdr (fun x2 => ?_)
    refine fo_ite ?_ ?_
    · exact fo_some FI.rf
    · refine fo_bdr (fun x3 => ?_)
      refine fo_ite ?_ ?_
      · exact fo_some FI.rf
      · refine fo_ite ?_ ?_
        · exact fo_some FI.rf
        · refine fo_ck (fun q1 => ?_)
          refine fo_nh (fi_ux FI.rf (by decide)) (fun h4 r_h4 => ?_)
          refine fo_ck (fun q2 => ?_)
          refine fo_nh (fi_ux r_h4 (by decide)) (fun h5 r_h5 => ?_)
          refine fo_ck (fun q3 => ?_)
          refine fo_nh (fi_ux r_h5 (by decide)) (fun h6 r_h6 => ?_)
          refine fo_nh (fi_uf r_h6 (by decide)) (fun h7 r_h7 => ?_)
          exact fo_some r_h7
theorem r_X8_back (h : Hp) : FO 68 93 h (fun u => u.1) (f_X8_back h) := by
  unfold f_X8_back
  refine fo_ite ?_ ?_
  · exact fo_some FI.rf
  · refine fo_nh (fi_uf FI.rf (by decide)) (fun h1 r_h1 => ?_)
    exact fo_some r_h1
theorem r_X8_read (h : Hp) (a1 : Int32) : FO 68 93 h (fun u => u.1) (f_X8_read h a1) := by
  unfold f_X8_read
  refine fo_bdr (fun x1 => ?_)
  refine fo_ite ?_ ?_
  · exact fo_some FI.rf
  · refine fo_ck (fun q1 => ?_)
    refine fo_ite ?_ ?_
    · refine fo_fx3h (fun s1 Js1 h2 x3 x4 r_h2 => ?_) _ _ _ FI.rf
      refine fo_ite ?_ ?_
      · exact fo_some r_h2
      · refine fo_ck (fun q2 => ?_)
        refine fo_ite ?_ ?_
        · exact fo_some r_h2
        · refine fo_ni (fun x5 => ?_)
          refine fo_ck (fun q3 => ?_)
          refine fo_ck (fun q4 => ?_)
          refine fo_ck (fun q5 => ?_)
          refine fo_bnd (fun u hu => r_h2.tr ((r_X8_event h2 (ia h2 71 x5) (ia h2 71 (x5 + (1 : Int32))) (ia h2 71 (x5 + (2 : Int32))) u hu).mo (by omega))) (fun h6 x7 r_h6 => ?_)
          refine fo_lt1 (fun x8 => ?_) (fun k2 Jk2 => ?_)
          · refine fo_lt1 (fun x9 => ?_) (fun k3 Jk3 => ?_)
            · refine fo_ni (fun x10 => ?_)
              exact Js1 h6 x10 x8 r_h6
            refine fo_ite ?_ ?_
            · exact Jk3 (0 : Int32)
            · exact Jk3 (1 : Int32)
          refine fo_ite ?_ ?_
          · exact Jk2 (0 : Int32)
          · exact Jk2 (1 : Int32)
    · refine fo_bnd (fun u hu => FI.rf.tr ((r_X8_finds h (1 : Int32) u hu).mo (by omega))) (fun h11 x12 r_h11 => ?_)
      exact fo_some r_h11
theorem r_X8_leans (h : Hp) (a1 : Int32) : FO 68 93 h (fun u => u) (f_X8_leans h a1) := by
  unfold f_X8_leans
  refine fo_fx2h (fun s1 Js1 h1 x2 r_h1 => ?_) _ _ FI.rf
  refine fo_ite ?_ ?_
  · exact fo_some r_h1
  · refine fo_ck (fun q1 => ?_)
    refine fo_ck (fun q2 => ?_)
    refine fo_lt1 (fun x3 => ?_) (fun k2 Jk2 => ?_)
    · refine fo_ck (fun q3 => ?_)
      refine fo_nh (fi_ux r_h1 (by decide)) (fun h4 r_h4 => ?_)
      refine fo_ni (fun x5 => ?_)
      exact Js1 h4 x5 r_h4
    refine fo_ite ?_ ?_
    · exact Jk2 a1
    · exact Jk2 (0 : Int32)
theorem r_X8_happens (h : Hp) (a1 : Int32) : FO 68 93 h (fun u => u) (f_X8_happens h a1) := by
  unfold f_X8_happens
  refine fo_nh (fi_uf FI.rf (by decide)) (fun h1 r_h1 => ?_)
  refine fo_fx2h (fun s1 Js1 h2 x3 r_h2 => ?_) _ _ r_h1
  refine fo_ite ?_ ?_
  · exact fo_some r_h2
  · refine fo_ck (fun q1 => ?_)
    refine fo_ni (fun x4 => ?_)
    refine fo_ck (fun q2 => ?_)
    refine fo_lt1h (fun h5 r_h5 => ?_) (fun k2 Jk2 => ?_)
    · refine fo_ni (fun x6 => ?_)
      exact Js1 h5 x6 r_h5
    refine fo_ite ?_ ?_
    · refine fo_bdr (fun x7 => ?_)
      refine fo_ite ?_ ?_
      · refine fo_ck (fun q3 => ?_)
        refine fo_ite ?_ ?_
        · refine fo_lt1 (fun x8 => ?_) (fun k3 Jk3 => ?_)
          · refine fo_bdv (fun u hu => r_h2.tr ((r_X8_leans h2 x8 u hu).mo (by omega))) (fun h9 r_h9 => ?_)
            exact Jk2 h9 r_h9
          refine fo_ite ?_ ?_
          · exact Jk3 (3 : Int32)
          · exact Jk3 (-3 : Int32)
        · refine fo_ite ?_ ?_
          · refine fo_ck (fun q4 => ?_)
            refine fo_nh (fi_ux r_h2 (by decide)) (fun h10 r_h10 => ?_)
            exact Jk2 h10 r_h10
          · refine fo_nh (fi_uf r_h2 (by decide)) (fun h11 r_h11 => ?_)
            exact Jk2 h11 r_h11
      · exact Jk2 h2 r_h2
    · exact Jk2 h2 r_h2
theorem r_X8_goes (h : Hp) (a1 : Int32) (a2 : Int32) : FO 68 93 h (fun u => u) (f_X8_goes h a1 a2) := by
  unfold f_X8_goes
  refine fo_ck (fun q1 => ?_)
  refine fo_lt1 (fun x1 => ?_) (fun k1 Jk1 => ?_)
  · refine fo_lt1 (fun x2 => ?_) (fun k2 Jk2 => ?_)
    · refine fo_lt1 (fun x3 => ?_) (fun k3 Jk3 => ?_)
      · refine fo_ni (fun x4 => ?_)
        refine fo_lt2h (fun h5 x6 r_h5 => ?_) (fun k4 Jk4 => ?_)
        · refine fo_ck (fun q2 => ?_)
          refine fo_lt1 (fun x7 => ?_) (fun k5 Jk5 => ?_)
          · refine fo_ck (fun q3 => ?_)
            refine fo_nh (fi_ux r_h5 (by decide)) (fun h8 r_h8 => ?_)
            refine fo_nh (fi_uf r_h8 (by decide)) (fun h9 r_h9 => ?_)
            exact fo_some r_h9
          refine fo_ite ?_ ?_
          · exact Jk5 (1 : Int32)
          · exact Jk5 (0 : Int32)
        refine fo_fx2h (fun s6 Js6 h10 x11 r_h10 => ?_) _ _ FI.rf
        refine fo_ite ?_ ?_
        · exact Jk4 h10 x11 r_h10
        · refine fo_ck (fun q4 => ?_)
          refine fo_ite ?_ ?_
          · refine fo_ck (fun q5 => ?_)
            refine fo_bdr (fun x12 => ?_)
            refine fo_ite ?_ ?_
            · refine fo_ck (fun q6 => ?_)
              refine fo_ck (fun q7 => ?_)
              refine fo_nh (fi_ux r_h10 (by decide)) (fun h13 r_h13 => ?_)
              refine fo_ni (fun x14 => ?_)
              refine fo_ck (fun q8 => ?_)
              refine fo_lt1 (fun x15 => ?_) (fun k7 Jk7 => ?_)
              · refine fo_ck (fun q9 => ?_)
                refine fo_nh (fi_ux r_h13 (by decide)) (fun h16 r_h16 => ?_)
                refine fo_ck (fun q10 => ?_)
                refine fo_ite ?_ ?_
                · refine fo_ck (fun q11 => ?_)
                  refine fo_nh (fi_ux r_h16 (by decide)) (fun h17 r_h17 => ?_)
                  refine fo_ck (fun q12 => ?_)
                  refine fo_nh (fi_ux r_h17 (by decide)) (fun h18 r_h18 => ?_)
                  refine fo_ck (fun q13 => ?_)
                  refine fo_nh (fi_ux r_h18 (by decide)) (fun h19 r_h19 => ?_)
                  exact Js6 h19 x14 r_h19
                · exact Js6 h16 x14 r_h16
              refine fo_ite ?_ ?_
              · exact Jk7 (0 : Int32)
              · exact Jk7 (1 : Int32)
            · exact Jk4 h10 x11 r_h10
          · exact Jk4 h10 x11 r_h10
      refine fo_ite ?_ ?_
      · exact Jk3 (0 : Int32)
      · exact Jk3 (1 : Int32)
    refine fo_ite ?_ ?_
    · exact Jk2 (1 : Int32)
    · exact Jk2 (2 : Int32)
  refine fo_ite ?_ ?_
  · exact Jk1 (1 : Int32)
  · exact Jk1 (0 : Int32)
theorem r_X8_acting (h : Hp) (a1 : Int32) (a2 : Int32) : FO 68 93 h (fun u => u) (f_X8_acting h a1 a2) := by
  unfold f_X8_acting
  refine fo_ck (fun q1 => ?_)
  refine fo_ck (fun q2 => ?_)
  refine fo_lt1 (fun x1 => ?_) (fun k1 Jk1 => ?_)
  · refine fo_ni (fun x2 => ?_)
    refine fo_ck (fun q3 => ?_)
    refine fo_ck (fun q4 => ?_)
    refine fo_lt1h (fun h3 r_h3 => ?_) (fun k2 Jk2 => ?_)
    · refine fo_ck (fun q5 => ?_)
      refine fo_ck (fun q6 => ?_)
      refine fo_nh (fi_ux r_h3 (by decide)) (fun h4 r_h4 => ?_)
      exact fo_some r_h4
    refine fo_ite ?_ ?_
    · refine fo_bdv (fun u hu => FI.rf.tr ((r_X8_goes h a1 a2 u hu).mo (by omega))) (fun h5 r_h5 => ?_)
      exact Jk2 h5 r_h5
    · refine fo_ite ?_ ?_
      · refine fo_ck (fun q7 => ?_)
        refine fo_ck (fun q8 => ?_)
        refine fo_lt1 (fun x6 => ?_) (fun k3 Jk3 => ?_)
        · refine fo_ck (fun q9 => ?_)
          refine fo_nh (fi_ux FI.rf (by decide)) (fun h7 r_h7 => ?_)
          exact Jk2 h7 r_h7
        refine fo_ite ?_ ?_
        · refine fo_ck (fun q10 => ?_)
          refine fo_ite ?_ ?_
          · exact Jk3 (0 : Int32)
          · exact Jk3 (-1 : Int32)
        · exact Jk3 (1 : Int32)
      · refine fo_ite ?_ ?_
        · refine fo_ck (fun q11 => ?_)
          refine fo_ck (fun q12 => ?_)
          refine fo_nh (fi_ux FI.rf (by decide)) (fun h8 r_h8 => ?_)
          exact Jk2 h8 r_h8
        · refine fo_ck (fun q13 => ?_)
          refine fo_ck (fun q14 => ?_)
          refine fo_nh (fi_ux FI.rf (by decide)) (fun h9 r_h9 => ?_)
          exact Jk2 h9 r_h9
  refine fo_ite ?_ ?_
  · exact Jk1 (1 : Int32)
  · exact Jk1 (0 : Int32)
theorem r_X8_moves (h : Hp) (a1 : Int32) (a2 : Int32) : FO 68 93 h (fun u => u) (f_X8_moves h a1 a2) := by
  unfold f_X8_moves
  refine fo_bdv (fun u hu => FI.rf.tr ((r_X8_acting h a1 a2 u hu).mo (by omega))) (fun h1 r_h1 => ?_)
  refine fo_ck (fun q1 => ?_)
  refine fo_ite ?_ ?_
  · refine fo_ck (fun q2 => ?_)
    refine fo_lt1 (fun x2 => ?_) (fun k1 Jk1 => ?_)
    · refine fo_ck (fun q3 => ?_)
      refine fo_bdr (fun x3 => ?_)
      refine fo_lt1h (fun h4 r_h4 => ?_) (fun k2 Jk2 => ?_)
      · refine fo_ck (fun q4 => ?_)
        refine fo_bdr (fun x5 => ?_)
        refine fo_ite ?_ ?_
        · exact fo_some r_h4
        · refine fo_ck (fun q5 => ?_)
          refine fo_nh (fi_ux r_h4 (by decide)) (fun h6 r_h6 => ?_)
          refine fo_ck (fun q6 => ?_)
          refine fo_nh (fi_ux r_h6 (by decide)) (fun h7 r_h7 => ?_)
          exact fo_some r_h7
      refine fo_ite ?_ ?_
      · exact Jk2 h1 r_h1
      · refine fo_ck (fun q7 => ?_)
        refine fo_ck (fun q8 => ?_)
        refine fo_lt1 (fun x8 => ?_) (fun k3 Jk3 => ?_)
        · refine fo_ck (fun q9 => ?_)
          refine fo_nh (fi_ux r_h1 (by decide)) (fun h9 r_h9 => ?_)
          exact Jk2 h9 r_h9
        refine fo_ite ?_ ?_
        · exact Jk3 (-1 : Int32)
        · exact Jk3 (1 : Int32)
    refine fo_ite ?_ ?_
    · exact Jk1 (2 : Int32)
    · exact Jk1 (0 : Int32)
  · exact fo_some r_h1
theorem r_X8_passes (h : Hp) (a1 : Int32) (a2 : Int32) : FO 68 93 h (fun u => u) (f_X8_passes h a1 a2) := by
  unfold f_X8_passes
  refine fo_bdv (fun u hu => FI.rf.tr ((r_X8_happens h a1 u hu).mo (by omega))) (fun h1 r_h1 => ?_)
  refine fo_lt1 (fun x2 => ?_) (fun k1 Jk1 => ?_)
  · refine fo_lt1 (fun x3 => ?_) (fun k2 Jk2 => ?_)
    · refine fo_ck (fun q1 => ?_)
      refine fo_nh (fi_ux r_h1 (by decide)) (fun h4 r_h4 => ?_)
      refine fo_ck (fun q2 => ?_)
      refine fo_bdv (fun u hu => r_h4.tr ((r_X8_leans h4 (ia h4 90 a1) u hu).mo (by omega))) (fun h5 r_h5 => ?_)
      refine fo_lt1h (fun h6 r_h6 => ?_) (fun k3 Jk3 => ?_)
      · refine fo_lt1h (fun h7 r_h7 => ?_) (fun k4 Jk4 => ?_)
        · refine fo_fx2h (fun s5 Js5 h8 x9 r_h8 => ?_) _ _ r_h7
          refine fo_ite ?_ ?_
          · exact fo_some r_h8
          · refine fo_ck (fun q3 => ?_)
            refine fo_bdr (fun x10 => ?_)
            refine fo_ck (fun q4 => ?_)
            refine fo_bdr (fun x11 => ?_)
            refine fo_ck (fun q5 => ?_)
            refine fo_nh (fi_ux r_h8 (by decide)) (fun h12 r_h12 => ?_)
            refine fo_ck (fun q6 => ?_)
            refine fo_ck (fun q7 => ?_)
            refine fo_nh (fi_ux r_h12 (by decide)) (fun h13 r_h13 => ?_)
            refine fo_ck (fun q8 => ?_)
            refine fo_ck (fun q9 => ?_)
            refine fo_nh (fi_ux r_h13 (by decide)) (fun h14 r_h14 => ?_)
            refine fo_ck (fun q10 => ?_)
            refine fo_ck (fun q11 => ?_)
            refine fo_nh (fi_ux r_h14 (by decide)) (fun h15 r_h15 => ?_)
            refine fo_ni (fun x16 => ?_)
            exact Js5 h15 x16 r_h15
        refine fo_fx2h (fun s6 Js6 h17 x18 r_h17 => ?_) _ _ r_h6
        refine fo_ite ?_ ?_
        · exact Jk4 h17 r_h17
        · refine fo_ck (fun q12 => ?_)
          refine fo_lt1h (fun h19 r_h19 => ?_) (fun k7 Jk7 => ?_)
          · refine fo_ni (fun x20 => ?_)
            exact Js6 h19 x20 r_h19
          refine fo_ite ?_ ?_
          · refine fo_ck (fun q13 => ?_)
            refine fo_ite ?_ ?_
            · exact Jk7 h17 r_h17
            · refine fo_bdr (fun x21 => ?_)
              refine fo_ite ?_ ?_
              · refine fo_ck (fun q14 => ?_)
                refine fo_nh (fi_ux r_h17 (by decide)) (fun h22 r_h22 => ?_)
                refine fo_ck (fun q15 => ?_)
                refine fo_nh (fi_ux r_h22 (by decide)) (fun h23 r_h23 => ?_)
                exact Jk7 h23 r_h23
              · exact Jk7 h17 r_h17
          · exact Jk7 h17 r_h17
      refine fo_fx3h (fun s8 Js8 h24 x25 x26 r_h24 => ?_) _ _ _ r_h5
      refine fo_ite ?_ ?_
      · exact Jk3 h24 r_h24
      · refine fo_lt2h (fun h27 x28 r_h27 => ?_) (fun k9 Jk9 => ?_)
        · refine fo_ni (fun x29 => ?_)
          exact Js8 h27 x28 x29 r_h27
        refine fo_fx3h (fun s10 Js10 h30 x31 x32 r_h30 => ?_) _ _ _ r_h24
        refine fo_ite ?_ ?_
        · exact Jk9 h30 x31 r_h30
        · refine fo_ck (fun q16 => ?_)
          refine fo_lt2h (fun h33 x34 r_h33 => ?_) (fun k11 Jk11 => ?_)
          · refine fo_ni (fun x35 => ?_)
            exact Js10 h33 x34 x35 r_h33
          refine fo_ite ?_ ?_
          · refine fo_ck (fun q17 => ?_)
            refine fo_ite ?_ ?_
            · refine fo_bdr (fun x36 => ?_)
              refine fo_ite ?_ ?_
              · refine fo_ni (fun x37 => ?_)
                refine fo_bdv (fun u hu => r_h30.tr ((r_X8_moves h30 a1 x32 u hu).mo (by omega))) (fun h38 r_h38 => ?_)
                exact Jk11 h38 x37 r_h38
              · exact Jk11 h30 x31 r_h30
            · exact Jk11 h30 x31 r_h30
          · exact Jk11 h30 x31 r_h30
    refine fo_ite ?_ ?_
    · exact Jk2 x2
    · exact Jk2 ((0 : Int32) - x2)
  refine fo_ite ?_ ?_
  · exact Jk1 (0 : Int32)
  · exact Jk1 ((h1.1 77 1) / (2 : Int32))
theorem r_X8_lives (h : Hp) : FO 68 93 h (fun u => u) (f_X8_lives h) := by
  unfold f_X8_lives
  refine fo_lt1h (fun h1 r_h1 => ?_) (fun k1 Jk1 => ?_)
  · refine fo_nh (fi_uf r_h1 (by decide)) (fun h2 r_h2 => ?_)
    refine fo_fx3h (fun s2 Js2 h3 x4 x5 r_h3 => ?_) _ _ _ r_h2
    refine fo_ite ?_ ?_
    · exact fo_some r_h3
    · refine fo_ni (fun x6 => ?_)
      refine fo_lt1 (fun x7 => ?_) (fun k3 Jk3 => ?_)
      · refine fo_bdv (fun u hu => r_h3.tr ((r_X8_passes h3 x5 x7 u hu).mo (by omega))) (fun h8 r_h8 => ?_)
        refine fo_ni (fun x9 => ?_)
        exact Js2 h8 x6 x9 r_h8
      refine fo_ite ?_ ?_
      · exact Jk3 (0 : Int32)
      · exact Jk3 (1 : Int32)
  refine fo_fx2h (fun s4 Js4 h10 x11 r_h10 => ?_) _ _ FI.rf
  refine fo_ite ?_ ?_
  · exact Jk1 h10 r_h10
  · refine fo_ck (fun q1 => ?_)
    refine fo_nh (fi_ux r_h10 (by decide)) (fun h12 r_h12 => ?_)
    refine fo_ck (fun q2 => ?_)
    refine fo_nh (fi_ux r_h12 (by decide)) (fun h13 r_h13 => ?_)
    refine fo_ck (fun q3 => ?_)
    refine fo_nh (fi_ux r_h13 (by decide)) (fun h14 r_h14 => ?_)
    refine fo_ck (fun q4 => ?_)
    refine fo_ck (fun q5 => ?_)
    refine fo_nh (fi_ux r_h14 (by decide)) (fun h15 r_h15 => ?_)
    refine fo_ck (fun q6 => ?_)
    refine fo_nh (fi_ux r_h15 (by decide)) (fun h16 r_h16 => ?_)
    refine fo_ck (fun q7 => ?_)
    refine fo_nh (fi_ux r_h16 (by decide)) (fun h17 r_h17 => ?_)
    refine fo_ck (fun q8 => ?_)
    refine fo_nh (fi_ux r_h17 (by decide)) (fun h18 r_h18 => ?_)
    refine fo_ck (fun q9 => ?_)
    refine fo_nh (fi_ux r_h18 (by decide)) (fun h19 r_h19 => ?_)
    refine fo_ni (fun x20 => ?_)
    exact Js4 h19 x20 r_h19
theorem r_X8_find (h : Hp) : FO 68 93 h (fun u => u) (f_X8_find h) := by
  unfold f_X8_find
  refine fo_bnd (fun u hu => FI.rf.tr ((r_X8_readsWalkers h u hu).mo (by omega))) (fun h1 x2 r_h1 => ?_)
  refine fo_bnd (fun u hu => r_h1.tr ((r_X8_readsRoutine h1 u hu).mo (by omega))) (fun h3 x4 r_h3 => ?_)
  refine fo_bdv (fun u hu => r_h3.tr ((r_X8_lives h3 u hu).mo (by omega))) (fun h5 r_h5 => ?_)
  exact fo_some r_h5
theorem r_X8_at (h : Hp) (a1 : Int32) (a2 : Int32) (a3 : Int32) : FO 68 93 h (fun u => u.1) (f_X8_at h a1 a2 a3) := by
  unfold f_X8_at
  refine fo_bdv (fun u hu => FI.rf.tr ((r_X8_find h u hu).mo (by omega))) (fun h1 r_h1 => ?_)
  refine fo_bdr (fun x2 => ?_)
  refine fo_ite ?_ ?_
  · exact fo_some r_h1
  · refine fo_bdr (fun x3 => ?_)
    refine fo_ite ?_ ?_
    · exact fo_some r_h1
    · refine fo_bdr (fun x4 => ?_)
      refine fo_ite ?_ ?_
      · exact fo_some r_h1
      · refine fo_ite ?_ ?_
        · refine fo_ck (fun q1 => ?_)
          exact fo_some r_h1
        · refine fo_ck (fun q2 => ?_)
          exact fo_some r_h1
theorem r_X8_lean (h : Hp) (a1 : Int32) (a2 : Int32) : FO 68 93 h (fun u => u.1) (f_X8_lean h a1 a2) := by
  unfold f_X8_lean
  refine fo_bdv (fun u hu => FI.rf.tr ((r_X8_find h u hu).mo (by omega))) (fun h1 r_h1 => ?_)
  refine fo_bdr (fun x2 => ?_)
  refine fo_ite ?_ ?_
  · exact fo_some r_h1
  · refine fo_bdr (fun x3 => ?_)
    refine fo_ite ?_ ?_
    · exact fo_some r_h1
    · refine fo_ck (fun q1 => ?_)
      exact fo_some r_h1
theorem r_X8_sees (h : Hp) (a1 : Int32) (a2 : Int32) : FO 68 93 h (fun u => u.1) (f_X8_sees h a1 a2) := by
  unfold f_X8_sees
  refine fo_bdv (fun u hu => FI.rf.tr ((r_X8_find h u hu).mo (by omega))) (fun h1 r_h1 => ?_)
  refine fo_bdr (fun x2 => ?_)
  refine fo_ite ?_ ?_
  · exact fo_some r_h1
  · refine fo_bdr (fun x3 => ?_)
    refine fo_ite ?_ ?_
    · exact fo_some r_h1
    · refine fo_bdr (fun x4 => ?_)
      exact fo_some r_h1
theorem r_X8_sway (h : Hp) (a1 : Int32) : FO 68 93 h (fun u => u.1) (f_X8_sway h a1) := by
  unfold f_X8_sway
  refine fo_bdv (fun u hu => FI.rf.tr ((r_X8_find h u hu).mo (by omega))) (fun h1 r_h1 => ?_)
  refine fo_bdr (fun x2 => ?_)
  refine fo_ite ?_ ?_
  · exact fo_some r_h1
  · refine fo_ck (fun q1 => ?_)
    exact fo_some r_h1
theorem r_X8_ends (h : Hp) (a1 : Int32) (a2 : Int32) : FO 68 93 h (fun u => u.1) (f_X8_ends h a1 a2) := by
  unfold f_X8_ends
  refine fo_bdv (fun u hu => FI.rf.tr ((r_X8_find h u hu).mo (by omega))) (fun h1 r_h1 => ?_)
  refine fo_bdr (fun x2 => ?_)
  refine fo_ite ?_ ?_
  · exact fo_some r_h1
  · refine fo_bdr (fun x3 => ?_)
    refine fo_ite ?_ ?_
    · exact fo_some r_h1
    · refine fo_bdr (fun x4 => ?_)
      exact fo_some r_h1
theorem r_X8_sum (h : Hp) (a1 : Int32) : FO 68 93 h (fun u => u.1) (f_X8_sum h a1) := by
  unfold f_X8_sum
  refine fo_bdv (fun u hu => FI.rf.tr ((r_X8_find h u hu).mo (by omega))) (fun h1 r_h1 => ?_)
  refine fo_bdr (fun x2 => ?_)
  refine fo_ite ?_ ?_
  · exact fo_some r_h1
  · refine fo_bdr (fun x3 => ?_)
    exact fo_some r_h1
theorem r_X8_who (h : Hp) (a1 : Int32) : FO 68 93 h (fun u => u.1) (f_X8_who h a1) := by
  unfold f_X8_who
  refine fo_bdv (fun u hu => FI.rf.tr ((r_X8_find h u hu).mo (by omega))) (fun h1 r_h1 => ?_)
  refine fo_bdr (fun x2 => ?_)
  refine fo_ite ?_ ?_
  · exact fo_some r_h1
  · refine fo_bdr (fun x3 => ?_)
    exact fo_some r_h1
theorem r_X8_bare (h : Hp) : FO 68 93 h (fun u => u.1) (f_X8_bare h) := by
  unfold f_X8_bare
  refine fo_bdv (fun u hu => FI.rf.tr ((r_X8_find h u hu).mo (by omega))) (fun h1 r_h1 => ?_)
  refine fo_bdr (fun x2 => ?_)
  exact fo_some r_h1
theorem r_X8_walkerBetter (h : Hp) (a1 : Int32) (a2 : Int32) (a3 : Int32) : FO 68 93 h (fun u => u.1) (f_X8_walkerBetter h a1 a2 a3) := by
  unfold f_X8_walkerBetter
  refine fo_ck (fun q1 => ?_)
  refine fo_ni (fun x1 => ?_)
  refine fo_lt3h (fun h2 x3 x4 r_h2 => ?_) (fun k1 Jk1 => ?_)
  · refine fo_ck (fun q2 => ?_)
    refine fo_nh (fi_ux r_h2 (by decide)) (fun h5 r_h5 => ?_)
    refine fo_ite ?_ ?_
    · exact fo_some r_h5
    · exact fo_some r_h5
  refine fo_fx4h (fun s2 Js2 h6 x7 x8 x9 r_h6 => ?_) _ _ _ _ FI.rf
  refine fo_ite ?_ ?_
  · exact Jk1 h6 x7 x8 r_h6
  · refine fo_ck (fun q3 => ?_)
    refine fo_nh (fi_ux r_h6 (by decide)) (fun h10 r_h10 => ?_)
    refine fo_bdv (fun u hu => r_h10.tr ((r_X8_lives h10 u hu).mo (by omega))) (fun h11 r_h11 => ?_)
    refine fo_bdr (fun x12 => ?_)
    refine fo_lt1 (fun x13 => ?_) (fun k3 Jk3 => ?_)
    · refine fo_bdr (fun x14 => ?_)
      refine fo_ni (fun x15 => ?_)
      exact Js2 h11 x13 x14 x15 r_h11
    refine fo_ite ?_ ?_
    · exact Jk3 x7
    · exact Jk3 x9
theorem r_X8_start (h : Hp) (a1 : Int32) (a2 : Int32) : FO 68 93 h (fun u => u.1) (f_X8_start h a1 a2) := by
  unfold f_X8_start
  refine fo_bdv (fun u hu => FI.rf.tr ((r_X8_find h u hu).mo (by omega))) (fun h1 r_h1 => ?_)
  refine fo_bdr (fun x2 => ?_)
  refine fo_ite ?_ ?_
  · exact fo_some r_h1
  · refine fo_bdr (fun x3 => ?_)
    refine fo_ite ?_ ?_
    · exact fo_some r_h1
    · refine fo_bnd (fun u hu => r_h1.tr ((r_X8_walkerBetter h1 ((3 : Int32) * a1) (24 : Int32) a2 u hu).mo (by omega))) (fun h4 x5 r_h4 => ?_)
      exact fo_some r_h4
theorem r_X8_hold (h : Hp) (a1 : Int32) (a2 : Int32) : FO 68 93 h (fun u => u.1) (f_X8_hold h a1 a2) := by
  unfold f_X8_hold
  refine fo_bdv (fun u hu => FI.rf.tr ((r_X8_find h u hu).mo (by omega))) (fun h1 r_h1 => ?_)
  refine fo_bdr (fun x2 => ?_)
  refine fo_ite ?_ ?_
  · exact fo_some r_h1
  · refine fo_bdr (fun x3 => ?_)
    refine fo_ite ?_ ?_
    · exact fo_some r_h1
    · refine fo_bnd (fun u hu => r_h1.tr ((r_X8_walkerBetter h1 (((3 : Int32) * a1) + (2 : Int32)) (10 : Int32) a2 u hu).mo (by omega))) (fun h4 x5 r_h4 => ?_)
      exact fo_some r_h4
theorem r_X8_actOf (h : Hp) (a1 : Int32) (a2 : Int32) : FO 68 93 h (fun u => u.1) (f_X8_actOf h a1 a2) := by
  unfold f_X8_actOf
  refine fo_ck (fun q1 => ?_)
  refine fo_ni (fun x1 => ?_)
  refine fo_lt3h (fun h2 x3 x4 r_h2 => ?_) (fun k1 Jk1 => ?_)
  · refine fo_ck (fun q2 => ?_)
    refine fo_nh (fi_ux r_h2 (by decide)) (fun h5 r_h5 => ?_)
    refine fo_ite ?_ ?_
    · exact fo_some r_h5
    · exact fo_some r_h5
  refine fo_fx4h (fun s2 Js2 h6 x7 x8 x9 r_h6 => ?_) _ _ _ _ FI.rf
  refine fo_ite ?_ ?_
  · exact Jk1 h6 x7 x8 r_h6
  · refine fo_ck (fun q3 => ?_)
    refine fo_nh (fi_ux r_h6 (by decide)) (fun h10 r_h10 => ?_)
    refine fo_bdv (fun u hu => r_h10.tr ((r_X8_lives h10 u hu).mo (by omega))) (fun h11 r_h11 => ?_)
    refine fo_bdr (fun x12 => ?_)
    refine fo_lt1 (fun x13 => ?_) (fun k3 Jk3 => ?_)
    · refine fo_bdr (fun x14 => ?_)
      refine fo_ni (fun x15 => ?_)
      exact Js2 h11 x13 x14 x15 r_h11
    refine fo_ite ?_ ?_
    · exact Jk3 x7
    · exact Jk3 x9
theorem r_X8_act (h : Hp) (a1 : Int32) (a2 : Int32) : FO 68 93 h (fun u => u.1) (f_X8_act h a1 a2) := by
  unfold f_X8_act
  refine fo_bdv (fun u hu => FI.rf.tr ((r_X8_find h u hu).mo (by omega))) (fun h1 r_h1 => ?_)
  refine fo_bdr (fun x2 => ?_)
  refine fo_ite ?_ ?_
  · exact fo_some r_h1
  · refine fo_bdr (fun x3 => ?_)
    refine fo_ite ?_ ?_
    · exact fo_some r_h1
    · refine fo_bnd (fun u hu => r_h1.tr ((r_X8_actOf h1 a1 a2 u hu).mo (by omega))) (fun h4 x5 r_h4 => ?_)
      exact fo_some r_h4
theorem r_X8_isSpared (h : Hp) (a1 : Int32) : FO 68 93 h (fun u => u.1) (f_X8_isSpared h a1) := by
  unfold f_X8_isSpared
  refine fo_nh (fi_uf FI.rf (by decide)) (fun h1 r_h1 => ?_)
  refine fo_bdv (fun u hu => r_h1.tr ((r_X8_lives h1 u hu).mo (by omega))) (fun h2 r_h2 => ?_)
  refine fo_nh (fi_uf r_h2 (by decide)) (fun h3 r_h3 => ?_)
  refine fo_bdr (fun x4 => ?_)
  refine fo_ite ?_ ?_
  · exact fo_some r_h3
  · exact fo_some r_h3
theorem r_X8_spareBy (h : Hp) (a1 : Int32) : FO 68 93 h (fun u => u.1) (f_X8_spareBy h a1) := by
  unfold f_X8_spareBy
  refine fo_bnd (fun u hu => FI.rf.tr ((r_X8_isSpared h (0 : Int32) u hu).mo (by omega))) (fun h1 x2 r_h1 => ?_)
  refine fo_ite ?_ ?_
  · refine fo_lt1h (fun h3 r_h3 => ?_) (fun k1 Jk1 => ?_)
    · refine fo_fx2h (fun s2 Js2 h4 x5 r_h4 => ?_) _ _ r_h3
      refine fo_ite ?_ ?_
      · exact fo_some r_h4
      · refine fo_ni (fun x6 => ?_)
        refine fo_lt1h (fun h7 r_h7 => ?_) (fun k3 Jk3 => ?_)
        · refine fo_ni (fun x8 => ?_)
          exact Js2 h7 x8 r_h7
        refine fo_fx2h (fun s4 Js4 h9 x10 r_h9 => ?_) _ _ r_h4
        refine fo_ite ?_ ?_
        · exact Jk3 h9 r_h9
        · refine fo_bnd (fun u hu => r_h9.tr ((r_X8_isSpared h9 (((1 : Int32) <<< (x5 &&& 31)) ||| ((1 : Int32) <<< (x10 &&& 31))) u hu).mo (by omega))) (fun h11 x12 r_h11 => ?_)
          refine fo_ite ?_ ?_
          · refine fo_ni (fun x13 => ?_)
            exact Js4 h11 x13 r_h11
          · refine fo_ite ?_ ?_
            · exact fo_some r_h11
            · refine fo_ite ?_ ?_
              · exact fo_some r_h11
              · exact fo_some r_h11
    refine fo_fx2h (fun s5 Js5 h14 x15 r_h14 => ?_) _ _ r_h1
    refine fo_ite ?_ ?_
    · exact Jk1 h14 r_h14
    · refine fo_bnd (fun u hu => r_h14.tr ((r_X8_isSpared h14 ((1 : Int32) <<< (x15 &&& 31)) u hu).mo (by omega))) (fun h16 x17 r_h16 => ?_)
      refine fo_ite ?_ ?_
      · refine fo_ni (fun x18 => ?_)
        exact Js5 h16 x18 r_h16
      · refine fo_ite ?_ ?_
        · exact fo_some r_h16
        · refine fo_ite ?_ ?_
          · exact fo_some r_h16
          · exact fo_some r_h16
  · refine fo_ite ?_ ?_
    · exact fo_some r_h1
    · exact fo_some r_h1
theorem r_X8_spare (h : Hp) (a1 : Int32) : FO 68 93 h (fun u => u.1) (f_X8_spare h a1) := by
  unfold f_X8_spare
  refine fo_bdv (fun u hu => FI.rf.tr ((r_X8_find h u hu).mo (by omega))) (fun h1 r_h1 => ?_)
  refine fo_bdr (fun x2 => ?_)
  refine fo_ite ?_ ?_
  · exact fo_some r_h1
  · refine fo_bnd (fun u hu => r_h1.tr ((r_X8_spareBy h1 a1 u hu).mo (by omega))) (fun h3 x4 r_h3 => ?_)
    exact fo_some r_h3
theorem r_X8_seen (h : Hp) (a1 : Int32) (a2 : Int32) (a3 : Int32) : FO 68 93 h (fun u => u.1) (f_X8_seen h a1 a2 a3) := by
  unfold f_X8_seen
  refine fo_bdr (fun x1 => ?_)
  refine fo_ite ?_ ?_
  · exact fo_some FI.rf
  · refine fo_bdr (fun x2 => ?_)
    refine fo_ite ?_ ?_
    · exact fo_some FI.rf
    · refine fo_bdr (fun x3 => ?_)
      refine fo_ite ?_ ?_
      · exact fo_some FI.rf
      · refine fo_ite ?_ ?_
        · exact fo_some FI.rf
        · refine fo_ck (fun q1 => ?_)
          refine fo_nh (fi_ux FI.rf (by decide)) (fun h4 r_h4 => ?_)
          refine fo_ck (fun q2 => ?_)
          refine fo_nh (fi_ux r_h4 (by decide)) (fun h5 r_h5 => ?_)
          refine fo_ck (fun q3 => ?_)
          refine fo_nh (fi_ux r_h5 (by decide)) (fun h6 r_h6 => ?_)
          refine fo_nh (fi_uf r_h6 (by decide)) (fun h7 r_h7 => ?_)
          exact fo_some r_h7
theorem r_X8_forget (h : Hp) : FO 68 93 h (fun u => u.1) (f_X8_forget h) := by
  unfold f_X8_forget
  refine fo_ni (fun x1 => ?_)
  refine fo_nh (fi_uf FI.rf (by decide)) (fun h2 r_h2 => ?_)
  exact fo_some r_h2
theorem r_X8_isSeen (h : Hp) : FO 68 93 h (fun u => u.1) (f_X8_isSeen h) := by
  unfold f_X8_isSeen
  refine fo_bdv (fun u hu => FI.rf.tr ((r_X8_lives h u hu).mo (by omega))) (fun h1 r_h1 => ?_)
  refine fo_fx2 (fun s1 Js1 x2 x3 => ?_) _ _
  refine fo_ite ?_ ?_
  · refine fo_cy (fun _ => ?_)
    exact fo_some r_h1
  · refine fo_ck (fun q1 => ?_)
    refine fo_ni (fun x4 => ?_)
    refine fo_lt1 (fun x5 => ?_) (fun k2 Jk2 => ?_)
    · refine fo_ni (fun x6 => ?_)
      exact Js1 x5 x6
    refine fo_lt1 (fun u7 => ?_) (fun k3 Jk3 => ?_)
    · exact Jk2 (0 : Int32)
    refine fo_ite ?_ ?_
    · exact Jk3 (0 : Int32)
    · refine fo_bdr (fun x8 => ?_)
      refine fo_ite ?_ ?_
      · exact Jk3 (0 : Int32)
      · refine fo_ck (fun q2 => ?_)
        refine fo_ck (fun q3 => ?_)
        refine fo_ck (fun q4 => ?_)
        refine fo_ite ?_ ?_
        · exact Jk2 (1 : Int32)
        · exact Jk3 (0 : Int32)
theorem r_X8_neverNow (h : Hp) : FO 68 93 h (fun u => u.1) (f_X8_neverNow h) := by
  unfold f_X8_neverNow
  refine fo_fx3h (fun s1 Js1 h1 x2 x3 r_h1 => ?_) _ _ _ FI.rf
  refine fo_ite ?_ ?_
  · refine fo_nh (fi_uf r_h1 (by decide)) (fun h4 r_h4 => ?_)
    exact fo_some r_h4
  · refine fo_nh (fi_uf r_h1 (by decide)) (fun h5 r_h5 => ?_)
    refine fo_bnd (fun u hu => r_h5.tr ((r_X8_isSeen h5 u hu).mo (by omega))) (fun h6 x7 r_h6 => ?_)
    refine fo_lt1 (fun x8 => ?_) (fun k2 Jk2 => ?_)
    · refine fo_ni (fun x9 => ?_)
      refine fo_ni (fun x10 => ?_)
      exact Js1 h6 x9 x10 r_h6
    refine fo_ite ?_ ?_
    · exact Jk2 (0 : Int32)
    · exact Jk2 ((1 : Int32) <<< (x3 &&& 31))
theorem r_X8_never (h : Hp) : FO 68 93 h (fun u => u.1) (f_X8_never h) := by
  unfold f_X8_never
  refine fo_bdv (fun u hu => FI.rf.tr ((r_X8_find h u hu).mo (by omega))) (fun h1 r_h1 => ?_)
  refine fo_bnd (fun u hu => r_h1.tr ((r_X8_neverNow h1 u hu).mo (by omega))) (fun h2 x3 r_h2 => ?_)
  exact fo_some r_h2
theorem r_X8_polesOf (h : Hp) (a1 : Int32) : FO 68 93 h (fun u => u.1) (f_X8_polesOf h a1) := by
  unfold f_X8_polesOf
  refine fo_ni (fun x1 => ?_)
  refine fo_ck (fun q1 => ?_)
  refine fo_ni (fun x2 => ?_)
  refine fo_fx3h (fun s1 Js1 h3 x4 x5 r_h3 => ?_) _ _ _ FI.rf
  refine fo_ite ?_ ?_
  · refine fo_ck (fun q2 => ?_)
    refine fo_nh (fi_ux r_h3 (by decide)) (fun h6 r_h6 => ?_)
    exact fo_some r_h6
  · refine fo_ck (fun q3 => ?_)
    refine fo_nh (fi_ux r_h3 (by decide)) (fun h7 r_h7 => ?_)
    refine fo_bnd (fun u hu => r_h7.tr ((r_X8_isSeen h7 u hu).mo (by omega))) (fun h8 x9 r_h8 => ?_)
    refine fo_lt1 (fun x10 => ?_) (fun k2 Jk2 => ?_)
    · refine fo_ni (fun x11 => ?_)
      refine fo_lt1h (fun h12 r_h12 => ?_) (fun k3 Jk3 => ?_)
      · refine fo_ni (fun x13 => ?_)
        exact Js1 h12 x11 x13 r_h12
      refine fo_fx2h (fun s4 Js4 h14 x15 r_h14 => ?_) _ _ r_h8
      refine fo_ite ?_ ?_
      · exact Jk3 h14 r_h14
      · refine fo_bdr (fun l16 => ?_)
        refine fo_ck (fun q4 => ?_)
        refine fo_nh (fi_uy r_h14 (by decide)) (fun h17 r_h17 => ?_)
        refine fo_ni (fun x18 => ?_)
        exact Js4 h17 x18 r_h17
    refine fo_ite ?_ ?_
    · exact Jk2 (0 : Int32)
    · exact Jk2 ((1 : Int32) <<< (x5 &&& 31))
theorem r_X8_sortOf (h : Hp) (a1 : Int32) : FO 68 93 h (fun u => u.1) (f_X8_sortOf h a1) := by
  unfold f_X8_sortOf
  refine fo_ni (fun x1 => ?_)
  refine fo_ck (fun q1 => ?_)
  refine fo_ni (fun x2 => ?_)
  refine fo_fx3h (fun s1 Js1 h3 x4 x5 r_h3 => ?_) _ _ _ FI.rf
  refine fo_ite ?_ ?_
  · refine fo_ck (fun q2 => ?_)
    refine fo_nh (fi_ux r_h3 (by decide)) (fun h6 r_h6 => ?_)
    exact fo_some r_h6
  · refine fo_ck (fun q3 => ?_)
    refine fo_nh (fi_ux r_h3 (by decide)) (fun h7 r_h7 => ?_)
    refine fo_bnd (fun u hu => r_h7.tr ((r_X8_isSeen h7 u hu).mo (by omega))) (fun h8 x9 r_h8 => ?_)
    refine fo_lt1 (fun x10 => ?_) (fun k2 Jk2 => ?_)
    · refine fo_ni (fun x11 => ?_)
      refine fo_ni (fun x12 => ?_)
      exact Js1 h8 x11 x12 r_h8
    refine fo_ite ?_ ?_
    · exact Jk2 (0 : Int32)
    · exact Jk2 ((1 : Int32) <<< (x5 &&& 31))
theorem r_X8_wasOf (h : Hp) (a1 : Int32) (a2 : Int32) : FO 68 93 h (fun u => u.1) (f_X8_wasOf h a1 a2) := by
  unfold f_X8_wasOf
  refine fo_ite ?_ ?_
  · refine fo_bnd (fun u hu => FI.rf.tr ((r_X8_polesOf h a1 u hu).mo (by omega))) (fun h3 x4 r_h3 => ?_)
    exact fo_some r_h3
  · refine fo_bnd (fun u hu => FI.rf.tr ((r_X8_sortOf h a1 u hu).mo (by omega))) (fun h1 x2 r_h1 => ?_)
    exact fo_some r_h1
theorem r_X8_was (h : Hp) (a1 : Int32) (a2 : Int32) : FO 68 93 h (fun u => u.1) (f_X8_was h a1 a2) := by
  unfold f_X8_was
  refine fo_bdv (fun u hu => FI.rf.tr ((r_X8_find h u hu).mo (by omega))) (fun h1 r_h1 => ?_)
  refine fo_bdr (fun x2 => ?_)
  refine fo_ite ?_ ?_
  · exact fo_some r_h1
  · refine fo_bdr (fun x3 => ?_)
    refine fo_ite ?_ ?_
    · exact fo_some r_h1
    · refine fo_bnd (fun u hu => r_h1.tr ((r_X8_wasOf h1 a1 a2 u hu).mo (by omega))) (fun h4 x5 r_h4 => ?_)
      exact fo_some r_h4
theorem r_X8_askOf (h : Hp) (a1 : Int32) : FO 68 93 h (fun u => u.1) (f_X8_askOf h a1) := by
  unfold f_X8_askOf
  refine fo_bnd (fun u hu => FI.rf.tr ((r_X8_polesOf h a1 u hu).mo (by omega))) (fun h1 x2 r_h1 => ?_)
  refine fo_fx2 (fun s1 Js1 x3 x4 => ?_) _ _
  refine fo_ite ?_ ?_
  · exact fo_some r_h1
  · refine fo_bdr (fun x5 => ?_)
    refine fo_bdr (fun x6 => ?_)
    refine fo_lt1 (fun x7 => ?_) (fun k2 Jk2 => ?_)
    · refine fo_ni (fun x8 => ?_)
      exact Js1 x7 x8
    refine fo_ite ?_ ?_
    · exact Jk2 x3
    · exact Jk2 x4
theorem r_X8_ask (h : Hp) (a1 : Int32) : FO 68 93 h (fun u => u.1) (f_X8_ask h a1) := by
  unfold f_X8_ask
  refine fo_bdv (fun u hu => FI.rf.tr ((r_X8_find h u hu).mo (by omega))) (fun h1 r_h1 => ?_)
  refine fo_bdr (fun x2 => ?_)
  refine fo_ite ?_ ?_
  · exact fo_some r_h1
  · refine fo_bnd (fun u hu => r_h1.tr ((r_X8_askOf h1 a1 u hu).mo (by omega))) (fun h3 x4 r_h3 => ?_)
    exact fo_some r_h3
theorem r_X8_chanceOf (h : Hp) (a1 : Int32) (a2 : Int32) (a3 : Int32) : FO 68 93 h (fun u => u.1) (f_X8_chanceOf h a1 a2 a3) := by
  unfold f_X8_chanceOf
  refine fo_lt2h (fun h1 l2 r_h1 => ?_) (fun k1 Jk1 => ?_)
  · refine fo_nh (fi_uf r_h1 (by decide)) (fun h3 r_h3 => ?_)
    refine fo_bdr (fun l4 => ?_)
    exact fo_some r_h3
  refine fo_fx3h (fun s2 Js2 h5 l6 x7 r_h5 => ?_) _ _ _ FI.rf
  refine fo_ite ?_ ?_
  · exact Jk1 h5 l6 r_h5
  · refine fo_nh (fi_uf r_h5 (by decide)) (fun h8 r_h8 => ?_)
    refine fo_bdv (fun u hu => r_h8.tr ((r_X8_lives h8 u hu).mo (by omega))) (fun h9 r_h9 => ?_)
    refine fo_ck (fun q1 => ?_)
    refine fo_lt1 (fun l10 => ?_) (fun k3 Jk3 => ?_)
    · refine fo_lt1 (fun l11 => ?_) (fun k4 Jk4 => ?_)
      · refine fo_nl (fun l12 => ?_)
        refine fo_ni (fun x13 => ?_)
        exact Js2 h9 l12 x13 r_h9
      refine fo_fx2 (fun s5 Js5 l14 x15 => ?_) _ _
      refine fo_ite ?_ ?_
      · exact Jk4 l14
      · refine fo_bdr (fun x16 => ?_)
        refine fo_lt1 (fun l17 => ?_) (fun k6 Jk6 => ?_)
        · refine fo_nl (fun l18 => ?_)
          refine fo_ni (fun x19 => ?_)
          exact Js5 l18 x19
        refine fo_ite ?_ ?_
        · exact Jk6 (a1.toInt64)
        · exact Jk6 (((16 : Int32) - a1).toInt64)
    refine fo_ite ?_ ?_
    · exact Jk3 (1 : Int64)
    · exact Jk3 (0 : Int64)
theorem r_X8_chance (h : Hp) (a1 : Int32) (a2 : Int32) (a3 : Int32) : FO 68 93 h (fun u => u.1) (f_X8_chance h a1 a2 a3) := by
  unfold f_X8_chance
  refine fo_bdv (fun u hu => FI.rf.tr ((r_X8_find h u hu).mo (by omega))) (fun h1 r_h1 => ?_)
  refine fo_bdr (fun x2 => ?_)
  refine fo_lt1 (fun u3 => ?_) (fun k1 Jk1 => ?_)
  · refine fo_bdr (fun l4 => ?_)
    exact fo_some r_h1
  refine fo_ite ?_ ?_
  · exact Jk1 (0 : Int32)
  · refine fo_bdr (fun x5 => ?_)
    refine fo_ite ?_ ?_
    · exact Jk1 (0 : Int32)
    · refine fo_bdr (fun x6 => ?_)
      refine fo_ite ?_ ?_
      · exact Jk1 (0 : Int32)
      · refine fo_bnd (fun u hu => r_h1.tr ((r_X8_chanceOf h1 a1 a2 a3 u hu).mo (by omega))) (fun h7 l8 r_h7 => ?_)
        exact fo_some r_h7
theorem r_X8_lot (h : Hp) (a1 : Int32) : FO 68 93 h (fun u => u.1) (f_X8_lot h a1) := by
  unfold f_X8_lot
  refine fo_nh (fi_uf FI.rf (by decide)) (fun h1 r_h1 => ?_)
  refine fo_cn ?_
  exact fo_some r_h1
theorem r_X8_showsOf (h : Hp) (a1 : Int32) (a2 : Int32) (a3 : Int32) : FO 68 93 h (fun u => u.1) (f_X8_showsOf h a1 a2 a3) := by
  unfold f_X8_showsOf
  refine fo_nh (fi_uf FI.rf (by decide)) (fun h1 r_h1 => ?_)
  refine fo_lt1h (fun h2 r_h2 => ?_) (fun k1 Jk1 => ?_)
  · refine fo_bdv (fun u hu => r_h2.tr ((r_X8_lives h2 u hu).mo (by omega))) (fun h3 r_h3 => ?_)
    refine fo_lt1 (fun x4 => ?_) (fun k2 Jk2 => ?_)
    · refine fo_bnd (fun u hu => r_h3.tr ((r_X8_readsRoutine h3 u hu).mo (by omega))) (fun h5 x6 r_h5 => ?_)
      exact fo_some r_h5
    refine fo_ite ?_ ?_
    · refine fo_bdr (fun x7 => ?_)
      exact Jk2 x7
    · exact Jk2 (h3.1 68 27)
  refine fo_fx2h (fun s3 Js3 h8 x9 r_h8 => ?_) _ _ r_h1
  refine fo_ite ?_ ?_
  · exact Jk1 h8 r_h8
  · refine fo_lt2h (fun h10 x11 r_h10 => ?_) (fun k4 Jk4 => ?_)
    · refine fo_ck (fun q1 => ?_)
      refine fo_nh (fi_ux r_h10 (by decide)) (fun h12 r_h12 => ?_)
      refine fo_ni (fun x13 => ?_)
      exact Js3 h12 x13 r_h12
    refine fo_ite ?_ ?_
    · exact Jk4 h8 (0 : Int32) r_h8
    · refine fo_bnd (fun u hu => r_h8.tr ((r_X8_lot h8 (4 : Int32) u hu).mo (by omega))) (fun h14 x15 r_h14 => ?_)
      exact Jk4 h14 x15 r_h14
theorem r_X8_shows (h : Hp) (a1 : Int32) (a2 : Int32) (a3 : Int32) : FO 68 93 h (fun u => u.1) (f_X8_shows h a1 a2 a3) := by
  unfold f_X8_shows
  refine fo_bdv (fun u hu => FI.rf.tr ((r_X8_find h u hu).mo (by omega))) (fun h1 r_h1 => ?_)
  refine fo_bdr (fun x2 => ?_)
  refine fo_ite ?_ ?_
  · exact fo_some r_h1
  · refine fo_bdr (fun x3 => ?_)
    refine fo_ite ?_ ?_
    · exact fo_some r_h1
    · refine fo_bnd (fun u hu => r_h1.tr ((r_X8_showsOf h1 a1 a2 a3 u hu).mo (by omega))) (fun h4 x5 r_h4 => ?_)
      exact fo_some r_h4
theorem r_X8_write (h : Hp) (a1 : Int32) (a2 : Int32) : FO 68 93 h (fun u => u.1) (f_X8_write h a1 a2) := by
  unfold f_X8_write
  refine fo_bdv (fun u hu => FI.rf.tr ((r_X8_find h u hu).mo (by omega))) (fun h1 r_h1 => ?_)
  refine fo_bdr (fun x2 => ?_)
  refine fo_ite ?_ ?_
  · exact fo_some r_h1
  · refine fo_bdr (fun x3 => ?_)
    refine fo_ite ?_ ?_
    · exact fo_some r_h1
    · refine fo_ck (fun q1 => ?_)
      refine fo_ite ?_ ?_
      · refine fo_ck (fun q2 => ?_)
        refine fo_bdr (fun x4 => ?_)
        refine fo_fx2h (fun s1 Js1 h5 x6 r_h5 => ?_) _ _ r_h1
        refine fo_ite ?_ ?_
        · exact fo_some r_h5
        · refine fo_ck (fun q3 => ?_)
          refine fo_ck (fun q4 => ?_)
          refine fo_bdr (fun x7 => ?_)
          refine fo_ck (fun q5 => ?_)
          refine fo_nh (fi_ux r_h5 (by decide)) (fun h8 r_h8 => ?_)
          refine fo_ni (fun x9 => ?_)
          exact Js1 h8 x9 r_h8
      · refine fo_bnd (fun u hu => r_h1.tr ((r_X8_finds h1 (1 : Int32) u hu).mo (by omega))) (fun h10 x11 r_h10 => ?_)
        exact fo_some r_h10
theorem r_X8_count (h : Hp) (a1 : Int32) : FO 68 93 h (fun u => u.1) (f_X8_count h a1) := by
  unfold f_X8_count
  refine fo_bdv (fun u hu => FI.rf.tr ((r_X8_find h u hu).mo (by omega))) (fun h1 r_h1 => ?_)
  refine fo_ite ?_ ?_
  · exact fo_some r_h1
  · refine fo_ite ?_ ?_
    · exact fo_some r_h1
    · refine fo_ite ?_ ?_
      · exact fo_some r_h1
      · refine fo_ite ?_ ?_
        · exact fo_some r_h1
        · refine fo_ite ?_ ?_
          · refine fo_ck (fun q1 => ?_)
            exact fo_some r_h1
          · refine fo_ite ?_ ?_
            · refine fo_ck (fun q2 => ?_)
              exact fo_some r_h1
            · refine fo_ite ?_ ?_
              · refine fo_ck (fun q3 => ?_)
                exact fo_some r_h1
              · refine fo_ite ?_ ?_
                · exact fo_some r_h1
                · refine fo_ite ?_ ?_
                  · exact fo_some r_h1
                  · exact fo_some r_h1
theorem r_X8_tellsWalker (h : Hp) (a1 : Int64) (a2 : Int32) : FO 68 93 h (fun u => u.1) (f_X8_tellsWalker h a1 a2) := by
  unfold f_X8_tellsWalker
  refine fo_bdv (fun u hu => FI.rf.tr ((r_X8_lives h u hu).mo (by omega))) (fun h1 r_h1 => ?_)
  refine fo_lt1 (fun l2 => ?_) (fun k1 Jk1 => ?_)
  · refine fo_bdr (fun l3 => ?_)
    refine fo_bdr (fun l4 => ?_)
    refine fo_bdr (fun l5 => ?_)
    refine fo_bdr (fun l6 => ?_)
    refine fo_lt1 (fun l7 => ?_) (fun k2 Jk2 => ?_)
    · refine fo_bnd (fun u hu => r_h1.tr ((r_X8_walkerBetter h1 ((3 : Int32) * a2) (24 : Int32) (0 : Int32) u hu).mo (by omega))) (fun h8 x9 r_h8 => ?_)
      refine fo_nl (fun l10 => ?_)
      refine fo_bnd (fun u hu => r_h8.tr ((r_X8_walkerBetter h8 ((3 : Int32) * a2) (24 : Int32) (1 : Int32) u hu).mo (by omega))) (fun h11 x12 r_h11 => ?_)
      refine fo_nl (fun l13 => ?_)
      refine fo_bnd (fun u hu => r_h11.tr ((r_X8_walkerBetter h11 (((3 : Int32) * a2) + (2 : Int32)) (10 : Int32) (0 : Int32) u hu).mo (by omega))) (fun h14 x15 r_h14 => ?_)
      refine fo_nl (fun l16 => ?_)
      refine fo_bnd (fun u hu => r_h14.tr ((r_X8_walkerBetter h14 (((3 : Int32) * a2) + (2 : Int32)) (10 : Int32) (1 : Int32) u hu).mo (by omega))) (fun h17 x18 r_h17 => ?_)
      refine fo_nl (fun l19 => ?_)
      refine fo_bnd (fun u hu => r_h17.tr ((r_X8_polesOf h17 a2 u hu).mo (by omega))) (fun h20 x21 r_h20 => ?_)
      refine fo_nl (fun l22 => ?_)
      refine fo_bnd (fun u hu => r_h20.tr ((r_X8_sortOf h20 a2 u hu).mo (by omega))) (fun h23 x24 r_h23 => ?_)
      refine fo_nl (fun l25 => ?_)
      refine fo_bnd (fun u hu => r_h23.tr ((r_X8_askOf h23 a2 u hu).mo (by omega))) (fun h26 x27 r_h26 => ?_)
      refine fo_nl (fun l28 => ?_)
      refine fo_bnd (fun u hu => r_h26.tr ((r_X8_chanceOf h26 (5 : Int32) a2 (0 : Int32) u hu).mo (by omega))) (fun h29 l30 r_h29 => ?_)
      refine fo_nl (fun l31 => ?_)
      refine fo_bnd (fun u hu => r_h29.tr ((r_X8_chanceOf h29 (5 : Int32) a2 (1 : Int32) u hu).mo (by omega))) (fun h32 l33 r_h32 => ?_)
      exact fo_some r_h32
    refine fo_fx2 (fun s3 Js3 l34 x35 => ?_) _ _
    refine fo_ite ?_ ?_
    · exact Jk2 l34
    · refine fo_bdr (fun x36 => ?_)
      refine fo_nl (fun l37 => ?_)
      refine fo_ni (fun x38 => ?_)
      exact Js3 l37 x38
  refine fo_fx2 (fun s4 Js4 l39 x40 => ?_) _ _
  refine fo_ite ?_ ?_
  · exact Jk1 l39
  · refine fo_ck (fun q1 => ?_)
    refine fo_nl (fun l41 => ?_)
    refine fo_ni (fun x42 => ?_)
    exact Js4 l41 x42
theorem r_X8_digest (h : Hp) : FO 68 93 h (fun u => u.1) (f_X8_digest h) := by
  unfold f_X8_digest
  refine fo_lt2h (fun h1 l2 r_h1 => ?_) (fun k1 Jk1 => ?_)
  · refine fo_lt2h (fun h3 l4 r_h3 => ?_) (fun k2 Jk2 => ?_)
    · refine fo_bdv (fun u hu => r_h3.tr ((r_X8_lives h3 u hu).mo (by omega))) (fun h5 r_h5 => ?_)
      refine fo_lt1 (fun l6 => ?_) (fun k3 Jk3 => ?_)
      · refine fo_lt1 (fun l7 => ?_) (fun k4 Jk4 => ?_)
        · refine fo_lt2h (fun h8 l9 r_h8 => ?_) (fun k5 Jk5 => ?_)
          · refine fo_bdv (fun u hu => r_h8.tr ((r_X8_lives h8 u hu).mo (by omega))) (fun h10 r_h10 => ?_)
            refine fo_lt1 (fun l11 => ?_) (fun k6 Jk6 => ?_)
            · refine fo_bdr (fun x12 => ?_)
              refine fo_nl (fun l13 => ?_)
              refine fo_bdr (fun x14 => ?_)
              refine fo_nl (fun l15 => ?_)
              refine fo_bdr (fun x16 => ?_)
              refine fo_nl (fun l17 => ?_)
              refine fo_bnd (fun u hu => r_h10.tr ((r_X8_actOf h10 (2 : Int32) (0 : Int32) u hu).mo (by omega))) (fun h18 x19 r_h18 => ?_)
              refine fo_nl (fun l20 => ?_)
              refine fo_bnd (fun u hu => r_h18.tr ((r_X8_actOf h18 (2 : Int32) (1 : Int32) u hu).mo (by omega))) (fun h21 x22 r_h21 => ?_)
              refine fo_nl (fun l23 => ?_)
              refine fo_bnd (fun u hu => r_h21.tr ((r_X8_actOf h21 (6 : Int32) (0 : Int32) u hu).mo (by omega))) (fun h24 x25 r_h24 => ?_)
              refine fo_nl (fun l26 => ?_)
              refine fo_bnd (fun u hu => r_h24.tr ((r_X8_actOf h24 (6 : Int32) (1 : Int32) u hu).mo (by omega))) (fun h27 x28 r_h27 => ?_)
              refine fo_nl (fun l29 => ?_)
              refine fo_bnd (fun u hu => r_h27.tr ((r_X8_spareBy h27 (-1 : Int32) u hu).mo (by omega))) (fun h30 x31 r_h30 => ?_)
              refine fo_nl (fun l32 => ?_)
              refine fo_bnd (fun u hu => r_h30.tr ((r_X8_spareBy h30 (0 : Int32) u hu).mo (by omega))) (fun h33 x34 r_h33 => ?_)
              refine fo_nl (fun l35 => ?_)
              refine fo_bnd (fun u hu => r_h33.tr ((r_X8_neverNow h33 u hu).mo (by omega))) (fun h36 x37 r_h36 => ?_)
              refine fo_nl (fun l38 => ?_)
              refine fo_bnd (fun u hu => r_h36.tr ((r_X8_showsOf h36 (7 : Int32) (18 : Int32) (0 : Int32) u hu).mo (by omega))) (fun h39 x40 r_h39 => ?_)
              refine fo_nl (fun l41 => ?_)
              refine fo_bnd (fun u hu => r_h39.tr ((r_X8_showsOf h39 (7 : Int32) (18 : Int32) (1 : Int32) u hu).mo (by omega))) (fun h42 x43 r_h42 => ?_)
              exact fo_some r_h42
            refine fo_fx2 (fun s7 Js7 l44 x45 => ?_) _ _
            refine fo_ite ?_ ?_
            · exact Jk6 l44
            · refine fo_bdr (fun x46 => ?_)
              refine fo_nl (fun l47 => ?_)
              refine fo_ni (fun x48 => ?_)
              exact Js7 l47 x48
          refine fo_fx3h (fun s8 Js8 h49 l50 x51 r_h49 => ?_) _ _ _ r_h5
          refine fo_ite ?_ ?_
          · exact Jk5 h49 l50 r_h49
          · refine fo_bnd (fun u hu => r_h49.tr ((r_X8_tellsWalker h49 l50 x51 u hu).mo (by omega))) (fun h52 l53 r_h52 => ?_)
            refine fo_ni (fun x54 => ?_)
            exact Js8 h52 l53 x54 r_h52
        refine fo_fx2 (fun s9 Js9 l55 x56 => ?_) _ _
        refine fo_ite ?_ ?_
        · exact Jk4 l55
        · refine fo_bdr (fun x57 => ?_)
          refine fo_nl (fun l58 => ?_)
          refine fo_ni (fun x59 => ?_)
          exact Js9 l58 x59
      refine fo_fx2 (fun s10 Js10 l60 x61 => ?_) _ _
      refine fo_ite ?_ ?_
      · exact Jk3 l60
      · refine fo_ck (fun q1 => ?_)
        refine fo_nl (fun l62 => ?_)
        refine fo_ck (fun q2 => ?_)
        refine fo_nl (fun l63 => ?_)
        refine fo_ni (fun x64 => ?_)
        exact Js10 l63 x64
    refine fo_fx3h (fun s11 Js11 h65 l66 x67 r_h65 => ?_) _ _ _ r_h1
    refine fo_ite ?_ ?_
    · exact Jk2 h65 l66 r_h65
    · refine fo_bnd (fun u hu => r_h65.tr ((r_X8_readsText h65 x67 u hu).mo (by omega))) (fun h68 x69 r_h68 => ?_)
      refine fo_nl (fun l70 => ?_)
      refine fo_ni (fun x71 => ?_)
      exact Js11 h68 l70 x71 r_h68
  refine fo_fx3h (fun s12 Js12 h72 l73 x74 r_h72 => ?_) _ _ _ FI.rf
  refine fo_ite ?_ ?_
  · exact Jk1 h72 l73 r_h72
  · refine fo_bnd (fun u hu => r_h72.tr ((r_X8_count h72 x74 u hu).mo (by omega))) (fun h75 x76 r_h75 => ?_)
    refine fo_nl (fun l77 => ?_)
    refine fo_ni (fun x78 => ?_)
    exact Js12 h75 l77 x78 r_h75
