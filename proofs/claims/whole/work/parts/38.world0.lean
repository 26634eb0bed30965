def hp0 : Hp := (fun k => if k = 5 then (fun j => if j = 9 then 20 else if j = 10 then 2 else if j = 11 then 8 else 0) else if k = 60 then (fun j => if j = 1 then 1 else 0) else if k = 62 then (fun j => if j = 1 then 1 else 0) else if k = 64 then (fun j => if j = 1 then 1 else 0) else if k = 66 then (fun j => if j = 1 then 1 else 0) else if k = 69 then (upd (upd (upd (upd (fun _ => 0) 0 (-1 : Int32)) 1 (-1 : Int32)) 2 (-1 : Int32)) 3 (-1 : Int32)) else if k = 77 then (upd (upd (upd (fun _ => 0) 0 (20 : Int32)) 1 (2 : Int32)) 2 (8 : Int32)) else (fun _ => 0), fun _ _ => 0)
def adL (l : List Nat) (k : Nat) : Nat := l.getD k 0
def wl93 (cs : C3) (q0 q1 q2 q3 q4 q5 q6 q7 q8 q9 q10 q11 q12 q13 q14 q15 q16 q17 q18 q19 q20 q21 q22 q23 q24 q25 q26 q27 q28 q29 q30 q31 q32 q33 q34 q35 q36 q37 q38 q39 q40 q41 q42 q43 q44 q45 q46 q47 q48 q49 q50 q51 q52 q53 q54 q55 q56 q57 q58 q59 q60 q61 q62 q63 q64 q65 q66 q67 q68 q69 q70 q71 q72 q73 q74 q75 q76 q77 q78 q79 q80 q81 q82 q83 q84 q85 q86 q87 q88 q89 q90 q91 q92 q93 q94 : Nat) : va_W := [(q0, .inr (7, [.ref q1, .ref q3, .ref q5, .ref q13, .ref q17, .ref q36, .ref q55, .ref q56, .ref q57, .ref q58, .ref q59, .int (0 : Int32), .int (0 : Int32), .int (0 : Int32), .int (0 : Int32), .int (0 : Int32)])), (q1, .inr (4, [.ref q2, .int (0 : Int32)])), (q2, .inl (cs.1, 23, .inl (fun _ => 0))), (q3, .inr (4, [.ref q4, .int (0 : Int32)])), (q4, .inl (cs.1, 24, .inl (fun _ => 0))), (q5, .inr (5, [.ref q6, .ref q7, .ref q8, .ref q9, .ref q10, .ref q11, .ref q12, .int (0 : Int32), .int (0 : Int32), .int (20 : Int32), .int (2 : Int32), .int (8 : Int32)])), (q6, .inl (cs.1, 6, .inl (fun _ => 0))), (q7, .inl (cs.1, 6, .inl (fun _ => 0))), (q8, .inl (cs.1, 6, .inl (fun _ => 0))), (q9, .inl (cs.1, 24, .inl (fun _ => 0))), (q10, .inl (cs.1, 8, .inl (fun _ => 0))), (q11, .inl (cs.1, 8, .inl (fun _ => 0))), (q12, .inl (cs.1, 8, .inl (fun _ => 0))), (q13, .inr (3, [.ref q14, .ref q15, .ref q16, .int (0 : Int32)])), (q14, .inl (cs.1, 8, .inl (fun _ => 0))), (q15, .inl (cs.1, 8, .inl (fun _ => 0))), (q16, .inl (cs.1, 8, .inl (fun _ => 0))), (q17, .inr (2, [.ref q18, .ref q22, .ref q27, .ref q28, .ref q29, .ref q30, .ref q31, .ref q32, .ref q33, .ref q34, .ref q35, .int (0 : Int32), .int (0 : Int32), .int (0 : Int32), .int (0 : Int32)])), (q18, .inr (6, [.ref q19, .ref q20, .ref q21])), (q19, .inl (cs.1, 24, .inl (fun _ => 0))), (q20, .inl (cs.1, 24, .inl (fun _ => 0))), (q21, .inl (cs.1, 24, .inl (fun _ => 0))), (q22, .inr (0, [.ref q23, .ref q24, .ref q25, .ref q26])), (q23, .inl (cs.1, 144, .inl (fun _ => 0))), (q24, .inl (cs.1, 144, .inl (fun _ => 0))), (q25, .inl (cs.1, 144, .inl (fun _ => 0))), (q26, .inl (cs.1, 24, .inl (fun _ => 0))), (q27, .inl (cs.1, 6, .inl (fun _ => 0))), (q28, .inl (cs.1, 6, .inl (fun _ => 0))), (q29, .inl (cs.1, 6, .inl (fun _ => 0))), (q30, .inl (cs.1, 6, .inl (fun _ => 0))), (q31, .inl (cs.1, 6, .inl (fun _ => 0))), (q32, .inl (cs.1, 6, .inl (fun _ => 0))), (q33, .inl (cs.1, 6, .inl (fun _ => 0))), (q34, .inl (cs.1, 6, .inl (fun _ => 0))), (q35, .inl (cs.1, 6, .inl (fun _ => 0))), (q36, .inr (2, [.ref q37, .ref q41, .ref q46, .ref q47, .ref q48, .ref q49, .ref q50, .ref q51, .ref q52, .ref q53, .ref q54, .int (0 : Int32), .int (0 : Int32), .int (0 : Int32), .int (0 : Int32)])), (q37, .inr (6, [.ref q38, .ref q39, .ref q40])), (q38, .inl (cs.1, 24, .inl (fun _ => 0))), (q39, .inl (cs.1, 24, .inl (fun _ => 0))), (q40, .inl (cs.1, 24, .inl (fun _ => 0))), (q41, .inr (0, [.ref q42, .ref q43, .ref q44, .ref q45])), (q42, .inl (cs.1, 144, .inl (fun _ => 0))), (q43, .inl (cs.1, 144, .inl (fun _ => 0))), (q44, .inl (cs.1, 144, .inl (fun _ => 0))), (q45, .inl (cs.1, 24, .inl (fun _ => 0))), (q46, .inl (cs.1, 6, .inl (fun _ => 0))), (q47, .inl (cs.1, 6, .inl (fun _ => 0))), (q48, .inl (cs.1, 6, .inl (fun _ => 0))), (q49, .inl (cs.1, 6, .inl (fun _ => 0))), (q50, .inl (cs.1, 6, .inl (fun _ => 0))), (q51, .inl (cs.1, 6, .inl (fun _ => 0))), (q52, .inl (cs.1, 6, .inl (fun _ => 0))), (q53, .inl (cs.1, 6, .inl (fun _ => 0))), (q54, .inl (cs.1, 6, .inl (fun _ => 0))), (q55, .inl (cs.1, 24, .inl (fun _ => 0))), (q56, .inl (cs.1, 256, .inl (fun _ => 0))), (q57, .inl (cs.2.1, 240, .inr (.inl (fun _ => 0)))), (q58, .inl (cs.1, 2, .inl (fun _ => 0))), (q59, .inl (cs.2.2, 4, .inr (.inr (.inr (.inr (va_up (va_up (va_up (va_up (fun _ => none) 0 (some q60)) 1 (some q62)) 2 (some q64)) 3 (some q66))))))), (q60, .inr (1, [.ref q61, .int (1 : Int32), .int (0 : Int32), .int (0 : Int32)])), (q61, .inl (cs.1, 60, .inl (fun _ => 0))), (q62, .inr (1, [.ref q63, .int (1 : Int32), .int (0 : Int32), .int (0 : Int32)])), (q63, .inl (cs.1, 60, .inl (fun _ => 0))), (q64, .inr (1, [.ref q65, .int (1 : Int32), .int (0 : Int32), .int (0 : Int32)])), (q65, .inl (cs.1, 60, .inl (fun _ => 0))), (q66, .inr (1, [.ref q67, .int (1 : Int32), .int (0 : Int32), .int (0 : Int32)])), (q67, .inl (cs.1, 60, .inl (fun _ => 0))), (q68, .inr (8, [.ref q69, .ref q70, .ref q71, .ref q72, .int 0, .ref q73, .ref q74, .int 0, .ref q75, .int 0, .ref q76, .ref q77, .int 0, .ref q78, .int 0, .ref q79, .ref q80, .ref q81, .ref q82, .ref q83, .ref q84, .ref q85, .ref q86, .ref q87, .ref q88, .ref q89, .ref q90, .int 0, .int 0, .int 0, .ref q91, .ref q92, .int 0])), (q69, .inl (cs.1, 4, .inl (upd (upd (upd (upd (fun _ => 0) 0 (-1 : Int32)) 1 (-1 : Int32)) 2 (-1 : Int32)) 3 (-1 : Int32)))), (q70, .inl (cs.1, 4, .inl (fun _ => 0))), (q71, .inl (cs.1, 240, .inl (fun _ => 0))), (q72, .inl (cs.1, 60, .inl (fun _ => 0))), (q73, .inl (cs.1, 48, .inl (fun _ => 0))), (q74, .inl (cs.1, 2, .inl (fun _ => 0))), (q75, .inl (cs.1, 18, .inl (fun _ => 0))), (q76, .inl (cs.1, 24, .inl (fun _ => 0))), (q77, .inl (cs.1, 3, .inl (upd (upd (upd (fun _ => 0) 0 (20 : Int32)) 1 (2 : Int32)) 2 (8 : Int32)))), (q78, .inl (cs.1, 24, .inl (fun _ => 0))), (q79, .inl (cs.1, 6, .inl (fun _ => 0))), (q80, .inl (cs.1, 6, .inl (fun _ => 0))), (q81, .inl (cs.1, 6, .inl (fun _ => 0))), (q82, .inl (cs.1, 6, .inl (fun _ => 0))), (q83, .inl (cs.1, 6, .inl (fun _ => 0))), (q84, .inl (cs.1, 6, .inl (fun _ => 0))), (q85, .inl (cs.1, 6, .inl (fun _ => 0))), (q86, .inl (cs.1, 6, .inl (fun _ => 0))), (q87, .inl (cs.1, 144, .inl (fun _ => 0))), (q88, .inl (cs.1, 144, .inl (fun _ => 0))), (q89, .inl (cs.1, 144, .inl (fun _ => 0))), (q90, .inl (cs.1, 24, .inl (fun _ => 0))), (q91, .inl (cs.1, 24, .inl (fun _ => 0))), (q92, .inl (cs.2.1, 240, .inr (.inl (fun _ => 0))))]
set_option maxRecDepth 100000 in
set_option maxHeartbeats 4000000 in
theorem w93 (cs : C3) (q0 q1 q2 q3 q4 q5 q6 q7 q8 q9 q10 q11 q12 q13 q14 q15 q16 q17 q18 q19 q20 q21 q22 q23 q24 q25 q26 q27 q28 q29 q30 q31 q32 q33 q34 q35 q36 q37 q38 q39 q40 q41 q42 q43 q44 q45 q46 q47 q48 q49 q50 q51 q52 q53 q54 q55 q56 q57 q58 q59 q60 q61 q62 q63 q64 q65 q66 q67 q68 q69 q70 q71 q72 q73 q74 q75 q76 q77 q78 q79 q80 q81 q82 q83 q84 q85 q86 q87 q88 q89 q90 q91 q92 q93 q94 : Nat) (k : Nat) (hk : k < 93) (h59 : k ≠ 59) : (wl93 cs q0 q1 q2 q3 q4 q5 q6 q7 q8 q9 q10 q11 q12 q13 q14 q15 q16 q17 q18 q19 q20 q21 q22 q23 q24 q25 q26 q27 q28 q29 q30 q31 q32 q33 q34 q35 q36 q37 q38 q39 q40 q41 q42 q43 q44 q45 q46 q47 q48 q49 q50 q51 q52 q53 q54 q55 q56 q57 q58 q59 q60 q61 q62 q63 q64 q65 q66 q67 q68 q69 q70 q71 q72 q73 q74 q75 q76 q77 q78 q79 q80 q81 q82 q83 q84 q85 q86 q87 q88 q89 q90 q91 q92 q93 q94)[k]? = some (adL [q0, q1, q2, q3, q4, q5, q6, q7, q8, q9, q10, q11, q12, q13, q14, q15, q16, q17, q18, q19, q20, q21, q22, q23, q24, q25, q26, q27, q28, q29, q30, q31, q32, q33, q34, q35, q36, q37, q38, q39, q40, q41, q42, q43, q44, q45, q46, q47, q48, q49, q50, q51, q52, q53, q54, q55, q56, q57, q58, q59, q60, q61, q62, q63, q64, q65, q66, q67, q68, q69, q70, q71, q72, q73, q74, q75, q76, q77, q78, q79, q80, q81, q82, q83, q84, q85, q86, q87, q88, q89, q90, q91, q92, q93, q94] k, ce (adL [q0, q1, q2, q3, q4, q5, q6, q7, q8, q9, q10, q11, q12, q13, q14, q15, q16, q17, q18, q19, q20, q21, q22, q23, q24, q25, q26, q27, q28, q29, q30, q31, q32, q33, q34, q35, q36, q37, q38, q39, q40, q41, q42, q43, q44, q45, q46, q47, q48, q49, q50, q51, q52, q53, q54, q55, q56, q57, q58, q59, q60, q61, q62, q63, q64, q65, q66, q67, q68, q69, q70, q71, q72, q73, q74, q75, q76, q77, q78, q79, q80, q81, q82, q83, q84, q85, q86, q87, q88, q89, q90, q91, q92, q93, q94]) cs hp0 k) := by
  match k, hk, h59 with

  | 0, _, _ => rfl
  | 1, _, _ => rfl
  | 2, _, _ => rfl
  | 3, _, _ => rfl
  | 4, _, _ => rfl
  | 5, _, _ => rfl
  | 6, _, _ => rfl
  | 7, _, _ => rfl
  | 8, _, _ => rfl
  | 9, _, _ => rfl
  | 10, _, _ => rfl
  | 11, _, _ => rfl
  | 12, _, _ => rfl
  | 13, _, _ => rfl
  | 14, _, _ => rfl
  | 15, _, _ => rfl
  | 16, _, _ => rfl
  | 17, _, _ => rfl
  | 18, _, _ => rfl
  | 19, _, _ => rfl
  | 20, _, _ => rfl
  | 21, _, _ => rfl
  | 22, _, _ => rfl
  | 23, _, _ => rfl
  | 24, _, _ => rfl
  | 25, _, _ => rfl
  | 26, _, _ => rfl
  | 27, _, _ => rfl
  | 28, _, _ => rfl
  | 29, _, _ => rfl
  | 30, _, _ => rfl
  | 31, _, _ => rfl
  | 32, _, _ => rfl
  | 33, _, _ => rfl
  | 34, _, _ => rfl
  | 35, _, _ => rfl
  | 36, _, _ => rfl
  | 37, _, _ => rfl
  | 38, _, _ => rfl
  | 39, _, _ => rfl
  | 40, _, _ => rfl
  | 41, _, _ => rfl
  | 42, _, _ => rfl
  | 43, _, _ => rfl
  | 44, _, _ => rfl
  | 45, _, _ => rfl
  | 46, _, _ => rfl
  | 47, _, _ => rfl
  | 48, _, _ => rfl
  | 49, _, _ => rfl
  | 50, _, _ => rfl
  | 51, _, _ => rfl
  | 52, _, _ => rfl
  | 53, _, _ => rfl
  | 54, _, _ => rfl
  | 55, _, _ => rfl
  | 56, _, _ => rfl
  | 57, _, _ => rfl
  | 58, _, _ => rfl
  | 59, _, h => exact absurd rfl h
  | 60, _, _ => rfl
  | 61, _, _ => rfl
  | 62, _, _ => rfl
  | 63, _, _ => rfl
  | 64, _, _ => rfl
  | 65, _, _ => rfl
  | 66, _, _ => rfl
  | 67, _, _ => rfl
  | 68, _, _ => rfl
  | 69, _, _ => rfl
  | 70, _, _ => rfl
  | 71, _, _ => rfl
  | 72, _, _ => rfl
  | 73, _, _ => rfl
  | 74, _, _ => rfl
  | 75, _, _ => rfl
  | 76, _, _ => rfl
  | 77, _, _ => rfl
  | 78, _, _ => rfl
  | 79, _, _ => rfl
  | 80, _, _ => rfl
  | 81, _, _ => rfl
  | 82, _, _ => rfl
  | 83, _, _ => rfl
  | 84, _, _ => rfl
  | 85, _, _ => rfl
  | 86, _, _ => rfl
  | 87, _, _ => rfl
  | 88, _, _ => rfl
  | 89, _, _ => rfl
  | 90, _, _ => rfl
  | 91, _, _ => rfl
  | 92, _, _ => rfl
  | k + 93, hk, _ => omega
theorem w59 (cs : C3) (q0 q1 q2 q3 q4 q5 q6 q7 q8 q9 q10 q11 q12 q13 q14 q15 q16 q17 q18 q19 q20 q21 q22 q23 q24 q25 q26 q27 q28 q29 q30 q31 q32 q33 q34 q35 q36 q37 q38 q39 q40 q41 q42 q43 q44 q45 q46 q47 q48 q49 q50 q51 q52 q53 q54 q55 q56 q57 q58 q59 q60 q61 q62 q63 q64 q65 q66 q67 q68 q69 q70 q71 q72 q73 q74 q75 q76 q77 q78 q79 q80 q81 q82 q83 q84 q85 q86 q87 q88 q89 q90 q91 q92 q93 q94 : Nat) : ∃ f : Nat → Option Nat, (wl93 cs q0 q1 q2 q3 q4 q5 q6 q7 q8 q9 q10 q11 q12 q13 q14 q15 q16 q17 q18 q19 q20 q21 q22 q23 q24 q25 q26 q27 q28 q29 q30 q31 q32 q33 q34 q35 q36 q37 q38 q39 q40 q41 q42 q43 q44 q45 q46 q47 q48 q49 q50 q51 q52 q53 q54 q55 q56 q57 q58 q59 q60 q61 q62 q63 q64 q65 q66 q67 q68 q69 q70 q71 q72 q73 q74 q75 q76 q77 q78 q79 q80 q81 q82 q83 q84 q85 q86 q87 q88 q89 q90 q91 q92 q93 q94)[59]? = some (adL [q0, q1, q2, q3, q4, q5, q6, q7, q8, q9, q10, q11, q12, q13, q14, q15, q16, q17, q18, q19, q20, q21, q22, q23, q24, q25, q26, q27, q28, q29, q30, q31, q32, q33, q34, q35, q36, q37, q38, q39, q40, q41, q42, q43, q44, q45, q46, q47, q48, q49, q50, q51, q52, q53, q54, q55, q56, q57, q58, q59, q60, q61, q62, q63, q64, q65, q66, q67, q68, q69, q70, q71, q72, q73, q74, q75, q76, q77, q78, q79, q80, q81, q82, q83, q84, q85, q86, q87, q88, q89, q90, q91, q92, q93, q94] 59, .inl (cs.2.2, 4, .inr (.inr (.inr (.inr f))))) ∧ ∀ j, j < 4 → f j = some (adL [q0, q1, q2, q3, q4, q5, q6, q7, q8, q9, q10, q11, q12, q13, q14, q15, q16, q17, q18, q19, q20, q21, q22, q23, q24, q25, q26, q27, q28, q29, q30, q31, q32, q33, q34, q35, q36, q37, q38, q39, q40, q41, q42, q43, q44, q45, q46, q47, q48, q49, q50, q51, q52, q53, q54, q55, q56, q57, q58, q59, q60, q61, q62, q63, q64, q65, q66, q67, q68, q69, q70, q71, q72, q73, q74, q75, q76, q77, q78, q79, q80, q81, q82, q83, q84, q85, q86, q87, q88, q89, q90, q91, q92, q93, q94] (sr 59 j)) := by
  refine ⟨_, rfl, fun j hj => ?_⟩
  match j, hj with
  | 0, _ => rfl
  | 1, _ => rfl
  | 2, _ => rfl
  | 3, _ => rfl
theorem wl_len (cs : C3) (q0 q1 q2 q3 q4 q5 q6 q7 q8 q9 q10 q11 q12 q13 q14 q15 q16 q17 q18 q19 q20 q21 q22 q23 q24 q25 q26 q27 q28 q29 q30 q31 q32 q33 q34 q35 q36 q37 q38 q39 q40 q41 q42 q43 q44 q45 q46 q47 q48 q49 q50 q51 q52 q53 q54 q55 q56 q57 q58 q59 q60 q61 q62 q63 q64 q65 q66 q67 q68 q69 q70 q71 q72 q73 q74 q75 q76 q77 q78 q79 q80 q81 q82 q83 q84 q85 q86 q87 q88 q89 q90 q91 q92 q93 q94 : Nat) : (wl93 cs q0 q1 q2 q3 q4 q5 q6 q7 q8 q9 q10 q11 q12 q13 q14 q15 q16 q17 q18 q19 q20 q21 q22 q23 q24 q25 q26 q27 q28 q29 q30 q31 q32 q33 q34 q35 q36 q37 q38 q39 q40 q41 q42 q43 q44 q45 q46 q47 q48 q49 q50 q51 q52 q53 q54 q55 q56 q57 q58 q59 q60 q61 q62 q63 q64 q65 q66 q67 q68 q69 q70 q71 q72 q73 q74 q75 q76 q77 q78 q79 q80 q81 q82 q83 q84 q85 q86 q87 q88 q89 q90 q91 q92 q93 q94).length = 93 := rfl
theorem arrV_congr {cA : ClassId} {N : Nat} {f g : Nat → Value} (h : ∀ j, j < N → f j = g j) : arrV cA N f = arrV cA N g := by
  unfold arrV
  congr 1
  apply Array.ext
  · simp
  · intro i h1 h2
    simp at h1 ⊢
    exact h i h1
theorem wP93 (cs : C3) (q0 q1 q2 q3 q4 q5 q6 q7 q8 q9 q10 q11 q12 q13 q14 q15 q16 q17 q18 q19 q20 q21 q22 q23 q24 q25 q26 q27 q28 q29 q30 q31 q32 q33 q34 q35 q36 q37 q38 q39 q40 q41 q42 q43 q44 q45 q46 q47 q48 q49 q50 q51 q52 q53 q54 q55 q56 q57 q58 q59 q60 q61 q62 q63 q64 q65 q66 q67 q68 q69 q70 q71 q72 q73 q74 q75 q76 q77 q78 q79 q80 q81 q82 q83 q84 q85 q86 q87 q88 q89 q90 q91 q92 q93 q94 : Nat) {D : va_G} {H : Heap} (hP : va_P D vwCl (wl93 cs q0 q1 q2 q3 q4 q5 q6 q7 q8 q9 q10 q11 q12 q13 q14 q15 q16 q17 q18 q19 q20 q21 q22 q23 q24 q25 q26 q27 q28 q29 q30 q31 q32 q33 q34 q35 q36 q37 q38 q39 q40 q41 q42 q43 q44 q45 q46 q47 q48 q49 q50 q51 q52 q53 q54 q55 q56 q57 q58 q59 q60 q61 q62 q63 q64 q65 q66 q67 q68 q69 q70 q71 q72 q73 q74 q75 q76 q77 q78 q79 q80 q81 q82 q83 q84 q85 q86 q87 q88 q89 q90 q91 q92 q93 q94) H) : va_P D vwCl (wld (adL [q0, q1, q2, q3, q4, q5, q6, q7, q8, q9, q10, q11, q12, q13, q14, q15, q16, q17, q18, q19, q20, q21, q22, q23, q24, q25, q26, q27, q28, q29, q30, q31, q32, q33, q34, q35, q36, q37, q38, q39, q40, q41, q42, q43, q44, q45, q46, q47, q48, q49, q50, q51, q52, q53, q54, q55, q56, q57, q58, q59, q60, q61, q62, q63, q64, q65, q66, q67, q68, q69, q70, q71, q72, q73, q74, q75, q76, q77, q78, q79, q80, q81, q82, q83, q84, q85, q86, q87, q88, q89, q90, q91, q92, q93, q94]) cs hp0) H := by
  intro k x hx
  by_cases hk : k < 93
  · rw [wld_get hk] at hx
    cases hx
    by_cases h59 : k = 59
    · subst h59
      obtain ⟨f, h1, h2⟩ := w59 cs q0 q1 q2 q3 q4 q5 q6 q7 q8 q9 q10 q11 q12 q13 q14 q15 q16 q17 q18 q19 q20 q21 q22 q23 q24 q25 q26 q27 q28 q29 q30 q31 q32 q33 q34 q35 q36 q37 q38 q39 q40 q41 q42 q43 q44 q45 q46 q47 q48 q49 q50 q51 q52 q53 q54 q55 q56 q57 q58 q59 q60 q61 q62 q63 q64 q65 q66 q67 q68 q69 q70 q71 q72 q73 q74 q75 q76 q77 q78 q79 q80 q81 q82 q83 q84 q85 q86 q87 q88 q89 q90 q91 q92 q93 q94
      have h3 := hP 59 _ h1
      rw [ce_ref (by decide +kernel)]
      have h4 : H[adL [q0, q1, q2, q3, q4, q5, q6, q7, q8, q9, q10, q11, q12, q13, q14, q15, q16, q17, q18, q19, q20, q21, q22, q23, q24, q25, q26, q27, q28, q29, q30, q31, q32, q33, q34, q35, q36, q37, q38, q39, q40, q41, q42, q43, q44, q45, q46, q47, q48, q49, q50, q51, q52, q53, q54, q55, q56, q57, q58, q59, q60, q61, q62, q63, q64, q65, q66, q67, q68, q69, q70, q71, q72, q73, q74, q75, q76, q77, q78, q79, q80, q81, q82, q83, q84, q85, q86, q87, q88, q89, q90, q91, q92, q93, q94] 59]? = some (vp_cell cs.2.2 (4, .inr (.inr (.inr (.inr f))))) := h3
      show H[adL [q0, q1, q2, q3, q4, q5, q6, q7, q8, q9, q10, q11, q12, q13, q14, q15, q16, q17, q18, q19, q20, q21, q22, q23, q24, q25, q26, q27, q28, q29, q30, q31, q32, q33, q34, q35, q36, q37, q38, q39, q40, q41, q42, q43, q44, q45, q46, q47, q48, q49, q50, q51, q52, q53, q54, q55, q56, q57, q58, q59, q60, q61, q62, q63, q64, q65, q66, q67, q68, q69, q70, q71, q72, q73, q74, q75, q76, q77, q78, q79, q80, q81, q82, q83, q84, q85, q86, q87, q88, q89, q90, q91, q92, q93, q94] 59]? = some (vp_cell cs.2.2 (sl 59, .inr (.inr (.inr (.inr (fun i => some (adL [q0, q1, q2, q3, q4, q5, q6, q7, q8, q9, q10, q11, q12, q13, q14, q15, q16, q17, q18, q19, q20, q21, q22, q23, q24, q25, q26, q27, q28, q29, q30, q31, q32, q33, q34, q35, q36, q37, q38, q39, q40, q41, q42, q43, q44, q45, q46, q47, q48, q49, q50, q51, q52, q53, q54, q55, q56, q57, q58, q59, q60, q61, q62, q63, q64, q65, q66, q67, q68, q69, q70, q71, q72, q73, q74, q75, q76, q77, q78, q79, q80, q81, q82, q83, q84, q85, q86, q87, q88, q89, q90, q91, q92, q93, q94] (sr 59 i))))))))
      rw [h4, vp_cell_q, vp_cell_q]
      congr 1
      exact arrV_congr (fun j hj => by rw [h2 j hj])
    · exact hP k _ (w93 cs q0 q1 q2 q3 q4 q5 q6 q7 q8 q9 q10 q11 q12 q13 q14 q15 q16 q17 q18 q19 q20 q21 q22 q23 q24 q25 q26 q27 q28 q29 q30 q31 q32 q33 q34 q35 q36 q37 q38 q39 q40 q41 q42 q43 q44 q45 q46 q47 q48 q49 q50 q51 q52 q53 q54 q55 q56 q57 q58 q59 q60 q61 q62 q63 q64 q65 q66 q67 q68 q69 q70 q71 q72 q73 q74 q75 q76 q77 q78 q79 q80 q81 q82 q83 q84 q85 q86 q87 q88 q89 q90 q91 q92 q93 q94 k hk h59)
  · rw [List.getElem?_eq_none (by simp [wld]; omega)] at hx
    cases hx
theorem wA93 (cs : C3) (q0 q1 q2 q3 q4 q5 q6 q7 q8 q9 q10 q11 q12 q13 q14 q15 q16 q17 q18 q19 q20 q21 q22 q23 q24 q25 q26 q27 q28 q29 q30 q31 q32 q33 q34 q35 q36 q37 q38 q39 q40 q41 q42 q43 q44 q45 q46 q47 q48 q49 q50 q51 q52 q53 q54 q55 q56 q57 q58 q59 q60 q61 q62 q63 q64 q65 q66 q67 q68 q69 q70 q71 q72 q73 q74 q75 q76 q77 q78 q79 q80 q81 q82 q83 q84 q85 q86 q87 q88 q89 q90 q91 q92 q93 q94 : Nat) (k : Nat) (hk : k < 93) : ∃ e, (wl93 cs q0 q1 q2 q3 q4 q5 q6 q7 q8 q9 q10 q11 q12 q13 q14 q15 q16 q17 q18 q19 q20 q21 q22 q23 q24 q25 q26 q27 q28 q29 q30 q31 q32 q33 q34 q35 q36 q37 q38 q39 q40 q41 q42 q43 q44 q45 q46 q47 q48 q49 q50 q51 q52 q53 q54 q55 q56 q57 q58 q59 q60 q61 q62 q63 q64 q65 q66 q67 q68 q69 q70 q71 q72 q73 q74 q75 q76 q77 q78 q79 q80 q81 q82 q83 q84 q85 q86 q87 q88 q89 q90 q91 q92 q93 q94)[k]? = some (adL [q0, q1, q2, q3, q4, q5, q6, q7, q8, q9, q10, q11, q12, q13, q14, q15, q16, q17, q18, q19, q20, q21, q22, q23, q24, q25, q26, q27, q28, q29, q30, q31, q32, q33, q34, q35, q36, q37, q38, q39, q40, q41, q42, q43, q44, q45, q46, q47, q48, q49, q50, q51, q52, q53, q54, q55, q56, q57, q58, q59, q60, q61, q62, q63, q64, q65, q66, q67, q68, q69, q70, q71, q72, q73, q74, q75, q76, q77, q78, q79, q80, q81, q82, q83, q84, q85, q86, q87, q88, q89, q90, q91, q92, q93, q94] k, e) := by
  by_cases h59 : k = 59
  · subst h59
    obtain ⟨f, h1, h2⟩ := w59 cs q0 q1 q2 q3 q4 q5 q6 q7 q8 q9 q10 q11 q12 q13 q14 q15 q16 q17 q18 q19 q20 q21 q22 q23 q24 q25 q26 q27 q28 q29 q30 q31 q32 q33 q34 q35 q36 q37 q38 q39 q40 q41 q42 q43 q44 q45 q46 q47 q48 q49 q50 q51 q52 q53 q54 q55 q56 q57 q58 q59 q60 q61 q62 q63 q64 q65 q66 q67 q68 q69 q70 q71 q72 q73 q74 q75 q76 q77 q78 q79 q80 q81 q82 q83 q84 q85 q86 q87 q88 q89 q90 q91 q92 q93 q94
    exact ⟨_, h1⟩
  · exact ⟨_, w93 cs q0 q1 q2 q3 q4 q5 q6 q7 q8 q9 q10 q11 q12 q13 q14 q15 q16 q17 q18 q19 q20 q21 q22 q23 q24 q25 q26 q27 q28 q29 q30 q31 q32 q33 q34 q35 q36 q37 q38 q39 q40 q41 q42 q43 q44 q45 q46 q47 q48 q49 q50 q51 q52 q53 q54 q55 q56 q57 q58 q59 q60 q61 q62 q63 q64 q65 q66 q67 q68 q69 q70 q71 q72 q73 q74 q75 q76 q77 q78 q79 q80 q81 q82 q83 q84 q85 q86 q87 q88 q89 q90 q91 q92 q93 q94 k hk h59⟩
theorem wJ93 (cs : C3) (q0 q1 q2 q3 q4 q5 q6 q7 q8 q9 q10 q11 q12 q13 q14 q15 q16 q17 q18 q19 q20 q21 q22 q23 q24 q25 q26 q27 q28 q29 q30 q31 q32 q33 q34 q35 q36 q37 q38 q39 q40 q41 q42 q43 q44 q45 q46 q47 q48 q49 q50 q51 q52 q53 q54 q55 q56 q57 q58 q59 q60 q61 q62 q63 q64 q65 q66 q67 q68 q69 q70 q71 q72 q73 q74 q75 q76 q77 q78 q79 q80 q81 q82 q83 q84 q85 q86 q87 q88 q89 q90 q91 q92 q93 q94 : Nat) {A : Nat → Prop} (hD : va_D A (wl93 cs q0 q1 q2 q3 q4 q5 q6 q7 q8 q9 q10 q11 q12 q13 q14 q15 q16 q17 q18 q19 q20 q21 q22 q23 q24 q25 q26 q27 q28 q29 q30 q31 q32 q33 q34 q35 q36 q37 q38 q39 q40 q41 q42 q43 q44 q45 q46 q47 q48 q49 q50 q51 q52 q53 q54 q55 q56 q57 q58 q59 q60 q61 q62 q63 q64 q65 q66 q67 q68 q69 q70 q71 q72 q73 q74 q75 q76 q77 q78 q79 q80 q81 q82 q83 q84 q85 q86 q87 q88 q89 q90 q91 q92 q93 q94)) : ij (adL [q0, q1, q2, q3, q4, q5, q6, q7, q8, q9, q10, q11, q12, q13, q14, q15, q16, q17, q18, q19, q20, q21, q22, q23, q24, q25, q26, q27, q28, q29, q30, q31, q32, q33, q34, q35, q36, q37, q38, q39, q40, q41, q42, q43, q44, q45, q46, q47, q48, q49, q50, q51, q52, q53, q54, q55, q56, q57, q58, q59, q60, q61, q62, q63, q64, q65, q66, q67, q68, q69, q70, q71, q72, q73, q74, q75, q76, q77, q78, q79, q80, q81, q82, q83, q84, q85, q86, q87, q88, q89, q90, q91, q92, q93, q94]) ∧ ∀ k, k < 93 → A (adL [q0, q1, q2, q3, q4, q5, q6, q7, q8, q9, q10, q11, q12, q13, q14, q15, q16, q17, q18, q19, q20, q21, q22, q23, q24, q25, q26, q27, q28, q29, q30, q31, q32, q33, q34, q35, q36, q37, q38, q39, q40, q41, q42, q43, q44, q45, q46, q47, q48, q49, q50, q51, q52, q53, q54, q55, q56, q57, q58, q59, q60, q61, q62, q63, q64, q65, q66, q67, q68, q69, q70, q71, q72, q73, q74, q75, q76, q77, q78, q79, q80, q81, q82, q83, q84, q85, q86, q87, q88, q89, q90, q91, q92, q93, q94] k) := by
  refine ⟨fun i j hi hj e => ?_, fun k hk => ?_⟩
  · obtain ⟨a, h1⟩ := wA93 cs q0 q1 q2 q3 q4 q5 q6 q7 q8 q9 q10 q11 q12 q13 q14 q15 q16 q17 q18 q19 q20 q21 q22 q23 q24 q25 q26 q27 q28 q29 q30 q31 q32 q33 q34 q35 q36 q37 q38 q39 q40 q41 q42 q43 q44 q45 q46 q47 q48 q49 q50 q51 q52 q53 q54 q55 q56 q57 q58 q59 q60 q61 q62 q63 q64 q65 q66 q67 q68 q69 q70 q71 q72 q73 q74 q75 q76 q77 q78 q79 q80 q81 q82 q83 q84 q85 q86 q87 q88 q89 q90 q91 q92 q93 q94 i hi
    obtain ⟨b, h2⟩ := wA93 cs q0 q1 q2 q3 q4 q5 q6 q7 q8 q9 q10 q11 q12 q13 q14 q15 q16 q17 q18 q19 q20 q21 q22 q23 q24 q25 q26 q27 q28 q29 q30 q31 q32 q33 q34 q35 q36 q37 q38 q39 q40 q41 q42 q43 q44 q45 q46 q47 q48 q49 q50 q51 q52 q53 q54 q55 q56 q57 q58 q59 q60 q61 q62 q63 q64 q65 q66 q67 q68 q69 q70 q71 q72 q73 q74 q75 q76 q77 q78 q79 q80 q81 q82 q83 q84 q85 q86 q87 q88 q89 q90 q91 q92 q93 q94 j hj
    exact hD.1 i j _ _ h1 h2 e
  · obtain ⟨a, h1⟩ := wA93 cs q0 q1 q2 q3 q4 q5 q6 q7 q8 q9 q10 q11 q12 q13 q14 q15 q16 q17 q18 q19 q20 q21 q22 q23 q24 q25 q26 q27 q28 q29 q30 q31 q32 q33 q34 q35 q36 q37 q38 q39 q40 q41 q42 q43 q44 q45 q46 q47 q48 q49 q50 q51 q52 q53 q54 q55 q56 q57 q58 q59 q60 q61 q62 q63 q64 q65 q66 q67 q68 q69 q70 q71 q72 q73 q74 q75 q76 q77 q78 q79 q80 q81 q82 q83 q84 q85 q86 q87 q88 q89 q90 q91 q92 q93 q94 k hk
    exact hD.2 k _ h1
