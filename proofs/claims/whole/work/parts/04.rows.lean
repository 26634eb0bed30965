section ROWS
variable {Out : Type} {κ : Kx Out} {o : Option Out} {cc : ByteArray} {own : String} {n pc q : Nat} {ls : List (Nat × Value)} {st : List Value} {h : Hp}
theorem x_nm {α : Type} {e : α} {T : α → Option Out} (k : Xz κ (T e) pc ls st h) : Xz κ (nm e T) pc ls st h := k
theorem x_ni {e : Int32} {T : Int32 → Option Out} (k : ∀ x, Xz κ (T x) pc ls (.int x :: st) h) : Xz κ (nm e T) pc ls (.int e :: st) h := k e
theorem x_nl {e : Int64} {T : Int64 → Option Out} (k : ∀ x, Xz κ (T x) pc ls (.long x :: st) h) : Xz κ (nm e T) pc ls (.long e :: st) h := k e
theorem x_nh {e : Hp} {T : Hp → Option Out} (k : ∀ x, Xz κ (T x) pc ls st x) : Xz κ (nm e T) pc ls st e := k e
theorem x_ite {b : Prop} [Decidable b] {o1 o2 : Option Out} (k1 : b → Xz κ o1 pc ls st h) (k2 : ¬ b → Xz κ o2 pc ls st h) : Xz κ (if b then o1 else o2) pc ls st h := by
  by_cases hb : b
  · rw [if_pos hb]; exact k1 hb
  · rw [if_neg hb]; exact k2 hb
theorem x_cn {b : Prop} [Decidable b] (k : ¬ b → Xz κ o pc ls st h) : Xz κ (cn b o) pc ls st h := by
  unfold cn
  by_cases hb : b
  · rw [if_pos hb]; intro out ho; cases ho
  · rw [if_neg hb]; exact k hb
theorem x_cy {b : Prop} [Decidable b] (k : b → Xz κ o pc ls st h) : Xz κ (cy b o) pc ls st h := by
  unfold cy
  by_cases hb : b
  · rw [if_pos hb]; exact k hb
  · rw [if_neg hb]; intro out ho; cases ho
theorem x_ck {i : Int32} {N : Nat} (k : vp_in i N → Xz κ o pc ls st h) : Xz κ (ck i N o) pc ls st h := by
  unfold ck
  by_cases hb : ¬ (i < 0 ∨ N ≤ i.toNatClampNeg)
  · rw [if_pos hb]; exact k hb
  · rw [if_neg hb]; intro out ho; cases ho
theorem x_ls (ks : List Nat) {ls' : List (Nat × Value)} (hk : lv_pick ls ks = ls') (k : Xz κ o pc ls' st h) : Xz κ o pc ls st h := by
  refine fun out ho H locs arr hP hS hl => k out ho H locs arr hP hS (lv_sub hl ks ?_)
  rw [← hk]
  unfold lv_pick
  rw [List.map_filterMap]
  congr 1
  funext a
  rw [List.getElem?_map]
theorem x_iconst (q : Nat) (C : Gd κ cc own n) {z : Int} {v : Int32} (d : decode cc pc = .ok (.iconst z, 1)) (hv : Int32.ofInt z = v) (hq : pc + 1 = q) (k : Xz κ o q ls (.int v :: st) h) : Xz κ o pc ls st h := by
  subst hq
  exact fun out ho H locs arr hP hS hl => lv_iconst C.x C.b d hv (k out ho H locs arr hP hS hl)
theorem x_bipush (q : Nat) (C : Gd κ cc own n) {z : Int} {v : Int32} (d : decode cc pc = .ok (.bipush z, 2)) (hv : (Int8.ofInt z).toInt32 = v) (hq : pc + 2 = q) (k : Xz κ o q ls (.int v :: st) h) : Xz κ o pc ls st h := by
  subst hq
  exact fun out ho H locs arr hP hS hl => lv_bipush C.x C.b d hv (k out ho H locs arr hP hS hl)
theorem x_sipush (q : Nat) (C : Gd κ cc own n) {z : Int} {v : Int32} (d : decode cc pc = .ok (.sipush z, 3)) (hv : (Int16.ofInt z).toInt32 = v) (hq : pc + 3 = q) (k : Xz κ o q ls (.int v :: st) h) : Xz κ o pc ls st h := by
  subst hq
  exact fun out ho H locs arr hP hS hl => lv_sipush C.x C.b d hv (k out ho H locs arr hP hS hl)
theorem x_lconst (q : Nat) (C : Gd κ cc own n) {z : Fin 2} {v : Int64} (d : decode cc pc = .ok (.lconst z, 1)) (hv : Int64.ofNat (z : Nat) = v) (hq : pc + 1 = q) (k : Xz κ o q ls (.long v :: st) h) : Xz κ o pc ls st h := by
  subst hq
  exact fun out ho H locs arr hP hS hl => lv_lconst C.x C.b d hv (k out ho H locs arr hP hS hl)
theorem x_ldc (q : Nat) (C : Gd κ cc own n) {i : Nat} {v : Int32} (d : decode cc pc = .ok (.ldc i, 2)) (hw : Cond.constant own i v ∈ tb2) (hq : pc + 2 = q) (k : Xz κ o q ls (.int v :: st) h) : Xz κ o pc ls st h := by
  subst hq
  exact fun out ho H locs arr hP hS hl => lv_ldc C.x C.b C.ow (C.ts _ hw) d (k out ho H locs arr hP hS hl)
theorem x_ldcw (q : Nat) (C : Gd κ cc own n) {i : Nat} {v : Int32} (d : decode cc pc = .ok (.ldc_w i, 3)) (hw : Cond.constant own i v ∈ tb2) (hq : pc + 3 = q) (k : Xz κ o q ls (.int v :: st) h) : Xz κ o pc ls st h := by
  subst hq
  exact fun out ho H locs arr hP hS hl => lv_ldcw C.x C.b C.ow (C.ts _ hw) d (k out ho H locs arr hP hS hl)
theorem x_ldc2 (q : Nat) (C : Gd κ cc own n) {i : Nat} {v : Int64} (d : decode cc pc = .ok (.ldc2_w i, 3)) (hw : Cond.constantLong own i v ∈ tb2) (hq : pc + 3 = q) (k : Xz κ o q ls (.long v :: st) h) : Xz κ o pc ls st h := by
  subst hq
  exact fun out ho H locs arr hP hS hl => lv_ldc2 C.x C.b C.ow (C.ts _ hw) d (k out ho H locs arr hP hS hl)
theorem lm_at {ad : Nat → Nat} {arr : Array Slot} {nL : Nat} {l : List (Nat × Value)} (hl : lv_has arr nL (l.map (mp ad))) (k : Nat) {i : Nat} {v : Value} (hk : l[k]? = some (i, v)) : arr[i]? = some (.val (mv ad v)) :=
  lv_at hl k (by rw [List.getElem?_map, hk]; rfl)
theorem x_iload_n (q : Nat) (C : Gd κ cc own n) {z : Fin 4} {i : Nat} {x : Int32} (d : decode cc pc = .ok (.iload_n z, 1)) (j : Nat) (hj : ls[j]? = some (i, .int x)) (hi : (z : Nat) = i) (hq : pc + 1 = q) (k : Xz κ o q ls (.int x :: st) h) : Xz κ o pc ls st h := by
  subst hq
  exact fun out ho H locs arr hP hS hl => lv_iload_n C.x C.b d hi (lm_at hl j hj) (k out ho H locs arr hP hS hl)
theorem x_iload (q : Nat) (C : Gd κ cc own n) {i : Nat} {x : Int32} (d : decode cc pc = .ok (.iload i, 2)) (j : Nat) (hj : ls[j]? = some (i, .int x)) (hq : pc + 2 = q) (k : Xz κ o q ls (.int x :: st) h) : Xz κ o pc ls st h := by
  subst hq
  exact fun out ho H locs arr hP hS hl => lv_iload C.x C.b d (lm_at hl j hj) (k out ho H locs arr hP hS hl)
theorem x_lload_n (q : Nat) (C : Gd κ cc own n) {z : Fin 4} {i : Nat} {x : Int64} (d : decode cc pc = .ok (.lload_n z, 1)) (j : Nat) (hj : ls[j]? = some (i, .long x)) (hi : (z : Nat) = i) (hq : pc + 1 = q) (k : Xz κ o q ls (.long x :: st) h) : Xz κ o pc ls st h := by
  subst hq
  exact fun out ho H locs arr hP hS hl => lv_lload_n C.x C.b d hi (lm_at hl j hj) (k out ho H locs arr hP hS hl)
theorem x_lload (q : Nat) (C : Gd κ cc own n) {i : Nat} {x : Int64} (d : decode cc pc = .ok (.lload i, 2)) (j : Nat) (hj : ls[j]? = some (i, .long x)) (hq : pc + 2 = q) (k : Xz κ o q ls (.long x :: st) h) : Xz κ o pc ls st h := by
  subst hq
  exact fun out ho H locs arr hP hS hl => lv_lload C.x C.b d (lm_at hl j hj) (k out ho H locs arr hP hS hl)
theorem x_aload_n (q : Nat) (C : Gd κ cc own n) {z : Fin 4} {i : Nat} {x : Nat} (d : decode cc pc = .ok (.aload_n z, 1)) (j : Nat) (hj : ls[j]? = some (i, .ref x)) (hi : (z : Nat) = i) (hq : pc + 1 = q) (k : Xz κ o q ls (.ref x :: st) h) : Xz κ o pc ls st h := by
  subst hq
  exact fun out ho H locs arr hP hS hl => lv_aload_n C.x C.b d hi (lm_at hl j hj) (k out ho H locs arr hP hS hl)
theorem x_aload (q : Nat) (C : Gd κ cc own n) {i : Nat} {x : Nat} (d : decode cc pc = .ok (.aload i, 2)) (j : Nat) (hj : ls[j]? = some (i, .ref x)) (hq : pc + 2 = q) (k : Xz κ o q ls (.ref x :: st) h) : Xz κ o pc ls st h := by
  subst hq
  exact fun out ho H locs arr hP hS hl => lv_aload C.x C.b d (lm_at hl j hj) (k out ho H locs arr hP hS hl)
def f1 (i : Nat) (q : Nat × Value) : Bool := !(q.1 == i) && !(q.1 + 1 == i && q.2.category == 2)
def f2 (i : Nat) (q : Nat × Value) : Bool := !(q.1 == i) && (!(q.1 == i + 1) && !(q.1 + 1 == i && q.2.category == 2))
theorem mp_f1 (ad : Nat → Nat) (i : Nat) (l : List (Nat × Value)) : (l.map (mp ad)).filter (f1 i) = (l.filter (f1 i)).map (mp ad) := by
  rw [List.filter_map]
  congr 1
  apply List.filter_congr
  intro q _
  simp [f1, mp, mv_cat, Function.comp]
theorem mp_f2 (ad : Nat → Nat) (i : Nat) (l : List (Nat × Value)) : (l.map (mp ad)).filter (f2 i) = (l.filter (f2 i)).map (mp ad) := by
  rw [List.filter_map]
  congr 1
  apply List.filter_congr
  intro q _
  simp [f2, mp, mv_cat, Function.comp]
theorem mp_s1 {ad : Nat → Nat} {i : Nat} {v : Value} {l l' : List (Nat × Value)} (hl : (i, v) :: l.filter (f1 i) = l') : (i, mv ad v) :: (l.map (mp ad)).filter (fun q => !(q.1 == i) && !(q.1 + 1 == i && q.2.category == 2)) = l'.map (mp ad) := by
  rw [← hl, List.map_cons, ← mp_f1]; rfl
theorem mp_s2 {ad : Nat → Nat} {i : Nat} {v : Value} {l l' : List (Nat × Value)} (hl : (i, v) :: l.filter (f2 i) = l') : (i, mv ad v) :: (l.map (mp ad)).filter (fun q => !(q.1 == i) && (!(q.1 == i + 1) && !(q.1 + 1 == i && q.2.category == 2))) = l'.map (mp ad) := by
  rw [← hl, List.map_cons, ← mp_f2]; rfl
theorem x_istore_n (q : Nat) (ls' : List (Nat × Value)) (C : Gd κ cc own n) {z : Fin 4} {i : Nat} {x : Int32} (d : decode cc pc = .ok (.istore_n z, 1)) (hn : i < kn κ) (hl' : (i, Value.int x) :: ls.filter (f1 i) = ls') (hi : (z : Nat) = i) (hq : pc + 1 = q) (k : Xz κ o q ls' st h) : Xz κ o pc ls (.int x :: st) h := by
  subst hq
  exact fun out ho H locs arr hP hS hl => lv_istore_n C.x C.b d hi hl hn (mp_s1 hl') (fun arr' hl2 => k out ho H locs arr' hP hS hl2)
theorem x_istore (q : Nat) (ls' : List (Nat × Value)) (C : Gd κ cc own n) {i : Nat} {x : Int32} (d : decode cc pc = .ok (.istore i, 2)) (hn : i < kn κ) (hl' : (i, Value.int x) :: ls.filter (f1 i) = ls') (hq : pc + 2 = q) (k : Xz κ o q ls' st h) : Xz κ o pc ls (.int x :: st) h := by
  subst hq
  exact fun out ho H locs arr hP hS hl => lv_istore C.x C.b d hl hn (mp_s1 hl') (fun arr' hl2 => k out ho H locs arr' hP hS hl2)
theorem x_lstore_n (q : Nat) (ls' : List (Nat × Value)) (C : Gd κ cc own n) {z : Fin 4} {i : Nat} {x : Int64} (d : decode cc pc = .ok (.lstore_n z, 1)) (hn : i + 1 < kn κ) (hl' : (i, Value.long x) :: ls.filter (f2 i) = ls') (hi : (z : Nat) = i) (hq : pc + 1 = q) (k : Xz κ o q ls' st h) : Xz κ o pc ls (.long x :: st) h := by
  subst hq
  exact fun out ho H locs arr hP hS hl => lv_lstore_n C.x C.b d hi hl hn (mp_s2 hl') (fun arr' hl2 => k out ho H locs arr' hP hS hl2)
theorem x_lstore (q : Nat) (ls' : List (Nat × Value)) (C : Gd κ cc own n) {i : Nat} {x : Int64} (d : decode cc pc = .ok (.lstore i, 2)) (hn : i + 1 < kn κ) (hl' : (i, Value.long x) :: ls.filter (f2 i) = ls') (hq : pc + 2 = q) (k : Xz κ o q ls' st h) : Xz κ o pc ls (.long x :: st) h := by
  subst hq
  exact fun out ho H locs arr hP hS hl => lv_lstore C.x C.b d hl hn (mp_s2 hl') (fun arr' hl2 => k out ho H locs arr' hP hS hl2)
theorem x_astore_n (q : Nat) (ls' : List (Nat × Value)) (C : Gd κ cc own n) {z : Fin 4} {i : Nat} {x : Nat} (d : decode cc pc = .ok (.astore_n z, 1)) (hn : i < kn κ) (hl' : (i, Value.ref x) :: ls.filter (f1 i) = ls') (hi : (z : Nat) = i) (hq : pc + 1 = q) (k : Xz κ o q ls' st h) : Xz κ o pc ls (.ref x :: st) h := by
  subst hq
  exact fun out ho H locs arr hP hS hl => lv_astore_n C.x C.b d hi hl hn (mp_s1 hl') (fun arr' hl2 => k out ho H locs arr' hP hS hl2)
theorem x_astore (q : Nat) (ls' : List (Nat × Value)) (C : Gd κ cc own n) {i : Nat} {x : Nat} (d : decode cc pc = .ok (.astore i, 2)) (hn : i < kn κ) (hl' : (i, Value.ref x) :: ls.filter (f1 i) = ls') (hq : pc + 2 = q) (k : Xz κ o q ls' st h) : Xz κ o pc ls (.ref x :: st) h := by
  subst hq
  exact fun out ho H locs arr hP hS hl => lv_astore C.x C.b d hl hn (mp_s1 hl') (fun arr' hl2 => k out ho H locs arr' hP hS hl2)
theorem x_iinc (q : Nat) (ls' : Int32 → List (Nat × Value)) (C : Gd κ cc own n) {i : Nat} {z : Int} {x v : Int32} {T : Int32 → Option Out} (d : decode cc pc = .ok (.iinc i z, 3)) (j : Nat) (hj : ls[j]? = some (i, .int x)) (hv : Int32.ofInt z = v) (hn : i < kn κ) (hl' : ∀ y, (i, Value.int y) :: ls.filter (f1 i) = ls' y) (hq : pc + 3 = q) (k : ∀ y, Xz κ (T y) q (ls' y) st h) : Xz κ (nm (x + v) T) pc ls st h := by
  subst hq
  exact fun out ho H locs arr hP hS hl => lv_iinc C.x C.b d hl (k := j) (by rw [List.getElem?_map, hj]; rfl) (by rw [hv]) hn (mp_s1 (hl' (x + v))) (fun arr' hl2 => k (x + v) out ho H locs arr' hP hS hl2)
theorem x_dup (q : Nat) (C : Gd κ cc own n) {v : Value} (d : decode cc pc = .ok (.dup, 1)) (hv : v.category = 1) (hq : pc + 1 = q) (k : Xz κ o q ls (v :: v :: st) h) : Xz κ o pc ls (v :: st) h := by
  subst hq
  exact fun out ho H locs arr hP hS hl => lv_dup C.x C.b d ((mv_cat _ _).trans hv) (k out ho H locs arr hP hS hl)
theorem x_pop (q : Nat) (C : Gd κ cc own n) {v : Value} (d : decode cc pc = .ok (.pop, 1)) (hv : v.category = 1) (hq : pc + 1 = q) (k : Xz κ o q ls st h) : Xz κ o pc ls (v :: st) h := by
  subst hq
  exact fun out ho H locs arr hP hS hl => lv_pop C.x C.b d ((mv_cat _ _).trans hv) (k out ho H locs arr hP hS hl)
theorem x_dup2 (q : Nat) (C : Gd κ cc own n) {v w : Value} (d : decode cc pc = .ok (.dup2, 1)) (hv : v.category = 1) (hw : w.category = 1) (hq : pc + 1 = q) (k : Xz κ o q ls (v :: w :: v :: w :: st) h) : Xz κ o pc ls (v :: w :: st) h := by
  subst hq
  exact fun out ho H locs arr hP hS hl => lv_dup2_11 C.x C.b d ((mv_cat _ _).trans hv) ((mv_cat _ _).trans hw) (k out ho H locs arr hP hS hl)
theorem x_goto (q : Nat) (C : Gd κ cc own n) {off : Int} (d : decode cc pc = .ok (.goto off, 3)) (hq : (pc : Int) + off = (q : Int)) (k : Xz κ o q ls st h) : Xz κ o pc ls st h :=
  fun out ho H locs arr hP hS hl => lv_goto C.x C.b d hq (k out ho H locs arr hP hS hl)
theorem x_iushr (q : Nat) (C : Gd κ cc own n) {x y : Int32} (d : decode cc pc = .ok (.iushr, 1)) (hq : pc + 1 = q) (k : Xz κ o q ls (.int (x.toUInt32 >>> (y.toUInt32 &&& Int32.toUInt32 31)).toInt32 :: st) h) : Xz κ o pc ls (.int y :: .int x :: st) h := by
  subst hq
  exact fun out ho H locs arr hP hS hl => lv_iushr C.x C.b d rfl (k out ho H locs arr hP hS hl)
theorem x_lshl (q : Nat) (C : Gd κ cc own n) {x : Int64} {y : Int32} (d : decode cc pc = .ok (.lshl, 1)) (hq : pc + 1 = q) (k : Xz κ o q ls (.long (x <<< (y.toInt64 &&& 63)) :: st) h) : Xz κ o pc ls (.int y :: .long x :: st) h := by
  subst hq
  exact fun out ho H locs arr hP hS hl => lv_lshl C.x C.b d rfl (k out ho H locs arr hP hS hl)
theorem x_lcmp (q : Nat) (C : Gd κ cc own n) {x y : Int64} (d : decode cc pc = .ok (.lcmp, 1)) (hq : pc + 1 = q) (k : Xz κ o q ls (.int (lg_cmp x y) :: st) h) : Xz κ o pc ls (.long y :: .long x :: st) h := by
  subst hq
  exact fun out ho H locs arr hP hS hl => W.lcmp C.x C.b d (k out ho H locs arr hP hS hl)
theorem x_iadd (q : Nat) (C : Gd κ cc own n) {x y : Int32} (d : decode cc pc = .ok (.iadd, 1)) (hq : pc + 1 = q) (k : Xz κ o q ls (.int (x + y) :: st) h) : Xz κ o pc ls (.int y :: .int x :: st) h := by
  subst hq
  exact fun out ho H locs arr hP hS hl => lv_iadd C.x C.b d (k out ho H locs arr hP hS hl)
theorem x_isub (q : Nat) (C : Gd κ cc own n) {x y : Int32} (d : decode cc pc = .ok (.isub, 1)) (hq : pc + 1 = q) (k : Xz κ o q ls (.int (x - y) :: st) h) : Xz κ o pc ls (.int y :: .int x :: st) h := by
  subst hq
  exact fun out ho H locs arr hP hS hl => lv_isub C.x C.b d (k out ho H locs arr hP hS hl)
theorem x_imul (q : Nat) (C : Gd κ cc own n) {x y : Int32} (d : decode cc pc = .ok (.imul, 1)) (hq : pc + 1 = q) (k : Xz κ o q ls (.int (x * y) :: st) h) : Xz κ o pc ls (.int y :: .int x :: st) h := by
  subst hq
  exact fun out ho H locs arr hP hS hl => lv_imul C.x C.b d (k out ho H locs arr hP hS hl)
theorem x_iand (q : Nat) (C : Gd κ cc own n) {x y : Int32} (d : decode cc pc = .ok (.iand, 1)) (hq : pc + 1 = q) (k : Xz κ o q ls (.int (x &&& y) :: st) h) : Xz κ o pc ls (.int y :: .int x :: st) h := by
  subst hq
  exact fun out ho H locs arr hP hS hl => lv_iand C.x C.b d (k out ho H locs arr hP hS hl)
theorem x_ior (q : Nat) (C : Gd κ cc own n) {x y : Int32} (d : decode cc pc = .ok (.ior, 1)) (hq : pc + 1 = q) (k : Xz κ o q ls (.int (x ||| y) :: st) h) : Xz κ o pc ls (.int y :: .int x :: st) h := by
  subst hq
  exact fun out ho H locs arr hP hS hl => lv_ior C.x C.b d (k out ho H locs arr hP hS hl)
theorem x_ixor (q : Nat) (C : Gd κ cc own n) {x y : Int32} (d : decode cc pc = .ok (.ixor, 1)) (hq : pc + 1 = q) (k : Xz κ o q ls (.int (x ^^^ y) :: st) h) : Xz κ o pc ls (.int y :: .int x :: st) h := by
  subst hq
  exact fun out ho H locs arr hP hS hl => lv_ixor C.x C.b d (k out ho H locs arr hP hS hl)
theorem x_ishl (q : Nat) (C : Gd κ cc own n) {x y : Int32} (d : decode cc pc = .ok (.ishl, 1)) (hq : pc + 1 = q) (k : Xz κ o q ls (.int (x <<< (y &&& 31)) :: st) h) : Xz κ o pc ls (.int y :: .int x :: st) h := by
  subst hq
  exact fun out ho H locs arr hP hS hl => lv_ishl C.x C.b d (k out ho H locs arr hP hS hl)
theorem x_ishr (q : Nat) (C : Gd κ cc own n) {x y : Int32} (d : decode cc pc = .ok (.ishr, 1)) (hq : pc + 1 = q) (k : Xz κ o q ls (.int (x >>> (y &&& 31)) :: st) h) : Xz κ o pc ls (.int y :: .int x :: st) h := by
  subst hq
  exact fun out ho H locs arr hP hS hl => lv_ishr C.x C.b d (k out ho H locs arr hP hS hl)
theorem x_idiv (q : Nat) (C : Gd κ cc own n) {x y : Int32} (d : decode cc pc = .ok (.idiv, 1)) (hy : ¬ y = 0) (hq : pc + 1 = q) (k : Xz κ o q ls (.int (x / y) :: st) h) : Xz κ o pc ls (.int y :: .int x :: st) h := by
  subst hq
  exact fun out ho H locs arr hP hS hl => lv_idiv C.x C.b d hy (k out ho H locs arr hP hS hl)
theorem x_irem (q : Nat) (C : Gd κ cc own n) {x y : Int32} (d : decode cc pc = .ok (.irem, 1)) (hy : ¬ y = 0) (hq : pc + 1 = q) (k : Xz κ o q ls (.int (x - x / y * y) :: st) h) : Xz κ o pc ls (.int y :: .int x :: st) h := by
  subst hq
  exact fun out ho H locs arr hP hS hl => lv_irem C.x C.b d hy (k out ho H locs arr hP hS hl)
theorem x_ladd (q : Nat) (C : Gd κ cc own n) {x y : Int64} (d : decode cc pc = .ok (.ladd, 1)) (hq : pc + 1 = q) (k : Xz κ o q ls (.long (x + y) :: st) h) : Xz κ o pc ls (.long y :: .long x :: st) h := by
  subst hq
  exact fun out ho H locs arr hP hS hl => lv_ladd C.x C.b d (k out ho H locs arr hP hS hl)
theorem x_lsub (q : Nat) (C : Gd κ cc own n) {x y : Int64} (d : decode cc pc = .ok (.lsub, 1)) (hq : pc + 1 = q) (k : Xz κ o q ls (.long (x - y) :: st) h) : Xz κ o pc ls (.long y :: .long x :: st) h := by
  subst hq
  exact fun out ho H locs arr hP hS hl => lv_lsub C.x C.b d (k out ho H locs arr hP hS hl)
theorem x_lmul (q : Nat) (C : Gd κ cc own n) {x y : Int64} (d : decode cc pc = .ok (.lmul, 1)) (hq : pc + 1 = q) (k : Xz κ o q ls (.long (x * y) :: st) h) : Xz κ o pc ls (.long y :: .long x :: st) h := by
  subst hq
  exact fun out ho H locs arr hP hS hl => lv_lmul C.x C.b d (k out ho H locs arr hP hS hl)
theorem x_lor (q : Nat) (C : Gd κ cc own n) {x y : Int64} (d : decode cc pc = .ok (.lor, 1)) (hq : pc + 1 = q) (k : Xz κ o q ls (.long (x ||| y) :: st) h) : Xz κ o pc ls (.long y :: .long x :: st) h := by
  subst hq
  exact fun out ho H locs arr hP hS hl => lv_lor C.x C.b d (k out ho H locs arr hP hS hl)
theorem x_ldiv (q : Nat) (C : Gd κ cc own n) {x y : Int64} (d : decode cc pc = .ok (.ldiv, 1)) (hy : ¬ y = 0) (hq : pc + 1 = q) (k : Xz κ o q ls (.long (x / y) :: st) h) : Xz κ o pc ls (.long y :: .long x :: st) h := by
  subst hq
  exact fun out ho H locs arr hP hS hl => lv_ldiv C.x C.b d hy (k out ho H locs arr hP hS hl)
theorem x_lrem (q : Nat) (C : Gd κ cc own n) {x y : Int64} (d : decode cc pc = .ok (.lrem, 1)) (hy : ¬ y = 0) (hq : pc + 1 = q) (k : Xz κ o q ls (.long (x - x / y * y) :: st) h) : Xz κ o pc ls (.long y :: .long x :: st) h := by
  subst hq
  exact fun out ho H locs arr hP hS hl => lv_lrem C.x C.b d hy (k out ho H locs arr hP hS hl)
theorem x_ineg (q : Nat) (C : Gd κ cc own n) {x : Int32} (d : decode cc pc = .ok (.ineg, 1)) (hq : pc + 1 = q) (k : Xz κ o q ls (.int (0 - x) :: st) h) : Xz κ o pc ls (.int x :: st) h := by
  subst hq
  exact fun out ho H locs arr hP hS hl => lv_ineg C.x C.b d (k out ho H locs arr hP hS hl)
theorem x_i2l (q : Nat) (C : Gd κ cc own n) {x : Int32} (d : decode cc pc = .ok (.i2l, 1)) (hq : pc + 1 = q) (k : Xz κ o q ls (.long (x.toInt64) :: st) h) : Xz κ o pc ls (.int x :: st) h := by
  subst hq
  exact fun out ho H locs arr hP hS hl => lv_i2l C.x C.b d rfl (k out ho H locs arr hP hS hl)
theorem x_i2b (q : Nat) (C : Gd κ cc own n) {x : Int32} (d : decode cc pc = .ok (.i2b, 1)) (hq : pc + 1 = q) (k : Xz κ o q ls (.int (x.toInt8.toInt32) :: st) h) : Xz κ o pc ls (.int x :: st) h := by
  subst hq
  exact fun out ho H locs arr hP hS hl => lv_i2b C.x C.b d rfl (k out ho H locs arr hP hS hl)
theorem x_i2s (q : Nat) (C : Gd κ cc own n) {x : Int32} (d : decode cc pc = .ok (.i2s, 1)) (hq : pc + 1 = q) (k : Xz κ o q ls (.int (x.toInt16.toInt32) :: st) h) : Xz κ o pc ls (.int x :: st) h := by
  subst hq
  exact fun out ho H locs arr hP hS hl => lv_i2s C.x C.b d rfl (k out ho H locs arr hP hS hl)
theorem x_icmp_eq (q tgt : Nat) (C : Gd κ cc own n) {x y : Int32} {o1 o2 : Option Out} {off : Int} (d : decode cc pc = .ok (.if_icmp .eq off, 3)) (ht : (pc : Int) + off = (tgt : Int)) (hq : pc + 3 = q) (k1 : x = y → Xz κ o1 tgt ls st h) (k2 : ¬ (x = y) → Xz κ o2 q ls st h) : Xz κ (if x = y then o1 else o2) pc ls (.int y :: .int x :: st) h := by
  subst hq
  refine fun out ho H locs arr hP hS hl => lv_icmp_eq C.x C.b d ht (fun hc => k1 hc out ?_ H locs arr hP hS hl) (fun hc => k2 hc out ?_ H locs arr hP hS hl)
  · rw [if_pos hc] at ho; exact ho
  · rw [if_neg hc] at ho; exact ho
theorem x_if_eq (q tgt : Nat) (C : Gd κ cc own n) {x : Int32} {o1 o2 : Option Out} {off : Int} (d : decode cc pc = .ok (.ifCond .eq off, 3)) (ht : (pc : Int) + off = (tgt : Int)) (hq : pc + 3 = q) (k1 : x = 0 → Xz κ o1 tgt ls st h) (k2 : ¬ (x = 0) → Xz κ o2 q ls st h) : Xz κ (if x = 0 then o1 else o2) pc ls (.int x :: st) h := by
  subst hq
  refine fun out ho H locs arr hP hS hl => lv_if_eq C.x C.b d ht (fun hc => k1 hc out ?_ H locs arr hP hS hl) (fun hc => k2 hc out ?_ H locs arr hP hS hl)
  · rw [if_pos hc] at ho; exact ho
  · rw [if_neg hc] at ho; exact ho
theorem x_icmp_lt (q tgt : Nat) (C : Gd κ cc own n) {x y : Int32} {o1 o2 : Option Out} {off : Int} (d : decode cc pc = .ok (.if_icmp .lt off, 3)) (ht : (pc : Int) + off = (tgt : Int)) (hq : pc + 3 = q) (k1 : x < y → Xz κ o1 tgt ls st h) (k2 : ¬ (x < y) → Xz κ o2 q ls st h) : Xz κ (if x < y then o1 else o2) pc ls (.int y :: .int x :: st) h := by
  subst hq
  refine fun out ho H locs arr hP hS hl => lv_icmp_lt C.x C.b d ht (fun hc => k1 hc out ?_ H locs arr hP hS hl) (fun hc => k2 hc out ?_ H locs arr hP hS hl)
  · rw [if_pos hc] at ho; exact ho
  · rw [if_neg hc] at ho; exact ho
theorem x_if_lt (q tgt : Nat) (C : Gd κ cc own n) {x : Int32} {o1 o2 : Option Out} {off : Int} (d : decode cc pc = .ok (.ifCond .lt off, 3)) (ht : (pc : Int) + off = (tgt : Int)) (hq : pc + 3 = q) (k1 : x < 0 → Xz κ o1 tgt ls st h) (k2 : ¬ (x < 0) → Xz κ o2 q ls st h) : Xz κ (if x < 0 then o1 else o2) pc ls (.int x :: st) h := by
  subst hq
  refine fun out ho H locs arr hP hS hl => lv_if_lt C.x C.b d ht (fun hc => k1 hc out ?_ H locs arr hP hS hl) (fun hc => k2 hc out ?_ H locs arr hP hS hl)
  · rw [if_pos hc] at ho; exact ho
  · rw [if_neg hc] at ho; exact ho
theorem x_icmp_ge (q tgt : Nat) (C : Gd κ cc own n) {x y : Int32} {o1 o2 : Option Out} {off : Int} (d : decode cc pc = .ok (.if_icmp .ge off, 3)) (ht : (pc : Int) + off = (tgt : Int)) (hq : pc + 3 = q) (k1 : y ≤ x → Xz κ o1 tgt ls st h) (k2 : ¬ (y ≤ x) → Xz κ o2 q ls st h) : Xz κ (if y ≤ x then o1 else o2) pc ls (.int y :: .int x :: st) h := by
  subst hq
  refine fun out ho H locs arr hP hS hl => lv_icmp_ge C.x C.b d ht (fun hc => k1 hc out ?_ H locs arr hP hS hl) (fun hc => k2 hc out ?_ H locs arr hP hS hl)
  · rw [if_pos hc] at ho; exact ho
  · rw [if_neg hc] at ho; exact ho
theorem x_if_ge (q tgt : Nat) (C : Gd κ cc own n) {x : Int32} {o1 o2 : Option Out} {off : Int} (d : decode cc pc = .ok (.ifCond .ge off, 3)) (ht : (pc : Int) + off = (tgt : Int)) (hq : pc + 3 = q) (k1 : 0 ≤ x → Xz κ o1 tgt ls st h) (k2 : ¬ (0 ≤ x) → Xz κ o2 q ls st h) : Xz κ (if 0 ≤ x then o1 else o2) pc ls (.int x :: st) h := by
  subst hq
  refine fun out ho H locs arr hP hS hl => lv_if_ge C.x C.b d ht (fun hc => k1 hc out ?_ H locs arr hP hS hl) (fun hc => k2 hc out ?_ H locs arr hP hS hl)
  · rw [if_pos hc] at ho; exact ho
  · rw [if_neg hc] at ho; exact ho
theorem x_icmp_gt (q tgt : Nat) (C : Gd κ cc own n) {x y : Int32} {o1 o2 : Option Out} {off : Int} (d : decode cc pc = .ok (.if_icmp .gt off, 3)) (ht : (pc : Int) + off = (tgt : Int)) (hq : pc + 3 = q) (k1 : y < x → Xz κ o1 tgt ls st h) (k2 : ¬ (y < x) → Xz κ o2 q ls st h) : Xz κ (if y < x then o1 else o2) pc ls (.int y :: .int x :: st) h := by
  subst hq
  refine fun out ho H locs arr hP hS hl => lv_icmp_gt C.x C.b d ht (fun hc => k1 hc out ?_ H locs arr hP hS hl) (fun hc => k2 hc out ?_ H locs arr hP hS hl)
  · rw [if_pos hc] at ho; exact ho
  · rw [if_neg hc] at ho; exact ho
theorem x_if_gt (q tgt : Nat) (C : Gd κ cc own n) {x : Int32} {o1 o2 : Option Out} {off : Int} (d : decode cc pc = .ok (.ifCond .gt off, 3)) (ht : (pc : Int) + off = (tgt : Int)) (hq : pc + 3 = q) (k1 : 0 < x → Xz κ o1 tgt ls st h) (k2 : ¬ (0 < x) → Xz κ o2 q ls st h) : Xz κ (if 0 < x then o1 else o2) pc ls (.int x :: st) h := by
  subst hq
  refine fun out ho H locs arr hP hS hl => lv_if_gt C.x C.b d ht (fun hc => k1 hc out ?_ H locs arr hP hS hl) (fun hc => k2 hc out ?_ H locs arr hP hS hl)
  · rw [if_pos hc] at ho; exact ho
  · rw [if_neg hc] at ho; exact ho
theorem x_icmp_le (q tgt : Nat) (C : Gd κ cc own n) {x y : Int32} {o1 o2 : Option Out} {off : Int} (d : decode cc pc = .ok (.if_icmp .le off, 3)) (ht : (pc : Int) + off = (tgt : Int)) (hq : pc + 3 = q) (k1 : x ≤ y → Xz κ o1 tgt ls st h) (k2 : ¬ (x ≤ y) → Xz κ o2 q ls st h) : Xz κ (if x ≤ y then o1 else o2) pc ls (.int y :: .int x :: st) h := by
  subst hq
  refine fun out ho H locs arr hP hS hl => lv_icmp_le C.x C.b d ht (fun hc => k1 hc out ?_ H locs arr hP hS hl) (fun hc => k2 hc out ?_ H locs arr hP hS hl)
  · rw [if_pos hc] at ho; exact ho
  · rw [if_neg hc] at ho; exact ho
theorem x_if_le (q tgt : Nat) (C : Gd κ cc own n) {x : Int32} {o1 o2 : Option Out} {off : Int} (d : decode cc pc = .ok (.ifCond .le off, 3)) (ht : (pc : Int) + off = (tgt : Int)) (hq : pc + 3 = q) (k1 : x ≤ 0 → Xz κ o1 tgt ls st h) (k2 : ¬ (x ≤ 0) → Xz κ o2 q ls st h) : Xz κ (if x ≤ 0 then o1 else o2) pc ls (.int x :: st) h := by
  subst hq
  refine fun out ho H locs arr hP hS hl => lv_if_le C.x C.b d ht (fun hc => k1 hc out ?_ H locs arr hP hS hl) (fun hc => k2 hc out ?_ H locs arr hP hS hl)
  · rw [if_pos hc] at ho; exact ho
  · rw [if_neg hc] at ho; exact ho
theorem x_icmp_ne (q tgt : Nat) (C : Gd κ cc own n) {x y : Int32} {o1 o2 : Option Out} {off : Int} (d : decode cc pc = .ok (.if_icmp .ne off, 3)) (ht : (pc : Int) + off = (tgt : Int)) (hq : pc + 3 = q) (k1 : ¬ (x = y) → Xz κ o1 tgt ls st h) (k2 : x = y → Xz κ o2 q ls st h) : Xz κ (if x = y then o2 else o1) pc ls (.int y :: .int x :: st) h := by
  subst hq
  refine fun out ho H locs arr hP hS hl => lv_icmp_ne C.x C.b d ht (fun hc => k1 hc out ?_ H locs arr hP hS hl) (fun hc => k2 hc out ?_ H locs arr hP hS hl)
  · rw [if_neg hc] at ho; exact ho
  · rw [if_pos hc] at ho; exact ho
theorem x_if_ne (q tgt : Nat) (C : Gd κ cc own n) {x : Int32} {o1 o2 : Option Out} {off : Int} (d : decode cc pc = .ok (.ifCond .ne off, 3)) (ht : (pc : Int) + off = (tgt : Int)) (hq : pc + 3 = q) (k1 : ¬ (x = 0) → Xz κ o1 tgt ls st h) (k2 : x = 0 → Xz κ o2 q ls st h) : Xz κ (if x = 0 then o2 else o1) pc ls (.int x :: st) h := by
  subst hq
  refine fun out ho H locs arr hP hS hl => lv_if_ne C.x C.b d ht (fun hc => k1 hc out ?_ H locs arr hP hS hl) (fun hc => k2 hc out ?_ H locs arr hP hS hl)
  · rw [if_neg hc] at ho; exact ho
  · rw [if_pos hc] at ho; exact ho
end ROWS
