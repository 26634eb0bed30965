section MORE
variable {Out : Type} {κ : Kx Out} {o : Option Out} {cc : ByteArray} {own : String} {n pc q : Nat} {ls : List (Nat × Value)} {st : List Value} {h : Hp}
theorem x_alenL (q : Nat) (C : Gd κ cc own n) {k N : Nat} (d : decode cc pc = .ok (.arraylength, 1)) (hk : sk k = 10) (hN : sl k = N) (hq : pc + 1 = q) (kk : Xz κ o q ls (.int (nI N) :: st) h) : Xz κ o pc ls (.ref k :: st) h := by
  subst hq
  subst hN
  refine fun out ho H locs arr hP hS hl => ?_
  have hk9 : k < 93 := sk_lt hk (by omega)
  exact va_alen C.x C.b C.K hP k 1 (x := (sl k, .inr (.inl (h.2 k)))) (by rw [wld_get hk9, ce_long hk]) rfl rfl d (kk out ho H locs arr hP hS hl)
end MORE
section STATICS
variable {Out : Type} {κ : Kx Out} {o : Option Out} {cc : ByteArray} {own : String} {n pc : Nat} {ls : List (Nat × Value)} {st : List Value} {h : Hp}
theorem x_gets (q : Nat) (C : Gd κ cc own n) {idx : Nat} (d : decode cc pc = .ok (.getstatic idx, 3)) (hw : Cond.fieldLink own idx "WireWalkers" "DIGEST_BEATS" "[I" ∈ tb2) (hq : pc + 3 = q) (k : Xz κ o q ls (.ref 94 :: st) h) : Xz κ o pc ls st h := by
  subst hq
  exact fun out ho H locs arr hP hS hl => va_gets C.x C.b C.st.1 hS C.ow (C.ts _ hw) (fun _ h => h) d (k out ho H locs arr hP hS hl)
theorem x_tald (q : Nat) (C : Gd κ cc own n) {i : Int32} (d : decode cc pc = .ok (.iaload, 1)) (hq : pc + 1 = q) (k : Xz κ o q ls (.int (dbF i.toNatClampNeg) :: st) h) : Xz κ (ck i 4 o) pc ls (.int i :: .ref 94 :: st) h := by
  subst hq
  exact x_ck fun hin out ho H locs arr hP hS hl => va_ti C.x C.b C.st.2 hS hin rfl d (k out ho H locs arr hP hS hl)
theorem x_tlen (q : Nat) (C : Gd κ cc own n) (d : decode cc pc = .ok (.arraylength, 1)) (hq : pc + 1 = q) (k : Xz κ o q ls (.int (nI 4) :: st) h) : Xz κ o pc ls (.ref 94 :: st) h := by
  subst hq
  exact fun out ho H locs arr hP hS hl => va_tlen C.x C.b C.st.2 hS rfl d (k out ho H locs arr hP hS hl)
end STATICS
