section MORE
variable {Out : Type} {κ : Kx Out} {o : Option Out} {cc : ByteArray} {own : String} {n pc q : Nat} {ls : List (Nat × Value)} {st : List Value} {h : Hp}
theorem x_alenL (q : Nat) (C : Gd κ cc own n) {k N : Nat} (d : decode cc pc = .ok (.arraylength, 1)) (hk : sk k = 10) (hN : sl k = N) (hq : pc + 1 = q) (kk : Xz κ o q ls (.int (nI N) :: st) h) : Xz κ o pc ls (.ref k :: st) h := by
  subst hq
  subst hN
  refine fun out ho H locs arr hP hS hl => ?_
  have hk9 : k < 93 := sk_lt hk (by omega)
  exact va_alen C.x C.b C.K hP k 1 (x := (sl k, .inr (.inl (h.2 k)))) (by rw [wld_get hk9, ce_long hk]) rfl rfl d (kk out ho H locs arr hP hS hl)
end MORE
