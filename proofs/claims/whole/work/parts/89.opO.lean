/-! chances: what is left out matters by its bits alone -/
def woE (n : Nat) (w w' : Int32) : Prop := ∀ e, e < n → ((w >>> (nI e &&& 31)) &&& 1 = 0 ↔ (w' >>> (nI e &&& 31)) &&& 1 = 0)
theorem gust_wo {i : Inp} {w w' : Int32} (b : Nat) : ∀ n, woE n w w' → gustN (wWo i w) b n = gustN (wWo i w') b n
  | 0, _ => rfl
  | e + 1, h => by
    have ih := gust_wo (i := i) b e (fun e' he' => h e' (Nat.lt_succ_of_lt he'))
    have he := h e (Nat.lt_succ_self e)
    rw [gustN, gustN, ih]
    show (if (w >>> (nI e &&& 31)) &&& 1 = 0 then (if iEb i e = nI b then _ else _) else _) = (if (w' >>> (nI e &&& 31)) &&& 1 = 0 then (if iEb i e = nI b then _ else _) else _)
    by_cases q : (w >>> (nI e &&& 31)) &&& 1 = 0
    · rw [if_pos q, if_pos (he.mp q)]; rfl
    · rw [if_neg q, if_neg (fun t => q (he.mpr t))]
theorem cheer_wo {i : Inp} {w w' : Int32} (b : Nat) : ∀ n, woE n w w' → cheerN (wWo i w) b n = cheerN (wWo i w') b n
  | 0, _ => rfl
  | e + 1, h => by
    have ih := cheer_wo (i := i) b e (fun e' he' => h e' (Nat.lt_succ_of_lt he'))
    have he := h e (Nat.lt_succ_self e)
    rw [cheerN, cheerN, ih]
    show (if (w >>> (nI e &&& 31)) &&& 1 = 0 then (if iEb i e = nI b then _ else _) else _) = (if (w' >>> (nI e &&& 31)) &&& 1 = 0 then (if iEb i e = nI b then _ else _) else _)
    by_cases q : (w >>> (nI e &&& 31)) &&& 1 = 0
    · rw [if_pos q, if_pos (he.mp q)]; rfl
    · rw [if_neg q, if_neg (fun t => q (he.mpr t))]
theorem drop_wo {i : Inp} {w w' : Int32} (b : Nat) : ∀ n, woE n w w' → dropN (wWo i w) b n = dropN (wWo i w') b n
  | 0, _ => rfl
  | e + 1, h => by
    have ih := drop_wo (i := i) b e (fun e' he' => h e' (Nat.lt_succ_of_lt he'))
    have he := h e (Nat.lt_succ_self e)
    rw [dropN, dropN, ih]
    show (if (w >>> (nI e &&& 31)) &&& 1 = 0 then (if iEb i e = nI b then _ else _) else _) = (if (w' >>> (nI e &&& 31)) &&& 1 = 0 then (if iEb i e = nI b then _ else _) else _)
    by_cases q : (w >>> (nI e &&& 31)) &&& 1 = 0
    · rw [if_pos q, if_pos (he.mp q)]; rfl
    · rw [if_neg q, if_neg (fun t => q (he.mpr t))]
theorem line_wo {i : Inp} {w w' : Int32} (b : Nat) (ch pu : Int32) : ∀ (l : List Nat) (s : (Nat → WS) × Int32 × Int32), lineF (wWo i w) b ch pu l s = lineF (wWo i w') b ch pu l s
  | [], s => rfl
  | k :: l, s => by
    rw [lineF, lineF]
    show (if wst (s.1 k) = 1 then lineF (wWo i w) b ch pu l (va_up s.1 k (stepW (wWo i w') b ch pu s.2.2 k (s.1 k)), s.2.1 + sGo (wWo i w') ch s.2.2 k (s.1 k), if wst (stepW (wWo i w') b ch pu s.2.2 k (s.1 k)) = 1 then wpl (stepW (wWo i w') b ch pu s.2.2 k (s.1 k)) else s.2.2) else lineF (wWo i w) b ch pu l s) = _
    rw [line_wo (w := w) (w' := w') b ch pu l _, line_wo (w := w) (w' := w') b ch pu l s]
theorem beat_wo {i : Inp} {w w' : Int32} (h : woE (iNe i) w w') (b : Nat) (mv : Int32) (s : SS) : beatF (wWo i w) b mv s = beatF (wWo i w') b mv s := by
  have e1 : cheerN (wWo i w) b (iNe (wWo i w)) = cheerN (wWo i w') b (iNe (wWo i w')) := cheer_wo b (iNe i) h
  have e2 : gustN (wWo i w) b (iNe (wWo i w)) = gustN (wWo i w') b (iNe (wWo i w')) := gust_wo b (iNe i) h
  have e3 : dropF (wWo i w) b s.1 = dropF (wWo i w') b s.1 := by
    funext k
    unfold dropF
    rw [show dropN (wWo i w) b (iNe (wWo i w)) = dropN (wWo i w') b (iNe (wWo i w')) from drop_wo b (iNe i) h]
  have e4 : swayF (wWo i w) b mv = swayF (wWo i w') b mv := rfl
  unfold beatF
  rw [e1, e2, e3, e4, line_wo (w := w) (w' := w')]
  rfl
theorem run_wo {i : Inp} {w w' : Int32} (h : woE (iNe i) w w') : ∀ b, runF (wWo i w) b = runF (wWo i w') b
  | 0 => rfl
  | b + 1 => by
    rw [runF, runF, run_wo h b, beat_wo h]
theorem wo_flip {n z : Nat} (hn : n ≤ 8) (hz : z < 2 ^ n) : woE n (nI z ^^^ -1) (nI (2 ^ n - 1 - z)) := by
  intro e he
  have k := (show ∀ n, n < 9 → ∀ z, z < 2 ^ n → ∀ e, e < n → (((nI z ^^^ -1) >>> (nI e &&& 31)) &&& 1 = 0 ↔ (nI (2 ^ n - 1 - z) >>> (nI e &&& 31)) &&& 1 = 0) by decide +kernel)
  exact k n (by omega) z hz e he
def sumN (f : Nat → Nat) : Nat → Nat
  | 0 => 0
  | n + 1 => sumN f n + f n
theorem sum_cg {f g : Nat → Nat} : ∀ {n : Nat}, (∀ k, k < n → f k = g k) → sumN f n = sumN g n
  | 0, _ => rfl
  | n + 1, h => by rw [sumN, sumN, h n (Nat.lt_succ_self n), sum_cg (n := n) (fun k hk => h k (Nat.lt_succ_of_lt hk))]
theorem sum_front (f : Nat → Nat) : ∀ n, sumN f (n + 1) = f 0 + sumN (fun k => f (k + 1)) n
  | 0 => by simp [sumN]
  | n + 1 => by
    rw [sumN, sum_front f n, sumN, Nat.add_assoc]
theorem sum_rev (f : Nat → Nat) : ∀ n, sumN f n = sumN (fun k => f (n - 1 - k)) n
  | 0 => rfl
  | n + 1 => by
    rw [sum_front (fun k => f (n + 1 - 1 - k)) n, sumN, sum_rev f n, Nat.add_comm]
    have : sumN (fun k => f (n - 1 - k)) n = sumN (fun k => f (n + 1 - 1 - (k + 1))) n := sum_cg (fun k hk => by
      show f (n - 1 - k) = f (n + 1 - 1 - (k + 1))
      rw [show n - 1 - k = n + 1 - 1 - (k + 1) by omega])
    rw [this]
    rfl
theorem sum_le {f : Nat → Nat} {B : Nat} : ∀ {n : Nat}, (∀ k, k < n → f k ≤ B) → sumN f n ≤ n * B
  | 0, _ => by simp [sumN]
  | n + 1, h => by
    have := sum_le (n := n) (fun k hk => h k (Nat.lt_succ_of_lt hk))
    have := h n (Nat.lt_succ_self n)
    rw [sumN, Nat.succ_mul]
    omega
def wt (c z : Nat) : Nat → Nat
  | 0 => 1
  | e + 1 => wt c z e * (if z.testBit e = true then c else 16 - c)
def wu (c z : Nat) : Nat → Nat
  | 0 => 1
  | e + 1 => wu c z e * (if z.testBit e = true then 16 - c else c)
theorem wt_le {c : Nat} (hc : c ≤ 16) (z : Nat) : ∀ n, wt c z n ≤ 16 ^ n
  | 0 => by simp [wt]
  | n + 1 => by
    rw [wt, Nat.pow_succ]
    refine Nat.mul_le_mul (wt_le hc z n) ?_
    split <;> omega
theorem wu_wt {c n z : Nat} (hz : z < 2 ^ n) : ∀ e, e ≤ n → wu c (2 ^ n - 1 - z) e = wt c z e
  | 0, _ => rfl
  | e + 1, he => by
    rw [wu, wt, wu_wt hz e (by omega)]
    have t := Nat.testBit_two_pow_sub_succ hz e
    rw [show 2 ^ n - (z + 1) = 2 ^ n - 1 - z by omega] at t
    rw [t]
    have : decide (e < n) = true := decide_eq_true (by omega)
    rw [this]
    cases z.testBit e <;> rfl
/-- over with the events of z alone -/
abbrev ovP (i : Inp) (k z : Nat) : Prop := wst ((runF (wWo i (nI z ^^^ -1)) 24).1.1 k) = 2
def chA (i : Inp) (c k : Nat) : Nat := sumN (fun z => if ovP i k z then wt c z (iNe i) else 0) (2 ^ iNe i)
def chB (i : Inp) : Nat := 2 ^ (4 * iNe i)
theorem chA_lt {i : Inp} {c k : Nat} (hI : InOk i) (hc : c ≤ 16) : chA i c k < 2 ^ 62 := by
  have n8 := hI.2.1
  have h1 : chA i c k ≤ 2 ^ iNe i * 16 ^ iNe i := sum_le (fun z hz => by
    split
    · exact wt_le hc z _
    · exact Nat.zero_le _)
  have h2 : (2 : Nat) ^ iNe i ≤ 2 ^ 8 := Nat.pow_le_pow_right (by decide) n8
  have h3 : (16 : Nat) ^ iNe i ≤ 16 ^ 8 := Nat.pow_le_pow_right (by decide) n8
  have h4 := Nat.mul_le_mul h2 h3
  have h5 : (2 : Nat) ^ 8 * 16 ^ 8 < 2 ^ 62 := by decide
  omega
theorem chB_le {i : Inp} (hI : InOk i) : chB i ≤ 2 ^ 32 ∧ 0 < chB i := ⟨Nat.pow_le_pow_right (by decide) (by have := hI.2.1; omega), Nat.pow_pos (by decide)⟩
theorem chA_rev {i : Inp} {c k : Nat} (hI : InOk i) : chA i c k = sumN (fun z => if wst ((runF (wWo i (nI z)) 24).1.1 k) = 2 then wu c z (iNe i) else 0) (2 ^ iNe i) := by
  rw [sum_rev]
  refine sum_cg (fun z hz => ?_)
  show (if ovP i k z then wt c z (iNe i) else 0) = (if wst ((runF (wWo i (nI (2 ^ iNe i - 1 - z))) 24).1.1 k) = 2 then wu c (2 ^ iNe i - 1 - z) (iNe i) else 0)
  rw [wu_wt hz _ (Nat.le_refl _), ← run_wo (wo_flip hI.2.1 hz) 24]
def chV (i : Inp) (c k : Nat) (a : Int32) : Int64 := lN ((if a = 0 then chA i c k else chB i) / Nat.gcd (chA i c k) (chB i))
/-- halving reaches the lowest terms -/
theorem half_gcd {A K a x : Nat} (hA : A = a * 2 ^ x) (hx : x ≤ K) (h : x = K ∨ a % 2 = 1) : A / Nat.gcd A (2 ^ K) = a ∧ 2 ^ K / Nat.gcd A (2 ^ K) = 2 ^ (K - x) := by
  have e : (2 : Nat) ^ K = 2 ^ (K - x) * 2 ^ x := by rw [← Nat.pow_add]; congr 1; omega
  have cp : Nat.gcd a (2 ^ (K - x)) = 1 := by
    rcases h with rfl | h
    · rw [Nat.sub_self]; exact Nat.gcd_one_right a
    · have c2 : Nat.Coprime a 2 := by
        show Nat.gcd a 2 = 1
        rw [Nat.gcd_comm, Nat.gcd_rec, h]
        rfl
      exact Nat.Coprime.pow_right (K - x) c2
  have p : 0 < 2 ^ x := Nat.pow_pos (by decide)
  rw [e, hA, Nat.gcd_mul_right, cp, Nat.one_mul]
  exact ⟨Nat.mul_div_cancel _ p, Nat.mul_div_cancel _ p⟩
