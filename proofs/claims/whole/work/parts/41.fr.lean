/-! which cells a method leaves alone -/
def FI (lo hi : Nat) (h h' : Hp) : Prop := ∀ c, ¬ (lo ≤ c ∧ c < hi) → h'.1 c = h.1 c ∧ h'.2 c = h.2 c
def FO {α : Type} (lo hi : Nat) (h : Hp) (g : α → Hp) (o : Option α) : Prop := ∀ u, o = some u → FI lo hi h (g u)
theorem FI.rf {lo hi : Nat} {h : Hp} : FI lo hi h h := fun _ _ => ⟨rfl, rfl⟩
theorem FI.tr {lo hi : Nat} {h h1 h2 : Hp} (a : FI lo hi h h1) (b : FI lo hi h1 h2) : FI lo hi h h2 := fun c hc => ⟨(b c hc).1.trans (a c hc).1, (b c hc).2.trans (a c hc).2⟩
theorem FI.mo {lo hi l2 h2 : Nat} {h h1 : Hp} (a : FI lo hi h h1) (e : l2 ≤ lo ∧ hi ≤ h2) : FI l2 h2 h h1 := fun c hc => a c (fun q => hc (by omega))
theorem fi_uf {lo hi : Nat} {h h1 : Hp} {k j : Nat} {v : Int32} (a : FI lo hi h h1) (hk : lo ≤ k ∧ k < hi) : FI lo hi h (uf h1 k j v) := a.tr (fun c hc => ⟨uf_ne (fun q => hc (q ▸ hk)), rfl⟩)
theorem fi_ux {lo hi : Nat} {h h1 : Hp} {k : Nat} {i v : Int32} (a : FI lo hi h h1) (hk : lo ≤ k ∧ k < hi) : FI lo hi h (ux h1 k i v) := a.tr (fun c hc => ⟨uf_ne (fun q => hc (q ▸ hk)), rfl⟩)
theorem fi_uy {lo hi : Nat} {h h1 : Hp} {k : Nat} {i : Int32} {v : Int64} (a : FI lo hi h h1) (hk : lo ≤ k ∧ k < hi) : FI lo hi h (uy h1 k i v) := a.tr (fun c hc => ⟨rfl, ul_ne (fun q => hc (q ▸ hk))⟩)
theorem fi_ucp {lo hi : Nat} {h h1 : Hp} {a b : Nat} {i j n : Int32} (e : FI lo hi h h1) (hk : lo ≤ b ∧ b < hi) : FI lo hi h (ucp h1 a b i j n) := e.tr (fun c hc => ⟨by unfold ucp; simp [show c ≠ b from fun q => hc (q ▸ hk)], rfl⟩)
section FOS
variable {α : Type} {lo hi : Nat} {h : Hp} {g : α → Hp}
theorem fo_some {u : α} (e : FI lo hi h (g u)) : FO lo hi h g (some u) := fun v hv => by cases hv; exact e
theorem fo_none : FO lo hi h g none := fun v hv => by cases hv
theorem fo_ite {c : Prop} [Decidable c] {a b : Option α} (h1 : FO lo hi h g a) (h2 : FO lo hi h g b) : FO lo hi h g (if c then a else b) := by
  by_cases hc : c
  · rw [if_pos hc]; exact h1
  · rw [if_neg hc]; exact h2
theorem fo_ck {i : Int32} {N : Nat} {o : Option α} (h1 : i.toNatClampNeg < N → FO lo hi h g o) : FO lo hi h g (ck i N o) := by
  unfold ck
  by_cases hc : ¬ (i < 0 ∨ N ≤ i.toNatClampNeg)
  · rw [if_pos hc]; exact h1 (Nat.not_le.mp fun q => hc (Or.inr q))
  · rw [if_neg hc]; exact fo_none
theorem fo_cy {c : Prop} [Decidable c] {o : Option α} (h1 : c → FO lo hi h g o) : FO lo hi h g (cy c o) := by
  unfold cy
  by_cases hc : c
  · rw [if_pos hc]; exact h1 hc
  · rw [if_neg hc]; exact fo_none
theorem fo_cn {c : Prop} [Decidable c] {o : Option α} (h1 : FO lo hi h g o) : FO lo hi h g (cn c o) := by
  unfold cn
  by_cases hc : c
  · rw [if_pos hc]; exact fo_none
  · rw [if_neg hc]; exact h1
theorem fo_nh {e : Hp} {T : Hp → Option α} (h1 : FI lo hi h e) (h2 : ∀ h1, FI lo hi h h1 → FO lo hi h g (T h1)) : FO lo hi h g (nm e T) := h2 e h1
theorem fo_ni {e : Int32} {T : Int32 → Option α} (h2 : ∀ x, FO lo hi h g (T x)) : FO lo hi h g (nm e T) := h2 e
theorem fo_nl {e : Int64} {T : Int64 → Option α} (h2 : ∀ x, FO lo hi h g (T x)) : FO lo hi h g (nm e T) := h2 e
theorem fo_bdr {β : Type} {o : Option β} {T : β → Option α} (h2 : ∀ x, FO lo hi h g (T x)) : FO lo hi h g (bdr o T) := by
  cases o with
  | none => exact fo_none
  | some b => exact h2 b
theorem fo_bnd {β : Type} {o : Option (Hp × β)} {T : Hp → β → Option α} (h1 : ∀ u, o = some u → FI lo hi h u.1) (h2 : ∀ h1 x, FI lo hi h h1 → FO lo hi h g (T h1 x)) : FO lo hi h g (bnd o T) := by
  cases o with
  | none => exact fo_none
  | some b => exact h2 b.1 b.2 (h1 b rfl)
theorem fo_bdv {o : Option Hp} {T : Hp → Option α} (h1 : ∀ u, o = some u → FI lo hi h u) (h2 : ∀ h1, FI lo hi h h1 → FO lo hi h g (T h1)) : FO lo hi h g (bdv o T) := by
  cases o with
  | none => exact fo_none
  | some b => exact h2 b (h1 b rfl)
theorem fo_lt1h {k : Hp → Option α} {b : (Hp → Option α) → Option α} (J : ∀ a1, FI lo hi h a1 → FO lo hi h g (k a1)) (B : ∀ k : Hp → Option α, (∀ a1, FI lo hi h a1 → FO lo hi h g (k a1)) → FO lo hi h g (b k)) : FO lo hi h g (lt1 k b) := B k J
theorem fo_fx1h {n : Nat} {F : (Hp → Option α) → Hp → Option α} (H : ∀ self : Hp → Option α, (∀ a1, FI lo hi h a1 → FO lo hi h g (self a1)) → ∀ a1, FI lo hi h a1 → FO lo hi h g (F self a1)) : ∀ a1, FI lo hi h a1 → FO lo hi h g (fx1 n F a1) := by
  induction n with
  | zero => intro a1 _ u hu; cases hu
  | succ n ih => exact H (fx1 n F) ih
theorem fo_lt1 {A1 : Type} {k : A1 → Option α} {b : (A1 → Option α) → Option α} (J : ∀ a1, FO lo hi h g (k a1)) (B : ∀ k : A1 → Option α, (∀ a1, FO lo hi h g (k a1)) → FO lo hi h g (b k)) : FO lo hi h g (lt1 k b) := B k J
theorem fo_fx1 {A1 : Type} {n : Nat} {F : (A1 → Option α) → A1 → Option α} (H : ∀ self : A1 → Option α, (∀ a1, FO lo hi h g (self a1)) → ∀ a1, FO lo hi h g (F self a1)) : ∀ a1, FO lo hi h g (fx1 n F a1) := by
  induction n with
  | zero => intro a1 u hu; cases hu
  | succ n ih => exact H (fx1 n F) ih
theorem fo_lt2h {A2 : Type} {k : Hp → A2 → Option α} {b : (Hp → A2 → Option α) → Option α} (J : ∀ a1 a2, FI lo hi h a1 → FO lo hi h g (k a1 a2)) (B : ∀ k : Hp → A2 → Option α, (∀ a1 a2, FI lo hi h a1 → FO lo hi h g (k a1 a2)) → FO lo hi h g (b k)) : FO lo hi h g (lt2 k b) := B k J
theorem fo_fx2h {A2 : Type} {n : Nat} {F : (Hp → A2 → Option α) → Hp → A2 → Option α} (H : ∀ self : Hp → A2 → Option α, (∀ a1 a2, FI lo hi h a1 → FO lo hi h g (self a1 a2)) → ∀ a1 a2, FI lo hi h a1 → FO lo hi h g (F self a1 a2)) : ∀ a1 a2, FI lo hi h a1 → FO lo hi h g (fx2 n F a1 a2) := by
  induction n with
  | zero => intro a1 a2 _ u hu; cases hu
  | succ n ih => exact H (fx2 n F) ih
theorem fo_lt2 {A1 A2 : Type} {k : A1 → A2 → Option α} {b : (A1 → A2 → Option α) → Option α} (J : ∀ a1 a2, FO lo hi h g (k a1 a2)) (B : ∀ k : A1 → A2 → Option α, (∀ a1 a2, FO lo hi h g (k a1 a2)) → FO lo hi h g (b k)) : FO lo hi h g (lt2 k b) := B k J
theorem fo_fx2 {A1 A2 : Type} {n : Nat} {F : (A1 → A2 → Option α) → A1 → A2 → Option α} (H : ∀ self : A1 → A2 → Option α, (∀ a1 a2, FO lo hi h g (self a1 a2)) → ∀ a1 a2, FO lo hi h g (F self a1 a2)) : ∀ a1 a2, FO lo hi h g (fx2 n F a1 a2) := by
  induction n with
  | zero => intro a1 a2 u hu; cases hu
  | succ n ih => exact H (fx2 n F) ih
theorem fo_lt3h {A2 A3 : Type} {k : Hp → A2 → A3 → Option α} {b : (Hp → A2 → A3 → Option α) → Option α} (J : ∀ a1 a2 a3, FI lo hi h a1 → FO lo hi h g (k a1 a2 a3)) (B : ∀ k : Hp → A2 → A3 → Option α, (∀ a1 a2 a3, FI lo hi h a1 → FO lo hi h g (k a1 a2 a3)) → FO lo hi h g (b k)) : FO lo hi h g (lt3 k b) := B k J
theorem fo_fx3h {A2 A3 : Type} {n : Nat} {F : (Hp → A2 → A3 → Option α) → Hp → A2 → A3 → Option α} (H : ∀ self : Hp → A2 → A3 → Option α, (∀ a1 a2 a3, FI lo hi h a1 → FO lo hi h g (self a1 a2 a3)) → ∀ a1 a2 a3, FI lo hi h a1 → FO lo hi h g (F self a1 a2 a3)) : ∀ a1 a2 a3, FI lo hi h a1 → FO lo hi h g (fx3 n F a1 a2 a3) := by
  induction n with
  | zero => intro a1 a2 a3 _ u hu; cases hu
  | succ n ih => exact H (fx3 n F) ih
theorem fo_lt3 {A1 A2 A3 : Type} {k : A1 → A2 → A3 → Option α} {b : (A1 → A2 → A3 → Option α) → Option α} (J : ∀ a1 a2 a3, FO lo hi h g (k a1 a2 a3)) (B : ∀ k : A1 → A2 → A3 → Option α, (∀ a1 a2 a3, FO lo hi h g (k a1 a2 a3)) → FO lo hi h g (b k)) : FO lo hi h g (lt3 k b) := B k J
theorem fo_fx3 {A1 A2 A3 : Type} {n : Nat} {F : (A1 → A2 → A3 → Option α) → A1 → A2 → A3 → Option α} (H : ∀ self : A1 → A2 → A3 → Option α, (∀ a1 a2 a3, FO lo hi h g (self a1 a2 a3)) → ∀ a1 a2 a3, FO lo hi h g (F self a1 a2 a3)) : ∀ a1 a2 a3, FO lo hi h g (fx3 n F a1 a2 a3) := by
  induction n with
  | zero => intro a1 a2 a3 u hu; cases hu
  | succ n ih => exact H (fx3 n F) ih
theorem fo_lt4h {A2 A3 A4 : Type} {k : Hp → A2 → A3 → A4 → Option α} {b : (Hp → A2 → A3 → A4 → Option α) → Option α} (J : ∀ a1 a2 a3 a4, FI lo hi h a1 → FO lo hi h g (k a1 a2 a3 a4)) (B : ∀ k : Hp → A2 → A3 → A4 → Option α, (∀ a1 a2 a3 a4, FI lo hi h a1 → FO lo hi h g (k a1 a2 a3 a4)) → FO lo hi h g (b k)) : FO lo hi h g (lt4 k b) := B k J
theorem fo_fx4h {A2 A3 A4 : Type} {n : Nat} {F : (Hp → A2 → A3 → A4 → Option α) → Hp → A2 → A3 → A4 → Option α} (H : ∀ self : Hp → A2 → A3 → A4 → Option α, (∀ a1 a2 a3 a4, FI lo hi h a1 → FO lo hi h g (self a1 a2 a3 a4)) → ∀ a1 a2 a3 a4, FI lo hi h a1 → FO lo hi h g (F self a1 a2 a3 a4)) : ∀ a1 a2 a3 a4, FI lo hi h a1 → FO lo hi h g (fx4 n F a1 a2 a3 a4) := by
  induction n with
  | zero => intro a1 a2 a3 a4 _ u hu; cases hu
  | succ n ih => exact H (fx4 n F) ih
theorem fo_lt4 {A1 A2 A3 A4 : Type} {k : A1 → A2 → A3 → A4 → Option α} {b : (A1 → A2 → A3 → A4 → Option α) → Option α} (J : ∀ a1 a2 a3 a4, FO lo hi h g (k a1 a2 a3 a4)) (B : ∀ k : A1 → A2 → A3 → A4 → Option α, (∀ a1 a2 a3 a4, FO lo hi h g (k a1 a2 a3 a4)) → FO lo hi h g (b k)) : FO lo hi h g (lt4 k b) := B k J
theorem fo_fx4 {A1 A2 A3 A4 : Type} {n : Nat} {F : (A1 → A2 → A3 → A4 → Option α) → A1 → A2 → A3 → A4 → Option α} (H : ∀ self : A1 → A2 → A3 → A4 → Option α, (∀ a1 a2 a3 a4, FO lo hi h g (self a1 a2 a3 a4)) → ∀ a1 a2 a3 a4, FO lo hi h g (F self a1 a2 a3 a4)) : ∀ a1 a2 a3 a4, FO lo hi h g (fx4 n F a1 a2 a3 a4) := by
  induction n with
  | zero => intro a1 a2 a3 a4 u hu; cases hu
  | succ n ih => exact H (fx4 n F) ih
theorem fo_lt5h {A2 A3 A4 A5 : Type} {k : Hp → A2 → A3 → A4 → A5 → Option α} {b : (Hp → A2 → A3 → A4 → A5 → Option α) → Option α} (J : ∀ a1 a2 a3 a4 a5, FI lo hi h a1 → FO lo hi h g (k a1 a2 a3 a4 a5)) (B : ∀ k : Hp → A2 → A3 → A4 → A5 → Option α, (∀ a1 a2 a3 a4 a5, FI lo hi h a1 → FO lo hi h g (k a1 a2 a3 a4 a5)) → FO lo hi h g (b k)) : FO lo hi h g (lt5 k b) := B k J
theorem fo_fx5h {A2 A3 A4 A5 : Type} {n : Nat} {F : (Hp → A2 → A3 → A4 → A5 → Option α) → Hp → A2 → A3 → A4 → A5 → Option α} (H : ∀ self : Hp → A2 → A3 → A4 → A5 → Option α, (∀ a1 a2 a3 a4 a5, FI lo hi h a1 → FO lo hi h g (self a1 a2 a3 a4 a5)) → ∀ a1 a2 a3 a4 a5, FI lo hi h a1 → FO lo hi h g (F self a1 a2 a3 a4 a5)) : ∀ a1 a2 a3 a4 a5, FI lo hi h a1 → FO lo hi h g (fx5 n F a1 a2 a3 a4 a5) := by
  induction n with
  | zero => intro a1 a2 a3 a4 a5 _ u hu; cases hu
  | succ n ih => exact H (fx5 n F) ih
theorem fo_lt5 {A1 A2 A3 A4 A5 : Type} {k : A1 → A2 → A3 → A4 → A5 → Option α} {b : (A1 → A2 → A3 → A4 → A5 → Option α) → Option α} (J : ∀ a1 a2 a3 a4 a5, FO lo hi h g (k a1 a2 a3 a4 a5)) (B : ∀ k : A1 → A2 → A3 → A4 → A5 → Option α, (∀ a1 a2 a3 a4 a5, FO lo hi h g (k a1 a2 a3 a4 a5)) → FO lo hi h g (b k)) : FO lo hi h g (lt5 k b) := B k J
theorem fo_fx5 {A1 A2 A3 A4 A5 : Type} {n : Nat} {F : (A1 → A2 → A3 → A4 → A5 → Option α) → A1 → A2 → A3 → A4 → A5 → Option α} (H : ∀ self : A1 → A2 → A3 → A4 → A5 → Option α, (∀ a1 a2 a3 a4 a5, FO lo hi h g (self a1 a2 a3 a4 a5)) → ∀ a1 a2 a3 a4 a5, FO lo hi h g (F self a1 a2 a3 a4 a5)) : ∀ a1 a2 a3 a4 a5, FO lo hi h g (fx5 n F a1 a2 a3 a4 a5) := by
  induction n with
  | zero => intro a1 a2 a3 a4 a5 u hu; cases hu
  | succ n ih => exact H (fx5 n F) ih
theorem fo_lt6h {A2 A3 A4 A5 A6 : Type} {k : Hp → A2 → A3 → A4 → A5 → A6 → Option α} {b : (Hp → A2 → A3 → A4 → A5 → A6 → Option α) → Option α} (J : ∀ a1 a2 a3 a4 a5 a6, FI lo hi h a1 → FO lo hi h g (k a1 a2 a3 a4 a5 a6)) (B : ∀ k : Hp → A2 → A3 → A4 → A5 → A6 → Option α, (∀ a1 a2 a3 a4 a5 a6, FI lo hi h a1 → FO lo hi h g (k a1 a2 a3 a4 a5 a6)) → FO lo hi h g (b k)) : FO lo hi h g (lt6 k b) := B k J
theorem fo_fx6h {A2 A3 A4 A5 A6 : Type} {n : Nat} {F : (Hp → A2 → A3 → A4 → A5 → A6 → Option α) → Hp → A2 → A3 → A4 → A5 → A6 → Option α} (H : ∀ self : Hp → A2 → A3 → A4 → A5 → A6 → Option α, (∀ a1 a2 a3 a4 a5 a6, FI lo hi h a1 → FO lo hi h g (self a1 a2 a3 a4 a5 a6)) → ∀ a1 a2 a3 a4 a5 a6, FI lo hi h a1 → FO lo hi h g (F self a1 a2 a3 a4 a5 a6)) : ∀ a1 a2 a3 a4 a5 a6, FI lo hi h a1 → FO lo hi h g (fx6 n F a1 a2 a3 a4 a5 a6) := by
  induction n with
  | zero => intro a1 a2 a3 a4 a5 a6 _ u hu; cases hu
  | succ n ih => exact H (fx6 n F) ih
theorem fo_lt6 {A1 A2 A3 A4 A5 A6 : Type} {k : A1 → A2 → A3 → A4 → A5 → A6 → Option α} {b : (A1 → A2 → A3 → A4 → A5 → A6 → Option α) → Option α} (J : ∀ a1 a2 a3 a4 a5 a6, FO lo hi h g (k a1 a2 a3 a4 a5 a6)) (B : ∀ k : A1 → A2 → A3 → A4 → A5 → A6 → Option α, (∀ a1 a2 a3 a4 a5 a6, FO lo hi h g (k a1 a2 a3 a4 a5 a6)) → FO lo hi h g (b k)) : FO lo hi h g (lt6 k b) := B k J
theorem fo_fx6 {A1 A2 A3 A4 A5 A6 : Type} {n : Nat} {F : (A1 → A2 → A3 → A4 → A5 → A6 → Option α) → A1 → A2 → A3 → A4 → A5 → A6 → Option α} (H : ∀ self : A1 → A2 → A3 → A4 → A5 → A6 → Option α, (∀ a1 a2 a3 a4 a5 a6, FO lo hi h g (self a1 a2 a3 a4 a5 a6)) → ∀ a1 a2 a3 a4 a5 a6, FO lo hi h g (F self a1 a2 a3 a4 a5 a6)) : ∀ a1 a2 a3 a4 a5 a6, FO lo hi h g (fx6 n F a1 a2 a3 a4 a5 a6) := by
  induction n with
  | zero => intro a1 a2 a3 a4 a5 a6 u hu; cases hu
  | succ n ih => exact H (fx6 n F) ih
theorem fo_lt7h {A2 A3 A4 A5 A6 A7 : Type} {k : Hp → A2 → A3 → A4 → A5 → A6 → A7 → Option α} {b : (Hp → A2 → A3 → A4 → A5 → A6 → A7 → Option α) → Option α} (J : ∀ a1 a2 a3 a4 a5 a6 a7, FI lo hi h a1 → FO lo hi h g (k a1 a2 a3 a4 a5 a6 a7)) (B : ∀ k : Hp → A2 → A3 → A4 → A5 → A6 → A7 → Option α, (∀ a1 a2 a3 a4 a5 a6 a7, FI lo hi h a1 → FO lo hi h g (k a1 a2 a3 a4 a5 a6 a7)) → FO lo hi h g (b k)) : FO lo hi h g (lt7 k b) := B k J
theorem fo_fx7h {A2 A3 A4 A5 A6 A7 : Type} {n : Nat} {F : (Hp → A2 → A3 → A4 → A5 → A6 → A7 → Option α) → Hp → A2 → A3 → A4 → A5 → A6 → A7 → Option α} (H : ∀ self : Hp → A2 → A3 → A4 → A5 → A6 → A7 → Option α, (∀ a1 a2 a3 a4 a5 a6 a7, FI lo hi h a1 → FO lo hi h g (self a1 a2 a3 a4 a5 a6 a7)) → ∀ a1 a2 a3 a4 a5 a6 a7, FI lo hi h a1 → FO lo hi h g (F self a1 a2 a3 a4 a5 a6 a7)) : ∀ a1 a2 a3 a4 a5 a6 a7, FI lo hi h a1 → FO lo hi h g (fx7 n F a1 a2 a3 a4 a5 a6 a7) := by
  induction n with
  | zero => intro a1 a2 a3 a4 a5 a6 a7 _ u hu; cases hu
  | succ n ih => exact H (fx7 n F) ih
theorem fo_lt7 {A1 A2 A3 A4 A5 A6 A7 : Type} {k : A1 → A2 → A3 → A4 → A5 → A6 → A7 → Option α} {b : (A1 → A2 → A3 → A4 → A5 → A6 → A7 → Option α) → Option α} (J : ∀ a1 a2 a3 a4 a5 a6 a7, FO lo hi h g (k a1 a2 a3 a4 a5 a6 a7)) (B : ∀ k : A1 → A2 → A3 → A4 → A5 → A6 → A7 → Option α, (∀ a1 a2 a3 a4 a5 a6 a7, FO lo hi h g (k a1 a2 a3 a4 a5 a6 a7)) → FO lo hi h g (b k)) : FO lo hi h g (lt7 k b) := B k J
theorem fo_fx7 {A1 A2 A3 A4 A5 A6 A7 : Type} {n : Nat} {F : (A1 → A2 → A3 → A4 → A5 → A6 → A7 → Option α) → A1 → A2 → A3 → A4 → A5 → A6 → A7 → Option α} (H : ∀ self : A1 → A2 → A3 → A4 → A5 → A6 → A7 → Option α, (∀ a1 a2 a3 a4 a5 a6 a7, FO lo hi h g (self a1 a2 a3 a4 a5 a6 a7)) → ∀ a1 a2 a3 a4 a5 a6 a7, FO lo hi h g (F self a1 a2 a3 a4 a5 a6 a7)) : ∀ a1 a2 a3 a4 a5 a6 a7, FO lo hi h g (fx7 n F a1 a2 a3 a4 a5 a6 a7) := by
  induction n with
  | zero => intro a1 a2 a3 a4 a5 a6 a7 u hu; cases hu
  | succ n ih => exact H (fx7 n F) ih
end FOS
