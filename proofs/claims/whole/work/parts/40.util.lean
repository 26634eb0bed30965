/-! the pure side: total correctness of the decompiled functions -/
def Ok {α : Type} (o : Option α) (P : α → Prop) : Prop := ∃ a, o = some a ∧ P a
theorem ok_some {α : Type} {a : α} {P : α → Prop} (h : P a) : Ok (some a) P := ⟨a, rfl, h⟩
theorem ok_mono {α : Type} {o : Option α} {P Q : α → Prop} (h : Ok o P) (k : ∀ a, P a → Q a) : Ok o Q := by
  obtain ⟨a, e, p⟩ := h; exact ⟨a, e, k a p⟩
theorem ok_nm {α β : Type} {e : α} {T : α → Option β} {P : β → Prop} (h : Ok (T e) P) : Ok (nm e T) P := h
theorem ok_ite {α : Type} {c : Prop} [Decidable c] {a b : Option α} {P : α → Prop} (h1 : c → Ok a P) (h2 : ¬ c → Ok b P) : Ok (if c then a else b) P := by
  by_cases hc : c
  · rw [if_pos hc]; exact h1 hc
  · rw [if_neg hc]; exact h2 hc
theorem ok_ck {α : Type} {i : Int32} {N : Nat} {o : Option α} {P : α → Prop} (hi : vp_in i N) (h : Ok o P) : Ok (ck i N o) P := by
  unfold ck; rw [if_pos (show ¬ (i < 0 ∨ N ≤ i.toNatClampNeg) from hi)]; exact h
theorem ok_cy {α : Type} {c : Prop} [Decidable c] {o : Option α} {P : α → Prop} (hc : c) (h : Ok o P) : Ok (cy c o) P := by
  unfold cy; rw [if_pos hc]; exact h
theorem ok_cn {α : Type} {c : Prop} [Decidable c] {o : Option α} {P : α → Prop} (hc : ¬ c) (h : Ok o P) : Ok (cn c o) P := by
  unfold cn; rw [if_neg hc]; exact h
theorem ok_bnd {α β : Type} {o : Option (Hp × α)} {T : Hp → α → Option β} {Q : Hp × α → Prop} {P : β → Prop} (h : Ok o Q) (k : ∀ h' a, Q (h', a) → Ok (T h' a) P) : Ok (bnd o T) P := by
  obtain ⟨⟨h', a⟩, e, q⟩ := h; rw [e]; exact k h' a q
theorem ok_bdv {β : Type} {o : Option Hp} {T : Hp → Option β} {Q : Hp → Prop} {P : β → Prop} (h : Ok o Q) (k : ∀ h', Q h' → Ok (T h') P) : Ok (bdv o T) P := by
  obtain ⟨h', e, q⟩ := h; rw [e]; exact k h' q
theorem ok_bdr {α β : Type} {o : Option α} {T : α → Option β} {Q : α → Prop} {P : β → Prop} (h : Ok o Q) (k : ∀ a, Q a → Ok (T a) P) : Ok (bdr o T) P := by
  obtain ⟨a, e, q⟩ := h; rw [e]; exact k a q
theorem ok_lt1 {A1 Out : Type} {k : A1 → Option Out} {b : (A1 → Option Out) → Option Out} {P : Out → Prop} (K : A1 → Prop) (hk : ∀ a1, K a1 → Ok (k a1) P) (hb : ∀ k : A1 → Option Out, (∀ a1, K a1 → Ok (k a1) P) → Ok (b k) P) : Ok (lt1 k b) P := hb k hk
theorem ok_fxn1 {A1 Out : Type} {F : (A1 → Option Out) → A1 → Option Out} {P : Out → Prop} (I : Nat → A1 → Prop) (hs : ∀ m (self : A1 → Option Out) a1, I m a1 → (∀ m' b1, m' < m → I m' b1 → Ok (self b1) P) → Ok (F self a1) P) : ∀ f m a1, m < f → I m a1 → Ok (fx1 f F a1) P := by
  intro f
  induction f with
  | zero => intro m a1 h; omega
  | succ f ih =>
    intro m a1 h hI
    exact hs m (fx1 f F) a1 hI (fun m' b1 h1 h2 => ih m' b1 (by omega) h2)
theorem ok_fx1 {A1 Out : Type} {F : (A1 → Option Out) → A1 → Option Out} {P : Out → Prop} (I : Nat → A1 → Prop) (m : Nat) (hm : m < 1000) {a1} (h0 : I m a1) (hs : ∀ m (self : A1 → Option Out) a1, I m a1 → (∀ m' b1, m' < m → I m' b1 → Ok (self b1) P) → Ok (F self a1) P) : Ok (fx1 FU F a1) P := ok_fxn1 I hs FU m a1 hm h0
theorem ok_lt2 {A1 A2 Out : Type} {k : A1 → A2 → Option Out} {b : (A1 → A2 → Option Out) → Option Out} {P : Out → Prop} (K : A1 → A2 → Prop) (hk : ∀ a1 a2, K a1 a2 → Ok (k a1 a2) P) (hb : ∀ k : A1 → A2 → Option Out, (∀ a1 a2, K a1 a2 → Ok (k a1 a2) P) → Ok (b k) P) : Ok (lt2 k b) P := hb k hk
theorem ok_fxn2 {A1 A2 Out : Type} {F : (A1 → A2 → Option Out) → A1 → A2 → Option Out} {P : Out → Prop} (I : Nat → A1 → A2 → Prop) (hs : ∀ m (self : A1 → A2 → Option Out) a1 a2, I m a1 a2 → (∀ m' b1 b2, m' < m → I m' b1 b2 → Ok (self b1 b2) P) → Ok (F self a1 a2) P) : ∀ f m a1 a2, m < f → I m a1 a2 → Ok (fx2 f F a1 a2) P := by
  intro f
  induction f with
  | zero => intro m a1 a2 h; omega
  | succ f ih =>
    intro m a1 a2 h hI
    exact hs m (fx2 f F) a1 a2 hI (fun m' b1 b2 h1 h2 => ih m' b1 b2 (by omega) h2)
theorem ok_fx2 {A1 A2 Out : Type} {F : (A1 → A2 → Option Out) → A1 → A2 → Option Out} {P : Out → Prop} (I : Nat → A1 → A2 → Prop) (m : Nat) (hm : m < 1000) {a1 a2} (h0 : I m a1 a2) (hs : ∀ m (self : A1 → A2 → Option Out) a1 a2, I m a1 a2 → (∀ m' b1 b2, m' < m → I m' b1 b2 → Ok (self b1 b2) P) → Ok (F self a1 a2) P) : Ok (fx2 FU F a1 a2) P := ok_fxn2 I hs FU m a1 a2 hm h0
theorem ok_lt3 {A1 A2 A3 Out : Type} {k : A1 → A2 → A3 → Option Out} {b : (A1 → A2 → A3 → Option Out) → Option Out} {P : Out → Prop} (K : A1 → A2 → A3 → Prop) (hk : ∀ a1 a2 a3, K a1 a2 a3 → Ok (k a1 a2 a3) P) (hb : ∀ k : A1 → A2 → A3 → Option Out, (∀ a1 a2 a3, K a1 a2 a3 → Ok (k a1 a2 a3) P) → Ok (b k) P) : Ok (lt3 k b) P := hb k hk
theorem ok_fxn3 {A1 A2 A3 Out : Type} {F : (A1 → A2 → A3 → Option Out) → A1 → A2 → A3 → Option Out} {P : Out → Prop} (I : Nat → A1 → A2 → A3 → Prop) (hs : ∀ m (self : A1 → A2 → A3 → Option Out) a1 a2 a3, I m a1 a2 a3 → (∀ m' b1 b2 b3, m' < m → I m' b1 b2 b3 → Ok (self b1 b2 b3) P) → Ok (F self a1 a2 a3) P) : ∀ f m a1 a2 a3, m < f → I m a1 a2 a3 → Ok (fx3 f F a1 a2 a3) P := by
  intro f
  induction f with
  | zero => intro m a1 a2 a3 h; omega
  | succ f ih =>
    intro m a1 a2 a3 h hI
    exact hs m (fx3 f F) a1 a2 a3 hI (fun m' b1 b2 b3 h1 h2 => ih m' b1 b2 b3 (by omega) h2)
theorem ok_fx3 {A1 A2 A3 Out : Type} {F : (A1 → A2 → A3 → Option Out) → A1 → A2 → A3 → Option Out} {P : Out → Prop} (I : Nat → A1 → A2 → A3 → Prop) (m : Nat) (hm : m < 1000) {a1 a2 a3} (h0 : I m a1 a2 a3) (hs : ∀ m (self : A1 → A2 → A3 → Option Out) a1 a2 a3, I m a1 a2 a3 → (∀ m' b1 b2 b3, m' < m → I m' b1 b2 b3 → Ok (self b1 b2 b3) P) → Ok (F self a1 a2 a3) P) : Ok (fx3 FU F a1 a2 a3) P := ok_fxn3 I hs FU m a1 a2 a3 hm h0
theorem ok_lt4 {A1 A2 A3 A4 Out : Type} {k : A1 → A2 → A3 → A4 → Option Out} {b : (A1 → A2 → A3 → A4 → Option Out) → Option Out} {P : Out → Prop} (K : A1 → A2 → A3 → A4 → Prop) (hk : ∀ a1 a2 a3 a4, K a1 a2 a3 a4 → Ok (k a1 a2 a3 a4) P) (hb : ∀ k : A1 → A2 → A3 → A4 → Option Out, (∀ a1 a2 a3 a4, K a1 a2 a3 a4 → Ok (k a1 a2 a3 a4) P) → Ok (b k) P) : Ok (lt4 k b) P := hb k hk
theorem ok_fxn4 {A1 A2 A3 A4 Out : Type} {F : (A1 → A2 → A3 → A4 → Option Out) → A1 → A2 → A3 → A4 → Option Out} {P : Out → Prop} (I : Nat → A1 → A2 → A3 → A4 → Prop) (hs : ∀ m (self : A1 → A2 → A3 → A4 → Option Out) a1 a2 a3 a4, I m a1 a2 a3 a4 → (∀ m' b1 b2 b3 b4, m' < m → I m' b1 b2 b3 b4 → Ok (self b1 b2 b3 b4) P) → Ok (F self a1 a2 a3 a4) P) : ∀ f m a1 a2 a3 a4, m < f → I m a1 a2 a3 a4 → Ok (fx4 f F a1 a2 a3 a4) P := by
  intro f
  induction f with
  | zero => intro m a1 a2 a3 a4 h; omega
  | succ f ih =>
    intro m a1 a2 a3 a4 h hI
    exact hs m (fx4 f F) a1 a2 a3 a4 hI (fun m' b1 b2 b3 b4 h1 h2 => ih m' b1 b2 b3 b4 (by omega) h2)
theorem ok_fx4 {A1 A2 A3 A4 Out : Type} {F : (A1 → A2 → A3 → A4 → Option Out) → A1 → A2 → A3 → A4 → Option Out} {P : Out → Prop} (I : Nat → A1 → A2 → A3 → A4 → Prop) (m : Nat) (hm : m < 1000) {a1 a2 a3 a4} (h0 : I m a1 a2 a3 a4) (hs : ∀ m (self : A1 → A2 → A3 → A4 → Option Out) a1 a2 a3 a4, I m a1 a2 a3 a4 → (∀ m' b1 b2 b3 b4, m' < m → I m' b1 b2 b3 b4 → Ok (self b1 b2 b3 b4) P) → Ok (F self a1 a2 a3 a4) P) : Ok (fx4 FU F a1 a2 a3 a4) P := ok_fxn4 I hs FU m a1 a2 a3 a4 hm h0
theorem ok_lt5 {A1 A2 A3 A4 A5 Out : Type} {k : A1 → A2 → A3 → A4 → A5 → Option Out} {b : (A1 → A2 → A3 → A4 → A5 → Option Out) → Option Out} {P : Out → Prop} (K : A1 → A2 → A3 → A4 → A5 → Prop) (hk : ∀ a1 a2 a3 a4 a5, K a1 a2 a3 a4 a5 → Ok (k a1 a2 a3 a4 a5) P) (hb : ∀ k : A1 → A2 → A3 → A4 → A5 → Option Out, (∀ a1 a2 a3 a4 a5, K a1 a2 a3 a4 a5 → Ok (k a1 a2 a3 a4 a5) P) → Ok (b k) P) : Ok (lt5 k b) P := hb k hk
theorem ok_fxn5 {A1 A2 A3 A4 A5 Out : Type} {F : (A1 → A2 → A3 → A4 → A5 → Option Out) → A1 → A2 → A3 → A4 → A5 → Option Out} {P : Out → Prop} (I : Nat → A1 → A2 → A3 → A4 → A5 → Prop) (hs : ∀ m (self : A1 → A2 → A3 → A4 → A5 → Option Out) a1 a2 a3 a4 a5, I m a1 a2 a3 a4 a5 → (∀ m' b1 b2 b3 b4 b5, m' < m → I m' b1 b2 b3 b4 b5 → Ok (self b1 b2 b3 b4 b5) P) → Ok (F self a1 a2 a3 a4 a5) P) : ∀ f m a1 a2 a3 a4 a5, m < f → I m a1 a2 a3 a4 a5 → Ok (fx5 f F a1 a2 a3 a4 a5) P := by
  intro f
  induction f with
  | zero => intro m a1 a2 a3 a4 a5 h; omega
  | succ f ih =>
    intro m a1 a2 a3 a4 a5 h hI
    exact hs m (fx5 f F) a1 a2 a3 a4 a5 hI (fun m' b1 b2 b3 b4 b5 h1 h2 => ih m' b1 b2 b3 b4 b5 (by omega) h2)
theorem ok_fx5 {A1 A2 A3 A4 A5 Out : Type} {F : (A1 → A2 → A3 → A4 → A5 → Option Out) → A1 → A2 → A3 → A4 → A5 → Option Out} {P : Out → Prop} (I : Nat → A1 → A2 → A3 → A4 → A5 → Prop) (m : Nat) (hm : m < 1000) {a1 a2 a3 a4 a5} (h0 : I m a1 a2 a3 a4 a5) (hs : ∀ m (self : A1 → A2 → A3 → A4 → A5 → Option Out) a1 a2 a3 a4 a5, I m a1 a2 a3 a4 a5 → (∀ m' b1 b2 b3 b4 b5, m' < m → I m' b1 b2 b3 b4 b5 → Ok (self b1 b2 b3 b4 b5) P) → Ok (F self a1 a2 a3 a4 a5) P) : Ok (fx5 FU F a1 a2 a3 a4 a5) P := ok_fxn5 I hs FU m a1 a2 a3 a4 a5 hm h0
theorem ok_lt6 {A1 A2 A3 A4 A5 A6 Out : Type} {k : A1 → A2 → A3 → A4 → A5 → A6 → Option Out} {b : (A1 → A2 → A3 → A4 → A5 → A6 → Option Out) → Option Out} {P : Out → Prop} (K : A1 → A2 → A3 → A4 → A5 → A6 → Prop) (hk : ∀ a1 a2 a3 a4 a5 a6, K a1 a2 a3 a4 a5 a6 → Ok (k a1 a2 a3 a4 a5 a6) P) (hb : ∀ k : A1 → A2 → A3 → A4 → A5 → A6 → Option Out, (∀ a1 a2 a3 a4 a5 a6, K a1 a2 a3 a4 a5 a6 → Ok (k a1 a2 a3 a4 a5 a6) P) → Ok (b k) P) : Ok (lt6 k b) P := hb k hk
theorem ok_fxn6 {A1 A2 A3 A4 A5 A6 Out : Type} {F : (A1 → A2 → A3 → A4 → A5 → A6 → Option Out) → A1 → A2 → A3 → A4 → A5 → A6 → Option Out} {P : Out → Prop} (I : Nat → A1 → A2 → A3 → A4 → A5 → A6 → Prop) (hs : ∀ m (self : A1 → A2 → A3 → A4 → A5 → A6 → Option Out) a1 a2 a3 a4 a5 a6, I m a1 a2 a3 a4 a5 a6 → (∀ m' b1 b2 b3 b4 b5 b6, m' < m → I m' b1 b2 b3 b4 b5 b6 → Ok (self b1 b2 b3 b4 b5 b6) P) → Ok (F self a1 a2 a3 a4 a5 a6) P) : ∀ f m a1 a2 a3 a4 a5 a6, m < f → I m a1 a2 a3 a4 a5 a6 → Ok (fx6 f F a1 a2 a3 a4 a5 a6) P := by
  intro f
  induction f with
  | zero => intro m a1 a2 a3 a4 a5 a6 h; omega
  | succ f ih =>
    intro m a1 a2 a3 a4 a5 a6 h hI
    exact hs m (fx6 f F) a1 a2 a3 a4 a5 a6 hI (fun m' b1 b2 b3 b4 b5 b6 h1 h2 => ih m' b1 b2 b3 b4 b5 b6 (by omega) h2)
theorem ok_fx6 {A1 A2 A3 A4 A5 A6 Out : Type} {F : (A1 → A2 → A3 → A4 → A5 → A6 → Option Out) → A1 → A2 → A3 → A4 → A5 → A6 → Option Out} {P : Out → Prop} (I : Nat → A1 → A2 → A3 → A4 → A5 → A6 → Prop) (m : Nat) (hm : m < 1000) {a1 a2 a3 a4 a5 a6} (h0 : I m a1 a2 a3 a4 a5 a6) (hs : ∀ m (self : A1 → A2 → A3 → A4 → A5 → A6 → Option Out) a1 a2 a3 a4 a5 a6, I m a1 a2 a3 a4 a5 a6 → (∀ m' b1 b2 b3 b4 b5 b6, m' < m → I m' b1 b2 b3 b4 b5 b6 → Ok (self b1 b2 b3 b4 b5 b6) P) → Ok (F self a1 a2 a3 a4 a5 a6) P) : Ok (fx6 FU F a1 a2 a3 a4 a5 a6) P := ok_fxn6 I hs FU m a1 a2 a3 a4 a5 a6 hm h0
theorem ok_lt7 {A1 A2 A3 A4 A5 A6 A7 Out : Type} {k : A1 → A2 → A3 → A4 → A5 → A6 → A7 → Option Out} {b : (A1 → A2 → A3 → A4 → A5 → A6 → A7 → Option Out) → Option Out} {P : Out → Prop} (K : A1 → A2 → A3 → A4 → A5 → A6 → A7 → Prop) (hk : ∀ a1 a2 a3 a4 a5 a6 a7, K a1 a2 a3 a4 a5 a6 a7 → Ok (k a1 a2 a3 a4 a5 a6 a7) P) (hb : ∀ k : A1 → A2 → A3 → A4 → A5 → A6 → A7 → Option Out, (∀ a1 a2 a3 a4 a5 a6 a7, K a1 a2 a3 a4 a5 a6 a7 → Ok (k a1 a2 a3 a4 a5 a6 a7) P) → Ok (b k) P) : Ok (lt7 k b) P := hb k hk
theorem ok_fxn7 {A1 A2 A3 A4 A5 A6 A7 Out : Type} {F : (A1 → A2 → A3 → A4 → A5 → A6 → A7 → Option Out) → A1 → A2 → A3 → A4 → A5 → A6 → A7 → Option Out} {P : Out → Prop} (I : Nat → A1 → A2 → A3 → A4 → A5 → A6 → A7 → Prop) (hs : ∀ m (self : A1 → A2 → A3 → A4 → A5 → A6 → A7 → Option Out) a1 a2 a3 a4 a5 a6 a7, I m a1 a2 a3 a4 a5 a6 a7 → (∀ m' b1 b2 b3 b4 b5 b6 b7, m' < m → I m' b1 b2 b3 b4 b5 b6 b7 → Ok (self b1 b2 b3 b4 b5 b6 b7) P) → Ok (F self a1 a2 a3 a4 a5 a6 a7) P) : ∀ f m a1 a2 a3 a4 a5 a6 a7, m < f → I m a1 a2 a3 a4 a5 a6 a7 → Ok (fx7 f F a1 a2 a3 a4 a5 a6 a7) P := by
  intro f
  induction f with
  | zero => intro m a1 a2 a3 a4 a5 a6 a7 h; omega
  | succ f ih =>
    intro m a1 a2 a3 a4 a5 a6 a7 h hI
    exact hs m (fx7 f F) a1 a2 a3 a4 a5 a6 a7 hI (fun m' b1 b2 b3 b4 b5 b6 b7 h1 h2 => ih m' b1 b2 b3 b4 b5 b6 b7 (by omega) h2)
theorem ok_fx7 {A1 A2 A3 A4 A5 A6 A7 Out : Type} {F : (A1 → A2 → A3 → A4 → A5 → A6 → A7 → Option Out) → A1 → A2 → A3 → A4 → A5 → A6 → A7 → Option Out} {P : Out → Prop} (I : Nat → A1 → A2 → A3 → A4 → A5 → A6 → A7 → Prop) (m : Nat) (hm : m < 1000) {a1 a2 a3 a4 a5 a6 a7} (h0 : I m a1 a2 a3 a4 a5 a6 a7) (hs : ∀ m (self : A1 → A2 → A3 → A4 → A5 → A6 → A7 → Option Out) a1 a2 a3 a4 a5 a6 a7, I m a1 a2 a3 a4 a5 a6 a7 → (∀ m' b1 b2 b3 b4 b5 b6 b7, m' < m → I m' b1 b2 b3 b4 b5 b6 b7 → Ok (self b1 b2 b3 b4 b5 b6 b7) P) → Ok (F self a1 a2 a3 a4 a5 a6 a7) P) : Ok (fx7 FU F a1 a2 a3 a4 a5 a6 a7) P := ok_fxn7 I hs FU m a1 a2 a3 a4 a5 a6 a7 hm h0
theorem vp_lt {i N : Nat} (h : i < N) (hN : N < 2 ^ 31) : vp_in (nI i) N := vp_in_nI h hN
theorem ia_nI {h : Hp} {k i : Nat} (hi : i < 2 ^ 31) : ia h k (nI i) = h.1 k i := by unfold ia; rw [nI_clamp hi]
theorem la_nI {h : Hp} {k i : Nat} (hi : i < 2 ^ 31) : la h k (nI i) = h.2 k i := by unfold la; rw [nI_clamp hi]
theorem ux_nI {h : Hp} {k i : Nat} {v : Int32} (hi : i < 2 ^ 31) : ux h k (nI i) v = uf h k i v := by unfold ux; rw [nI_clamp hi]
theorem uy_nI {h : Hp} {k i : Nat} {v : Int64} (hi : i < 2 ^ 31) : uy h k (nI i) v = ul h k i v := by unfold uy; rw [nI_clamp hi]
theorem ck_nI {α : Type} {i N : Nat} {o : Option α} (hi : i < N) (hN : N < 2 ^ 31) : ck (nI i) N o = o := by
  unfold ck; exact if_pos (vp_in_nI hi hN)
theorem upd_eq (f : Nat → Int32) (k : Nat) (v : Int32) (j : Nat) : upd f k v j = if j = k then v else f j := rfl
theorem updL_eq (f : Nat → Int64) (k : Nat) (v : Int64) (j : Nat) : vp_updL f k v j = if j = k then v else f j := rfl
theorem uf_get {h : Hp} {k j a b : Nat} {v : Int32} : (uf h k j v).1 a b = if a = k ∧ b = j then v else h.1 a b := by
  unfold uf upd
  by_cases h1 : a = k <;> by_cases h2 : b = j <;> simp [h1, h2]
theorem ul_get {h : Hp} {k j a b : Nat} {v : Int64} : (ul h k j v).2 a b = if a = k ∧ b = j then v else h.2 a b := by
  unfold ul vp_updL
  by_cases h1 : a = k <;> by_cases h2 : b = j <;> simp [h1, h2]
/-- what lies outside the cells of S is the same -/
def Fr (S : Nat → Prop) (h h' : Hp) : Prop := ∀ c, ¬ S c → h'.1 c = h.1 c ∧ h'.2 c = h.2 c
theorem Fr.rf {S : Nat → Prop} {h : Hp} : Fr S h h := fun _ _ => ⟨rfl, rfl⟩
theorem Fr.tr {S : Nat → Prop} {h h1 h2 : Hp} (a : Fr S h h1) (b : Fr S h1 h2) : Fr S h h2 := fun c hc => ⟨(b c hc).1.trans (a c hc).1, (b c hc).2.trans (a c hc).2⟩
theorem Fr.mo {S T : Nat → Prop} {h h1 : Hp} (a : Fr S h h1) (k : ∀ c, S c → T c) : Fr T h h1 := fun c hc => a c (fun q => hc (k c q))
theorem fr_uf {S : Nat → Prop} {h : Hp} {k j : Nat} {v : Int32} (hk : S k) : Fr S h (uf h k j v) := fun c hc => ⟨uf_ne (fun q => hc (q ▸ hk)), rfl⟩
theorem fr_ux {S : Nat → Prop} {h : Hp} {k : Nat} {i v : Int32} (hk : S k) : Fr S h (ux h k i v) := fun c hc => ⟨uf_ne (fun q => hc (q ▸ hk)), rfl⟩
theorem fr_uy {S : Nat → Prop} {h : Hp} {k : Nat} {i : Int32} {v : Int64} (hk : S k) : Fr S h (uy h k i v) := fun c hc => ⟨rfl, ul_ne (fun q => hc (q ▸ hk))⟩
theorem fr_ucp {S : Nat → Prop} {h : Hp} {a b : Nat} {i j n : Int32} (hk : S b) : Fr S h (ucp h a b i j n) := fun c hc => ⟨by unfold ucp; simp [show c ≠ b from fun q => hc (q ▸ hk)], rfl⟩
