theorem cr_56 {m h : Hp} (C : CR m h) (e : h.1 0 12 = 0) (z : Nat) (v : Int32) : CR m (uf h 56 z v) ∧ (uf h 56 z v).1 0 12 = 0 := by
  have f : ∀ c, c ≠ 56 → (uf h 56 z v).1 c = h.1 c := fun c q => uf_ne q
  obtain ⟨c1, c2, c3, c4, c5, c6, c7⟩ := C
  have e2 : (uf h 56 z v).1 0 12 = 0 := by rw [f 0 (by decide)]; exact e
  refine ⟨⟨c1.ke (fun c q r => f c (by omega)), c2.ke (fun c q r => f c (by omega)) (f 9 (by decide)), c3.ke (fun c q r => f c (by omega)), c4.ke (fun c q r => f c (by omega)), by rw [f 0 (by decide)]; exact c5, ?_, Or.inl e2⟩, e2⟩
  rw [f 0 (by decide)]
  exact c6.imp id (fun s => s.ke (fun c q r => f c (by omega)))
