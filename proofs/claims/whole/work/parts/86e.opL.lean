theorem or0 (x : Int32) : x ||| 0 = x := Int32.or_zero
/-- as told, but for what is left out -/
def MG (m h : Hp) : Prop := MT m (uf h 68 14 0)
theorem mg_of {m h : Hp} (M : MOK m) (T : MT m h) : MG m h := by
  unfold MG
  rw [uf_sm]
  · exact T
  · exact (T.1.2.2.2.2.2.2.2.2.2.2.1.trans M.2.2.2.2.1).symm
theorem mg_tm {m h : Hp} (G : MG m h) (w : Int32) : TM (wWo (inp m) w) (uf h 68 14 w) := by
  have := tm_14 (w := w) G.2.1
  rw [uf_uf] at this
  exact this
theorem mg_km {m h h2 : Hp} {w : Int32} (M : MOK m) (G : MG m h) (K : KM (uf h 68 14 w) h2) : MG m h2 := by
  refine MT.km G (km_14 (w := w) M G ?_)
  rw [uf_uf]; exact K
theorem mg_12 {m h : Hp} (G : MG m h) : h.1 68 12 = nI (nEv m) := by
  have := G.2.1.2.1
  rw [uf_get, if_neg (by decide)] at this
  exact this
