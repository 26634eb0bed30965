def PB (i : Inp) (b : Nat) (moved : Int32) (h h' : Hp) (s' : SS) : Prop := RM i h' s'.1 s'.2.1 ∧ KM h h' ∧ (∀ z, h'.1 90 z = if z = b then swayF i b moved else h.1 90 z) ∧ (∀ z, z < 6 * b → h'.1 87 z = h.1 87 z ∧ h'.1 88 z = h.1 88 z ∧ h'.1 89 z = h.1 89 z) ∧ ∀ k, k < iN i → h'.1 87 (6 * b + k) = wst (s'.1 k) ∧ h'.1 88 (6 * b + k) = wpl (s'.1 k) ∧ h'.1 89 (6 * b + k) = wle (s'.1 k)
/-- behind the record: h7 holds all but the farthest, which is the old one -/
theorem rec_PB {i : Inp} {b : Nat} {moved : Int32} {h h7 h' : Hp} {s' : SS} (hv : ∀ k, k < iN i → h7.1 79 k = wst (s'.1 k) ∧ h7.1 80 k = wpl (s'.1 k) ∧ h7.1 81 k = wle (s'.1 k) ∧ h7.1 82 k = wpo (s'.1 k) ∧ h7.1 83 k = nI (wow (s'.1 k)) ∧ h7.1 84 k = wen (s'.1 k) ∧ h7.1 85 k = wbl (s'.1 k)) (hfa : ∀ k, k < iN i → wfa (s'.1 k) = jmax (h7.1 86 k) (jabs (wle (s'.1 k)))) (h27 : h7.1 68 27 = s'.2.1) (K : KM h h7) (e90 : ∀ z, h7.1 90 z = if z = b then swayF i b moved else h.1 90 z) (e87 : ∀ z, h7.1 87 z = h.1 87 z ∧ h7.1 88 z = h.1 88 z ∧ h7.1 89 z = h.1 89 z) (r1 : ∀ c z, h'.1 c z = recF b (iN i) h7 c z) (r2 : h'.2 = h7.2) : PB i b moved h h' s' := by
  have ro : ∀ c, c ≠ 86 → c ≠ 87 → c ≠ 88 → c ≠ 89 → h'.1 c = h7.1 c := fun c h1 h2 h3 h4 => funext fun z => (r1 c z).trans (rec_o h1 h2 h3 h4)
  have o : ∀ c, c < 86 → h'.1 c = h7.1 c := fun c hc => ro c (by omega) (by omega) (by omega) (by omega)
  refine ⟨⟨fun k hk => ?_, ?_⟩, ⟨fun c hc hn => ?_, fun z z1 z2 => ?_, ?_⟩, fun z => ?_, fun z hz => ?_, fun k hk => ?_⟩
  · obtain ⟨v1, v2, v3, v4, v5, v6, v7⟩ := hv k hk
    rw [o 79 (by decide), o 80 (by decide), o 81 (by decide), o 82 (by decide), o 83 (by decide), o 84 (by decide), o 85 (by decide), r1 86 k, rec_86, if_pos hk, v3]
    exact ⟨v1, v2, rfl, v4, v5, v6, v7, (hfa k hk).symm⟩
  · rw [o 68 (by decide)]; exact h27
  · rw [ro c (by omega) (by omega) (by omega) (by omega)]; exact K.1 c hc hn
  · rw [o 68 (by decide)]; exact K.2.1 z z1 z2
  · rw [r2]; exact K.2.2
  · rw [ro 90 (by decide) (by decide) (by decide) (by decide)]; exact e90 z
  · rw [r1, r1, r1, rec_87, rec_88, rec_89, if_neg (by omega), if_neg (by omega), if_neg (by omega)]
    exact e87 z
  · obtain ⟨v1, v2, v3, -⟩ := hv k hk
    rw [r1, r1, r1, rec_87, rec_88, rec_89, if_pos (by omega), if_pos (by omega), if_pos (by omega), show 6 * b + k - 6 * b = k by omega]
    exact ⟨v1, v2, v3⟩
set_option maxHeartbeats 2000000 in
theorem p_passes {i : Inp} {b : Nat} {h : Hp} {ws : Nat → WS} {steps moved : Int32} {line : List Nat} (hI : InOk i) (hb : b < 24) (T : TM i h) (R : RM i h ws steps) (P : PI i b ws line) :
    Ok (f_X8_passes h (nI b) moved) (fun h' => PB i b moved h h' (beatF i b moved (ws, steps, line))) := by
  have hN := hI.1
  have b31 : b < 2 ^ 31 := by omega
  obtain ⟨c, hc, ec⟩ := cheer_01 i b (iNe i)
  have hp := bd_push hI b moved
  have S := pi_sc (steps := steps) hI P
  unfold f_X8_passes
  refine ok_bdv (p_happens hI hb T) (fun h1 H1 => ?_)
  obtain ⟨a1, a2, a3, a4, a5, a6⟩ := H1
  have K1 : KM h h1 := ⟨fun x q r => a4 x r (by omega) (by omega), fun z _ z2 => a5 z z2, a6⟩
  simp only [lt1_if]
  rw [show h1.1 77 1 = iSla i from (km_tm K1 T).2.2.2.1, sway_eq hb]
  simp only [ck_nI hb (show 24 < 2 ^ 31 by decide), nm_eq, ux_nI b31, ia_nI b31]
  rw [show (uf h1 90 b (swayF i b moved)).1 90 b = swayF i b moved by simp [uf_get]]
  have t4 : (uf h1 90 b (swayF i b moved)).1 68 7 = nI (iN i) := by rw [uf_ne (by decide)]; exact (km_tm K1 T).1
  refine ok_bdv (p_leans hN t4) (fun h5 H5 => ?_)
  obtain ⟨l1, l2, l3⟩ := H5
  have K5 : KM h h5 := ⟨fun x q r => by rw [l1 x (by omega), uf_ne (by omega)]; exact K1.1 x q r, fun z z1 z2 => by rw [l1 68 (by decide), uf_ne (by decide)]; exact K1.2.1 z z1 z2, l2.trans K1.2.2⟩
  have T5 := km_tm K5 T
  have o5 : ∀ x, x ≠ 68 → x ≠ 81 → x ≠ 82 → x ≠ 90 → h5.1 x = h.1 x := fun x q1 q2 q3 q4 => by rw [l1 x q2, uf_ne q4]; exact a4 x q1 q2 q3
  have tc : h5.1 68 28 = nI c := by rw [l1 68 (by decide), uf_ne (by decide), a1, ec]
  have ion : ∀ k, k < iN i → (k ∈ line.filter (onB (dropF i b ws)) ↔ wst (ws k) = 1) := by
    intro k hk
    rw [List.mem_filter, P.1.2.2.1 k hk]
    unfold onB
    rw [decide_eq_true_iff, (drop_same i b ws k).1]
    constructor
    · exact fun q => q.2
    · intro q
      exact ⟨by rw [q]; decide, q⟩
  have R5 : RS i h5 h5 (gustN i b (iNe i) + swayF i b moved) (dropF i b ws, steps, 1000) (line.filter (onB (dropF i b ws))) := by
    refine ⟨fun k hk => ?_, ?_, fun _ _ _ _ _ _ _ _ => rfl, fun _ _ => rfl, rfl⟩
    · obtain ⟨r1, r2, r3, r4, r5, r6, r7, r8⟩ := R.1 k hk
      obtain ⟨d1, d2, d3, d4, d5, d6, d7⟩ := drop_same i b ws k
      show h5.1 79 k = wst (dropF i b ws k) ∧ h5.1 80 k = wpl (dropF i b ws k) ∧ h5.1 81 k = (if _ then wle (dropF i b ws k) + _ else wle (dropF i b ws k)) ∧ h5.1 82 k = wpo (dropF i b ws k) ∧ h5.1 83 k = nI (wow (dropF i b ws k)) ∧ h5.1 84 k = wen (dropF i b ws k) ∧ h5.1 85 k = wbl (dropF i b ws k)
      rw [d1, d2, d3, d4, d5, d6, o5 79 (by decide) (by decide) (by decide) (by decide), o5 80 (by decide) (by decide) (by decide) (by decide), o5 83 (by decide) (by decide) (by decide) (by decide), o5 84 (by decide) (by decide) (by decide) (by decide), o5 85 (by decide) (by decide) (by decide) (by decide)]
      refine ⟨r1, r2, ?_, ?_, r5, r6, r7⟩
      · rw [l3 k hk, uf_ne (by decide), uf_ne (by decide), a2 k hk, a4 79 (by decide) (by decide) (by decide), r1, r3]
        by_cases on : wst (ws k) = 1
        · rw [if_pos on, if_pos on, if_pos ((ion k hk).mpr on), Int32.add_assoc]
        · rw [if_neg on, if_neg on, if_neg (fun q => on ((ion k hk).mp q))]
      · rw [l1 82 (by decide), uf_ne (by decide), a3 k hk, r4]
        unfold dropF
        split <;> rfl
    · rw [l1 68 (by decide), uf_ne (by decide), a5 27 (by decide)]; exact R.2
  have el : lineF i b (nI c) (gustN i b (iNe i) + swayF i b moved) (line.filter (onB (dropF i b ws))) (dropF i b ws, steps, 1000) = lnF i b moved ws steps line := by
    unfold lnF
    rw [ec, line_filter i b (nI c) _ line _ P.1.1]
  have fal := fun k (hk : k < iN i) => fa_line (m := moved) (steps := steps) P hk
  rw [lt1_eq]
  refine p_scan hI hb hc hp T5 tc S R5 (fun k hk ho => (ion k hk).mpr (by rw [← (drop_same i b ws k).1]; exact ho)) (fun h6 R6 S6 => ?_)
  rw [el] at R6 S6
  have fr := free_iff R6 S6
  have K6 : KM h h6 := km_tr K5 ⟨fun x q r => R6.2.2.1 x r (by omega) (by omega) (by omega) (by omega) (by omega) (by omega), fun z z1 _ => R6.2.2.2.1 z z1, R6.2.2.2.2⟩
  have T6 := km_tm K6 T
  have o6 : ∀ x, 86 ≤ x → x ≠ 90 → h6.1 x = h.1 x := fun x q1 q2 => by rw [R6.2.2.1 x (by omega) (by omega) (by omega) (by omega) (by omega) (by omega) (by omega)]; exact o5 x (by omega) (by omega) (by omega) q2
  have e90 : ∀ z, h6.1 90 z = if z = b then swayF i b moved else h.1 90 z := fun z => by
    rw [R6.2.2.1 90 (by decide) (by decide) (by decide) (by decide) (by decide) (by decide) (by decide), l1 90 (by decide), uf_get, a4 90 (by decide) (by decide) (by decide)]
    simp
  have v6 : ∀ k, k < iN i → h6.1 79 k = wst ((lnF i b moved ws steps line).1 k) ∧ h6.1 80 k = wpl ((lnF i b moved ws steps line).1 k) ∧ h6.1 81 k = wle ((lnF i b moved ws steps line).1 k) ∧ h6.1 82 k = wpo ((lnF i b moved ws steps line).1 k) ∧ h6.1 83 k = nI (wow ((lnF i b moved ws steps line).1 k)) ∧ h6.1 84 k = wen ((lnF i b moved ws steps line).1 k) ∧ h6.1 85 k = wbl ((lnF i b moved ws steps line).1 k) := by
    intro k hk
    have := R6.1 k hk
    rw [if_neg List.not_mem_nil] at this
    exact this
  have f86 : ∀ k, k < iN i → h6.1 86 k = wfa (ws k) := fun k hk => by rw [o6 86 (by decide) (by decide)]; exact (R.1 k hk).2.2.2.2.2.2.2
  have z6 := line_PI (m := moved) (steps := steps) hI P
  rw [beat_eq]
  have r27 := R6.2.1
  generalize lnF i b moved ws steps line = r at fr v6 fal z6 r27 ⊢
  rw [lt1_eq]
  refine p_st (ws := r.1) hN hb T6.1 (fun k hk => (T6.2.2.2.2.2.2.1 k hk).1) (fun k hk => (v6 k hk).1) (fun h7 H7 => ?_)
  have same : h7 = h6 → Ok (some h7) (fun x => x = h6) := fun e => ok_some e
  have stay : h7 = h6 → ∀ h', (∀ c z, h'.1 c z = recF b (iN i) h7 c z) → h'.2 = h7.2 → PB i b moved h h' (r.1, r.2.1, line) := by
    rintro rfl h' q1 q2
    exact rec_PB v6 (fun k hk => by rw [f86 k hk]; exact fal k hk) r27 K6 e90 (fun z => ⟨by rw [o6 87 (by decide) (by decide)], by rw [o6 88 (by decide) (by decide)], by rw [o6 89 (by decide) (by decide)]⟩) q1 q2
  have t7 : h7.1 68 7 = nI (iN i) := by
    rcases H7 with ⟨k, -, -, -, e⟩ | ⟨-, e⟩
    · rw [e, uf_ne (by decide), uf_ne (by decide)]; exact T6.1
    · rw [e]; exact T6.1
  refine ok_mono (p_rec hN hb t7) (fun h' Q => ?_)
  rcases H7 with ⟨k, hk, es, hf, e⟩ | ⟨hn, e⟩
  · rw [if_neg (fr.mp hf), es]
    subst e
    have hw : wle (r.1 k) = wle (onW (r.1 k)) := rfl
    have h0 := start_some es
    have zz := z6.1.2.2.2.2.2 k hk h0.2
    refine rec_PB (h7 := uf (uf h6 79 k 1) 80 k 0) (s' := (va_up r.1 k (onW (r.1 k)), r.2.1, line ++ [k])) (fun x hx => ?_) (fun x hx => ?_) ?_ ⟨fun x q q2 => ?_, fun z z1 z2 => ?_, K6.2.2⟩ (fun z => ?_) (fun z => ?_) Q.1 Q.2
    · obtain ⟨v1, v2, v3, v4, v5, v6', v7⟩ := v6 x hx
      simp only [uf_get]
      by_cases ex : x = k
      · subst ex
        rw [up_self]
        simp [v3, v4, v5, v6', v7, onW, wst, wpl, wle, wpo, wow, wen, wbl]
        rw [show (r.1 x).2.2.2.2.1 = 0 from zz.1]
      · rw [up_ne ex]
        simp [ex, v1, v2, v3, v4, v5, v6', v7]
    · simp only [uf_get]
      simp
      rw [f86 x hx]
      by_cases ex : x = k
      · subst ex
        rw [up_self]
        exact fal x hx
      · rw [up_ne ex]; exact fal x hx
    · rw [uf_ne (by decide), uf_ne (by decide)]; exact r27
    · rw [uf_ne (by omega), uf_ne (by omega)]; exact K6.1 x q q2
    · rw [uf_ne (by decide), uf_ne (by decide)]; exact K6.2.1 z z1 z2
    · rw [uf_ne (by decide), uf_ne (by decide)]; exact e90 z
    · rw [uf_ne (by decide), uf_ne (by decide), uf_ne (by decide), uf_ne (by decide), uf_ne (by decide), uf_ne (by decide), o6 87 (by decide) (by decide), o6 88 (by decide) (by decide), o6 89 (by decide) (by decide)]
      exact ⟨rfl, rfl, rfl⟩
  · by_cases hf : freeH (iN i) h6
    · rw [if_neg (fr.mp hf), hn hf]
      exact stay e h' Q.1 Q.2
    · rw [if_pos (Decidable.not_not.mp (fun q => hf (fr.mpr q)))]
      exact stay e h' Q.1 Q.2
