/-- the class's other rows don't matter -/
theorem Rl.cc {n : Nat} {w w' : CW} {m : MW} (h : Rl n w m) (h2 : w'.2 = w.2) (h0 : ∀ k, 10 ≤ k → k ≤ 12 → w'.1 0 k = w.1 0 k) (h1 : w'.1 1 = w.1 1) (h3 : w'.1 3 = w.1 3) (h5 : w'.1 5 = w.1 5) (h6 : w'.1 6 = w.1 6) (h11 : w'.1 11 = w.1 11) (h12 : w'.1 12 = w.1 12) (h13 : w'.1 13 = w.1 13) (h17 : w'.1 17 = w.1 17) (h19 : w'.1 19 = w.1 19) : Rl n w' m := by
  obtain ⟨T, O, hc, hm, b1, b2, g1, g2, g3, g4, g5⟩ := h
  refine ⟨T, O, hc, hm, b1, b2, g1.congr h2 h1 h11 h12 h13, g2, by rw [h11]; exact g3, g4, ?_⟩
  unfold Ax
  rw [h5, h6, h3, h19, h17, h0 10 (by omega) (by omega), h0 11 (by omega) (by omega), h0 12 (by omega) (by omega)]
  exact g5
/-- nor do the reference's -/
theorem Rl.cm {n : Nat} {w : CW} {m m' : MW} (h : Rl n w m) (h0 : ∀ k, k ≠ 0 → k ≠ 15 → m' 0 k = m 0 k) (h1 : ∀ p, 1 ≤ p → p ≤ 7 → m' p = m p) : Rl n w m' := by
  obtain ⟨T, O, hc, hm, b1, b2, g1, ⟨c, mk, g2⟩, g3, g4, g5⟩ := h
  refine ⟨T, O, hc, hm, b1, b2, g1, ⟨c, mk, g2.congr (h0 4 (by omega) (by omega)) (h0 6 (by omega) (by omega)) (h1 1 (by omega) (by omega)) (h1 2 (by omega) (by omega)) (h1 3 (by omega) (by omega)) (h1 4 (by omega) (by omega))⟩, by rw [h1 1 (by omega) (by omega)]; exact g3, g4, ?_⟩
  unfold Ax
  rw [h1 6 (by omega) (by omega), h1 5 (by omega) (by omega), h1 7 (by omega) (by omega), h0 11 (by omega) (by omega), h0 7 (by omega) (by omega), h0 8 (by omega) (by omega), h0 9 (by omega) (by omega)]
  exact g5
theorem Rl.thr {n : Nat} {w : CW} {m : MW} {v : Int32} (h : Rl n w m) : Rl n w (mst m 0 0 v) :=
  h.cm (fun k h0 _ => by rw [mst_at, upd_ne _ _ h0]) (fun p h1 _ => mst_ne _ _ _ (by omega))
def fwC (w : CW) (k : Int32) : CW := cs (cs w 0 12 k) 0 11 ((cs w 0 12 k).1 0 11 + 1)
def fwM (m : MW) (k : Int32) : MW := mst (mst m 0 9 k) 0 8 ((mst m 0 9 k) 0 8 + 1)
theorem found_c (w : CW) (k : Int32) : f_X9_found k w = some (-20 - k, fwC w k) := rfl
theorem found_m (m : MW) (k : Int32) : f_X10_found k m = some (-20 - k, fwM m k) := rfl
theorem fwC_2 (w : CW) (k : Int32) : (fwC w k).2 = w.2 := rfl
theorem Rl.found {n : Nat} {w : CW} {m : MW} {k : Int32} (h : Rl n w m) : Rl n (fwC w k) (fwM m k) := by
  obtain ⟨T, O, hc, hm, b1, b2, g1, ⟨c, mk, g2⟩, g3, g4, ⟨a1, a2, a3, a4, a5, a6⟩⟩ := h
  have e0 : ∀ p, p ≠ 0 → (fwC w k).1 p = w.1 p := fun p hp => by unfold fwC; rw [cs_ne _ _ _ hp, cs_ne _ _ _ hp]
  have f0 : ∀ p, p ≠ 0 → (fwM m k) p = m p := fun p hp => by unfold fwM; rw [mst_ne _ _ _ hp, mst_ne _ _ _ hp]
  have f1 : ∀ j, j ≠ 8 → j ≠ 9 → (fwM m k) 0 j = m 0 j := fun j h8 h9 => by unfold fwM; rw [mst_at, upd_ne _ _ h8, mst_at, upd_ne _ _ h9]
  refine ⟨T, O, hc, hm, b1, b2, g1.congr rfl (e0 1 (by decide)) (e0 11 (by decide)) (e0 12 (by decide)) (e0 13 (by decide)), ⟨c, mk, g2.congr (f1 4 (by decide) (by decide)) (f1 6 (by decide) (by decide)) (f0 1 (by decide)) (f0 2 (by decide)) (f0 3 (by decide)) (f0 4 (by decide))⟩, ?_, g4, ?_⟩
  · rw [e0 11 (by decide), f0 1 (by decide)]; exact g3
  · unfold Ax
    rw [e0 5 (by decide), e0 6 (by decide), e0 3 (by decide), e0 19 (by decide), e0 17 (by decide), f0 6 (by decide), f0 5 (by decide), f0 7 (by decide), f1 11 (by decide) (by decide), f1 7 (by decide) (by decide)]
    refine ⟨a1, a2, a3, ?_, ?_, ?_⟩
    · unfold fwC; rw [cs_at, upd_ne _ _ (by decide), cs_at, upd_ne _ _ (by decide)]; exact a4
    · unfold fwC fwM; rw [cs_at, upd_at, mst_at, upd_at, cs_at, upd_ne _ _ (by decide), mst_at, upd_ne _ _ (by decide), a5]
    · unfold fwC fwM; rw [cs_at, upd_ne _ _ (by decide), cs_at, upd_at, mst_at, upd_ne _ _ (by decide), mst_at, upd_at]
theorem eq_status {n : Nat} {w : CW} {wm : MW} (hR : Rl n w wm) (hn : n < 513) : ∃ r wm2, f_X9_status w = some r ∧ f_X10_status wm = some (r, wm2) ∧ Rl (n + 1) w wm2 := by
  refine ⟨_, _, rfl, ?_, (Rl_next hR hn).thr (v := 0)⟩
  obtain ⟨T, O, hc, hm, -, -, -, -, -, -, ⟨-, -, -, -, -, a6⟩⟩ := hR
  unfold f_X10_status
  rw [mst_at, upd_ne _ _ (by decide), a6]
