section O6
variable {w : CW} {now s : Nat → Int32} {T p : Nat}
theorem kindAt2 {k : Nat} (hp : p < 60) (hk : k ≤ 4) (ec : w.1 11 (78 * p + 0) = nI (k + 1)) : f_X9_kindAt (nI p) w = some k := by
  unfold f_X9_kindAt
  rw [read_k (k := 0) (by rfl) hp (by omega), Option.bind_some, ec, show nI (k + 1) - (1 : Int32) = nI (k + 1 - 1) from pk_sub (a := k + 1) (b := 1) (by omega), Nat.add_sub_cancel, within_s, Option.bind_some, gd, if_pos ⟨nI_pos' (by omega), show nI k ≤ nI 4 from nI_le hk (by omega)⟩, chk_t (inb_nI (by omega) (by omega)), nI_clamp (by omega)]
/-- washing wears -/
theorem goW {m : MW} {X Y : Nat → Int32} {O b bm Z C tr k ks : Nat} {hc hm : Nat → Nat → Int32} (HC : HCx w (T + 1) T O b Z hc) (eX : w.1 11 = X) (HM : HMx m T O bm Z C hm) (eY : m 1 = Y) (ht : TR w m tr) (htr : tr + 5 < 2 ^ 30) (hp : p < 60) (hk : k ≤ 4) (ek : Y (104 * p) = nI (k + 1)) (ec : X (78 * p + 0) = nI (k + 1)) (e37 : X (78 * p + 32) = Y (104 * p + 37)) (hks : ks ≤ 4) (hb : b + 1 < 120000) (hbm : bm + 1 < 120000) (hC : C + 1 < 2 ^ 30) :
    ∃ w4 n4 X4 m6 Y6 tr', (∀ (w'' : CW) (n'' : Nat), f_X9_goOn_b86 (nI p) w4 = some (w'', n'') → f_X9_goOn_b65 (nI p) (nI ks) w = some (w'', n4 + n'')) ∧ f_X10_goes_b133 (nI p) (nI ks) m = f_X10_goes_b159 (nI p) m6 ∧ HCx w4 (T + 1) T O (b + 1) Z hc ∧ w4.1 11 = X4 ∧ HMx m6 T O (bm + 1) Z (C + 1) hm ∧ m6 1 = Y6 ∧ (∀ j, j ≠ 78 * p + 32 → X4 j = X j) ∧ (∀ j, j ≠ 104 * p + 37 → Y6 j = Y j) ∧ X4 (78 * p + 32) = Y6 (104 * p + 37) ∧ TR w4 m6 tr' ∧ tr' ≤ tr + 5 ∧ (∀ q, q ≠ 1 → q ≠ 3 → q ≠ 11 → q ≠ 12 → q ≠ 13 → q ≠ 19 → w4.1 q = w.1 q) ∧ (∀ q, q ≠ 0 → q ≠ 1 → q ≠ 2 → q ≠ 3 → q ≠ 5 → m6 q = m q) ∧ (∀ k, k ≠ 4 → k ≠ 11 → m6 0 k = m 0 k) ∧ 4096 * n4 + 2 * w.2 = 2 * w4.2 := by
  by_cases h1 : ks = 1
  · have hk1 : nI ks = (1 : Int32) := by rw [h1]; rfl
    obtain ⟨y, w3, m5, tr', q1, q2, q3, q4, q5, q6⟩ := wear_s (x3 := 1) ht hp hk (by rw [eY]; exact ek) (by omega)
    have HC3 : HCx w3 (T + 1) T O b Z hc := HC.fb q5.fb
    have eX3 : w3.1 11 = X := (q5.1 11 (by decide) (by decide)).trans eX
    have HM5 : HMx m5 T O bm Z C hm := HM.fam q6.fam
    have eY5 : m5 1 = Y := (q6.1 1 (by decide) (by decide)).trans eY
    obtain ⟨w4, n4, e4, h4, r4, f4, c4⟩ := grow_k (p := p) (k := 32) (x := 32) (v := y) rfl HC3 eX3 hp (by omega) (by omega)
    obtain ⟨m6, d1, d2, d3, d4⟩ := let_k (p := p) (k := 37) (x := 37) (v := Y (104 * p + 37) + y) rfl HM5 eY5 (by omega) (by omega) (by omega)
    refine ⟨w4, n4, _, m6, _, tr', fun w'' n'' hk' => ?_, ?_, h4, r4, d2, d3, fun j hj => upd_ne _ _ hj, fun j hj => upd_ne _ _ hj, ?_, ?_, q3, fun q a1 a3 a11 a12 a13 a19 => (f4 q a1 a11 a12 a13).trans (q5.1 q a3 a19), fun q a0 a1 a2 a3 a5 => (d4.1 q a0 a1 a2 a3).trans (q6.1 q a0 a5), fun k a4 a11 => (d4.2 k a4).trans (q6.2 k a11), ?_⟩
    · unfold f_X9_goOn_b65
      rw [if_pos hk1, kindAt2 hp hk (by rw [eX]; exact ec), Option.bind_some, chk_t (show k < 5 by omega), q1, Option.bind_some]
      exact bnc_of e4 hk'
    · unfold f_X10_goes_b133
      rw [if_pos hk1, of_s (k := 37) (by rfl) (by omega), Option.bind_some, q2, Option.bind_some, eY]
      show (f_X10_let (nI p) 37 (Y (104 * p + 37) + y) m5).bind _ = _
      rw [d1, Option.bind_some]
    · rw [upd_at, upd_at, e37]
    · exact q4.cg (f4 3 (by decide) (by decide) (by decide) (by decide)) (f4 19 (by decide) (by decide) (by decide) (by decide)) (d4.2 11 (by decide)) (d4.1 5 (by decide) (by decide) (by decide) (by decide))
    · have := q5.2
      omega
  · have hk1 : ¬ nI ks = (1 : Int32) := fun q => h1 (nI_inj (b := 1) (by omega) (by omega) q)
    refine ⟨w, 0, X, m, Y, tr, fun w'' n'' hk' => ?_, ?_, HC.mono (by omega) (Nat.le_refl _), eX, HM.mono (by omega) (Nat.le_refl _) (by omega), eY, fun _ _ => rfl, fun _ _ => rfl, e37, ht, by omega, fun _ _ _ _ _ _ _ => rfl, fun _ _ _ _ _ _ => rfl, fun _ _ _ => rfl, by omega⟩
    · unfold f_X9_goOn_b65
      rw [if_neg hk1, Nat.zero_add]
      exact hk'
    · unfold f_X10_goes_b133
      rw [if_neg hk1]
theorem b81_run {k15 : Int32 → Int32 → CW → Option (CW × Nat)} {x1 x2 : Int32} {l : Nat} (hp : p < 60) (e : w.1 11 (78 * p + 12) = nI l) (hl : 1 ≤ l) (hl2 : l ≤ 200) {v : Int32} (e8 : 1 + w.1 11 (78 * p + 8) = v) : f_X9_serveRuns_b81 k15 x1 x2 (nI p) w = k15 x1 (x2 + 1) (lvC w p v) := by
  unfold f_X9_serveRuns_b81 f_X9_serveRuns_b94 f_X9_hasRun
  rw [read_k (k := 12) (by rfl) hp (by omega), Option.bind_some, e, if_neg (nI_nle (by omega) (by omega)), Option.bind_some, if_neg (by decide), leave_s hp, e8, Option.bind_some]
theorem b81_end {k15 : Int32 → Int32 → CW → Option (CW × Nat)} {x1 x2 : Int32} (hp : p < 60) (e : w.1 11 (78 * p + 12) = nI 0) : f_X9_serveRuns_b81 k15 x1 x2 (nI p) w = bnc (f_X9_endRun (nI p) w) fun y7 => f_X9_serveRuns_b94 k15 x1 x2 (nI p) y7 := by
  unfold f_X9_serveRuns_b81 f_X9_hasRun
  rw [read_k (k := 12) (by rfl) hp (by omega), Option.bind_some, e, if_pos (by decide), Option.bind_some, if_pos rfl]
theorem goes_s {m : MW} {O b Z C tr k ks N a l g : Nat} {hc hm : Nat → Nat → Int32} (HC : HCx w (T + 1) T O b Z hc) (HM : HMx m T O b Z C hm) (hs : Rs (pn (w.1 11) (m 1)) (m 1) (T + 1)) (U : ∀ i, i < 3 → w.1 10 i = m 1 (11350 + i)) (A : ∀ i, i < 3 → w.1 9 i = m 13 i) (ht : TR w m tr) (htr : tr + 5 < 2 ^ 30) (hp : p < 60) (hk : k ≤ 4) (ek : m 1 (104 * p) = nI (k + 1)) (h26 : m 1 (104 * p + 26) = 1) (hN : N ≤ 30) (ha : a < N) (hl : 1 ≤ l) (hl2 : l ≤ 200) (r27 : m 1 (104 * p + 27) = nI N) (r10 : w.1 11 (78 * p + 10) = nI N) (r28 : m 1 (104 * p + 28) = nI a) (r11 : w.1 11 (78 * p + 11) = nI a) (r29 : m 1 (104 * p + 29) = nI l) (r12 : w.1 11 (78 * p + 12) = nI l) (rst : ∀ i, i < N → ∃ k u, k ≤ 4 ∧ 1 ≤ u ∧ u ≤ 200 ∧ m 1 (104 * p + (41 + i)) = nI k ∧ m 1 (104 * p + (71 + i)) = nI u ∧ w.1 11 (78 * p + (48 + i)) = nI (1000 * k + u)) (hks : ks ≤ 4) (hg : g < T + 1) (eg : m 1 (104 * p + 32) = nI g) (h101 : m 1 (104 * p + 101) = 0) (hb : b + 30 < 120000) (hC : C + 30 < 2 ^ 30) :
    ∃ w' n m' tr', (∀ (k15 : Int32 → Int32 → CW → Option (CW × Nat)) (x1 x2 : Int32) (w'' : CW) (n'' : Nat), k15 x1 (x2 + 1) (lvC w' p (1 + w.1 11 (78 * p + 8))) = some (w'', n'') → (bnc (f_X9_goOn (nI p) (nI ks) w) fun y18 => f_X9_serveRuns_b81 k15 x1 x2 (nI p) y18) = some (w'', n + n'')) ∧ f_X10_goes (nI p) (nI ks) m = some m' ∧ HCx w' (T + 1) T O (b + 22) Z hc ∧ HMx m' T O (b + 22) Z (C + 22) hm ∧ Rs (pn (w'.1 11) (m' 1)) (m' 1) (T + 1) ∧ (∀ i, i < 3 → w'.1 10 i = m' 1 (11350 + i)) ∧ TR w' m' tr' ∧ tr' ≤ tr + 5 ∧ (∀ q, q ≠ 1 → q ≠ 3 → q ≠ 10 → q ≠ 11 → q ≠ 12 → q ≠ 13 → q ≠ 19 → w'.1 q = w.1 q) ∧ (∀ q, q ≠ 0 → q ≠ 1 → q ≠ 2 → q ≠ 3 → q ≠ 5 → m' q = m q) ∧ (∀ k, k ≠ 4 → k ≠ 11 → m' 0 k = m 0 k) ∧ (∀ j, j < 6240 → (j < 104 * p ∨ 104 * p + 104 ≤ j) → m' 1 j = m 1 j) ∧ 4096 * n + 2 * w.2 = 2 * w'.2 := by
  obtain ⟨w1, n1, X1, a1, a2, a3, a4, a5, a6, a7, a8⟩ := goC1 (x2 := nI ks) HC rfl hp (by omega)
  obtain ⟨w2, n2, X2, b1, b2, b3, b4, b5, b6, b7, b8⟩ := goC2 hks a2 a3 hp (by omega)
  have e91 : w1.1 9 = w.1 9 := a7 9 (by decide) (by decide) (by decide) (by decide) (by decide)
  obtain ⟨m0, c1, c2, c3, c4⟩ := let_k (p := p) (k := 32) (x := 32) (v := nI g + 1) rfl HM rfl (by omega) (by omega) (by omega)
  obtain ⟨m1, d1, d2, d3, d4⟩ := goM0 (i := 0) (kf := FU - 4 + 1 + 1 + 1) (x2 := nI ks) (by omega) c2 rfl hp (by omega) (by omega)
  obtain ⟨m2, e1, e2, e3, e4⟩ := goM0 (i := 1) (kf := FU - 4 + 1 + 1) (x2 := nI ks) (by omega) d2 rfl hp (by omega) (by omega)
  obtain ⟨m3, f1, f2, f3, f4⟩ := goM0 (i := 2) (kf := FU - 4 + 1) (x2 := nI ks) (by omega) e2 rfl hp (by omega) (by omega)
  obtain ⟨m4, Y4, g1, g2, g3, g4, g5, g6, g7⟩ := goM2 (kf := FU - 4) hks f2 rfl hp (by omega) (by omega)
  have z0 : m0 13 = m 13 := c4.1 13 (by decide) (by decide) (by decide) (by decide)
  have z1 : m1 13 = m 13 := (d4.1 13 (by decide) (by decide) (by decide) (by decide)).trans z0
  have z2 : m2 13 = m 13 := (e4.1 13 (by decide) (by decide) (by decide) (by decide)).trans z1
  have z3 : m3 13 = m 13 := (f4.1 13 (by decide) (by decide) (by decide) (by decide)).trans z2
  rw [z0] at d3
  rw [z1] at e3
  rw [z2] at f3
  rw [z3] at g5 g6
  have fr4 : FrM m m4 := c4.trans (d4.trans (e4.trans (f4.trans g7)))
  have y0 : ∀ j, j ≠ 104 * p + 32 → m0 1 j = m 1 j := fun j hj => by rw [c3, upd_ne _ _ hj]
  have y1 : ∀ j, j ≠ 11350 + 0 → j ≠ 104 * p + (34 + 0) → m1 1 j = m0 1 j := fun j h1 h2 => by rw [d3, upd_ne _ _ h2, upd_ne _ _ h1]
  have y2 : ∀ j, j ≠ 11350 + 1 → j ≠ 104 * p + (34 + 1) → m2 1 j = m1 1 j := fun j h1 h2 => by rw [e3, upd_ne _ _ h2, upd_ne _ _ h1]
  have y3 : ∀ j, j ≠ 11350 + 2 → j ≠ 104 * p + (34 + 2) → m3 1 j = m2 1 j := fun j h1 h2 => by rw [f3, upd_ne _ _ h2, upd_ne _ _ h1]
  have y1u : m1 1 (11350 + 0) = m0 1 (11350 + 0) + m 13 0 := by rw [d3, upd_ne _ _ (by omega), upd_at]
  have y2u : m2 1 (11350 + 1) = m1 1 (11350 + 1) + m 13 1 := by rw [e3, upd_ne _ _ (by omega), upd_at]
  have y3u : m3 1 (11350 + 2) = m2 1 (11350 + 2) + m 13 2 := by rw [f3, upd_ne _ _ (by omega), upd_at]
  have y1v : m1 1 (104 * p + (34 + 0)) = m0 1 (104 * p + (34 + 0)) + m 13 0 := by rw [d3, upd_at]
  have y2v : m2 1 (104 * p + (34 + 1)) = m1 1 (104 * p + (34 + 1)) + m 13 1 := by rw [e3, upd_at]
  have y3v : m3 1 (104 * p + (34 + 2)) = m2 1 (104 * p + (34 + 2)) + m 13 2 := by rw [f3, upd_at]
  have Yj : ∀ j, j ≠ 104 * p + 32 → (j < 104 * p + 34 ∨ 104 * p + 37 ≤ j) → (j < 11350 ∨ 11353 ≤ j) → m3 1 j = m 1 j := fun j h1 h2 h3 => by
    rw [y3 j (by omega) (by omega), y2 j (by omega) (by omega), y1 j (by omega) (by omega), y0 j h1]
  have Yg : m3 1 (104 * p + 32) = nI g + 1 := by
    rw [y3 _ (by omega) (by omega), y2 _ (by omega) (by omega), y1 _ (by omega) (by omega), c3, upd_at]
  have Yu : ∀ i, i < 3 → m3 1 (11350 + i) = m 1 (11350 + i) + m 13 i := by
    intro i hi
    rcases (by omega : i = 0 ∨ i = 1 ∨ i = 2) with rfl | rfl | rfl
    · rw [y3 _ (by omega) (by omega), y2 _ (by omega) (by omega), y1u, y0 _ (by omega)]
    · rw [y3 _ (by omega) (by omega), y2u, y1 _ (by omega) (by omega), y0 _ (by omega)]
    · rw [y3u, y2 _ (by omega) (by omega), y1 _ (by omega) (by omega), y0 _ (by omega)]
  have Yv : ∀ i, i < 3 → m3 1 (104 * p + (34 + i)) = m 1 (104 * p + (34 + i)) + m 13 i := by
    intro i hi
    rcases (by omega : i = 0 ∨ i = 1 ∨ i = 2) with rfl | rfl | rfl
    · rw [y3 _ (by omega) (by omega), y2 _ (by omega) (by omega), y1v, y0 _ (by omega)]
    · rw [y3 _ (by omega) (by omega), y2v, y1 _ (by omega) (by omega), y0 _ (by omega)]
    · rw [y3v, y2 _ (by omega) (by omega), y1 _ (by omega) (by omega), y0 _ (by omega)]
  obtain ⟨pa, pb, pr, pc, pe⟩ := hs.1 p hp
  obtain ⟨t1, t2, t3, t4, t5, t6, t7, t8, t9⟩ := id pc
  obtain ⟨zz1, zz2, zz3, zz4⟩ := hs.2.2.2.2.2.1
  have kc : ∀ k, k < 78 → cv (pn (w.1 11) (m 1)) p k = w.1 11 (78 * p + k) := fun k hk => pn_ne (by omega)
  have bk : ∀ i, i < 9 → w.1 11 (78 * p + (27 + i)) = m 1 (104 * p + (32 + i)) := fun i hi => (kc (27 + i) (by omega)).symm.trans (pb.1 i hi)
  have ec : w.1 11 (78 * p + 0) = nI (k + 1) := ((kc 0 (by omega)).symm.trans pa.2.1).trans ek
  have w4eq : w.1 11 (78 * p + 4) = m 1 (104 * p + 5) := (kc 4 (by omega)).symm.trans t3
  have w55 : w.1 11 8555 = m 1 11349 := by
    have h1 : pn (w.1 11) (m 1) (8552 + 3) = m 1 (11346 + 3) := zz4 3 (by omega)
    rw [pn_ne (by omega)] at h1
    exact h1
  have tr2 : TR w2 m4 tr := ht.cg ((b7 3 (by decide) (by decide) (by decide) (by decide)).trans (a7 3 (by decide) (by decide) (by decide) (by decide) (by decide))) ((b7 19 (by decide) (by decide) (by decide) (by decide)).trans (a7 19 (by decide) (by decide) (by decide) (by decide) (by decide))) (fr4.2 11 (by decide)) (fr4.1 5 (by decide) (by decide) (by decide) (by decide))
  have X2j : ∀ j, j ≠ 78 * p + 4 → j ≠ 8555 → (j < 78 * p + 29 ∨ 78 * p + 32 ≤ j) → X2 j = w.1 11 j := fun j h1 h2 h3 => (b4 j h1 h2).trans (a4 j h3)
  have Y4j : ∀ j, j ≠ 104 * p + 5 → j ≠ 11349 → j ≠ 104 * p + 32 → (j < 104 * p + 34 ∨ 104 * p + 37 ≤ j) → (j < 11350 ∨ 11353 ≤ j) → Y4 j = m 1 j := fun j h1 h2 h3 h4 h5 => (g4 j h1 h2).trans (Yj j h3 h4 h5)
  obtain ⟨w4, n4, X4, m6, Y6, tr', i1, i2, i3, i4, i5, i6, i7, i8, i9, i10, i11, i12, i13, i14, i15⟩ := goW (k := k) b2 b3 g2 g3 tr2 htr hp hk (by rw [Y4j _ (by omega) (by omega) (by omega) (by omega) (by omega)]; exact ek) (by rw [X2j _ (by omega) (by omega) (by omega)]; exact ec) (by rw [X2j _ (by omega) (by omega) (by omega), Y4j _ (by omega) (by omega) (by omega) (by omega) (by omega)]; exact bk 5 (by omega)) hks (by omega) (by omega) (by omega)
  have X4j : ∀ j, j ≠ 78 * p + 32 → j ≠ 78 * p + 4 → j ≠ 8555 → (j < 78 * p + 29 ∨ 78 * p + 32 ≤ j) → X4 j = w.1 11 j := fun j h1 h2 h3 h4 => (i7 j h1).trans (X2j j h2 h3 h4)
  have Y6j : ∀ j, j ≠ 104 * p + 37 → j ≠ 104 * p + 5 → j ≠ 11349 → j ≠ 104 * p + 32 → (j < 104 * p + 34 ∨ 104 * p + 37 ≤ j) → (j < 11350 ∨ 11353 ≤ j) → Y6 j = m 1 j := fun j h0 h1 h2 h3 h4 h5 => (i8 j h0).trans (Y4j j h1 h2 h3 h4 h5)
  obtain ⟨u, hu⟩ : ∃ u, a + 1 < N → ∃ k, k ≤ 4 ∧ 1 ≤ u ∧ u ≤ 200 ∧ m 1 (104 * p + (71 + (a + 1))) = nI u ∧ w.1 11 (78 * p + (48 + (a + 1))) = nI (1000 * k + u) := by
    by_cases haN : a + 1 < N
    · obtain ⟨k, u, u1, u2, u3, u4, u5, u6⟩ := rst (a + 1) haN
      exact ⟨u, fun _ => ⟨k, u1, u2, u3, u5, u6⟩⟩
    · exact ⟨0, fun q => absurd q haN⟩
  obtain ⟨XF, ⟨w5, n5, j1, j2, j3, j4, j5⟩, j6, j7, j8, j9, j10, j11⟩ := goC4 i3 i4 hp (by omega) hN ha hl hl2 (by rw [X4j _ (by omega) (by omega) (by omega) (by omega)]; exact r10) (by rw [X4j _ (by omega) (by omega) (by omega) (by omega)]; exact r11) (by rw [X4j _ (by omega) (by omega) (by omega) (by omega)]; exact r12) u (fun q => by
    obtain ⟨k, u1, u2, u3, u4, u5⟩ := hu q
    exact ⟨k, u1, u2, u3, by rw [X4j _ (by omega) (by omega) (by omega) (by omega)]; exact u5⟩)
  obtain ⟨YF, ⟨m7, k1, k2, k3, k4⟩, k5, k6, k7, k8, k9⟩ := goM4 i5 i6 hp (by omega) (by omega) hN ha hl hl2 (by rw [Y6j _ (by omega) (by omega) (by omega) (by omega) (by omega) (by omega)]; exact r27) (by rw [Y6j _ (by omega) (by omega) (by omega) (by omega) (by omega) (by omega)]; exact r28) (by rw [Y6j _ (by omega) (by omega) (by omega) (by omega) (by omega) (by omega)]; exact r29) u (fun q => by
    obtain ⟨k, u1, u2, u3, u4, u5⟩ := hu q
    rw [Y6j _ (by omega) (by omega) (by omega) (by omega) (by omega) (by omega)]; exact u4)
  have XFj : ∀ j, (j < 78 * p + 3 ∨ j = 78 * p + 5 ∨ (78 * p + 7 ≤ j ∧ j < 78 * p + 11) ∨ (78 * p + 13 ≤ j ∧ j < 78 * p + 27) ∨ j = 78 * p + 28 ∨ (78 * p + 33 ≤ j ∧ j < 8555)) → XF j = w.1 11 j := fun j hj => (j6 j (by omega) (by omega) (by omega) (by omega) (by omega)).trans (X4j j (by omega) (by omega) (by omega) (by omega))
  have YFj : ∀ j, (j < 104 * p + 4 ∨ (104 * p + 6 ≤ j ∧ j < 104 * p + 28) ∨ j = 104 * p + 31 ∨ j = 104 * p + 33 ∨ (104 * p + 38 ≤ j ∧ j < 11349) ∨ 11353 ≤ j) → YF j = m 1 j := fun j hj => (k5 j (by omega) (by omega) (by omega) (by omega)).trans (Y6j j (by omega) (by omega) (by omega) (by omega) (by omega) (by omega))
  have YFu : ∀ i, i < 3 → YF (11350 + i) = m 1 (11350 + i) + m 13 i := fun i hi => by
    rw [k5 _ (by omega) (by omega) (by omega) (by omega), i8 _ (by omega), g4 _ (by omega) (by omega)]; exact Yu i hi
  have main : ∀ a' l', a' < N → 1 ≤ l' → l' ≤ 200 → XF (78 * p + 11) = nI a' → Rs (pn (upd XF (78 * p + 12) (nI l')) (upd (upd YF (104 * p + 28) (nI a')) (104 * p + 29) (nI l'))) (upd (upd YF (104 * p + 28) (nI a')) (104 * p + 29) (nI l')) (T + 1) := by
    intro a' l' ha' hl' hl2' h11
    refine go_rs (a' := a') (l' := l') (g := g + 1) hs hp h26 (fun N' hN' eN' => ?_) hl' hl2' (by omega) (fun j hj => ?_) (fun j hj => ?_) (fun i hi => ?_) ?_ ?_ ?_ ?_ ?_ ?_ ?_ ?_ ?_ ?_ ?_ (upd_at _ _ _) (upd_at _ _ _)
    · have : N' = N := nI_inj (by omega) (by omega) (eN'.symm.trans r27)
      omega
    · rw [upd_ne _ _ (by omega)]; exact XFj j hj
    · rw [upd_ne _ _ (by omega), upd_ne _ _ (by omega)]; exact YFj j hj
    · rw [upd_ne _ _ (by omega), upd_ne _ _ (by omega), upd_ne _ _ (by omega), j6 _ (by omega) (by omega) (by omega) (by omega) (by omega), i7 _ (by omega), b4 _ (by omega) (by omega), a5 i hi, k5 _ (by omega) (by omega) (by omega) (by omega), i8 _ (by omega), g4 _ (by omega) (by omega), Yv i hi, A i hi]
      have := bk (2 + i) (by omega)
      rw [show 27 + (2 + i) = 29 + i by omega, show 32 + (2 + i) = 34 + i by omega] at this
      rw [this]
    · rw [upd_ne _ _ (by omega), upd_ne _ _ (by omega), upd_ne _ _ (by omega), j6 _ (by omega) (by omega) (by omega) (by omega) (by omega), k5 _ (by omega) (by omega) (by omega) (by omega)]; exact i9
    · rw [upd_ne _ _ (by omega), upd_ne _ _ (by omega), upd_ne _ _ (by omega), j6 _ (by omega) (by omega) (by omega) (by omega) (by omega), i7 _ (by omega), b5, k5 _ (by omega) (by omega) (by omega) (by omega), i8 _ (by omega), g5, a4 _ (by omega), Yj _ (by omega) (by omega) (by omega), e91, A 0 (by omega), w4eq]
    · rw [upd_ne _ _ (by omega), upd_ne _ _ (by omega), upd_ne _ _ (by omega), j6 _ (by omega) (by omega) (by omega) (by omega) (by omega), i7 _ (by omega), b6, k5 _ (by omega) (by omega) (by omega) (by omega), i8 _ (by omega), g6, a4 _ (by omega), a4 _ (by omega), Yj _ (by omega) (by omega) (by omega), Yj _ (by omega) (by omega) (by omega), e91, A 0 (by omega), w4eq, w55]
    · rw [upd_ne _ _ (by omega), j7, X4j _ (by omega) (by omega) (by omega) (by omega), show w.1 11 (78 * p + 27) = nI g from (bk 0 (by omega)).trans eg, nI_1]
    · rw [upd_ne _ _ (by omega), upd_ne _ _ (by omega), k5 _ (by omega) (by omega) (by omega) (by omega), i8 _ (by omega), g4 _ (by omega) (by omega), Yg, nI_1]
    · rw [upd_ne _ _ (by omega)]; exact j8
    · rw [upd_ne _ _ (by omega), upd_ne _ _ (by omega)]; exact k6
    · rw [upd_ne _ _ (by omega)]; exact j9
    · rw [upd_ne _ _ (by omega), upd_ne _ _ (by omega)]; exact k7
    · rw [upd_ne _ _ (by omega)]; exact h11
    · rw [upd_ne _ _ (by omega), upd_at]
  have hcl : ∀ (w'' : CW) (n'' : Nat), w'' = w5 → f_X9_goOn (nI p) (nI ks) w = some (w5, n1 + (n2 + (n4 + n5))) := fun _ _ _ => a1 _ _ (b1 _ _ _ (i1 _ _ j1))
  have hcg := hcl w5 0 rfl
  have hmo : f_X10_goes (nI p) (nI ks) m = some m7 := by
    unfold f_X10_goes
    rw [of_s (k := 32) (by rfl) (by omega), Option.bind_some, eg, c1, Option.bind_some]
    have e0 : f_X10_goes_l18 FU (nI p) (nI ks) 0 m0 = f_X10_goes_l18 (FU - 4 + 1 + 1 + 1 + 1) (nI p) (nI ks) (nI 0) m0 := by rw [show FU - 4 + 1 + 1 + 1 + 1 = FU by unfold FU; rfl]; rfl
    rw [e0, d1, e1, f1, g1, i2, k1]
  have c10 : ∀ i, i < 3 → w5.1 10 i = m 1 (11350 + i) + m 13 i := fun i hi => by
    rw [j4 10 (by decide) (by decide) (by decide) (by decide), i12 10 (by decide) (by decide) (by decide) (by decide) (by decide) (by decide), b7 10 (by decide) (by decide) (by decide) (by decide), a6 i hi, U i hi, A i hi]
  have frC : ∀ q, q ≠ 1 → q ≠ 3 → q ≠ 10 → q ≠ 11 → q ≠ 12 → q ≠ 13 → q ≠ 19 → w5.1 q = w.1 q := fun q h1 h3 h10 h11 h12 h13 h19 => (j4 q h1 h11 h12 h13).trans ((i12 q h1 h3 h11 h12 h13 h19).trans ((b7 q h1 h11 h12 h13).trans (a7 q h1 h10 h11 h12 h13)))
  have frM : ∀ q, q ≠ 0 → q ≠ 1 → q ≠ 2 → q ≠ 3 → q ≠ 5 → m7 q = m q := fun q h0 h1 h2 h3 h5 => (k4.1 q h0 h1 h2 h3).trans ((i13 q h0 h1 h2 h3 h5).trans (fr4.1 q h0 h1 h2 h3))
  have fr0 : ∀ k, k ≠ 4 → k ≠ 11 → m7 0 k = m 0 k := fun k h4 h11 => (k4.2 k h4).trans ((i14 k h4 h11).trans (fr4.2 k h4))
  have trF : TR w5 m7 tr' := i10.cg (j4 3 (by decide) (by decide) (by decide) (by decide)) (j4 19 (by decide) (by decide) (by decide) (by decide)) (k4.2 11 (by decide)) (k4.1 5 (by decide) (by decide) (by decide) (by decide))
  have x8 : w5.1 11 (78 * p + 8) = w.1 11 (78 * p + 8) := by rw [j3]; exact XFj _ (by omega)
  by_cases hE : l = 1 ∧ ¬ a + 1 < N
  · rw [if_pos hE] at k3
    rw [if_pos hE.1, if_neg hE.2] at j10
    rw [if_neg (fun q => hE.2 q.2)] at j11
    obtain ⟨w6, n6, o1, o2, o3, o4, o5⟩ := endRun_k j2 j3 hp (by omega)
    have kR := goend_rs hp (main a 1 ha (Nat.le_refl _) (by omega) j11) (by rw [YFj _ (by omega), ek]; exact nI_ne0 (by omega) (by omega)) (by rw [YFj _ (by omega)]; exact h101)
    have x8' : w6.1 11 (78 * p + 8) = w.1 11 (78 * p + 8) := by rw [o3, endN_ne (by omega)]; exact XFj _ (by omega)
    refine ⟨w6, n1 + (n2 + (n4 + n5)) + n6, m7, tr', fun k15 x1 x2 w'' n'' hk' => ?_, hmo, o2.mono (by omega) (Nat.le_refl _), k2.mono (by omega) (Nat.le_refl _) (by omega), ?_, fun i hi => ?_, trF.cg (o4 3 (by decide) (by decide) (by decide) (by decide)) (o4 19 (by decide) (by decide) (by decide) (by decide)) rfl rfl, i11, fun q h1 h3 h10 h11 h12 h13 h19 => (o4 q h1 h11 h12 h13).trans (frC q h1 h3 h10 h11 h12 h13 h19), frM, fr0, fun j hj hj2 => ?_, by omega⟩
    · rw [Nat.add_assoc]
      refine bnc_of hcg ?_
      show f_X9_serveRuns_b81 k15 x1 x2 (nI p) w5 = _
      rw [b81_end hp (by rw [j3]; exact j10)]
      refine bnc_of o1 ?_
      show f_X9_serveRuns_b94 k15 x1 x2 (nI p) w6 = _
      unfold f_X9_serveRuns_b94
      rw [leave_s hp, x8', Option.bind_some]
      exact hk'
    · rw [o3, k3]; exact kR
    · rw [o4 10 (by decide) (by decide) (by decide) (by decide), c10 i hi, k3, endS_ne (by omega), YFu i hi]
    · rw [k3, endS_ne (by omega)]; exact YFj j (by omega)
  · rw [if_neg hE] at k3
    obtain ⟨a', l', p1, p2, p3, p4, p5, p6, p7⟩ : ∃ a' l', a' < N ∧ 1 ≤ l' ∧ l' ≤ 200 ∧ XF (78 * p + 11) = nI a' ∧ XF (78 * p + 12) = nI l' ∧ YF (104 * p + 28) = nI a' ∧ YF (104 * p + 29) = nI l' := by
      by_cases hl1 : l = 1
      · have haN : a + 1 < N := Classical.byContradiction fun q => hE ⟨hl1, q⟩
        obtain ⟨k, u1, u2, u3, u4, u5⟩ := hu haN
        rw [if_pos hl1, if_pos haN] at j10 k8
        rw [if_pos ⟨hl1, haN⟩] at j11
        rw [if_pos hl1] at k9
        exact ⟨a + 1, u, haN, u2, u3, j11, j10, k9, k8⟩
      · rw [if_neg hl1] at j10 k8 k9
        rw [if_neg (fun q => hl1 q.1)] at j11
        exact ⟨a, l - 1, ha, by omega, by omega, j11, j10, k9, k8⟩
    have kR := main a' l' p1 p2 p3 p4
    have hX : upd XF (78 * p + 12) (nI l') = XF := by rw [← p5]; exact upd_same _ _
    have hY1 : upd YF (104 * p + 28) (nI a') = YF := by rw [← p6]; exact upd_same _ _
    have hY2 : upd YF (104 * p + 29) (nI l') = YF := by rw [← p7]; exact upd_same _ _
    rw [hX, hY1, hY2] at kR
    refine ⟨w5, n1 + (n2 + (n4 + n5)), m7, tr', fun k15 x1 x2 w'' n'' hk' => ?_, hmo, j2.mono (by omega) (Nat.le_refl _), k2.mono (by omega) (Nat.le_refl _) (by omega), ?_, fun i hi => ?_, trF, i11, frC, frM, fr0, fun j hj hj2 => ?_, by omega⟩
    · refine bnc_of hcg ?_
      show f_X9_serveRuns_b81 k15 x1 x2 (nI p) w5 = _
      rw [b81_run hp (l := l') (by rw [j3]; exact p5) p2 p3 (v := 1 + w.1 11 (78 * p + 8)) (by rw [x8])]
      exact hk'
    · rw [j3, k3]; exact kR
    · rw [c10 i hi, k3, YFu i hi]
    · rw [k3]; exact YFj j (by omega)
end O6
