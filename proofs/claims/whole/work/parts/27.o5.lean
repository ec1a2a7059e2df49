section O5
variable {w : CW} {now s : Nat → Int32} {T p : Nat}
theorem drain_k {τ O b Z : Nat} {hist : Nat → Nat → Int32} (h : HCx w τ T O b Z hist) (e : w.1 11 = now) (hp : p < 60) (hb : b + 2 < 120000) : OkV (f_X9_drainOff (nI p) w) w τ T O (b + 2) Z hist (upd (upd now 8555 (now 8555 + now (78 * p + 4))) (78 * p + 4) 0) := by
  unfold f_X9_drainOff
  rw [read_k (k := 4) (by rfl) hp (by omega), Option.bind_some, e]
  exact (addl_k (a := 8555) rfl h e (by omega) (by omega)).bv fun _ h1 e1 _ => (write_k (k := 4) rfl h1 e1 hp (by omega) (by omega)).bv fun _ h1 e1 _ => OkV.dn h1 e1
theorem goC0 {τ O b Z i : Nat} {hist : Nat → Nat → Int32} {x2 : Int32} (hi : i < 3) (h : HCx w τ T O b Z hist) (e : w.1 11 = now) (hp : p < 60) (hb : b + 1 < 120000) :
    ∃ w' n, (∀ (kf : Nat) (w'' : CW) (n'' : Nat), f_X9_goOn_l2 kf (nI p) x2 (nI (i + 1)) w' = some (w'', n'') → f_X9_goOn_l2 (kf + 1) (nI p) x2 (nI i) w = some (w'', n + n'')) ∧ HCx w' τ T O (b + 1) Z hist ∧ w'.1 11 = upd now (78 * p + (29 + i)) (now (78 * p + (29 + i)) + w.1 9 i) ∧ w'.1 10 = upd (w.1 10) i (w.1 10 i + w.1 9 i) ∧ (∀ q, q ≠ 1 → q ≠ 10 → q ≠ 11 → q ≠ 12 → q ≠ 13 → w'.1 q = w.1 q) ∧ 4096 * n + 2 * w.2 = 2 * w'.2 := by
  have ea : (cs w 10 i (w.1 10 i + w.1 9 i)).1 11 = now := (cs_ne _ _ _ (by decide)).trans e
  have e9 : (cs w 10 i (w.1 10 i + w.1 9 i)).1 9 = w.1 9 := cs_ne _ _ _ (by decide)
  have e10 : (cs w 10 i (w.1 10 i + w.1 9 i)).1 10 = upd (w.1 10) i (w.1 10 i + w.1 9 i) := cs_at _ _ _ _
  have ha : HCx (cs w 10 i (w.1 10 i + w.1 9 i)) τ T O b Z hist := h.cs (by decide) (by decide) (by decide) (by decide)
  obtain ⟨w', n, e1, h1, q1, f1, c1⟩ := grow_k (p := p) (k := 29 + i) (x := 29 + nI i) (v := w.1 9 i) (nI_add 29 i) ha ea hp (by omega) (by omega)
  refine ⟨w', n, fun kf w'' n'' hk => ?_, h1, q1, (f1 10 (by decide) (by decide) (by decide) (by decide)).trans e10, fun q q1 q2 q3 q4 q5 => (f1 q q1 q3 q4 q5).trans (cs_ne _ _ _ q2), c1⟩
  show f_X9_goOn_l2_body (f_X9_goOn_l2 kf) (nI p) x2 (nI i) w = _
  unfold f_X9_goOn_l2_body
  rw [if_neg (show ¬ (2 : Int32) < nI i from nI_nlt (a := 2) (b := i) (by omega) (by omega)), chk_t (inb_nI hi (by omega)), chk_t (inb_nI hi (by omega)), chk_t (inb_nI hi (by omega)), chk_t (inb_nI hi (by omega)), nI_clamp (by omega), e9, nI_1 i]
  exact bnc_of e1 hk
/-- what a going run asks for is used -/
theorem goC1 {τ O b Z : Nat} {hist : Nat → Nat → Int32} {x2 : Int32} (h : HCx w τ T O b Z hist) (e : w.1 11 = now) (hp : p < 60) (hb : b + 3 < 120000) :
    ∃ w' n X, (∀ (w'' : CW) (n'' : Nat), f_X9_goOn_l2_body (f_X9_goOn_l2 (FU - 4)) (nI p) x2 3 w' = some (w'', n'') → f_X9_goOn (nI p) x2 w = some (w'', n + n'')) ∧ HCx w' τ T O (b + 3) Z hist ∧ w'.1 11 = X ∧ (∀ j, (j < 78 * p + 29 ∨ 78 * p + 32 ≤ j) → X j = now j) ∧ (∀ i, i < 3 → X (78 * p + (29 + i)) = now (78 * p + (29 + i)) + w.1 9 i) ∧ (∀ i, i < 3 → w'.1 10 i = w.1 10 i + w.1 9 i) ∧ (∀ q, q ≠ 1 → q ≠ 10 → q ≠ 11 → q ≠ 12 → q ≠ 13 → w'.1 q = w.1 q) ∧ 4096 * n + 2 * w.2 = 2 * w'.2 := by
  obtain ⟨w1, n1, a1, a2, a3, a4, a5, a6⟩ := goC0 (i := 0) (x2 := x2) (by omega) h e hp (by omega)
  obtain ⟨w2, n2, b1, b2, b3, b4, b5, b6⟩ := goC0 (i := 1) (x2 := x2) (by omega) a2 a3 hp (by omega)
  obtain ⟨w3, n3, c1, c2, c3, c4, c5, c6⟩ := goC0 (i := 2) (x2 := x2) (by omega) b2 b3 hp (by omega)
  have e91 : w1.1 9 = w.1 9 := a5 9 (by decide) (by decide) (by decide) (by decide) (by decide)
  have e92 : w2.1 9 = w.1 9 := (b5 9 (by decide) (by decide) (by decide) (by decide) (by decide)).trans e91
  refine ⟨w3, n1 + (n2 + n3), _, fun w'' n'' hk => ?_, c2, c3, fun j hj => ?_, fun i hi => ?_, fun i hi => ?_, fun q q1 q2 q3 q4 q5 => (c5 q q1 q2 q3 q4 q5).trans ((b5 q q1 q2 q3 q4 q5).trans (a5 q q1 q2 q3 q4 q5)), by omega⟩
  · unfold f_X9_goOn
    have e0 : f_X9_goOn_l2 FU (nI p) x2 0 w = f_X9_goOn_l2 (FU - 4 + 1 + 1 + 1 + 1) (nI p) x2 (nI 0) w := by rw [show FU - 4 + 1 + 1 + 1 + 1 = FU by unfold FU; rfl]; rfl
    rw [e0, show n1 + (n2 + n3) + n'' = n1 + (n2 + (n3 + n'')) by omega]
    exact a1 (FU - 4 + 1 + 1 + 1) w'' (n2 + (n3 + n'')) (b1 (FU - 4 + 1 + 1) w'' (n3 + n'') (c1 (FU - 4 + 1) w'' n'' hk))
  · rw [upd_ne _ _ (by omega), upd_ne _ _ (by omega), upd_ne _ _ (by omega)]
  · rw [e91, e92]
    rcases (by omega : i = 0 ∨ i = 1 ∨ i = 2) with rfl | rfl | rfl
    · rw [upd_ne _ _ (by omega), upd_ne _ _ (by omega), upd_at]
    · rw [upd_ne _ _ (by omega), upd_at, upd_ne _ _ (by omega)]
    · rw [upd_at, upd_ne _ _ (by omega), upd_ne _ _ (by omega)]
  · rw [c4, b4, a4, e91, e92]
    rcases (by omega : i = 0 ∨ i = 1 ∨ i = 2) with rfl | rfl | rfl
    · rw [upd_ne _ _ (by omega), upd_ne _ _ (by omega), upd_at]
    · rw [upd_ne _ _ (by omega), upd_at, upd_ne _ _ (by omega)]
    · rw [upd_at, upd_ne _ _ (by omega), upd_ne _ _ (by omega)]
theorem goC2 {τ O b Z ks : Nat} {hist : Nat → Nat → Int32} (hks : ks ≤ 4) (h : HCx w τ T O b Z hist) (e : w.1 11 = now) (hp : p < 60) (hb : b + 3 < 120000) :
    ∃ w' n X, (∀ (kself : Int32 → Int32 → Int32 → CW → Option (CW × Nat)) (w'' : CW) (n'' : Nat), f_X9_goOn_b65 (nI p) (nI ks) w' = some (w'', n'') → f_X9_goOn_l2_body kself (nI p) (nI ks) 3 w = some (w'', n + n'')) ∧ HCx w' τ T O (b + 3) Z hist ∧ w'.1 11 = X ∧ (∀ j, j ≠ 78 * p + 4 → j ≠ 8555 → X j = now j) ∧ X (78 * p + 4) = (if ks = 3 then 0 else now (78 * p + 4) + w.1 9 0) ∧ X 8555 = (if ks = 3 then now 8555 + (now (78 * p + 4) + w.1 9 0) else now 8555) ∧ Fr w w' ∧ 4096 * n + 2 * w.2 = 2 * w'.2 := by
  obtain ⟨w1, n1, e1, h1, q1, f1, c1⟩ := grow_k (p := p) (k := 4) (x := 4) (v := w.1 9 0) rfl h e hp (by omega) (by omega)
  have hb0 : ∀ (kself : Int32 → Int32 → Int32 → CW → Option (CW × Nat)), f_X9_goOn_l2_body kself (nI p) (nI ks) 3 w = bnc (f_X9_grow (nI p) 4 (w.1 9 0) w) fun y21 => if nI ks = 3 then (bnc (f_X9_drainOff (nI p) y21) fun y23 => f_X9_goOn_b65 (nI p) (nI ks) y23) else f_X9_goOn_b65 (nI p) (nI ks) y21 := by
    intro kself
    unfold f_X9_goOn_l2_body
    rw [if_pos (by decide), chk_t (lit_in (a := 0) (by rfl) (by omega) (by omega))]
    rfl
  by_cases h3 : ks = 3
  · obtain ⟨w2, n2, e2, h2, q2, f2, c2⟩ := drain_k h1 q1 hp (by omega)
    refine ⟨w2, n1 + n2, _, fun kself w'' n'' hk => ?_, h2.mono (by omega) (Nat.le_refl _), q2, fun j h4 h5 => ?_, ?_, ?_, f1.trans f2, by omega⟩
    · rw [hb0, Nat.add_assoc]
      refine bnc_of e1 ?_
      show (if nI ks = 3 then (bnc (f_X9_drainOff (nI p) w1) fun y23 => f_X9_goOn_b65 (nI p) (nI ks) y23) else f_X9_goOn_b65 (nI p) (nI ks) w1) = _
      rw [if_pos (show nI ks = (3 : Int32) by rw [h3]; rfl)]
      exact bnc_of e2 hk
    · rw [upd_ne _ _ h4, upd_ne _ _ h5, upd_ne _ _ h4]
    · rw [upd_at, if_pos h3]
    · rw [upd_ne _ _ (by omega), upd_at, upd_ne _ _ (by omega), upd_at, if_pos h3]
  · refine ⟨w1, n1, _, fun kself w'' n'' hk => ?_, h1.mono (by omega) (Nat.le_refl _), q1, fun j h4 h5 => ?_, ?_, ?_, f1, by omega⟩
    · rw [hb0]
      refine bnc_of e1 ?_
      show (if nI ks = 3 then (bnc (f_X9_drainOff (nI p) w1) fun y23 => f_X9_goOn_b65 (nI p) (nI ks) y23) else f_X9_goOn_b65 (nI p) (nI ks) w1) = _
      rw [if_neg (show ¬ nI ks = (3 : Int32) from fun q => h3 (nI_inj (b := 3) (by omega) (by omega) q))]
      exact hk
    · rw [upd_ne _ _ h4]
    · rw [upd_at, if_neg h3]
    · rw [upd_ne _ _ (by omega), if_neg h3]
/-- the clock of a run, and its step -/
theorem goC4 {τ O b Z N a l : Nat} {hist : Nat → Nat → Int32} (h : HCx w τ T O b Z hist) (e : w.1 11 = now) (hp : p < 60) (hb : b + 6 < 120000) (hN : N ≤ 30) (ha : a < N) (hl : 1 ≤ l) (hl2 : l ≤ 200) (c10 : now (78 * p + 10) = nI N) (c11 : now (78 * p + 11) = nI a) (c12 : now (78 * p + 12) = nI l) (u : Nat) (hu : a + 1 < N → ∃ k, k ≤ 4 ∧ 1 ≤ u ∧ u ≤ 200 ∧ now (78 * p + (48 + (a + 1))) = nI (1000 * k + u)) :
    ∃ X, OkV (f_X9_goOn_b86 (nI p) w) w τ T O (b + 6) Z hist X ∧ (∀ j, j ≠ 78 * p + 27 → j ≠ 78 * p + 6 → j ≠ 78 * p + 3 → j ≠ 78 * p + 12 → j ≠ 78 * p + 11 → X j = now j) ∧ X (78 * p + 27) = now (78 * p + 27) + 1 ∧ X (78 * p + 6) = 0 ∧ X (78 * p + 3) = 2 ∧ X (78 * p + 12) = nI (if l = 1 then (if a + 1 < N then u else 0) else l - 1) ∧ X (78 * p + 11) = nI (if l = 1 ∧ a + 1 < N then a + 1 else a) := by
  obtain ⟨X5, hX5⟩ : ∃ X5, X5 = upd (upd (upd (upd now (78 * p + 27) (now (78 * p + 27) + 1)) (78 * p + 6) 0) (78 * p + 3) 2) (78 * p + 12) (nI (l - 1)) := ⟨_, rfl⟩
  have v12 : X5 (78 * p + 12) = nI (l - 1) := by rw [hX5, upd_at]
  have v3 : X5 (78 * p + 3) = 2 := by rw [hX5, upd_ne _ _ (by omega), upd_at]
  have v6 : X5 (78 * p + 6) = 0 := by rw [hX5, upd_ne _ _ (by omega), upd_ne _ _ (by omega), upd_at]
  have v27 : X5 (78 * p + 27) = now (78 * p + 27) + 1 := by rw [hX5, upd_ne _ _ (by omega), upd_ne _ _ (by omega), upd_ne _ _ (by omega), upd_at]
  have vj : ∀ j, j ≠ 78 * p + 27 → j ≠ 78 * p + 6 → j ≠ 78 * p + 3 → j ≠ 78 * p + 12 → X5 j = now j := fun j h1 h2 h3 h4 => by rw [hX5, upd_ne _ _ h4, upd_ne _ _ h3, upd_ne _ _ h2, upd_ne _ _ h1]
  have v11 : X5 (78 * p + 11) = nI a := by rw [vj _ (by omega) (by omega) (by omega) (by omega)]; exact c11
  have v10 : X5 (78 * p + 10) = nI N := by rw [vj _ (by omega) (by omega) (by omega) (by omega)]; exact c10
  obtain ⟨w1, n1, e1, h1, q1, f1, d1⟩ := grow_k (p := p) (k := 27) (x := 27) (v := 1) rfl h e hp (by omega) (by omega)
  obtain ⟨w2, n2, e2, h2, q2, f2, d2⟩ := write_k (p := p) (k := 6) (x := 6) (v := 0) rfl h1 q1 hp (by omega) (by omega)
  obtain ⟨w3, n3, e3, h3, q3, f3, d3⟩ := write_k (p := p) (k := 3) (x := 3) (v := 2) rfl h2 q2 hp (by omega) (by omega)
  obtain ⟨w4, n4, e4, h4, q4, f4, d4⟩ := grow_k (p := p) (k := 12) (x := 12) (v := -1) rfl h3 q3 hp (by omega) (by omega)
  have q5 : w4.1 11 = X5 := by
    rw [q4, upd_ne (j := 78 * p + 12) (k := 78 * p + 3) _ _ (by omega), upd_ne (j := 78 * p + 12) (k := 78 * p + 6) _ _ (by omega), upd_ne (j := 78 * p + 12) (k := 78 * p + 27) _ _ (by omega), c12, nI_dec hl, hX5]
  have r11 : f_X9_read (nI p) 11 w4 = some (nI a) := by rw [read_k (k := 11) (by rfl) hp (by omega), q5, v11]
  have r12 : f_X9_read (nI p) 12 w4 = some (nI (l - 1)) := by rw [read_k (k := 12) (by rfl) hp (by omega), q5, v12]
  have r10 : f_X9_read (nI p) 10 w4 = some (nI N) := by rw [read_k (k := 10) (by rfl) hp (by omega), q5, v10]
  have hbody : ∀ (w'' : CW) (n'' : Nat), (if nI (l - 1) = 0 then (if nI N ≤ nI a + 1 then some (w4, 0) else (bnc (f_X9_write (nI p) 11 (nI a + 1) w4) fun y10 => (f_X9_read (nI p) (48 + (nI a + 1)) y10).bind fun y11 => (f_X9_minutesOf y11).bind fun y12 => bnc (f_X9_write (nI p) 12 y12 y10) fun y13 => some (y13, 0))) else some (w4, 0)) = some (w'', n'') → f_X9_goOn_b86 (nI p) w = some (w'', n1 + (n2 + (n3 + (n4 + n'')))) := by
    intro w'' n'' hk
    unfold f_X9_goOn_b86
    refine bnc_of e1 ?_
    refine bnc_of e2 ?_
    refine bnc_of e3 ?_
    refine bnc_of e4 ?_
    show (f_X9_read (nI p) 11 w4).bind _ = _
    rw [r11, Option.bind_some, r12, Option.bind_some, r10, Option.bind_some]
    exact hk
  by_cases hl1 : l = 1
  · have z1 : nI (l - 1) = 0 := by rw [hl1]; rfl
    by_cases haN : a + 1 < N
    · obtain ⟨k, u1, u2, u3, u4⟩ := hu haN
      obtain ⟨w5, n5, e5, h5, q6, f5, d5⟩ := write_k (p := p) (k := 11) (x := 11) (v := nI (a + 1)) rfl h4 q5 hp (by omega) (by omega)
      obtain ⟨w6, n6, e6, h6, q7, f6, d6⟩ := write_k (p := p) (k := 12) (x := 12) (v := nI u) rfl h5 q6 hp (by omega) (by omega)
      have r48 : f_X9_read (nI p) (48 + nI (a + 1)) w5 = some (nI (1000 * k + u)) := by
        rw [read_k (k := 48 + (a + 1)) (by exact nI_add 48 (a + 1)) hp (by omega), q6, upd_ne _ _ (by omega), vj _ (by omega) (by omega) (by omega) (by omega), u4]
      refine ⟨_, ⟨w6, n1 + (n2 + (n3 + (n4 + (n5 + (n6 + 0))))), hbody w6 _ ?_, h6, q7, f1.trans (f2.trans (f3.trans (f4.trans (f5.trans f6)))), by omega⟩, fun j j1 j2 j3 j4 j5 => ?_, ?_, ?_, ?_, ?_, ?_⟩
      · rw [if_pos z1, nI_1 a, if_neg (nI_ge (by omega) (by omega))]
        refine bnc_of e5 ?_
        show (f_X9_read (nI p) (48 + nI (a + 1)) w5).bind _ = _
        rw [r48, Option.bind_some]
        show (f_X9_minutesOf (nI (1000 * k + u))).bind _ = _
        unfold f_X9_minutesOf
        rw [Option.bind_some, rem_s (d := 1000) (by rfl) (by omega) (by omega) (by omega), show (1000 * k + u) % 1000 = u by omega]
        exact bnc_of e6 rfl
      · rw [upd_ne _ _ j4, upd_ne _ _ j5]; exact vj j j1 j2 j3 j4
      · rw [upd_ne _ _ (by omega), upd_ne _ _ (by omega)]; exact v27
      · rw [upd_ne _ _ (by omega), upd_ne _ _ (by omega)]; exact v6
      · rw [upd_ne _ _ (by omega), upd_ne _ _ (by omega)]; exact v3
      · rw [upd_at, if_pos hl1, if_pos haN]
      · rw [upd_ne _ _ (by omega), upd_at, if_pos ⟨hl1, haN⟩]
    · refine ⟨X5, ⟨w4, n1 + (n2 + (n3 + (n4 + 0))), hbody w4 _ ?_, h4.mono (by omega) (Nat.le_refl _), q5, f1.trans (f2.trans (f3.trans f4)), by omega⟩, fun j j1 j2 j3 j4 j5 => vj j j1 j2 j3 j4, v27, v6, v3, ?_, ?_⟩
      · rw [if_pos z1, nI_1 a, if_pos (nI_le (by omega) (by omega))]
      · rw [v12, if_pos hl1, if_neg haN, hl1]
      · rw [v11, if_neg (fun q => haN q.2)]
  · refine ⟨X5, ⟨w4, n1 + (n2 + (n3 + (n4 + 0))), hbody w4 _ ?_, h4.mono (by omega) (Nat.le_refl _), q5, f1.trans (f2.trans (f3.trans f4)), by omega⟩, fun j j1 j2 j3 j4 j5 => vj j j1 j2 j3 j4, v27, v6, v3, ?_, ?_⟩
    · rw [if_neg (show ¬ nI (l - 1) = 0 from nI_ne0 (by omega) (by omega))]
    · rw [v12, if_neg hl1]
    · rw [v11, if_neg (fun q => hl1 q.1)]
theorem goM0 {m : MW} {O b Z C i kf : Nat} {hist : Nat → Nat → Int32} {x2 : Int32} (hi : i < 3) (h : HMx m T O b Z C hist) (e : m 1 = s) (hp : p < 60) (hb : b + 2 < 120000) (hC : C + 2 < 2 ^ 30) :
    ∃ m', f_X10_goes_l18 (kf + 1) (nI p) x2 (nI i) m = f_X10_goes_l18 kf (nI p) x2 (nI (i + 1)) m' ∧ HMx m' T O (b + 2) Z (C + 2) hist ∧ m' 1 = upd (upd s (11350 + i) (s (11350 + i) + m 13 i)) (104 * p + (34 + i)) (s (104 * p + (34 + i)) + m 13 i) ∧ FrM m m' := by
  obtain ⟨m1, a1, a2, a3, a4⟩ := w_k (a := 11350 + i) (v := s (11350 + i) + m 13 i) h e (by omega) (by omega) (by omega)
  obtain ⟨m2, b1, b2, b3, b4⟩ := let_k (p := p) (k := 34 + i) (x := 34 + nI i) (v := s (104 * p + (34 + i)) + m 13 i) (nI_add 34 i) a2 a3 (by omega) (by omega) (by omega)
  have e13 : m1 13 = m 13 := a4.1 13 (by decide) (by decide) (by decide) (by decide)
  have eo : f_X10_of (nI p) (34 + nI i) m1 = some (s (104 * p + (34 + i))) := by rw [of_s (k := 34 + i) (by exact nI_add 34 i) (by omega), a3, upd_ne _ _ (by omega)]
  refine ⟨m2, ?_, b2, b3, a4.trans b4⟩
  show f_X10_goes_l18_body (f_X10_goes_l18 kf) (nI p) x2 (nI i) m = _
  unfold f_X10_goes_l18_body
  rw [if_neg (show ¬ (3 : Int32) ≤ nI i from nI_ge (a := i) (b := 3) (by omega) (by omega)), show (11350 : Int32) + nI i = nI (11350 + i) from nI_add 11350 i, chk_t (inb_nI (by omega) (by omega))]
  simp only [chk_t (inb_nI hi (show 3 < 2 ^ 31 by omega))]
  rw [nI_clamp (show 11350 + i < 2 ^ 31 by omega), nI_clamp (show i < 2 ^ 31 by omega), e, a1, Option.bind_some, eo, Option.bind_some, e13, b1, Option.bind_some, nI_1 i]
theorem goM2 {m : MW} {O b Z C ks kf : Nat} {hist : Nat → Nat → Int32} (hks : ks ≤ 4) (h : HMx m T O b Z C hist) (e : m 1 = s) (hp : p < 60) (hb : b + 3 < 120000) (hC : C + 3 < 2 ^ 30) :
    ∃ m' Y, f_X10_goes_l18 (kf + 1) (nI p) (nI ks) (nI 3) m = f_X10_goes_b133 (nI p) (nI ks) m' ∧ HMx m' T O (b + 3) Z (C + 3) hist ∧ m' 1 = Y ∧ (∀ j, j ≠ 104 * p + 5 → j ≠ 11349 → Y j = s j) ∧ Y (104 * p + 5) = (if ks = 3 then 0 else s (104 * p + 5) + m 13 0) ∧ Y 11349 = (if ks = 3 then s 11349 + (s (104 * p + 5) + m 13 0) else s 11349) ∧ FrM m m' := by
  obtain ⟨m1, a1, a2, a3, a4⟩ := let_k (p := p) (k := 5) (x := 5) (v := s (104 * p + 5) + m 13 0) rfl h e (by omega) (by omega) (by omega)
  have i49 : inb (11349 : Int32) 11360 := lit_in (a := 11349) rfl (by omega) (by omega)
  have l49 : (11349 : Int32).toNatClampNeg = 11349 := lit_cl (a := 11349) rfl (by omega)
  have hb0 : f_X10_goes_l18 (kf + 1) (nI p) (nI ks) (nI 3) m = if nI ks = 3 then (chk (inb (11349 : Int32) 11360) ((f_X10_of (nI p) 5 m1).bind fun y26 => (f_X10_w 11349 (m1 1 (11349 : Int32).toNatClampNeg + y26) m1).bind fun y27 => (f_X10_let (nI p) 5 0 y27).bind fun y28 => f_X10_goes_b133 (nI p) (nI ks) y28)) else f_X10_goes_b133 (nI p) (nI ks) m1 := by
    show f_X10_goes_l18_body (f_X10_goes_l18 kf) (nI p) (nI ks) (nI 3) m = _
    unfold f_X10_goes_l18_body
    rw [if_pos (by decide), of_s (k := 5) (by rfl) (by omega), Option.bind_some, chk_t (lit_in (a := 0) (by rfl) (by omega) (by omega)), e]
    show (f_X10_let (nI p) 5 (s (104 * p + 5) + m 13 0) m).bind _ = _
    rw [a1, Option.bind_some]
  by_cases h3 : ks = 3
  · obtain ⟨m2, b1, b2, b3, b4⟩ := wl_k (x := 11349) (v := s 11349 + (s (104 * p + 5) + m 13 0)) (a := 11349) rfl a2 a3 (by omega) (by omega) (by omega)
    obtain ⟨m3, c1, c2, c3, c4⟩ := let_k (p := p) (k := 5) (x := 5) (v := 0) rfl b2 b3 (by omega) (by omega) (by omega)
    refine ⟨m3, _, ?_, c2, c3, fun j h4 h5 => ?_, ?_, ?_, a4.trans (b4.trans c4)⟩
    · rw [hb0, if_pos (show nI ks = (3 : Int32) by rw [h3]; rfl), chk_t i49, l49, of_s (k := 5) (by rfl) (by omega), Option.bind_some, a3, upd_at, upd_ne (j := 11349) (k := 104 * p + 5) _ _ (by omega), b1, Option.bind_some, c1, Option.bind_some]
    · rw [upd_ne _ _ h4, upd_ne _ _ h5, upd_ne _ _ h4]
    · rw [upd_at, if_pos h3]
    · rw [upd_ne _ _ (by omega), upd_at, if_pos h3]
  · refine ⟨m1, _, ?_, a2.mono (by omega) (Nat.le_refl _) (by omega), a3, fun j h4 h5 => ?_, ?_, ?_, a4⟩
    · rw [hb0, if_neg (show ¬ nI ks = (3 : Int32) from fun q => h3 (nI_inj (b := 3) (by omega) (by omega) q))]
    · rw [upd_ne _ _ h4]
    · rw [upd_at, if_neg h3]
    · rw [upd_ne _ _ (by omega), if_neg h3]
theorem goM4 {m : MW} {O b Z C N a l : Nat} {hist : Nat → Nat → Int32} (h : HMx m T O b Z C hist) (e : m 1 = s) (hp : p < 60) (hb : b + 11 < 120000) (hC : C + 11 < 2 ^ 30) (hN : N ≤ 30) (ha : a < N) (hl : 1 ≤ l) (hl2 : l ≤ 200) (c27 : s (104 * p + 27) = nI N) (c28 : s (104 * p + 28) = nI a) (c29 : s (104 * p + 29) = nI l) (u : Nat) (hu : a + 1 < N → s (104 * p + (71 + (a + 1))) = nI u) :
    ∃ Y, OkM (f_X10_goes_b159 (nI p) m) m T O (b + 11) Z (C + 11) hist (if l = 1 ∧ ¬ a + 1 < N then endS Y p else Y) ∧ (∀ j, j ≠ 104 * p + 30 → j ≠ 104 * p + 4 → j ≠ 104 * p + 29 → j ≠ 104 * p + 28 → Y j = s j) ∧ Y (104 * p + 30) = 0 ∧ Y (104 * p + 4) = 2 ∧ Y (104 * p + 29) = nI (if l = 1 then (if a + 1 < N then u else 0) else l - 1) ∧ Y (104 * p + 28) = nI (if l = 1 then a + 1 else a) := by
  obtain ⟨m1, a1, a2, a3, a4⟩ := let_k (p := p) (k := 30) (x := 30) (v := 0) rfl h e (by omega) (by omega) (by omega)
  obtain ⟨m2, b1, b2, b3, b4⟩ := let_k (p := p) (k := 4) (x := 4) (v := 2) rfl a2 a3 (by omega) (by omega) (by omega)
  obtain ⟨m3, d1, d2, d3, d4⟩ := let_k (p := p) (k := 29) (x := 29) (v := nI (l - 1)) rfl b2 b3 (by omega) (by omega) (by omega)
  obtain ⟨Y3, hY3⟩ : ∃ Y3, Y3 = upd (upd (upd s (104 * p + 30) 0) (104 * p + 4) 2) (104 * p + 29) (nI (l - 1)) := ⟨_, rfl⟩
  rw [← hY3] at d3
  have v29 : Y3 (104 * p + 29) = nI (l - 1) := by rw [hY3, upd_at]
  have v4 : Y3 (104 * p + 4) = 2 := by rw [hY3, upd_ne _ _ (by omega), upd_at]
  have v30 : Y3 (104 * p + 30) = 0 := by rw [hY3, upd_ne _ _ (by omega), upd_ne _ _ (by omega), upd_at]
  have vj : ∀ j, j ≠ 104 * p + 30 → j ≠ 104 * p + 4 → j ≠ 104 * p + 29 → Y3 j = s j := fun j h1 h2 h3 => by rw [hY3, upd_ne _ _ h3, upd_ne _ _ h2, upd_ne _ _ h1]
  have v28 : Y3 (104 * p + 28) = nI a := by rw [vj _ (by omega) (by omega) (by omega)]; exact c28
  have o29 : f_X10_of (nI p) 29 m2 = some (nI l) := by rw [of_s (k := 29) (by rfl) (by omega), b3, upd_ne _ _ (by omega), upd_ne _ _ (by omega), c29]
  have o29' : f_X10_of (nI p) 29 m3 = some (nI (l - 1)) := by rw [of_s (k := 29) (by rfl) (by omega), d3, v29]
  have o28 : f_X10_of (nI p) 28 m3 = some (nI a) := by rw [of_s (k := 28) (by rfl) (by omega), d3, v28]
  have el : nI l - (1 : Int32) = nI (l - 1) := pk_sub (a := l) (b := 1) hl
  have hb0 : f_X10_goes_b159 (nI p) m = if nI (l - 1) = 0 then ((f_X10_let (nI p) 28 (nI (a + 1)) m3).bind fun y8 => (f_X10_of (nI p) 28 y8).bind fun y9 => (f_X10_of (nI p) 27 y8).bind fun y10 => if y9 = y10 then ((f_X10_ends (nI p) y8).bind fun y15 => some y15) else ((f_X10_of (nI p) 28 y8).bind fun y12 => (f_X10_of (nI p) (71 + y12) y8).bind fun y13 => (f_X10_let (nI p) 29 y13 y8).bind fun y14 => some y14)) else some m3 := by
    unfold f_X10_goes_b159
    rw [a1, Option.bind_some, b1, Option.bind_some, o29, Option.bind_some, el, d1, Option.bind_some, o29', Option.bind_some, o28, Option.bind_some, nI_1 a]
  have fr3 : FrM m m3 := a4.trans (b4.trans d4)
  by_cases hl1 : l = 1
  · have z1 : nI (l - 1) = 0 := by rw [hl1]; rfl
    obtain ⟨m4, g1, g2, g3, g4⟩ := let_k (p := p) (k := 28) (x := 28) (v := nI (a + 1)) rfl d2 d3 (by omega) (by omega) (by omega)
    have p28 : f_X10_of (nI p) 28 m4 = some (nI (a + 1)) := by rw [of_s (k := 28) (by rfl) (by omega), g3, upd_at]
    have p27 : f_X10_of (nI p) 27 m4 = some (nI N) := by rw [of_s (k := 27) (by rfl) (by omega), g3, upd_ne _ _ (by omega), vj _ (by omega) (by omega) (by omega), c27]
    rw [hb0, if_pos z1, g1, Option.bind_some, p28, Option.bind_some, p27, Option.bind_some]
    by_cases haN : a + 1 < N
    · have p71 : f_X10_of (nI p) (71 + nI (a + 1)) m4 = some (nI u) := by
        rw [of_s (k := 71 + (a + 1)) (by exact nI_add 71 (a + 1)) (by omega), g3, upd_ne _ _ (by omega), vj _ (by omega) (by omega) (by omega), hu haN]
      obtain ⟨m5, k1, k2, k3, k4⟩ := let_k (p := p) (k := 29) (x := 29) (v := nI u) rfl g2 g3 (by omega) (by omega) (by omega)
      rw [if_neg (show ¬ nI (a + 1) = nI N from fun q => by have := nI_inj (by omega) (by omega) q; omega), Option.bind_some, p71, Option.bind_some, k1, Option.bind_some]
      refine ⟨upd (upd Y3 (104 * p + 28) (nI (a + 1))) (104 * p + 29) (nI u), ⟨m5, rfl, k2.mono (by omega) (Nat.le_refl _) (by omega), ?_, fr3.trans (g4.trans k4)⟩, fun j j1 j2 j3 j4 => ?_, ?_, ?_, ?_, ?_⟩
      · rw [if_neg (fun q => q.2 haN)]; exact k3
      · rw [upd_ne _ _ j3, upd_ne _ _ j4]; exact vj j j1 j2 j3
      · rw [upd_ne _ _ (by omega), upd_ne _ _ (by omega)]; exact v30
      · rw [upd_ne _ _ (by omega), upd_ne _ _ (by omega)]; exact v4
      · rw [upd_at, if_pos hl1, if_pos haN]
      · rw [upd_ne _ _ (by omega), upd_at, if_pos hl1]
    · have eN : a + 1 = N := by omega
      obtain ⟨m5, k1, k2, k3, k4⟩ := ends_k g2 g3 hp (by omega) (by omega)
      rw [if_pos (show nI (a + 1) = nI N by rw [eN]), k1, Option.bind_some]
      refine ⟨upd Y3 (104 * p + 28) (nI (a + 1)), ⟨m5, rfl, k2.mono (by omega) (Nat.le_refl _) (by omega), ?_, fr3.trans (g4.trans k4)⟩, fun j j1 j2 j3 j4 => ?_, ?_, ?_, ?_, ?_⟩
      · rw [if_pos ⟨hl1, haN⟩]; exact k3
      · rw [upd_ne _ _ j4]; exact vj j j1 j2 j3
      · rw [upd_ne _ _ (by omega)]; exact v30
      · rw [upd_ne _ _ (by omega)]; exact v4
      · rw [upd_ne _ _ (by omega), v29, if_pos hl1, if_neg haN, hl1]
      · rw [upd_at, if_pos hl1]
  · rw [hb0, if_neg (show ¬ nI (l - 1) = 0 from nI_ne0 (by omega) (by omega))]
    refine ⟨Y3, ⟨m3, rfl, d2.mono (by omega) (Nat.le_refl _) (by omega), ?_, fr3⟩, fun j j1 j2 j3 j4 => vj j j1 j2 j3, v30, v4, ?_, ?_⟩
    · rw [if_neg (fun q => hl1 q.1)]; exact d3
    · rw [v29, if_neg hl1]
    · rw [v28, if_neg hl1]
end O5
