section P5
variable {n : Nat} {w : CW} {wm : MW} {T p : Nat}
theorem find_s {m : MW} {A : Nat} (hs : Rs (w.1 11) (m 1) T) (hp : p < 60) (hA2 : A < 2 ^ 30) : ∃ w' m', FCt w w' ∧ FMs m m' ∧ ((f_X6_findChange (nI p) (nI A) w = some (0, w') ∧ f_X10_canChange (nI p) (nI A) m = some (0, m')) ∨ (f_X6_findChange (nI p) (nI A) w = some (1, w') ∧ f_X10_canChange (nI p) (nI A) m = some (1, m') ∧ ∃ nk : Nat → Nat, ∀ k, k < 12 → w'.1 16 k = nI (nk k) ∧ m' 11 k = nI (nk k) ∧ nk k ≤ cNk (m 1) p k)) := by
  have hT := hs.2.2.1
  by_cases hA : A ≤ 500
  · obtain ⟨w', a1, a2⟩ := find_C hs hp hA
    obtain ⟨m', b1, b2⟩ := find_M hT rfl hp hA
    obtain ⟨t1, t2, t3, t4, t5, t6⟩ := twoO (tubes_d hT) 12 (Nat.le_refl _)
    refine ⟨w', m', a1, b1, ?_⟩
    obtain ⟨V, hV⟩ : ∃ V : Nat → Nat, V = fun i => vN (m 1) (bvF (vN (m 1)) 12 i) := ⟨_, rfl⟩
    obtain ⟨c, hc⟩ : ∃ c : Nat → Nat, c = fun i => cNk (m 1) p (bvF (vN (m 1)) 12 i) := ⟨_, rfl⟩
    rw [← hV, ← hc] at a2 b2
    have hrel := opt_rel (V := V) (c := c) 12 A hA
    unfold NvR at hrel
    rcases a2 with ⟨x1, x2, x3⟩ | ⟨x1, x2⟩
    · rcases b2 with ⟨y1, y2, y3, y4⟩ | ⟨y1, y2⟩
      · refine Or.inr ⟨x2, y2, fun k => (w'.1 16 k).toNatClampNeg, fun k hk => ?_⟩
        obtain ⟨i, hi, ei⟩ := t4 k hk
        have hj := x3 (11 - i) (by omega)
        rw [show 11 - (11 - i) = i by omega, ei] at hj
        obtain ⟨s1, s2⟩ := SS_ok (V := V) (c := c) hA y1 (11 - i) (by omega)
        have hSl := SS_le (I := 9999) (V := V) (c := c) (A := A) (11 - i)
        rw [show 12 - (11 - i) = i + 1 by omega] at s1
        rw [s2, NN_eq (by omega) s1] at hj
        have hle := (NN_le (V := V) (c := c) (i := i) (s := SSv 9999 V c A (11 - i)) 9999).2
        have hci : c i = cNk (m 1) p k := by rw [hc]; show cNk (m 1) p (bvF (vN (m 1)) 12 i) = _; rw [ei]
        have hb : cNk (m 1) p k ≤ 1000 := by
          have h1 := (tubes_s hT hk).2.2.2.2.2.1
          unfold cNk
          omega
        have hcl : (w'.1 16 k).toNatClampNeg = NN 9999 V c i (SSv 9999 V c A (11 - i)) := by rw [hj, nI_clamp (by omega)]
        show _ = nI (w'.1 16 k).toNatClampNeg ∧ _ = nI (w'.1 16 k).toNatClampNeg ∧ (w'.1 16 k).toNatClampNeg ≤ _
        rw [hcl]
        refine ⟨hj, ?_, by omega⟩
        by_cases hr : 11 - i < rF (vN (m 1)) 12
        · have h3 := y3 (11 - i) hr
          rw [show 11 - (11 - i) = i by omega, ei] at h3
          exact h3
        · have hVz : V i = 0 := by rw [hV]; exact t5 i (by omega)
          have hN0 : NN 9999 V c i (SSv 9999 V c A (11 - i)) = 0 := by
            unfold NN
            rw [show mostN (V i) (c i) (SSv 9999 V c A (11 - i)) = 0 from if_pos hVz]
            rfl
          rw [hN0, y4 k hk (fun j hj' e => ?_)]
          · rfl
          · rw [← ei] at e
            rcases Nat.lt_trichotomy (11 - j) i with d | d | d
            · exact (t3 (11 - j) i d hi).2 e
            · omega
            · exact (t3 i (11 - j) d (by omega)).2 e.symm
      · exact absurd x1 (by omega)
    · rcases b2 with ⟨y1, y2, y3, y4⟩ | ⟨y1, y2⟩
      · exact absurd y1 (by omega)
      · exact Or.inl ⟨x2, y2⟩
  · obtain ⟨m', b1, b2⟩ := find_no (s := m 1) hT rfl hp (show 500 < A by omega) hA2
    refine ⟨w, m', FCt.refl w, b1, Or.inl ⟨?_, b2⟩⟩
    unfold f_X6_findChange
    rw [within_s, Option.bind_some, gd, if_neg (fun q => nI_ge (a := 500) (b := A) (by omega) (by omega) q.2)]
theorem gcC {τ O Z : Nat} {hist : Nat → Nat → Int32} {x2 : Int32} {nk xk : Nat → Nat} (hp : p < 60) : ∀ (d kf i b : Nat) (w : CW) (now : Nat → Int32), i + d = 12 → d < kf → HCx w τ T O b Z hist → w.1 11 = now → (∀ j, j < 12 → w.1 16 j = nI (nk j)) → (∀ j, i ≤ j → j < 12 → now (8432 + j) = nI (xk j) ∧ nk j ≤ xk j) → b + 2 * d + 1 < 120000 →
    ∃ w' n' X, f_X6_giveChange_l2 kf (nI p) x2 (nI i) w = some (w', n') ∧ HCx w' τ T O (b + 2 * d + 1) Z hist ∧ w'.1 11 = X ∧ (∀ q, q ≠ 1 → q ≠ 11 → q ≠ 12 → q ≠ 13 → q ≠ 17 → w'.1 q = w.1 q) ∧ 4096 * n' + 2 * w.2 = 2 * w'.2 ∧ (∀ j, j < 12 → w'.1 17 j = if i ≤ j then nI (nk j) else w.1 17 j) ∧ (∀ j, (∀ k, i ≤ k → k < 12 → j ≠ 8432 + k ∧ j ≠ 78 * p + (36 + k)) → j ≠ 8553 → X j = now j) ∧ (∀ k, i ≤ k → k < 12 → X (8432 + k) = nI (xk k - nk k) ∧ X (78 * p + (36 + k)) = 0) ∧ X 8553 = now 8553 + x2
  | d, 0, i, b, w, now, _, h, _, _, _, _, _ => by omega
  | 0, kf + 1, i, b, w, now, h, _, h1, e1, h16, hx, hb => by
    have hi : i = 12 := by omega
    obtain ⟨w', n', a1, a2, a3, a4, a5⟩ := addl_k (x := 8553) (v := x2) (a := 8553) rfl h1 e1 (by omega) (by omega)
    refine ⟨w', n' + 0, _, ?_, a2, a3, fun q q1 q2 q3 q4 _ => a4 q q1 q2 q3 q4, by omega, fun j hj => ?_, fun j hj hj2 => by rw [upd_ne _ _ hj2], fun k hk hk2 => by omega, by rw [upd_at]⟩
    · show f_X6_giveChange_l2_body (f_X6_giveChange_l2 kf) (nI p) x2 (nI i) w = _
      unfold f_X6_giveChange_l2_body
      rw [if_pos (show (12 : Int32) ≤ nI i by rw [hi]; decide)]
      exact bnc_of a1 rfl
    · rw [if_neg (by omega), a4 17 (by decide) (by decide) (by decide) (by decide)]
  | d + 1, kf + 1, i, b, w, now, h, hkf, h1, e1, h16, hx, hb => by
    have hi : i < 12 := by omega
    obtain ⟨x1, x2'⟩ := hx i (Nat.le_refl _) hi
    obtain ⟨w1, n1, a1, a2, a3, a4, a5⟩ := set_k (a := 78 * p + (36 + i)) (v := 0) h1 e1 (by omega) (by omega)
    obtain ⟨w2, n2, b1, b2, b3, b4, b5⟩ := add_k (a := 8432 + i) (v := -nI (nk i)) a2 a3 (by omega) (by omega)
    have hval : upd now (78 * p + (36 + i)) 0 (8432 + i) + -nI (nk i) = nI (xk i - nk i) := by rw [upd_ne _ _ (by omega), x1, ← Int32.sub_eq_add_neg, pk_sub x2']
    rw [hval] at b3
    have f16 : w1.1 16 = w.1 16 := a4 16 (by decide) (by decide) (by decide) (by decide)
    have f16' : w2.1 16 = w.1 16 := (b4 16 (by decide) (by decide) (by decide) (by decide)).trans f16
    obtain ⟨w3, hw3⟩ : ∃ w3, w3 = cs w2 17 i (nI (nk i)) := ⟨_, rfl⟩
    have p3 : ∀ q, q ≠ 17 → w3.1 q = w2.1 q := fun q hq => by rw [hw3, cs_ne _ _ _ hq]
    have HC3 : HCx w3 τ T O (b + 1 + 1) Z hist := by rw [hw3]; exact b2.cs (by decide) (by decide) (by decide) (by decide)
    obtain ⟨w', n', X, r1, r2, r3, r4, r5, r6, r7, r8, r9⟩ := gcC (x2 := x2) (nk := nk) (xk := xk) hp d kf (i + 1) (b + 1 + 1) w3 _ (by omega) (by omega) HC3 ((p3 11 (by decide)).trans b3) (fun j hj => by rw [p3 16 (by decide), f16']; exact h16 j hj) (fun j h2 h3 => by rw [upd_ne _ _ (by omega), upd_ne _ _ (by omega)]; exact hx j (by omega) h3) (by omega)
    have e32 : w3.2 = w2.2 := by rw [hw3]; rfl
    refine ⟨w', n1 + ((n2 + 0) + n'), X, ?_, ?_, r3, fun q q1 q2 q3 q4 q5 => (r4 q q1 q2 q3 q4 q5).trans ((p3 q q5).trans ((b4 q q1 q2 q3 q4).trans (a4 q q1 q2 q3 q4))), by omega, fun j hj => ?_, fun j hj hj2 => ?_, fun k hk hk2 => ?_, ?_⟩
    · show f_X6_giveChange_l2_body (f_X6_giveChange_l2 kf) (nI p) x2 (nI i) w = _
      unfold f_X6_giveChange_l2_body f_X6_takeOff
      rw [if_neg (show ¬ (12 : Int32) ≤ nI i from nI_ge (a := i) (b := 12) (by omega) (by omega)), ccell_s, Option.bind_some]
      refine bnc_of a1 ?_
      simp only [chk_t (inb_nI hi (show 12 < 2 ^ 31 by omega))]
      rw [nI_clamp (by omega), f16, h16 i hi, show (8432 : Int32) + nI i = nI (8432 + i) from nI_add 8432 i]
      refine bnc_of (bnc_of b1 rfl) ?_
      show f_X6_giveChange_l2 kf (nI p) x2 (nI i + 1) (cs w2 17 i (w2.1 16 i)) = _
      rw [f16', h16 i hi, ← hw3, nI_1 i]
      exact r1
    · rw [show b + 2 * (d + 1) + 1 = b + 1 + 1 + 2 * d + 1 by omega]; exact r2
    · rw [r6 j hj]
      by_cases e : i = j
      · rw [if_neg (by omega), if_pos (by omega), hw3, cs_at, e, upd_at]
      · by_cases e2 : i + 1 ≤ j
        · rw [if_pos e2, if_pos (by omega)]
        · rw [if_neg e2, if_neg (by omega), hw3, cs_at, upd_ne _ _ (fun q => e q.symm), b4 17 (by decide) (by decide) (by decide) (by decide), a4 17 (by decide) (by decide) (by decide) (by decide)]
    · rw [r7 j (fun k h2 h3 => hj k (by omega) h3) hj2, upd_ne _ _ (hj i (Nat.le_refl _) hi).1, upd_ne _ _ (hj i (Nat.le_refl _) hi).2]
    · by_cases e : k = i
      · rw [e, r7 (8432 + i) (fun k h2 h3 => by omega) (by omega), r7 (78 * p + (36 + i)) (fun k h2 h3 => by omega) (by omega), upd_at, upd_ne _ _ (by omega), upd_at]
        exact ⟨rfl, rfl⟩
      · exact r8 k (by omega) hk2
    · rw [r9, upd_ne _ _ (by omega), upd_ne _ _ (by omega)]
theorem HMx.m7 {m : MW} {O b Z C k : Nat} {v : Int32} {hist : Nat → Nat → Int32} (h : HMx m T O b Z C hist) : HMx (mst m 7 k v) T O b Z C hist := by
  obtain ⟨c, mk, h⟩ := h
  exact ⟨c, mk, h.congr (by rw [mst_ne _ _ _ (by decide)]) (by rw [mst_ne _ _ _ (by decide)]) (mst_ne _ _ _ (by decide)) (mst_ne _ _ _ (by decide)) (mst_ne _ _ _ (by decide)) (mst_ne _ _ _ (by decide))⟩
theorem gcM {O Z : Nat} {hist : Nat → Nat → Int32} {x2 x3 : Int32} {nk xk : Nat → Nat} (hp : p < 60) : ∀ (d kf i b C : Nat) (m : MW) (s : Nat → Int32), i + d = 12 → d < kf → HMx m T O b Z C hist → m 1 = s → (∀ j, j < 12 → m 11 j = nI (nk j)) → (∀ j, i ≤ j → j < 12 → s (8720 + 2 * j + 1) = nI (xk j) ∧ nk j ≤ xk j) → b + 2 * d + 4 < 120000 → C + 2 * d + 4 < 2 ^ 30 →
    ∃ m' Y, f_X10_pay_l99 kf (nI p) x2 x3 (nI i) m = some (x3, m') ∧ HMx m' T O (b + 2 * d + 4) Z (C + 2 * d + 4) hist ∧ m' 1 = Y ∧ (∀ q, q ≠ 0 → q ≠ 1 → q ≠ 2 → q ≠ 3 → q ≠ 7 → m' q = m q) ∧ (∀ k, k ≠ 4 → m' 0 k = m 0 k) ∧ (∀ j, j < 12 → m' 7 j = if i ≤ j then nI (nk j) else m 7 j) ∧ (∀ j, (∀ k, i ≤ k → k < 12 → j ≠ 8720 + 2 * k + 1 ∧ j ≠ 104 * p + (14 + k)) → j ≠ 11347 → j ≠ 11348 → j ≠ 104 * p + 40 → j ≠ 104 * p + 6 → Y j = s j) ∧ (∀ k, i ≤ k → k < 12 → Y (8720 + 2 * k + 1) = nI (xk k - nk k) ∧ Y (104 * p + (14 + k)) = 0) ∧ Y 11347 = s 11347 + x3 ∧ Y 11348 = s 11348 + x2 ∧ Y (104 * p + 40) = s (104 * p + 40) + x2 ∧ Y (104 * p + 6) = 1
  | d, 0, i, b, C, m, s, _, h, _, _, _, _, _, _ => by omega
  | 0, kf + 1, i, b, C, m, s, h, _, h1, e1, h11, hx, hb, hC => by
    have hi : i = 12 := by omega
    obtain ⟨m1, a1, a2, a3, a4⟩ := wl_k (x := 11347) (v := s 11347 + x3) (a := 11347) rfl h1 e1 (by omega) (by omega) (by omega)
    obtain ⟨m2, b1, b2, b3, b4⟩ := wl_k (x := 11348) (v := s 11348 + x2) (a := 11348) rfl a2 a3 (by omega) (by omega) (by omega)
    obtain ⟨m3, c1, c2, c3, c4⟩ := let_k (p := p) (k := 40) (x := 40) (v := s (104 * p + 40) + x2) rfl b2 b3 (by omega) (by omega) (by omega)
    obtain ⟨m4, d1, d2, d3, d4⟩ := let_k (p := p) (k := 6) (x := 6) (v := 1) rfl c2 c3 (by omega) (by omega) (by omega)
    have fr := a4.trans (b4.trans (c4.trans d4))
    refine ⟨m4, _, ?_, d2, d3, fun q q0 q1 q2 q3 _ => fr.1 q q0 q1 q2 q3, fr.2, fun j hj => ?_, fun j hj j1 j2 j3 j4 => ?_, fun k hk hk2 => by omega, ?_, ?_, ?_, by rw [upd_at]⟩
    · show f_X10_pay_l99_body (f_X10_pay_l99 kf) (nI p) x2 x3 (nI i) m = _
      unfold f_X10_pay_l99_body
      have o40 : f_X10_of (nI p) 40 m2 = some (s (104 * p + 40)) := by rw [of_s (k := 40) (by rfl) (by omega), b3, upd_ne _ _ (by omega), upd_ne _ _ (by omega)]
      rw [if_pos (show (12 : Int32) ≤ nI i by rw [hi]; decide), chk_t (lit_in (a := 11347) (by rfl) (by omega) (by omega)), lit_cl (x := 11347) (a := 11347) (by rfl) (by omega), e1, a1, Option.bind_some, chk_t (lit_in (a := 11348) (by rfl) (by omega) (by omega)), lit_cl (x := 11348) (a := 11348) (by rfl) (by omega), a3, upd_ne (j := 11348) (k := 11347) _ _ (by omega), b1, Option.bind_some, o40, Option.bind_some, c1, Option.bind_some, d1, Option.bind_some]
    · rw [if_neg (by omega), fr.1 7 (by decide) (by decide) (by decide) (by decide)]
    · rw [upd_ne _ _ j4, upd_ne _ _ j3, upd_ne _ _ j2, upd_ne _ _ j1]
    · rw [upd_ne _ _ (by omega), upd_ne _ _ (by omega), upd_ne _ _ (by omega), upd_at]
    · rw [upd_ne _ _ (by omega), upd_ne _ _ (by omega), upd_at]
    · rw [upd_ne _ _ (by omega), upd_at]
  | d + 1, kf + 1, i, b, C, m, s, h, hkf, h1, e1, h11, hx, hb, hC => by
    have hi : i < 12 := by omega
    obtain ⟨x1, x2'⟩ := hx i (Nat.le_refl _) hi
    obtain ⟨m0, hm0⟩ : ∃ m0, m0 = mst m 7 i (nI (nk i)) := ⟨_, rfl⟩
    have p0 : ∀ q, q ≠ 7 → m0 q = m q := fun q hq => by rw [hm0, mst_ne _ _ _ hq]
    have HM0 : HMx m0 T O b Z C hist := by rw [hm0]; exact h1.m7
    have e10 : m0 1 = s := (p0 1 (by decide)).trans e1
    obtain ⟨m1, a1, a2, a3, a4⟩ := w_k (a := 8720 + 2 * i + 1) (v := nI (xk i - nk i)) HM0 e10 (by omega) (by omega) (by omega)
    obtain ⟨m2, b1, b2, b3, b4⟩ := let_k (p := p) (k := 14 + i) (x := 14 + nI i) (v := 0) (nI_add 14 i) a2 a3 (by omega) (by omega) (by omega)
    have fr := a4.trans b4
    obtain ⟨m', Y, r1, r2, r3, r4, r5, r6, r7, r8, r9, r10, r11, r12⟩ := gcM (x2 := x2) (x3 := x3) (nk := nk) (xk := xk) hp d kf (i + 1) (b + 1 + 1) (C + 1 + 1) m2 _ (by omega) (by omega) b2 b3 (fun j hj => by rw [fr.1 11 (by decide) (by decide) (by decide) (by decide), p0 11 (by decide)]; exact h11 j hj) (fun j h2 h3 => by rw [upd_ne _ _ (by omega), upd_ne _ _ (by omega)]; exact hx j (by omega) h3) (by omega) (by omega)
    refine ⟨m', Y, ?_, ?_, r3, fun q q0 q1 q2 q3 q7 => (r4 q q0 q1 q2 q3 q7).trans ((fr.1 q q0 q1 q2 q3).trans (p0 q q7)), fun k hk => (r5 k hk).trans ((fr.2 k hk).trans (by rw [p0 0 (by decide)])), fun j hj => ?_, fun j hj j1 j2 j3 j4 => ?_, fun k hk hk2 => ?_, ?_, ?_, ?_, r12⟩
    · show f_X10_pay_l99_body (f_X10_pay_l99 kf) (nI p) x2 x3 (nI i) m = _
      unfold f_X10_pay_l99_body
      rw [if_neg (show ¬ (12 : Int32) ≤ nI i from nI_ge (a := i) (b := 12) (by omega) (by omega)), ta_s, show nI (8720 + 2 * i) + (1 : Int32) = nI (8720 + 2 * i + 1) from nI_add _ _, chk_t (inb_nI hi (by omega)), chk_t (inb_nI hi (by omega)), chk_t (inb_nI (show 8720 + 2 * i + 1 < 11360 by omega) (by omega)), chk_t (inb_nI hi (by omega)), nI_clamp (show i < 2 ^ 31 by omega), nI_clamp (show 8720 + 2 * i + 1 < 2 ^ 31 by omega), h11 i hi, ← hm0, e10, p0 11 (by decide), h11 i hi, x1, pk_sub x2', a1, Option.bind_some]
      show (f_X10_let (nI p) (14 + nI i) 0 m1).bind _ = _
      rw [b1, Option.bind_some, nI_1 i]
      exact r1
    · rw [show b + 2 * (d + 1) + 4 = b + 1 + 1 + 2 * d + 4 by omega, show C + 2 * (d + 1) + 4 = C + 1 + 1 + 2 * d + 4 by omega]; exact r2
    · rw [r6 j hj, fr.1 7 (by decide) (by decide) (by decide) (by decide), hm0, mst_at]
      by_cases e : i = j
      · rw [if_neg (by omega), if_pos (by omega), e, upd_at]
      · by_cases e2 : i + 1 ≤ j
        · rw [if_pos e2, if_pos (by omega)]
        · rw [if_neg e2, if_neg (by omega), upd_ne _ _ (fun q => e q.symm)]
    · rw [r7 j (fun k h2 h3 => hj k (by omega) h3) j1 j2 j3 j4, upd_ne _ _ (hj i (Nat.le_refl _) hi).2, upd_ne _ _ (hj i (Nat.le_refl _) hi).1]
    · by_cases e : k = i
      · rw [e, r7 (8720 + 2 * i + 1) (fun k h2 h3 => by omega) (by omega) (by omega) (by omega) (by omega), r7 (104 * p + (14 + i)) (fun k h2 h3 => by omega) (by omega) (by omega) (by omega) (by omega), upd_at, upd_ne _ _ (by omega), upd_at]
        exact ⟨rfl, rfl⟩
      · exact r8 k (by omega) hk2
    · rw [r9, upd_ne _ _ (by omega), upd_ne _ _ (by omega)]
    · rw [r10, upd_ne _ _ (by omega), upd_ne _ _ (by omega)]
    · rw [r11, upd_ne _ _ (by omega), upd_ne _ _ (by omega)]
theorem crx_eq {s : Nat → Int32} {k : Nat} : ∀ N, p < N → crx s p k N + crd s p k = crs s k N := by
  intro N
  induction N with
  | zero => intro h; omega
  | succ N ih =>
    intro h
    show crx s p k N + (if N = p then 0 else crd s N k) + crd s p k = crs s k N + crd s N k
    by_cases e : N = p
    · rw [if_pos e]
      have hz : ∀ M, M ≤ N → crx s p k M = crs s k M := by
        intro M
        induction M with
        | zero => intro _; rfl
        | succ M ihM =>
          intro hM
          show crx s p k M + (if M = p then 0 else crd s M k) = crs s k M + crd s M k
          rw [ihM (by omega), if_neg (by omega)]
      rw [hz N (Nat.le_refl _), e]
      omega
    · rw [if_neg e]
      have := ih (by omega)
      omega
theorem pay_rs {now s now' s' : Nat → Int32} {t1 t2 : Int32} {nk : Nat → Nat} (h : Rs now s T) (hp : p < 60) (h0 : s (104 * p) ≠ 0) (hnk : ∀ i, i < 12 → nk i ≤ cNk s p i)
    (c1 : ∀ j, (∀ i, i < 12 → j ≠ 8432 + i ∧ j ≠ 78 * p + (36 + i)) → j ≠ 8553 → j ≠ 8554 → j ≠ 78 * p + 5 → j ≠ 78 * p + 35 → now' j = now j) (c2 : ∀ i, i < 12 → now' (8432 + i) = nI (xNk s i - nk i) ∧ now' (78 * p + (36 + i)) = 0) (c53 : now' 8553 = now 8553 + t1) (c54 : now' 8554 = now 8554 + t2) (c5 : now' (78 * p + 5) = 1) (c35 : now' (78 * p + 35) = now (78 * p + 35) + t2)
    (m1 : ∀ j, (∀ i, i < 12 → j ≠ 8720 + 2 * i + 1 ∧ j ≠ 104 * p + (14 + i)) → j ≠ 11347 → j ≠ 11348 → j ≠ 104 * p + 40 → j ≠ 104 * p + 6 → s' j = s j) (m2 : ∀ i, i < 12 → s' (8720 + 2 * i + 1) = nI (xNk s i - nk i) ∧ s' (104 * p + (14 + i)) = 0) (m47 : s' 11347 = s 11347 + t1) (m48 : s' 11348 = s 11348 + t2) (m6 : s' (104 * p + 6) = 1) (m40 : s' (104 * p + 40) = s (104 * p + 40) + t2) : Rs now' s' T := by
  obtain ⟨a1, a2, a3, a4, a5, a6, a7⟩ := id h
  obtain ⟨pa, pb, pr, pc, pe⟩ := a1 p hp
  obtain ⟨q1, q2, q3, q4, q5, q6, q7, q8, q9⟩ := id pc
  obtain ⟨z1, z2, z3, z4⟩ := a6
  have C1 : ∀ j, (j < 78 * p + 5 ∨ (78 * p + 6 ≤ j ∧ j < 78 * p + 35) ∨ (78 * p + 48 ≤ j ∧ j < 8432) ∨ (8444 ≤ j ∧ j < 8553) ∨ 8555 ≤ j) → now' j = now j := fun j hj => c1 j (fun i hi => by omega) (by omega) (by omega) (by omega) (by omega)
  have M1 : ∀ j, (j < 104 * p + 6 ∨ (104 * p + 7 ≤ j ∧ j < 104 * p + 14) ∨ (104 * p + 26 ≤ j ∧ j < 104 * p + 40) ∨ (104 * p + 41 ≤ j ∧ j < 8720) ∨ (8744 ≤ j ∧ j < 11347) ∨ 11349 ≤ j) → s' j = s j := fun j hj => m1 j (fun i hi => by omega) (by omega) (by omega) (by omega) (by omega)
  have M2 : ∀ i, i < 12 → s' (8720 + 2 * i) = s (8720 + 2 * i) := fun i hi => m1 _ (fun i' hi' => by omega) (by omega) (by omega) (by omega) (by omega)
  have e0 : s' (104 * p + 0) ≠ 0 := by rw [M1 _ (by omega)]; exact h0
  refine ⟨fun q hq => ?_, a2.congr (C1 _ (by omega)) (M1 _ (by omega)) (fun j h1 h2 => C1 _ (by omega)) (fun j h1 h2 => M1 _ (by omega)) (fun q hq h9 => ?_) (fun q hq j hj => ?_), ⟨fun i hi => ?_, fun i j hi hj hij => ?_⟩, a4.congr (fun j h1 h2 => C1 _ (by omega)) (fun j h1 h2 => M1 _ (by omega)), a5.congr (fun j h1 h2 => C1 _ (by omega)) (fun j h1 h2 => M1 _ (by omega)), ⟨fun i hi => ?_, ?_, ?_, fun i hi => ?_⟩, (M1 _ (by omega)).trans a7⟩
  · by_cases hqp : q = p
    · rw [hqp]
      refine ⟨pa.congr (fun j hj => C1 (78 * p + j) (by omega)) (fun j hj => M1 (104 * p + j) (by omega)), ⟨fun i hi => ?_, fun i hi => ?_, ?_⟩, pr.congr (fun j hj => C1 (78 * p + j) (by omega)) (fun j hj => M1 (104 * p + j) (by omega)), ⟨?_, ?_, ?_, c5.trans m6.symm, Or.inr m6, ?_, ?_, ?_, ?_⟩, RPe.of e0⟩
      · show now' (78 * p + (27 + i)) = s' (104 * p + (32 + i))
        by_cases e : i = 8
        · rw [e]
          show now' (78 * p + 35) = s' (104 * p + 40)
          rw [c35, m40, show now (78 * p + 35) = s (104 * p + 40) from pb.1 8 (by omega)]
        · rw [C1 _ (by omega), M1 _ (by omega)]; exact pb.1 i hi
      · show now' (78 * p + (36 + i)) = s' (104 * p + (14 + i))
        rw [(c2 i hi).2, (m2 i hi).2]
      · show ∃ g, g < T + 1 ∧ s' (104 * p + 32) = nI g
        rw [M1 _ (by omega)]; exact pb.2.2
      · show now' (78 * p + 2) = s' (104 * p + 3)
        rw [C1 _ (by omega), M1 _ (by omega)]; exact q1
      · show now' (78 * p + 3) = s' (104 * p + 4)
        rw [C1 _ (by omega), M1 _ (by omega)]; exact q2
      · show now' (78 * p + 4) = s' (104 * p + 5)
        rw [C1 _ (by omega), M1 _ (by omega)]; exact q3
      · show now' (78 * p + 6) = s' (104 * p + 30)
        rw [C1 _ (by omega), M1 _ (by omega)]; exact q6
      · show ∃ v, v < T + 1 ∧ s' (104 * p + 30) = nI v
        rw [M1 _ (by omega)]; exact q7
      · show now' (78 * p + 7) = s' (104 * p + 31)
        rw [C1 _ (by omega), M1 _ (by omega)]; exact q8
      · show (s' (104 * p + 101) = 1 ∧ s' (104 * p + 4) = 4) ∨ (s' (104 * p + 101) = 0 ∧ s' (104 * p + 4) ≠ 4)
        rw [M1 _ (by omega), M1 _ (by omega)]; exact q9
    · exact (a1 q hq).congr (fun j hj => c1 (78 * q + j) (fun i hi => by omega) (by omega) (by omega) (by omega) (by omega)) (fun j hj => m1 (104 * q + j) (fun i hi => by omega) (by omega) (by omega) (by omega) (by omega))
  · by_cases hqp : q = p
    · rw [hqp]; exact e0
    · rw [m1 _ (fun i hi => by omega) (by omega) (by omega) (by omega) (by omega)]; exact h9
  · exact c1 _ (fun i hi => by omega) (by omega) (by omega) (by omega) (by omega)
  · obtain ⟨y1, y2, v', x', y3, y4, y5, y6, y7, y8, y9⟩ := a3.1 i hi
    have hxN : xNk s i = x' := by unfold xNk; rw [y6, nI_clamp (by omega)]
    have hcN := hnk i hi
    unfold cNk at hcN
    rw [hxN] at hcN
    have hcx := crx_eq (s := s) (k := i) 60 hp
    have hcp : crd s' p i = 0 := by
      show (s' (104 * p + (14 + i))).toNatClampNeg = _
      rw [(m2 i hi).2]; rfl
    have hcq : ∀ q, q < 60 → q ≠ p → crd s' q i = crd s q i := fun q h1 h2 => by
      unfold crd
      rw [m1 _ (fun i hi => by omega) (by omega) (by omega) (by omega) (by omega)]
    have hs := crs_upd 60 hp hcq
    refine ⟨?_, ?_, v', x' - nk i, y3, by omega, ?_, ?_, fun q hq => ?_, by omega, fun q => by have := y9 q; omega⟩
    · rw [C1 _ (by omega), M2 i hi]; exact y1
    · rw [(c2 i hi).1, (m2 i hi).1]
    · rw [M2 i hi]; exact y5
    · rw [(m2 i hi).1, hxN]
    · by_cases hqp : q = p
      · rw [hqp, hcp]; exact (m2 i hi).2
      · rw [m1 _ (fun i hi => by omega) (by omega) (by omega) (by omega) (by omega), hcq q hq hqp]; exact y7 q hq
  · rw [M2 i hi, M2 j hj]; exact a3.2 i j hi hj hij
  · rw [C1 _ (by omega), C1 _ (by omega), M1 _ (by omega), M1 _ (by omega)]; exact z1 i hi
  · rw [C1 _ (by omega), M1 _ (by omega)]; exact z2
  · rw [M1 _ (by omega)]; exact z3
  · rcases (by omega : i = 0 ∨ i = 1 ∨ i = 2 ∨ i = 3) with rfl | rfl | rfl | rfl
    · have hz := z4 0 (by omega)
      show now' 8552 = s' 11346
      rw [C1 _ (by omega), M1 _ (by omega)]; exact hz
    · show now' 8553 = s' 11347
      rw [c53, m47, show now 8553 = s 11347 from z4 1 (by omega)]
    · show now' 8554 = s' 11348
      rw [c54, m48, show now 8554 = s 11348 from z4 2 (by omega)]
    · show now' 8555 = s' 11349
      rw [C1 _ (by omega), M1 _ (by omega)]; exact z4 3 (by omega)
theorem fwlv {v k : Int32} : lvC (fwC w k) p v = fwC (lvC w p v) k := by
  unfold lvC fwC
  refine Prod.ext (funext fun q => ?_) rfl
  by_cases h0 : q = 0
  · subst h0
    rw [cs_ne _ _ _ (by decide), cs_at, cs_at, cs_at, cs_at, cs_ne _ _ _ (by decide)]
  · by_cases h6 : q = 6
    · subst h6
      rw [cs_at, cs_ne _ _ _ (by decide), cs_ne _ _ _ (by decide), cs_ne _ _ _ (by decide), cs_ne _ _ _ (by decide), cs_at]
    · rw [cs_ne _ _ _ h6, cs_ne _ _ _ h0, cs_ne _ _ _ h0, cs_ne _ _ _ h0, cs_ne _ _ _ h0, cs_ne _ _ _ h6]
theorem eq_pay (hR : Rl n w wm) (hn : n < 513) (a1 : Int32) : ∃ r w2 wm2 n2, f_X9_pay a1 w = some ((r, w2), n2) ∧ f_X10_pay a1 wm = some (r, wm2) ∧ Rl (n + 1) w2 wm2 ∧ 4096 * n2 + 2 * w.2 = 2 * w2.2 := by
  have hR1 : Rl n w (mst wm 0 0 0) := hR.thr
  unfold f_X9_pay f_X10_pay
  generalize mst wm 0 0 0 = m at hR1 ⊢
  show Eq1 n w _ _
  simp only [isPlace_s, misPlace_s, Option.bind_some, gd]
  refine Eq1.ite (fun h => ?_) (fun _ => Eq1.ret hR1 hn)
  obtain ⟨p, hp, rfl⟩ := rng (n := 59) (by omega) h
  obtain ⟨T0, O0, hc0, hm0, -, -, -, -, g30, -, -⟩ := id hR1
  rw [hasMachine_s g30 (by omega), isThere_s g30 (by omega), Option.bind_some, Option.bind_some, gd, gd]
  refine Eq1.ite (fun h3 => ?_) (fun _ => Eq1.fnd hR1 hn)
  rw [enter_s (by omega), mtouch_s (by omega), Option.bind_some, Option.bind_some, mv7 g30 (by omega)]
  obtain ⟨v, hv⟩ : ∃ v, v = 1 + w.1 11 (78 * p + 8) := ⟨_, rfl⟩
  rw [← hv]
  have hRt := hR1.touch (p := p) (v := v)
  have ew : (enC w p v).1 11 = w.1 11 := enC_ne (by decide)
  have em : (toM m p v) 1 = m 1 := toM_ne (by decide)
  refine Eq1E.out (by omega) hv ?_
  generalize hwe : enC w p v = we at hRt ew ⊢
  generalize hme : toM m p v = me at hRt em ⊢
  obtain ⟨T, O, hc, hm, b1, b2, g1, g2, g3, g4, g5⟩ := id hRt
  have g3' : Rs (we.1 11) (me 1) T := by rw [lvC_ne (by decide)] at g3; exact g3
  obtain ⟨pa, pb, pr, pc, pe⟩ := g3'.1 p (by omega)
  unfold f_X9_payPrice
  rw [read_k (k := 5) (by rfl) (by omega) (by omega), of_s (k := 6) (by rfl) (by omega), Option.bind_some, Option.bind_some, show we.1 11 (78 * p + 5) = me 1 (104 * p + 6) from pc.2.2.2.1]
  refine Eq1E.ite (fun _ => Eq1E.ret hRt hn) (fun h6 => ?_)
  obtain ⟨pr', hpr, epr⟩ := pa.2.2.2.2.2.2.2.2.2
  obtain ⟨ecr, hcr⟩ := crSum g3'.2.2.1 (show p < 60 by omega)
  rw [read_k (k := 1) (by rfl) (by omega) (by omega), of_s (k := 2) (by rfl) (by omega), Option.bind_some, Option.bind_some, creditOf_s g3' (by omega), mcreditOf_s (by omega), Option.bind_some, Option.bind_some, show we.1 11 (78 * p + 1) = nI pr' from pa.2.2.1.trans epr, show me 1 (104 * p + 2) = nI pr' from epr, ecr]
  generalize smN (fun k => crd (me 1) p k * vN (me 1) k) 12 = cr at hcr ecr ⊢
  refine Eq1E.ite (fun h7 => ?_) (fun _ => Eq1E.fnd hRt hn)
  have hle : pr' ≤ cr := by
    have h8 := Int32.le_iff_toInt_le.mp h7
    rw [pk_sub_toInt (by omega) (by omega)] at h8
    have h9 : ((0 : Int32)).toInt = 0 := by decide
    rw [h9] at h8
    omega
  rw [pk_sub hle]
  obtain ⟨w1, m1, f1, f2, hcase⟩ := find_s (A := cr - pr') g3' (show p < 60 by omega) (by omega)
  have w11 : w1.1 11 = we.1 11 := f1.1 11 (by decide) (by decide) (by decide) (by decide)
  have m11 : m1 1 = me 1 := f2.1 1 (by decide) (by decide)
  have hR2 : Rl n (lvC w1 p v) m1 := by
    have lp : ∀ q, q < 25 → q ≠ 14 → q ≠ 15 → q ≠ 16 → (lvC w1 p v).1 q = (lvC we p v).1 q := fun q h1 h2 h3 h4 => by
      by_cases e6 : q = 6
      · rw [e6]; unfold lvC; rw [cs_at, cs_at, f1.1 6 (by decide) (by decide) (by decide) (by decide)]
      · rw [lvC_ne e6, lvC_ne e6]; exact f1.1 q h1 h2 h3 h4
    exact (hRt.cc (w' := lvC w1 p v) (show (lvC w1 p v).2 = (lvC we p v).2 from f1.2) (fun k _ _ => by rw [lp 0 (by decide) (by decide) (by decide) (by decide)]) (lp 1 (by decide) (by decide) (by decide) (by decide)) (lp 3 (by decide) (by decide) (by decide) (by decide)) (lp 5 (by decide) (by decide) (by decide) (by decide)) (lp 6 (by decide) (by decide) (by decide) (by decide)) (lp 11 (by decide) (by decide) (by decide) (by decide)) (lp 12 (by decide) (by decide) (by decide) (by decide)) (lp 13 (by decide) (by decide) (by decide) (by decide)) (lp 17 (by decide) (by decide) (by decide) (by decide)) (lp 19 (by decide) (by decide) (by decide) (by decide))).cm (fun k _ h15 => f2.2 k h15) (fun q h1 h2 => f2.1 q (by omega) (by omega))
  obtain ⟨T2, O2, hc2, hm2, c1, c2, k1, k2, k3, k4, k5⟩ := id hR2
  have k3' : Rs (w1.1 11) (m1 1) T2 := by rw [lvC_ne (by decide)] at k3; exact k3
  have h3' : m1 1 (104 * p) ≠ 0 := by rw [m11, em]; exact h3
  have w12 : w1.2 = we.2 := f1.2
  rcases hcase with ⟨x1, x2⟩ | ⟨x1, x2, nk, hnk⟩
  · rw [x1, x2, Option.bind_some, Option.bind_some]
    show Eq1E n p v we (if (0 : Int32) = 0 then (bnc (f_X6_giveBack (nI p) w1) _) else _) (if (0 : Int32) = 0 then ((f_X10_giveBack (nI p) m1).bind _) else _)
    rw [if_pos rfl, if_pos rfl]
    unfold f_X6_giveBack f_X10_giveBack
    rw [creditOf_s k3' (by omega), mcreditOf_s (by omega), Option.bind_some, Option.bind_some]
    obtain ⟨w2, n2, o1, o2, o3, o4, o5⟩ := givC (now := w1.1 11) (p := p) (tot := sm (crF (m1 1) p) 12) (by omega) 12 FU 0 _ w1 (by omega) (by unfold FU; omega) k1.vl rfl (by omega)
    obtain ⟨m2, u1, u2, u3, u4⟩ := givM (s := m1 1) (p := p) (tot := sm (crF (m1 1) p) 12) (by omega) 12 FU 0 _ _ m1 (by omega) (by unfold FU; omega) k2 rfl (by omega) (by omega)
    have hR3 : Rl (n + 1) (lvC w2 p v) m2 := Rl.fin hn c2 k4 (k5.fr o4.lv u4) o2.lv u2 (by omega) (by omega) (by omega) (by rw [lvC_ne (by decide), o3, u3]; exact gb_rs2 k3' (by omega) h3')
    refine ⟨-20 - 9, fwC w2 9, fwM m2 9, n2 + 0, bnc_of o1 rfl, ?_, by rw [fwlv]; exact hR3.found, ?_, ?_⟩
    · rw [show f_X10_giveBack_l8 FU (nI p) (sm (crF (m1 1) p) 12) 0 m1 = _ from u1, Option.bind_some]
      rfl
    · show (fwC w2 9).1 11 _ = _
      unfold fwC
      rw [cs_ne _ _ _ (by decide), cs_ne _ _ _ (by decide), o3, upd_ne _ _ (by omega), gbN_ne (by omega) 12 _ (by omega) (fun i hi => by omega), w11]
    · show 4096 * (n2 + 0) + 2 * we.2 = 2 * w2.2
      omega
  · rw [x1, x2, Option.bind_some, Option.bind_some]
    show Eq1E n p v we (if (1 : Int32) = 0 then _ else (bnc (f_X6_giveChange (nI p) (nI (cr - pr')) w1) _)) (if (1 : Int32) = 0 then _ else (f_X10_pay_l99 FU (nI p) (nI pr') (nI (cr - pr')) 0 m1))
    rw [if_neg (by decide), if_neg (by decide)]
    have hT2 := k3'.2.2.1
    have hnk2 : ∀ k, k < 12 → w1.1 16 k = nI (nk k) ∧ m1 11 k = nI (nk k) ∧ nk k ≤ cNk (m1 1) p k := by rw [m11]; exact hnk
    have hcx : ∀ k, cNk (m1 1) p k ≤ xNk (m1 1) k := fun k => by unfold cNk; omega
    obtain ⟨w2, n2, X, o1, o2, o3, o4, o5, o6, o7, o8, o9⟩ := gcC (x2 := nI (cr - pr')) (nk := nk) (xk := xNk (m1 1)) (show p < 60 by omega) 12 FU 0 _ w1 _ (by omega) (by unfold FU; omega) k1.vl rfl (fun j hj => (hnk2 j hj).1) (fun j _ hj => ⟨(tubes_s hT2 hj).2.2.2.1, Nat.le_trans (hnk2 j hj).2.2 (hcx j)⟩) (by omega)
    obtain ⟨w3, n3, p1, p2, p3, p4, p5⟩ := write_k (p := p) (k := 5) (x := 5) (v := 1) rfl o2 o3 (by omega) (by omega) (by omega)
    obtain ⟨w4, n4, q1, q2, q3, q4, q5⟩ := grow_k (p := p) (k := 35) (x := 35) (v := nI pr') rfl p2 p3 (by omega) (by omega) (by omega)
    obtain ⟨w5, n5, r1, r2, r3, r4, r5⟩ := addl_k (x := 8554) (v := nI pr') (a := 8554) rfl q2 q3 (by omega) (by omega)
    obtain ⟨m2, Y, u1, u2, u3, u4, u5, u6, u7, u8, u9, u10, u11, u12⟩ := gcM (x2 := nI pr') (x3 := nI (cr - pr')) (nk := nk) (xk := xNk (m1 1)) (show p < 60 by omega) 12 FU 0 _ _ m1 _ (by omega) (by unfold FU; omega) k2 rfl (fun j hj => (hnk2 j hj).2.1) (fun j _ hj => ⟨(tubes_s hT2 hj).2.2.2.2.1, Nat.le_trans (hnk2 j hj).2.2 (hcx j)⟩) (by omega) (by omega)
    have fr : Fr w2 w5 := p4.trans (q4.trans r4)
    have hrs : Rs (w5.1 11) (m2 1) T2 := by
      rw [r3, u3]
      refine pay_rs (t1 := nI (cr - pr')) (t2 := nI pr') (nk := nk) k3' (show p < 60 by omega) h3' (fun i hi => (hnk2 i hi).2.2) (fun j h1 h2 h4 h5 h7 => ?_) (fun i hi => ?_) ?_ ?_ ?_ ?_ (fun j h1 h2 h4 h5 h7 => u7 j (fun k _ hk => h1 k hk) h2 h4 h5 h7) (fun i hi => u8 i (by omega) hi) u9 u10 u12 u11
      · rw [upd_ne _ _ h4, upd_ne _ _ h7, upd_ne _ _ h5]; exact o7 j (fun k _ hk => h1 k hk) h2
      · rw [upd_ne _ _ (by omega), upd_ne _ _ (by omega), upd_ne _ _ (by omega), upd_ne _ _ (by omega), upd_ne _ _ (by omega), upd_ne _ _ (by omega)]; exact o8 i (by omega) hi
      · rw [upd_ne _ _ (by omega), upd_ne _ _ (by omega), upd_ne _ _ (by omega)]; exact o9
      · rw [upd_at, upd_ne _ _ (by omega), upd_ne _ _ (by omega), o7 8554 (fun k _ hk => by omega) (by omega)]
      · rw [upd_ne _ _ (by omega), upd_ne _ _ (by omega), upd_at]
      · rw [upd_ne _ _ (by omega), upd_at, upd_ne _ _ (by omega), o7 _ (fun k _ hk => by omega) (by omega)]
    have fp : ∀ q, q ≠ 1 → q ≠ 11 → q ≠ 12 → q ≠ 13 → q ≠ 17 → w5.1 q = w1.1 q := fun q e1 e11 e12 e13 e17 => (fr q e1 e11 e12 e13).trans (o4 q e1 e11 e12 e13 e17)
    have hax : Ax (lvC w5 p v) m2 n := by
      obtain ⟨x1', x2', x3', x4', x5', x6'⟩ := k5
      have l6 : (lvC w5 p v).1 6 = (lvC w1 p v).1 6 := by unfold lvC; rw [cs_at, cs_at, fp 6 (by decide) (by decide) (by decide) (by decide) (by decide)]
      have lq : ∀ q, q ≠ 1 → q ≠ 11 → q ≠ 12 → q ≠ 13 → q ≠ 17 → q ≠ 6 → (lvC w5 p v).1 q = (lvC w1 p v).1 q := fun q e1 e11 e12 e13 e17 e6 => by rw [lvC_ne e6, lvC_ne e6]; exact fp q e1 e11 e12 e13 e17
      unfold Ax
      rw [l6, lq 5 (by decide) (by decide) (by decide) (by decide) (by decide) (by decide), lq 3 (by decide) (by decide) (by decide) (by decide) (by decide) (by decide), lq 19 (by decide) (by decide) (by decide) (by decide) (by decide) (by decide), lq 0 (by decide) (by decide) (by decide) (by decide) (by decide) (by decide), u4 6 (by decide) (by decide) (by decide) (by decide) (by decide), u4 5 (by decide) (by decide) (by decide) (by decide) (by decide), u5 11 (by decide), u5 7 (by decide), u5 8 (by decide), u5 9 (by decide)]
      refine ⟨x1', x2', fun k hk => ?_, x4', x5', x6'⟩
      rw [lvC_ne (by decide), fr 17 (by decide) (by decide) (by decide) (by decide), o6 k hk, u6 k hk, if_pos (by omega), if_pos (by omega)]
    have hR3 : Rl (n + 1) (lvC w5 p v) m2 := Rl.fin hn c2 k4 hax r2.lv u2 (by omega) (by omega) (by omega) (by rw [lvC_ne (by decide)]; exact hrs)
    refine ⟨nI (cr - pr'), w5, m2, n2 + (n3 + (n4 + (n5 + 0))), ?_, u1, hR3, ?_, by omega⟩
    · refine bnc_of (show f_X6_giveChange (nI p) (nI (cr - pr')) w1 = some (w2, n2) from o1) ?_
      refine bnc_of p1 ?_
      refine bnc_of q1 ?_
      exact bnc_of r1 rfl
    · rw [r3, upd_ne _ _ (by omega), upd_ne _ _ (by omega), upd_ne _ _ (by omega), o7 _ (fun k _ hk => by omega) (by omega), w11]
end P5
