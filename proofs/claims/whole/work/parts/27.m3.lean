section M3
variable {n : Nat} {w : CW} {wm : MW}
/-- a place is changed and the sums -/
theorem Rs.placeG {now now' s s' : Nat → Int32} {T p : Nat} (h : Rs now s T) (hp : p < 60) (hc : ∀ j, (j < 78 * p ∨ (78 * p + 78 ≤ j ∧ j < 8544) ∨ j = 8550) → now' j = now j) (hm : ∀ j, (j < 104 * p ∨ (104 * p + 104 ≤ j ∧ j < 11346)) → s' j = s j) (hZ : RZ now' s') (hP : RPl (T + 1) (cv now' p) (mv s' p)) (h0 : s (104 * p) ≠ 0 → s' (104 * p) ≠ 0) (hL : ∀ k, (k = 9 ∨ (19 ≤ k ∧ k < 27)) → now' (78 * p + k) = now (78 * p + k)) (hK : ∀ k, k < 12 → s' (104 * p + (14 + k)) = s (104 * p + (14 + k))) : Rs now' s' T := by
  obtain ⟨a1, a2, a3, a4, a5, a6, a7⟩ := h
  refine ⟨fun q hq => ?_, a2.congr (hc _ (by omega)) (hm _ (by omega)) (fun j h1 h2 => hc _ (by omega)) (fun j h1 h2 => hm _ (by omega)) (fun q hq h9 => ?_) (fun q hq k hk => ?_), a3.congr (fun j h1 h2 => hc _ (by omega)) (fun j h1 h2 => hm _ (by omega)) (fun q hq k hk => ?_), a4.congr (fun j h1 h2 => hc _ (by omega)) (fun j h1 h2 => hm _ (by omega)), a5.congr (fun j h1 h2 => hc _ (by omega)) (fun j h1 h2 => hm _ (by omega)), hZ, (hm _ (by omega)).trans a7⟩
  · by_cases hqp : q = p
    · rw [hqp]; exact hP
    · exact (a1 q hq).congr (fun k hk => hc _ (by omega)) (fun k hk => hm _ (by omega))
  · by_cases hqp : q = p
    · rw [hqp] at h9 ⊢; exact h0 h9
    · rw [hm _ (by omega)]; exact h9
  · by_cases hqp : q = p
    · rw [hqp]; exact hL k hk
    · exact hc _ (by omega)
  · by_cases hqp : q = p
    · rw [hqp]; exact hK k hk
    · exact hm _ (by omega)
theorem fills_s : ∀ k, k < 5 → fv_fills k w = some (if k = 2 ∨ k = 3 then 0 else 1) := by
  intro k hk
  rcases (by omega : k = 0 ∨ k = 1 ∨ k = 2 ∨ k = 3 ∨ k = 4) with rfl | rfl | rfl | rfl | rfl <;> rfl
theorem turns_s : ∀ k, k < 5 → fv_turns k w = some (if k = 3 then 0 else 1) := by
  intro k hk
  rcases (by omega : k = 0 ∨ k = 1 ∨ k = 2 ∨ k = 3 ∨ k = 4) with rfl | rfl | rfl | rfl | rfl <;> rfl
theorem warms_s : ∀ k, k < 5 → fv_warms k w = some (if k = 2 ∨ k = 3 then 1 else 0) := by
  intro k hk
  rcases (by omega : k = 0 ∨ k = 1 ∨ k = 2 ∨ k = 3 ∨ k = 4) with rfl | rfl | rfl | rfl | rfl <;> rfl
theorem face0_s : ∀ k, k < 5 → f_X10_hasFace (nI k) 0 = some (if k = 2 ∨ k = 3 then 0 else 1) := by decide +kernel
theorem face1_s : ∀ k, k < 5 → f_X10_hasFace (nI k) 1 = some (if k = 3 then 0 else 1) := by decide +kernel
theorem face2_s : ∀ k, k < 5 → f_X10_hasFace (nI k) 2 = some (if k = 2 ∨ k = 3 then 1 else 0) := by decide +kernel
theorem eq_told (hR : Rl n w wm) (hn : n < 513) (a1 a2 : Int32) : ∃ r w2 wm2, f_X9_told a1 a2 w = some (r, w2) ∧ f_X10_told a1 a2 wm = some (r, wm2) ∧ Rl (n + 1) w2 wm2 ∧ w2.2 = w.2 := by
  have hR1 : Rl n w (mst wm 0 0 0) := hR.thr
  unfold f_X9_told f_X10_told
  generalize mst wm 0 0 0 = m at hR1 ⊢
  show Eq0 n w _ _
  simp only [isPlace_s, misPlace_s, within_s, in_s, Option.bind_some, gd]
  refine Eq0.ite (fun h => ?_) (fun _ => Eq0.ret hR1 hn)
  refine Eq0.ite (fun h2 => ?_) (fun _ => Eq0.ret hR1 hn)
  obtain ⟨p, hp, rfl⟩ := rng (n := 59) (by omega) h
  obtain ⟨j, hj, rfl⟩ := rng (n := 12) (by omega) h2
  obtain ⟨T, O, hc, hm, b1, b2, g1, g2, g3, g4, g5⟩ := id hR1
  rw [hasMachine_s g3 (by omega), isThere_s g3 (by omega), Option.bind_some, Option.bind_some, gd, gd]
  refine Eq0.ite (fun h3 => ?_) (fun _ => Eq0.fnd hR1 hn)
  obtain ⟨k, hk, ek⟩ := kind_ex g3 (by omega) h3
  obtain ⟨pa, pb, pr, pc, pe⟩ := g3.1 p (by omega)
  obtain ⟨q1, q2, q3, q4, q5, q6, q7, q8, q9⟩ := id pc
  obtain ⟨N, l1, l2, l3, l4, l5, l6⟩ := g3.2.1
  refine Eq0.ite (fun _ => ?_) (fun n0 => Eq0.ite (fun _ => ?_) (fun n1 => Eq0.ite (fun _ => ?_) (fun n2 => Eq0.ite (fun _ => ?_) (fun n3 => Eq0.ite (fun _ => ?_) (fun n4 => Eq0.ite (fun _ => ?_) (fun n5 => Eq0.ite (fun _ => ?_) (fun n6 => Eq0.ite (fun _ => ?_) (fun n7 => Eq0.ite (fun _ => ?_) (fun n8 => Eq0.ite (fun _ => ?_) (fun n9 => ?_))))))))))
  · rw [read_k (k := 0) (by rfl) (by omega) (by omega), kindOf_s (by omega) hk ek, Option.bind_some, Option.bind_some, show w.1 11 (78 * p + 0) = nI (k + 1) from pa.2.1.trans ek, show nI (k + 1) - (1 : Int32) = nI (k + 1 - 1) from pk_sub (a := k + 1) (b := 1) (by omega), Nat.add_sub_cancel]
    exact Eq0.ret hR1 hn
  · rw [roomOf_s g3 (by omega), mroomOf_s g3 (by omega) h3, Option.bind_some, Option.bind_some]
    exact Eq0.ret hR1 hn
  · rw [read_k (k := 1) (by rfl) (by omega) (by omega), of_s (k := 2) (by rfl) (by omega), Option.bind_some, Option.bind_some, show w.1 11 (78 * p + 1) = m 1 (104 * p + 2) from pa.2.2.1]
    exact Eq0.ret hR1 hn
  · rw [read_k (k := 2) (by rfl) (by omega) (by omega), of_s (k := 3) (by rfl) (by omega), Option.bind_some, Option.bind_some, show w.1 11 (78 * p + 2) = m 1 (104 * p + 3) from q1]
    exact Eq0.ret hR1 hn
  · rw [read_k (k := 3) (by rfl) (by omega) (by omega), of_s (k := 4) (by rfl) (by omega), Option.bind_some, Option.bind_some, show w.1 11 (78 * p + 3) = m 1 (104 * p + 4) from q2]
    exact Eq0.ret hR1 hn
  · rw [read_k (k := 4) (by rfl) (by omega) (by omega), of_s (k := 5) (by rfl) (by omega), Option.bind_some, Option.bind_some, show w.1 11 (78 * p + 4) = m 1 (104 * p + 5) from q3]
    exact Eq0.ret hR1 hn
  · rw [read_k (k := 9) (by rfl) (by omega) (by omega), loadsIn_s l1 l3, Option.bind_some, Option.bind_some, (cell9_s g3 (show p < 60 by omega) l1 l3).1]
    exact Eq0.ret hR1 hn
  · rw [read_k (k := 5) (by rfl) (by omega) (by omega), of_s (k := 6) (by rfl) (by omega), Option.bind_some, Option.bind_some, show w.1 11 (78 * p + 5) = m 1 (104 * p + 6) from q4]
    exact Eq0.ret hR1 hn
  · rw [read_k (k := 8) (by rfl) (by omega) (by omega), of_s (k := 7) (by rfl) (by omega), Option.bind_some, Option.bind_some, show w.1 11 (78 * p + 8) = m 1 (104 * p + 7) from pa.2.2.2.1]
    exact Eq0.ret hR1 hn
  · rw [read_k (k := 6) (by rfl) (by omega) (by omega), of_s (k := 30) (by rfl) (by omega), Option.bind_some, Option.bind_some, show w.1 11 (78 * p + 6) = m 1 (104 * p + 30) from q6]
    exact Eq0.ret hR1 hn
  · have hj10 : 10 ≤ j := by
      rcases Nat.lt_or_ge j 10 with q | q
      · exfalso
        rcases (by omega : j = 0 ∨ j = 1 ∨ j = 2 ∨ j = 3 ∨ j = 4 ∨ j = 5 ∨ j = 6 ∨ j = 7 ∨ j = 8 ∨ j = 9) with rfl | rfl | rfl | rfl | rfl | rfl | rfl | rfl | rfl | rfl
        · exact n0 rfl
        · exact n1 rfl
        · exact n2 rfl
        · exact n3 rfl
        · exact n4 rfl
        · exact n5 rfl
        · exact n6 rfl
        · exact n7 rfl
        · exact n8 rfl
        · exact n9 rfl
      · exact q
    rw [kindAt_s g3 (by omega) hk ek, kindOf_s (by omega) hk ek, Option.bind_some, Option.bind_some, Option.bind_some, Option.bind_some, chk_t (show k < 5 by omega), chk_t (show k < 5 by omega), chk_t (show k < 5 by omega), fills_s k (by omega), turns_s k (by omega), warms_s k (by omega)]
    rcases (by omega : j = 10 ∨ j = 11 ∨ j = 12) with rfl | rfl | rfl
    · rw [if_pos (by decide), show nI 10 - (10 : Int32) = 0 by decide, face0_s k (by omega), Option.bind_some, Option.bind_some]
      exact Eq0.ite (fun _ => Eq0.ret hR1 hn) (fun _ => Eq0.ret hR1 hn)
    · rw [if_neg (by decide), if_pos (by decide), show nI 11 - (10 : Int32) = 1 by decide, face1_s k (by omega), Option.bind_some, Option.bind_some]
      exact Eq0.ite (fun _ => Eq0.ret hR1 hn) (fun _ => Eq0.ret hR1 hn)
    · rw [if_neg (by decide), if_neg (by decide), show nI 12 - (10 : Int32) = 2 by decide, face2_s k (by omega), Option.bind_some, Option.bind_some]
      exact Eq0.ite (fun _ => Eq0.ret hR1 hn) (fun _ => Eq0.ret hR1 hn)
theorem eq_load (hR : Rl n w wm) (hn : n < 513) (a1 a2 a3 : Int32) : ∃ r w2 wm2 n2, f_X9_load a1 a2 a3 w = some ((r, w2), n2) ∧ f_X10_load a1 a2 a3 wm = some (r, wm2) ∧ Rl (n + 1) w2 wm2 ∧ 4096 * n2 + 2 * w.2 = 2 * w2.2 := by
  have hR1 : Rl n w (mst wm 0 0 0) := hR.thr
  unfold f_X9_load f_X10_load
  generalize mst wm 0 0 0 = m at hR1 ⊢
  show Eq1 n w _ _
  simp only [isColour_s, within_s, in_s, Option.bind_some, gd]
  refine Eq1.ite (fun h1 => ?_) (fun _ => Eq1.ret hR1 hn)
  refine Eq1.ite (fun h2 => ?_) (fun _ => Eq1.ret hR1 hn)
  refine Eq1.ite (fun h3 => ?_) (fun _ => Eq1.ret hR1 hn)
  obtain ⟨u, hu1, hu2, rfl⟩ := rng2 (a := 1) (n := 20000) (by omega) (by omega) h2
  obtain ⟨v, hv, rfl⟩ := rng (n := 9) (by omega) h3
  obtain ⟨T, O, hc, hm, b1, b2, g1, g2, g3, g4, g5⟩ := id hR1
  obtain ⟨N, l1, l2, l3, l4, l5, l6⟩ := g3.2.1
  rw [gl_k (a := 8550) (by rfl) (by omega), Option.bind_some, chk_t (lit_in (a := 11345) (by rfl) (by omega) (by omega)), lit_cl (x := 11345) (a := 11345) (by rfl) (by omega), l2, l3]
  by_cases h5 : N = 500
  · subst h5
    rw [if_neg (by decide), if_pos (by decide)]
    exact Eq1.ret hR1 hn
  · rw [if_pos (show nI N < (500 : Int32) from nI_lt (a := N) (b := 500) (by omega) (by omega)), if_neg (show ¬ nI N = (500 : Int32) from fun q => h5 (nI_inj (b := 500) (by omega) (by omega) q))]
    obtain ⟨tk, htk⟩ : ∃ tk, tk = w.1 0 10 + 1 := ⟨_, rfl⟩
    have htm : m 0 7 + 1 = tk := by rw [htk, g5.2.2.2.1]
    rw [← htk, htm, lcell_s (k := 0) (by rfl), lcell_s (k := 1) (by rfl), lcell_s (k := 2) (by rfl), lcell_s (k := 3) (by rfl), lcell_s (k := 4) (by rfl), lb_s, show nI (8844 + 5 * N) + (1 : Int32) = nI (8844 + 5 * N + 1) from nI_add _ _, show nI (8844 + 5 * N) + (2 : Int32) = nI (8844 + 5 * N + 2) from nI_add _ _, show nI (8844 + 5 * N) + (3 : Int32) = nI (8844 + 5 * N + 3) from nI_add _ _, show nI (8844 + 5 * N) + (4 : Int32) = nI (8844 + 5 * N + 4) from nI_add _ _, nI_1]
    simp only [Option.bind_some]
    have c10 : (cs w 0 10 tk).1 0 10 = tk := by rw [cs_at, upd_at]
    have m07 : (mst m 0 7 tk) 0 7 = tk := by rw [mst_at, upd_at]
    have e11 : (cs w 0 10 tk).1 11 = w.1 11 := cs_ne _ _ _ (by decide)
    have e1 : (mst m 0 7 tk) 1 = m 1 := mst_ne _ _ _ (by decide)
    have hm1 : HMx (mst m 0 7 tk) T O (200 * n) (200 * n) (100000 * n) hm := by
      obtain ⟨c, mk, g2⟩ := g2
      exact ⟨c, mk, g2.congr (by rw [mst_at, upd_ne _ _ (by decide)]) (by rw [mst_at, upd_ne _ _ (by decide)]) (mst_ne _ _ _ (by decide)) (mst_ne _ _ _ (by decide)) (mst_ne _ _ _ (by decide)) (mst_ne _ _ _ (by decide))⟩
    have hax : Ax (cs w 0 10 tk) (mst m 0 7 tk) n := by
      obtain ⟨x1, x2, x3, x4, x5, x6⟩ := g5
      unfold Ax
      rw [cs_ne (q := 5) _ _ _ (by decide), cs_ne (q := 6) _ _ _ (by decide), cs_ne (q := 3) _ _ _ (by decide), cs_ne (q := 19) _ _ _ (by decide), cs_ne (q := 17) _ _ _ (by decide), mst_ne (q := 6) _ _ _ (by decide), mst_ne (q := 5) _ _ _ (by decide), mst_ne (q := 7) _ _ _ (by decide), cs_at, mst_at]
      exact ⟨x1, x2, x3, rfl, x5, x6⟩
    show Eq1 n (cs w 0 10 tk) _ _
    refine Eq1.fin hn b2 g4 hax ((set_k (g1.cs (by decide) (by decide) (by decide) (by decide)) e11 (by omega) (by omega)).bi fun w1 h1 e1 f1 => (set_k h1 e1 (by omega) (by omega)).bi fun w2 h1 e1 f2 => (set_k h1 e1 (by omega) (by omega)).bi fun w3 h1 e1 f3 => (set_k h1 e1 (by omega) (by omega)).bi fun w4 h1 e1 f4 => by
        have : w4.1 0 10 = tk := by rw [f4 0 (by decide) (by decide) (by decide) (by decide), f3 0 (by decide) (by decide) (by decide) (by decide), f2 0 (by decide) (by decide) (by decide) (by decide), f1 0 (by decide) (by decide) (by decide) (by decide)]; exact c10
        rw [this]
        exact (set_k h1 e1 (by omega) (by omega)).bi fun w5 h1 e1 f5 => (sl_k (a := 8550) rfl h1 e1 (by omega) (by omega)).bi fun w6 h1 e1 f6 => OkI.dn h1 e1)
      ((w_k hm1 e1 (by omega) (by omega) (by omega)).bi fun w1 h1 e1 f1 => (w_k h1 e1 (by omega) (by omega) (by omega)).bi fun w2 h1 e1 f2 => (w_k h1 e1 (by omega) (by omega) (by omega)).bi fun w3 h1 e1 f3 => (w_k h1 e1 (by omega) (by omega) (by omega)).bi fun w4 h1 e1 f4 => by
        have : w4 0 7 = tk := by rw [f4.2 7 (by decide), f3.2 7 (by decide), f2.2 7 (by decide), f1.2 7 (by decide)]; exact m07
        rw [this]
        exact (w_k h1 e1 (by omega) (by omega) (by omega)).bi fun w5 h1 e1 f5 => (wl_k (a := 11345) rfl h1 e1 (by omega) (by omega) (by omega)).bi fun w6 h1 e1 f6 => OkMI.dn h1 e1) (by omega) (by omega) (by omega) ?_
    have c1 : ∀ j, (j < 5920 + 5 * N ∨ (5920 + 5 * N + 5 ≤ j ∧ j ≠ 8550)) → upd (upd (upd (upd (upd (upd (w.1 11) (5920 + 5 * N + 0) a1) (5920 + 5 * N + 1) (nI u)) (5920 + 5 * N + 2) (nI v)) (5920 + 5 * N + 3) (-1)) (5920 + 5 * N + 4) tk) 8550 (nI (N + 1)) j = w.1 11 j := fun j hj => by rw [upd_ne _ _ (by omega), upd_ne _ _ (by omega), upd_ne _ _ (by omega), upd_ne _ _ (by omega), upd_ne _ _ (by omega), upd_ne _ _ (by omega)]
    have m1 : ∀ j, (j < 8844 + 5 * N ∨ (8844 + 5 * N + 5 ≤ j ∧ j ≠ 11345)) → upd (upd (upd (upd (upd (upd (m 1) (8844 + 5 * N) a1) (8844 + 5 * N + 1) (nI u)) (8844 + 5 * N + 2) (nI v)) (8844 + 5 * N + 3) (-1)) (8844 + 5 * N + 4) tk) 11345 (nI (N + 1)) j = m 1 j := fun j hj => by rw [upd_ne _ _ (by omega), upd_ne _ _ (by omega), upd_ne _ _ (by omega), upd_ne _ _ (by omega), upd_ne _ _ (by omega), upd_ne _ _ (by omega)]
    have c2 : ∀ k, k < 5 → upd (upd (upd (upd (upd (upd (w.1 11) (5920 + 5 * N + 0) a1) (5920 + 5 * N + 1) (nI u)) (5920 + 5 * N + 2) (nI v)) (5920 + 5 * N + 3) (-1)) (5920 + 5 * N + 4) tk) 8550 (nI (N + 1)) (5920 + 5 * N + k) = if k = 0 then a1 else if k = 1 then nI u else if k = 2 then nI v else if k = 3 then -1 else tk := by
      intro k hk
      unfold upd
      rw [if_neg (by omega)]
      rcases (by omega : k = 0 ∨ k = 1 ∨ k = 2 ∨ k = 3 ∨ k = 4) with rfl | rfl | rfl | rfl | rfl <;> repeat (first | rw [if_neg (by omega)] | rw [if_pos (by omega)])
    have m2 : ∀ k, k < 5 → upd (upd (upd (upd (upd (upd (m 1) (8844 + 5 * N) a1) (8844 + 5 * N + 1) (nI u)) (8844 + 5 * N + 2) (nI v)) (8844 + 5 * N + 3) (-1)) (8844 + 5 * N + 4) tk) 11345 (nI (N + 1)) (8844 + 5 * N + k) = if k = 0 then a1 else if k = 1 then nI u else if k = 2 then nI v else if k = 3 then -1 else tk := by
      intro k hk
      unfold upd
      rw [if_neg (by omega)]
      rcases (by omega : k = 0 ∨ k = 1 ∨ k = 2 ∨ k = 3 ∨ k = 4) with rfl | rfl | rfl | rfl | rfl <;> repeat (first | rw [if_neg (by omega)] | rw [if_pos (by omega)])
    have c3 : upd (upd (upd (upd (upd (upd (w.1 11) (5920 + 5 * N + 0) a1) (5920 + 5 * N + 1) (nI u)) (5920 + 5 * N + 2) (nI v)) (5920 + 5 * N + 3) (-1)) (5920 + 5 * N + 4) tk) 8550 (nI (N + 1)) 8550 = nI (N + 1) := upd_at _ _ _
    have m3 : upd (upd (upd (upd (upd (upd (m 1) (8844 + 5 * N) a1) (8844 + 5 * N + 1) (nI u)) (8844 + 5 * N + 2) (nI v)) (8844 + 5 * N + 3) (-1)) (8844 + 5 * N + 4) tk) 11345 (nI (N + 1)) 11345 = nI (N + 1) := upd_at _ _ _
    generalize upd (upd (upd (upd (upd (upd (w.1 11) (5920 + 5 * N + 0) a1) (5920 + 5 * N + 1) (nI u)) (5920 + 5 * N + 2) (nI v)) (5920 + 5 * N + 3) (-1)) (5920 + 5 * N + 4) tk) 8550 (nI (N + 1)) = now' at c1 c2 c3 ⊢
    generalize upd (upd (upd (upd (upd (upd (m 1) (8844 + 5 * N) a1) (8844 + 5 * N + 1) (nI u)) (8844 + 5 * N + 2) (nI v)) (8844 + 5 * N + 3) (-1)) (8844 + 5 * N + 4) tk) 11345 (nI (N + 1)) = s' at m1 m2 m3 ⊢
    refine g3.rest (fun j hj => c1 j (by omega)) (fun j hj => m1 j (by omega)) ⟨N + 1, by omega, c3, m3, fun l hl k hk => ?_, fun l hl => ?_, fun p hp => ?_⟩ (g3.2.2.1.congr (fun j h1 h2 => c1 _ (by omega)) (fun j h1 h2 => m1 _ (by omega)) (fun q hq k hk => m1 _ (by omega))) (g3.2.2.2.1.congr (fun j h1 h2 => c1 _ (by omega)) (fun j h1 h2 => m1 _ (by omega))) (g3.2.2.2.2.1.congr (fun j h1 h2 => c1 _ (by omega)) (fun j h1 h2 => m1 _ (by omega))) (g3.2.2.2.2.2.1.congr (fun j h1 h2 h3 => c1 _ (by omega)) (fun j h1 h2 => m1 _ (by omega))) (m1 _ (by omega))
    · by_cases hlN : l = N
      · subst hlN
        rw [c2 k hk, m2 k hk]
      · rw [c1 _ (by omega), m1 _ (by omega)]; exact l4 l hl k hk
    · by_cases hlN : l = N
      · subst hlN
        have w3 : whr s' l = -1 := m2 3 (by omega)
        exact ⟨Or.inl w3, ⟨u, hu2, m2 1 (by omega)⟩, ⟨v, hv, m2 2 (by omega)⟩⟩
      · have w3 : whr s' l = whr (m 1) l := m1 (8844 + 5 * l + 3) (by omega)
        rw [w3, m1 (8844 + 5 * l + 1) (by omega), m1 (8844 + 5 * l + 2) (by omega)]
        obtain ⟨q1, q2⟩ := l5 l (by omega)
        refine ⟨?_, q2⟩
        rcases q1 with q1 | q1 | ⟨p, y1, y2, y3⟩
        · exact Or.inl q1
        · exact Or.inr (Or.inl q1)
        · exact Or.inr (Or.inr ⟨p, y1, y2, by rw [m1 _ (by omega)]; exact y3⟩)
    · obtain ⟨Ls, y1, y2, y3, y4⟩ := l6 p hp
      refine ⟨Ls, y1, by rw [c1 _ (by omega)]; exact y2, fun i x hx => ?_, ?_⟩
      · have hi : i < Ls.length := (List.getElem?_eq_some_iff.mp hx).1
        rw [c1 _ (by omega)]; exact y3 i x hx
      · have : inP s' (N + 1) p = inP (m 1) N p := by
          unfold inP
          rw [List.range_succ, List.filter_append, List.filter_cons_of_neg (by
            have w3 : whr s' N = -1 := m2 3 (by omega)
            rw [w3, decide_eq_true_eq]
            intro q
            have := congrArg Int32.toInt q
            rw [nI_toInt (by omega)] at this
            have h2 : ((-1 : Int32)).toInt = -1 := by decide
            omega), List.filter_nil, List.append_nil]
          apply List.filter_congr
          intro l hl
          have hl2 := List.mem_range.mp hl
          have w3 : whr s' l = whr (m 1) l := m1 (8844 + 5 * l + 3) (by omega)
          rw [w3]
        rw [this]; exact y4
theorem eq_back (hR : Rl n w wm) (hn : n < 513) (a1 : Int32) : ∃ r w2 wm2, f_X9_back a1 w = some (r, w2) ∧ f_X10_back a1 wm = some (r, wm2) ∧ Rl (n + 1) w2 wm2 ∧ w2.2 = w.2 := by
  have hR1 : Rl n w (mst wm 0 0 0) := hR.thr
  unfold f_X9_back f_X10_back
  generalize mst wm 0 0 0 = m at hR1 ⊢
  show Eq0 n w _ _
  simp only [within_s, in_s, Option.bind_some, gd]
  refine Eq0.ite (fun h => ?_) (fun _ => Eq0.ret hR1 hn)
  obtain ⟨k, hk1, hk2, rfl⟩ := rng2 (a := 1) (n := 300) (by omega) (by omega) h
  obtain ⟨T, O, hc, hm, b1, b2, g1, g2, g3, g4, g5⟩ := id hR1
  obtain ⟨c, mk, hmk⟩ := id g2
  obtain ⟨⟨a1, a2, a3⟩, ⟨c1, c2, c3⟩, a4, a5, a6⟩ := id hmk
  have ht : w.1 1 5 = nI T ∧ w.1 1 6 = nI O := by
    obtain ⟨e, f, d, mk, -, ⟨-, -, q, q2⟩, -⟩ := g1
    exact ⟨q, q2⟩
  have hs : m 1 11344 = nI T := g3.2.2.2.2.2.2
  unfold f_X1_keptMinutes
  rw [ht.1, ht.2, pk_sub c1, Option.bind_some, chk_t (lit_in (a := 11344) (by rfl) (by omega) (by omega)), chk_t (lit_in (a := 11344) (by rfl) (by omega) (by omega)), chk_t (lit_in (a := 11344) (by rfl) (by omega) (by omega)), lit_cl (x := 11344) (a := 11344) (by rfl) (by omega), hs, a3, pk_sub c1]
  by_cases hT : T = 0
  · subst hT
    rw [if_pos (show nI 0 = (0 : Int32) from rfl), if_neg (nI_ge (by omega) (by omega))]
    exact Eq0.ret hR1 hn
  · rw [if_neg (show ¬ nI T = 0 from fun q => hT (nI_inj (b := 0) (by omega) (by omega) q))]
    by_cases hkO : k ≤ T - O
    · rw [if_pos (nI_le hkO (by omega)), if_pos (nI_le hkO (by omega)), pk_sub (show k ≤ T by omega), rem_s (d := 301) (by rfl) (by omega) (by omega) (by omega), chk_t (inb_nI (by omega) (by omega)), nI_clamp (by omega)]
      obtain ⟨w', x1, x2, x3, x4, x5⟩ := undo_s g1 hk1 hkO
      obtain ⟨y1, y2, y3, y4, y5⟩ := a4 (T - k) (by omega) (by omega)
      have ht' : w'.1 1 5 = nI (T - k) := by
        obtain ⟨e, f, d, mk, -, ⟨-, -, q, q2⟩, -⟩ := x2
        exact q
      rw [x1, Option.bind_some, show f_X1_time w' = some (w'.1 1 5) from rfl, Option.bind_some, ht', y1]
      have hl := hmk.live (T - k) (by omega) (by omega)
      obtain ⟨m', z1, z2, z3, z4, z5⟩ := backL_s (x := mk (T - k)) FU c m a1 y3 (by unfold FU; omega) (by omega) (fun i h1 h2 => a6 i (by omega) h2)
      rw [y5] at z2
      have hRs := g4 hT (T - k) (by omega) (by omega)
      rw [z1, z2, hRs.2.2.2.2.2.2]
      refine ⟨_, w', m', rfl, rfl, ⟨T - k, O, hc, hm, by omega, by omega, x2.mono (by omega) (by omega), ⟨mk (T - k), mk, ⟨⟨z4, by omega, by rw [z5 6 (by decide)]; exact a3⟩, ⟨by omega, by omega, by omega⟩, fun t h1 h2 => ?_, fun t t' h1 h2 h3 => ?_, fun i h1 h2 => ?_⟩⟩, by rw [x3, z2]; exact hRs, fun _ t h1 h2 => g4 hT t h1 (by omega), ?_⟩, x5⟩
      · obtain ⟨q1, q2, q3, q4, q5⟩ := a4 t h1 (by omega)
        obtain ⟨p1, p2⟩ := a5 t (T - k) h1 h2 (by omega)
        refine ⟨by rw [z3 4 (by decide) (by decide)]; exact q1, q2, p1, by omega, ?_⟩
        rw [z3 2 (by decide) (by decide), z3 3 (by decide) (by decide), z2, ← y5, ← q5, show c - mk t = (c - mk (T - k)) + (mk (T - k) - mk t) by omega, undoM_add, show c - (c - mk (T - k)) = mk (T - k) by omega]
      · obtain ⟨p1, p2⟩ := a5 t t' h1 h2 (by omega)
        exact ⟨p1, by omega⟩
      · rw [z3 2 (by decide) (by decide)]; exact a6 i h1 (by omega)
      · obtain ⟨v1, v2, v3, v4, v5, v6⟩ := g5.mono (show n ≤ n + 1 by omega)
        unfold Ax
        rw [x4 5 (by decide) (by decide) (by decide) (by decide), x4 6 (by decide) (by decide) (by decide) (by decide), x4 3 (by decide) (by decide) (by decide) (by decide), x4 19 (by decide) (by decide) (by decide) (by decide), x4 17 (by decide) (by decide) (by decide) (by decide), x4 0 (by decide) (by decide) (by decide) (by decide), z3 6 (by decide) (by decide), z3 5 (by decide) (by decide), z3 7 (by decide) (by decide), z5 11 (by decide), z5 7 (by decide), z5 8 (by decide), z5 9 (by decide)]
        exact ⟨v1, v2, v3, v4, v5, v6⟩
    · rw [if_neg (nI_ge (by omega) (by omega)), if_neg (nI_ge (by omega) (by omega))]
      exact Eq0.ret hR1 hn
end M3
