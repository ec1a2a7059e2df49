section M1
variable {n : Nat} {w : CW} {wm : MW}
theorem eq_credit (hR : Rl n w wm) (hn : n < 513) (a1 : Int32) : ∃ r wm2, f_X9_credit a1 w = some r ∧ f_X10_credit a1 wm = some (r, wm2) ∧ Rl (n + 1) w wm2 := by
  have hR1 : Rl n w (mst wm 0 0 0) := hR.thr
  unfold f_X9_credit f_X10_credit
  generalize mst wm 0 0 0 = m at hR1 ⊢
  show EqR n w _ _
  simp only [isPlace_s, misPlace_s, Option.bind_some, gd]
  refine EqR.ite (fun h => ?_) (fun _ => EqR.ret hR1 hn)
  obtain ⟨p, hp, rfl⟩ := rng (n := 59) (by omega) h
  obtain ⟨T, O, hc, hm, b1, b2, g1, g2, g3, g4, g5⟩ := id hR1
  rw [creditOf_s g3 (by omega), mcreditOf_s (by omega), Option.bind_some, Option.bind_some]
  exact EqR.ret hR1 hn
theorem fm_s : ∀ t, t < 30 → ∀ j, j < 30 → f_J9_floorMod_7cf53 (nI t - 1 - nI j) 30 = some (nI ((t + 29 - j) % 30)) := by decide +kernel
theorem eq_trace (hR : Rl n w wm) (hn : n < 513) (a1 : Int32) : ∃ r wm2, f_X9_trace a1 w = some r ∧ f_X10_trace a1 wm = some (r, wm2) ∧ Rl (n + 1) w wm2 := by
  have hR1 : Rl n w (mst wm 0 0 0) := hR.thr
  unfold f_X9_trace f_X10_trace f_X7_latest
  generalize mst wm 0 0 0 = m at hR1 ⊢
  show EqR n w _ _
  obtain ⟨T, O, hc, hm, b1, b2, g1, g2, g3, g4, g5⟩ := id hR1
  obtain ⟨tr, t1, t2, t3, t4, t5⟩ := g5.2.1
  rw [Option.bind_fun_some, t2, t3, t4, within_s, Option.bind_some, gd]
  by_cases h : (0 : Int32) ≤ a1 ∧ a1 ≤ nI (if tr < 30 then tr else 30) - 1
  · rw [if_pos h]
    have hmn : (if tr < 30 then tr else 30) ≤ 30 ∧ (if tr < 30 then tr else 30) ≤ tr := by split <;> omega
    obtain ⟨j, hj, rfl⟩ := rngL (by omega) h
    rw [if_neg (nI_pos (by omega)), if_neg (show ¬ (30 : Int32) ≤ nI j from nI_ge (a := j) (b := 30) (by omega) (by omega)), if_neg (nI_ge (by omega) (by omega)), fm_s (tr % 30) (by omega) j (by omega), Option.bind_some, chk_t (inb_nI (by omega) (by omega)), nI_clamp (by omega), show nI tr - (1 : Int32) = nI (tr - 1) from pk_sub (a := tr) (b := 1) (by omega), pk_sub (show j ≤ tr - 1 by omega), rem_s (d := 30) (by rfl) (by omega) (by omega) (by omega), chk_t (inb_nI (by omega) (by omega)), nI_clamp (by omega), show (tr % 30 + 29 - j) % 30 = (tr - 1 - j) % 30 by omega, t5 _ (by omega)]
    exact EqR.ret hR1 hn
  · rw [if_neg h]
    have key : ∀ (y : Option (Int32 × MW)), EqR n w (some (-5)) (if a1 < 0 then some (-5, m) else if (30 : Int32) ≤ a1 then some (-5, m) else if nI tr ≤ a1 then some (-5, m) else y) := by
      intro y
      by_cases q1 : a1 < 0
      · rw [if_pos q1]; exact EqR.ret hR1 hn
      · rw [if_neg q1]
        by_cases q2 : (30 : Int32) ≤ a1
        · rw [if_pos q2]; exact EqR.ret hR1 hn
        · rw [if_neg q2]
          by_cases q3 : nI tr ≤ a1
          · rw [if_pos q3]; exact EqR.ret hR1 hn
          · exfalso
            obtain ⟨j, hj, rfl⟩ := rng (n := 30) (by omega) ⟨Int32.not_lt.mp q1, Int32.le_of_lt (Int32.not_le.mp q2)⟩
            have hj30 : ¬ 30 ≤ j := fun q => q2 (nI_le (a := 30) q (by omega))
            have hjt : ¬ tr ≤ j := fun q => q3 (nI_le q (by omega))
            apply h
            rw [show nI (if tr < 30 then tr else 30) - (1 : Int32) = nI ((if tr < 30 then tr else 30) - 1) from pk_sub (b := 1) (by split <;> omega)]
            exact ⟨nI_pos' (by omega), nI_le (by split <;> omega) (by split <;> omega)⟩
    exact key _
theorem eq_minutes (hR : Rl n w wm) (hn : n < 513) (a1 : Int32) : ∃ r w2 wm2, f_X9_minutes a1 w = some (r, w2) ∧ f_X10_minutes a1 wm = some (r, wm2) ∧ Rl (n + 1) w2 wm2 ∧ w2.2 = w.2 := by
  have hR1 : Rl n w (mst wm 0 0 0) := hR.thr
  unfold f_X9_minutes f_X10_minutes
  generalize mst wm 0 0 0 = m at hR1 ⊢
  show Eq0 n w _ _
  simp only [isProgram_s, misProgram_s, Option.bind_some, gd]
  refine Eq0.ite (fun h => ?_) (fun _ => Eq0.ret hR1 hn)
  obtain ⟨g, hg, rfl⟩ := rng (n := 39) (by omega) h
  obtain ⟨T, O, hc, hm, b1, b2, g1, g2, g3, g4, g5⟩ := id hR1
  rw [hasProgram_s g3 (by omega), Option.bind_some, gd, pa_s, chk_t (inb_nI (by omega) (by omega)), nI_clamp (by omega)]
  rcases g3.2.2.2.1 g (by omega) with ⟨q1, q2⟩ | ⟨q1, k, q2, q3, q4, q5⟩
  · rw [q1, if_neg (by decide), if_pos (by decide)]
    exact Eq0.fnd hR1 hn
  · rw [q1, if_pos (by decide), if_neg (by decide)]
    unfold f_X9_lengthOf
    rw [pcell_s, Option.bind_some, get_s (by omega), Option.bind_some, q4, Option.bind_some, show nI (k + 1) - (1 : Int32) = nI (k + 1 - 1) from pk_sub (a := k + 1) (b := 1) (by omega), Nat.add_sub_cancel]
    have e1 : f_X9_minutes_l34 FU (nI g) 0 (nI k) 0 w = some (sm (fun i => m 1 (6240 + 62 * g + 32 + i)) k, w) := by
      refine loop_FU (L := fun n i => f_X9_minutes_l34 n (nI g) (sm (fun i => m 1 (6240 + 62 * g + 32 + i)) i) (nI k) (nI i) w) (N := k) (by omega) (fun n i hi => ?_) (fun n => ?_)
      · show f_X9_minutes_l34_body (f_X9_minutes_l34 n) (nI g) _ (nI k) (nI i) w = _
        unfold f_X9_minutes_l34_body f_X9_minutesOf
        obtain ⟨a, u, c1, c2, c3, c4, c5, c6⟩ := q5 i hi
        rw [if_neg (nI_ge hi (by omega)), stepCell_s, Option.bind_some, get_s (by omega), Option.bind_some, c6, Option.bind_some, rem_s (d := 1000) (by rfl) (by omega) (by omega) (by omega), show (1000 * a + u) % 1000 = u by omega, ← c5, nI_1]
        rfl
      · show f_X9_minutes_l34_body (f_X9_minutes_l34 n) (nI g) _ (nI k) (nI k) w = _
        unfold f_X9_minutes_l34_body
        rw [if_pos (nI_le (Nat.le_refl _) (by omega))]
    have e2 : f_X10_minutes_l43 FU (nI (6240 + 62 * g)) 0 0 m = some (sm (fun i => m 1 (6240 + 62 * g + 32 + i)) k, m) := by
      refine loop_FU (L := fun n i => f_X10_minutes_l43 n (nI (6240 + 62 * g)) (sm (fun i => m 1 (6240 + 62 * g + 32 + i)) i) (nI i) m) (N := k) (by omega) (fun n i hi => ?_) (fun n => ?_)
      · show f_X10_minutes_l43_body (f_X10_minutes_l43 n) (nI (6240 + 62 * g)) _ (nI i) m = _
        unfold f_X10_minutes_l43_body
        rw [show nI (6240 + 62 * g) + (1 : Int32) = nI (6240 + 62 * g + 1) from nI_add _ _, chk_t (inb_nI (by omega) (by omega)), nI_clamp (by omega), q3, if_neg (nI_ge hi (by omega)), show nI (6240 + 62 * g) + (32 : Int32) = nI (6240 + 62 * g + 32) from nI_add _ _, nI_add, chk_t (inb_nI (by omega) (by omega)), nI_clamp (by omega), Option.bind_some, nI_1]
        rfl
      · show f_X10_minutes_l43_body (f_X10_minutes_l43 n) (nI (6240 + 62 * g)) _ (nI k) m = _
        unfold f_X10_minutes_l43_body
        rw [show nI (6240 + 62 * g) + (1 : Int32) = nI (6240 + 62 * g + 1) from nI_add _ _, chk_t (inb_nI (by omega) (by omega)), nI_clamp (by omega), q3, if_pos (nI_le (Nat.le_refl _) (by omega))]
    rw [e1, e2]
    exact Eq0.ret hR1 hn
theorem left_s {w : CW} {m : MW} {T p : Nat} (g3 : Rs (w.1 11) (m 1) T) (hp : p < 60) : ∃ r, f_X9_minutesLeft (nI p) w = some r ∧ f_X10_leftOf (nI p) m = some r := by
  unfold f_X9_minutesLeft f_X10_leftOf
  rw [read_k (k := 12) (by rfl) hp (by omega), read_k (k := 10) (by rfl) hp (by omega), read_k (k := 11) (by rfl) hp (by omega), of_s (k := 26) (by rfl) (by omega), of_s (k := 29) (by rfl) (by omega), of_s (k := 28) (by rfl) (by omega)]
  simp only [Option.bind_some]
  rcases (g3.1 p hp).2.2.1 with ⟨q1, q2, q3, q4, q5⟩ | ⟨q1, -, -, N, a, l, r1, r2, r3, r4, r5, r6, r7, r8, r9, r10, r11, r12⟩
  · rw [show w.1 11 (78 * p + 12) = 0 from q4, show w.1 11 (78 * p + 11) = 0 from q3, show w.1 11 (78 * p + 10) = 0 from q2, show m 1 (104 * p + 26) = 0 from q1, if_neg (by decide)]
    refine ⟨0, ?_, rfl⟩
    rw [show FU = FU - 1 + 1 by unfold FU; rfl]
    show f_X9_minutesLeft_l27_body (f_X9_minutesLeft_l27 (FU - 1)) (nI p) 0 0 (0 + 1) w = _
    unfold f_X9_minutesLeft_l27_body
    rw [if_pos (by decide)]
  · rw [show w.1 11 (78 * p + 12) = nI l from r11, show w.1 11 (78 * p + 11) = nI a from r9, show w.1 11 (78 * p + 10) = nI N from r7, show m 1 (104 * p + 26) = 1 from q1, show m 1 (104 * p + 29) = nI l from r10, show m 1 (104 * p + 28) = nI a from r8, if_pos rfl, nI_1]
    have r6' : m 1 (104 * p + 27) = nI N := r6
    refine ⟨nI l + sm (fun i => m 1 (104 * p + (71 + (a + 1 + i)))) (N - (a + 1)), ?_, ?_⟩
    · refine (Eq.trans ?_ (loop_FU (L := fun n i => f_X9_minutesLeft_l27 n (nI p) (nI l + sm (fun i => m 1 (104 * p + (71 + (a + 1 + i)))) i) (nI N) (nI (a + 1 + i)) w) (N := N - (a + 1)) (by omega) (fun n i hi => ?_) (fun n => ?_)))
      · show _ = f_X9_minutesLeft_l27 FU (nI p) (nI l + 0) (nI N) (nI (a + 1)) w
        rw [Int32.add_zero]
      · show f_X9_minutesLeft_l27_body (f_X9_minutesLeft_l27 n) (nI p) _ (nI N) (nI (a + 1 + i)) w = _
        unfold f_X9_minutesLeft_l27_body f_X9_minutesOf
        obtain ⟨kk, u, c1, c2, c3, c4, c5, c6⟩ := r12 (a + 1 + i) (by omega)
        rw [if_neg (nI_ge (by omega) (by omega)), read_k (k := 48 + (a + 1 + i)) (by exact nI_add 48 _) hp (by omega), Option.bind_some, Option.bind_some, show w.1 11 (78 * p + (48 + (a + 1 + i))) = nI (1000 * kk + u) from c6, rem_s (d := 1000) (by rfl) (by omega) (by omega) (by omega), show (1000 * kk + u) % 1000 = u by omega, ← c5, nI_1]
        show f_X9_minutesLeft_l27 n (nI p) (nI l + sm _ i + _) (nI N) _ w = f_X9_minutesLeft_l27 n (nI p) (nI l + (sm _ i + _)) (nI N) _ w
        rw [Int32.add_assoc]
        rfl
      · show f_X9_minutesLeft_l27_body (f_X9_minutesLeft_l27 n) (nI p) _ (nI N) (nI (a + 1 + (N - (a + 1)))) w = _
        unfold f_X9_minutesLeft_l27_body
        rw [if_pos (nI_le (by omega) (by omega))]
    · refine (Eq.trans ?_ (loop_FU (L := fun n i => f_X10_leftOf_l31 n (nI p) (nI l + sm (fun i => m 1 (104 * p + (71 + (a + 1 + i)))) i) (nI (a + 1 + i)) m) (N := N - (a + 1)) (by omega) (fun n i hi => ?_) (fun n => ?_)))
      · show _ = f_X10_leftOf_l31 FU (nI p) (nI l + 0) (nI (a + 1)) m
        rw [Int32.add_zero]
      · show f_X10_leftOf_l31_body (f_X10_leftOf_l31 n) (nI p) _ (nI (a + 1 + i)) m = _
        unfold f_X10_leftOf_l31_body
        rw [of_s (k := 27) (by rfl) (by omega), Option.bind_some, r6', if_neg (nI_ge (by omega) (by omega)), of_s (k := 71 + (a + 1 + i)) (by exact nI_add 71 _) (by omega), Option.bind_some, nI_1]
        show f_X10_leftOf_l31 n (nI p) (nI l + sm _ i + _) _ m = f_X10_leftOf_l31 n (nI p) (nI l + (sm _ i + _)) _ m
        rw [Int32.add_assoc]
        rfl
      · show f_X10_leftOf_l31_body (f_X10_leftOf_l31 n) (nI p) _ (nI (a + 1 + (N - (a + 1)))) m = _
        unfold f_X10_leftOf_l31_body
        rw [of_s (k := 27) (by rfl) (by omega), Option.bind_some, r6', if_pos (nI_le (by omega) (by omega))]
theorem eq_left (hR : Rl n w wm) (hn : n < 513) (a1 : Int32) : ∃ r w2 wm2, f_X9_left a1 w = some (r, w2) ∧ f_X10_left a1 wm = some (r, wm2) ∧ Rl (n + 1) w2 wm2 ∧ w2.2 = w.2 := by
  have hR1 : Rl n w (mst wm 0 0 0) := hR.thr
  unfold f_X9_left f_X10_left
  generalize mst wm 0 0 0 = m at hR1 ⊢
  show Eq0 n w _ _
  simp only [isPlace_s, misPlace_s, Option.bind_some, gd]
  refine Eq0.ite (fun h => ?_) (fun _ => Eq0.ret hR1 hn)
  obtain ⟨p, hp, rfl⟩ := rng (n := 59) (by omega) h
  obtain ⟨T, O, hc, hm, b1, b2, g1, g2, g3, g4, g5⟩ := id hR1
  rw [hasMachine_s g3 (by omega), isThere_s g3 (by omega), Option.bind_some, Option.bind_some, gd, gd]
  refine Eq0.ite (fun h3 => ?_) (fun _ => Eq0.fnd hR1 hn)
  obtain ⟨r, e1, e2⟩ := left_s g3 (show p < 60 by omega)
  rw [e1, e2, Option.bind_some, Option.bind_some]
  exact Eq0.ret hR1 hn
theorem RG_step {now s : Nat → Int32} {g i k u : Nat} (h : RG now s) (hg : g < 40) (hi : i < 30) (hk : k ≤ 4) (hu : 1 ≤ u) (hu2 : u ≤ 200) : RG (upd now (4680 + 31 * g + 1 + i) (nI (1000 * k + u))) (upd (upd s (6240 + 62 * g + 2 + i) (nI k)) (6240 + 62 * g + 32 + i) (nI u)) := by
  intro g' hg'
  rw [upd_ne (j := 6240 + 62 * g') _ _ (by omega), upd_ne (j := 6240 + 62 * g') _ _ (by omega), upd_ne (j := 6240 + 62 * g' + 1) _ _ (by omega), upd_ne (j := 6240 + 62 * g' + 1) _ _ (by omega), upd_ne (j := 4680 + 31 * g') _ _ (by omega)]
  rcases h g' hg' with h | ⟨q1, n, q2, q3, q4, q5⟩
  · exact Or.inl h
  · refine Or.inr ⟨q1, n, q2, q3, q4, fun j hj => ?_⟩
    by_cases e : g' = g ∧ j = i
    · obtain ⟨rfl, rfl⟩ := e
      exact ⟨k, u, hk, hu, hu2, by rw [upd_ne _ _ (by omega), upd_at], upd_at _ _ _, upd_at _ _ _⟩
    · rw [upd_ne _ _ (by omega), upd_ne _ _ (by omega), upd_ne _ _ (by omega), upd_ne _ _ (by omega), upd_ne _ _ (by omega)]
      exact q5 j hj
theorem eq_step (hR : Rl n w wm) (hn : n < 513) (a1 a2 a3 a4 : Int32) : ∃ r w2 wm2 n2, f_X9_step a1 a2 a3 a4 w = some ((r, w2), n2) ∧ f_X10_step a1 a2 a3 a4 wm = some (r, wm2) ∧ Rl (n + 1) w2 wm2 ∧ 4096 * n2 + 2 * w.2 = 2 * w2.2 := by
  have hR1 : Rl n w (mst wm 0 0 0) := hR.thr
  unfold f_X9_step f_X10_step
  generalize mst wm 0 0 0 = m at hR1 ⊢
  show Eq1 n w _ _
  simp only [isProgram_s, misProgram_s, within_s, in_s, Option.bind_some, gd]
  refine Eq1.ite (fun h => ?_) (fun _ => Eq1.ret hR1 hn)
  refine Eq1.ite (fun h3 => ?_) (fun _ => Eq1.ret hR1 hn)
  refine Eq1.ite (fun h4 => ?_) (fun _ => Eq1.ret hR1 hn)
  obtain ⟨g, hg, rfl⟩ := rng (n := 39) (by omega) h
  obtain ⟨k, hk, rfl⟩ := rng (n := 4) (by omega) h3
  obtain ⟨u, hu, hu2, rfl⟩ := rng2 (a := 1) (n := 200) (by omega) (by omega) h4
  obtain ⟨T, O, hc, hm, b1, b2, g1, g2, g3, g4, g5⟩ := id hR1
  rw [hasProgram_s g3 (by omega), Option.bind_some, gd, pa_s, chk_t (inb_nI (by omega) (by omega)), nI_clamp (by omega)]
  rcases g3.2.2.2.1 g (by omega) with ⟨q1, q2⟩ | ⟨q1, N, q2, q3, q4, q5⟩
  · rw [q1, if_neg (by decide), if_pos (by decide)]
    exact Eq1.fnd hR1 hn
  · rw [q1, if_pos (by decide), if_neg (by decide)]
    unfold f_X9_lengthOf
    rw [pcell_s, Option.bind_some, get_s (by omega), Option.bind_some, q4, Option.bind_some, show nI (N + 1) - (1 : Int32) = nI (N + 1 - 1) from pk_sub (a := N + 1) (b := 1) (by omega), Nat.add_sub_cancel, show nI (6240 + 62 * g) + (1 : Int32) = nI (6240 + 62 * g + 1) from nI_add _ _, chk_t (inb_nI (by omega) (by omega)), nI_clamp (by omega), q3]
    refine Eq1.ite (fun h2 => ?_) (fun _ => Eq1.fnd hR1 hn)
    obtain ⟨i, hi, rfl⟩ := rngL (by omega) h2
    rw [stepCell_s, Option.bind_some, show nI (6240 + 62 * g) + (2 : Int32) = nI (6240 + 62 * g + 2) from nI_add _ _, show nI (6240 + 62 * g) + (32 : Int32) = nI (6240 + 62 * g + 32) from nI_add _ _, nI_add, nI_add, show nI k * (1000 : Int32) = nI (1000 * k) by rw [Nat.mul_comm]; exact pk_mul k 1000, nI_add]
    refine Eq1.fin hn b2 g4 g5 ((set_k g1 rfl (by omega) (by omega)).bi fun _ h1 e1 _ => OkI.dn h1 e1) ((w_k g2 rfl (by omega) (by omega) (by omega)).bi fun _ h1 e1 _ => (w_k h1 e1 (by omega) (by omega) (by omega)).bi fun _ h1 e1 _ => OkMI.dn h1 e1) (by omega) (by omega) (by omega) ?_
    exact g3.prog (fun j hj => upd_ne _ _ (by omega)) (fun j hj => by rw [upd_ne _ _ (by omega), upd_ne _ _ (by omega)]) (RG_step g3.2.2.2.1 (by omega) (by omega) hk hu hu2)
end M1
