section EASY
variable {n : Nat} {w : CW} {wm : MW}
theorem RG_out {now s : Nat → Int32} {g : Nat} (h : RG now s) (hg : g < 40) : RG (upd now (4680 + 31 * g) 0) (upd s (6240 + 62 * g) 0) := by
  intro g' hg'
  by_cases e : g' = g
  · subst e
    exact Or.inl ⟨upd_at _ _ _, upd_at _ _ _⟩
  · rw [upd_ne _ _ (by omega), upd_ne _ _ (by omega), upd_ne _ _ (by omega)]
    rcases h g' hg' with h | ⟨q1, n, q2, q3, q4, q5⟩
    · exact Or.inl h
    · refine Or.inr ⟨q1, n, q2, q3, q4, fun i hi => ?_⟩
      rw [upd_ne _ _ (by omega), upd_ne _ _ (by omega), upd_ne _ _ (by omega)]
      exact q5 i hi
/-- only programs are changed -/
theorem Rs.prog {now now' s s' : Nat → Int32} {T : Nat} (h : Rs now s T) (hc : ∀ j, (j < 4680 ∨ 5920 ≤ j) → now' j = now j) (hm : ∀ j, (j < 6240 ∨ 8720 ≤ j) → s' j = s j) (hG : RG now' s') : Rs now' s' T :=
  h.rest (fun j hj => hc j (by omega)) (fun j hj => hm j (by omega)) (h.2.1.congr (hc _ (by omega)) (hm _ (by omega)) (fun j h1 h2 => hc _ (by omega)) (fun j h1 h2 => hm _ (by omega)) (fun q hq h9 => by rw [hm _ (by omega)]; exact h9) (fun q hq k hk => hc _ (by omega))) (h.2.2.1.congr (fun j h1 h2 => hc _ (by omega)) (fun j h1 h2 => hm _ (by omega)) (fun q hq k hk => hm _ (by omega))) hG (h.2.2.2.2.1.congr (fun j h1 h2 => hc _ (by omega)) (fun j h1 h2 => hm _ (by omega))) (h.2.2.2.2.2.1.congr (fun j h1 h2 _ => hc _ (by omega)) (fun j h1 h2 => hm _ (by omega))) (hm _ (by omega))
theorem eq_takeOut (hR : Rl n w wm) (hn : n < 513) (a1 : Int32) : ∃ r w2 wm2 n2, f_X9_takeOut a1 w = some ((r, w2), n2) ∧ f_X10_takeOut a1 wm = some (r, wm2) ∧ Rl (n + 1) w2 wm2 ∧ 4096 * n2 + 2 * w.2 = 2 * w2.2 := by
  have hR1 : Rl n w (mst wm 0 0 0) := hR.thr
  unfold f_X9_takeOut f_X10_takeOut
  generalize mst wm 0 0 0 = m at hR1 ⊢
  show Eq1 n w _ _
  simp only [isProgram_s, misProgram_s, Option.bind_some, gd]
  refine Eq1.ite (fun h => ?_) (fun _ => Eq1.ret hR1 hn)
  obtain ⟨g, hg, rfl⟩ := rng (n := 39) (by omega) h
  obtain ⟨T, O, hc, hm, b1, b2, g1, g2, g3, g4, g5⟩ := id hR1
  rw [hasProgram_s g3 (by omega), Option.bind_some, gd, pcell_s, Option.bind_some, pa_s, chk_t (inb_nI (by omega) (by omega)), nI_clamp (by omega)]
  have hs : Rs (upd (w.1 11) (4680 + 31 * g) 0) (upd (m 1) (6240 + 62 * g) 0) T := g3.prog (fun j hj => upd_ne _ _ (by omega)) (fun j hj => upd_ne _ _ (by omega)) (RG_out g3.2.2.2.1 (by omega))
  rcases g3.2.2.2.1 g (by omega) with ⟨q1, q2⟩ | ⟨q1, k, q2, q3, q4, q5⟩
  · rw [q1, if_neg (by decide)]
    rw [show upd (w.1 11) (4680 + 31 * g) 0 = w.1 11 by rw [← q2, upd_same]] at hs
    exact Eq1.fin hn b2 g4 g5 (OkI.dn g1 rfl) ((w_k g2 rfl (by omega) (by omega) (by omega)).bi fun _ h1 e1 _ => OkMI.dn h1 e1) (by omega) (by omega) (by omega) hs
  · rw [q1, if_pos (by decide)]
    exact Eq1.fin hn b2 g4 g5 ((set_k g1 rfl (by omega) (by omega)).bi fun _ h1 e1 _ => OkI.dn h1 e1) ((w_k g2 rfl (by omega) (by omega) (by omega)).bi fun _ h1 e1 _ => OkMI.dn h1 e1) (by omega) (by omega) (by omega) hs
theorem eq_used (hR : Rl n w wm) (hn : n < 513) (a1 : Int32) : ∃ r wm2, f_X9_used a1 w = some r ∧ f_X10_used a1 wm = some (r, wm2) ∧ Rl (n + 1) w wm2 := by
  have hR1 : Rl n w (mst wm 0 0 0) := hR.thr
  unfold f_X9_used f_X10_used
  generalize mst wm 0 0 0 = m at hR1 ⊢
  show EqR n w _ _
  simp only [within_s, in_s, Option.bind_some, gd]
  refine EqR.ite (fun h => ?_) (fun _ => EqR.ret hR1 hn)
  obtain ⟨j, hj, rfl⟩ := rng (n := 5) (by omega) h
  obtain ⟨T, O, hc, hm, b1, b2, g1, g2, g3, g4, g5⟩ := id hR1
  obtain ⟨z1, z2, z3, z4⟩ := g3.2.2.2.2.2.1
  rw [show (11350 : Int32) + nI j = nI (11350 + j) from nI_add _ _, chk_t (inb_nI (by omega) (by omega)), nI_clamp (by omega)]
  unfold f_X9_used_b36
  by_cases hj2 : 2 < j
  · rw [if_pos (show (2 : Int32) < nI j from nI_lt (a := 2) (b := j) hj2 (by omega)), show (8544 : Int32) + nI j - 3 = nI (8544 + (j - 3)) by rw [show (8544 : Int32) + nI j = nI (8544 + j) from nI_add _ _, show nI (8544 + j) - (3 : Int32) = nI (8544 + j - 3) from pk_sub (a := 8544 + j) (b := 3) (by omega)]; congr 1; omega, get_s (by omega), Option.bind_some, (z1 (j - 3) (by omega)).1, show 11353 + (j - 3) = 11350 + j by omega]
    exact EqR.ret hR1 hn
  · rw [if_neg (show ¬ (2 : Int32) < nI j from nI_nlt (a := 2) (b := j) (by omega) (by omega)), show (8547 : Int32) + nI j = nI (8547 + j) from nI_add _ _, get_s (by omega), Option.bind_some, (z1 j (by omega)).2]
    exact EqR.ret hR1 hn
theorem eq_touches (hR : Rl n w wm) (hn : n < 513) (a1 a2 : Int32) : ∃ r wm2, f_X9_touches a1 a2 w = some r ∧ f_X10_touches a1 a2 wm = some (r, wm2) ∧ Rl (n + 1) w wm2 := by
  have hR1 : Rl n w (mst wm 0 0 0) := hR.thr
  unfold f_X9_touches f_X10_touches
  generalize mst wm 0 0 0 = m at hR1 ⊢
  show EqR n w _ _
  simp only [isPlace_s, misPlace_s, within_s, in_s, Option.bind_some, gd]
  refine EqR.ite (fun h => ?_) (fun _ => EqR.ret hR1 hn)
  refine EqR.ite (fun h2 => ?_) (fun _ => EqR.ret hR1 hn)
  obtain ⟨p, hp, rfl⟩ := rng (n := 59) (by omega) h
  obtain ⟨T, O, hc, hm, b1, b2, g1, g2, g3, g4, g5⟩ := id hR1
  rw [chk_t (inb_nI (by omega) (by omega)), chk_t (inb_nI (by omega) (by omega)), chk_t (inb_nI (by omega) (by omega)), nI_clamp (by omega), (g5.1 p (by omega)).1, (g5.1 p (by omega)).2, ite_self]
  exact EqR.ret hR1 hn
theorem eq_given (hR : Rl n w wm) (hn : n < 513) (a1 : Int32) : ∃ r wm2, f_X9_given a1 w = some r ∧ f_X10_given a1 wm = some (r, wm2) ∧ Rl (n + 1) w wm2 := by
  have hR1 : Rl n w (mst wm 0 0 0) := hR.thr
  unfold f_X9_given f_X10_given f_X6_gaveLast
  generalize mst wm 0 0 0 = m at hR1 ⊢
  show EqR n w _ _
  rw [Option.bind_fun_some]
  simp only [isTube_s, misTube_s, Option.bind_some, gd]
  refine EqR.ite (fun h => ?_) (fun _ => EqR.ret hR1 hn)
  obtain ⟨p, hp, rfl⟩ := rng (n := 11) (by omega) h
  obtain ⟨T, O, hc, hm, b1, b2, g1, g2, g3, g4, g5⟩ := id hR1
  rw [chk_t (inb_nI (by omega) (by omega)), chk_t (inb_nI (by omega) (by omega)), nI_clamp (by omega), g5.2.2.1 p (by omega)]
  exact EqR.ret hR1 hn
theorem eq_coins (hR : Rl n w wm) (hn : n < 513) (a1 a2 : Int32) : ∃ r wm2, f_X9_coins a1 a2 w = some r ∧ f_X10_coins a1 a2 wm = some (r, wm2) ∧ Rl (n + 1) w wm2 := by
  have hR1 : Rl n w (mst wm 0 0 0) := hR.thr
  unfold f_X9_coins f_X10_coins
  generalize mst wm 0 0 0 = m at hR1 ⊢
  show EqR n w _ _
  simp only [isTube_s, misTube_s, within_s, in_s, Option.bind_some, gd]
  refine EqR.ite (fun h => ?_) (fun _ => EqR.ret hR1 hn)
  refine EqR.ite (fun h2 => ?_) (fun _ => EqR.ret hR1 hn)
  obtain ⟨p, hp, rfl⟩ := rng (n := 11) (by omega) h
  obtain ⟨j, hj, rfl⟩ := rng (n := 1) (by omega) h2
  obtain ⟨T, O, hc, hm, b1, b2, g1, g2, g3, g4, g5⟩ := id hR1
  obtain ⟨t1, t2, -⟩ := g3.2.2.1.1 p (by omega)
  unfold f_X9_coins_b38
  rw [ta_s, nI_add, chk_t (inb_nI (by omega) (by omega)), nI_clamp (by omega), show (8420 : Int32) + nI p = nI (8420 + p) from nI_add _ _, show (8432 : Int32) + nI p = nI (8432 + p) from nI_add _ _, get_s (by omega), get_s (by omega), Option.bind_some, Option.bind_some, t1, t2]
  rcases Nat.lt_or_ge 0 j with q | q
  · have : j = 1 := by omega
    subst this
    rw [if_neg (by decide)]
    exact EqR.ret hR1 hn
  · have : j = 0 := by omega
    subst this
    rw [if_pos (by decide)]
    exact EqR.ret hR1 hn
theorem eq_about (hR : Rl n w wm) (hn : n < 513) (a1 a2 : Int32) : ∃ r wm2, f_X9_about a1 a2 w = some r ∧ f_X10_about a1 a2 wm = some (r, wm2) ∧ Rl (n + 1) w wm2 := by
  have hR1 : Rl n w (mst wm 0 0 0) := hR.thr
  unfold f_X9_about f_X10_about
  generalize mst wm 0 0 0 = m at hR1 ⊢
  show EqR n w _ _
  obtain ⟨T, O, hc, hm, b1, b2, g1, g2, g3, g4, g5⟩ := id hR1
  obtain ⟨N, l1, l2, l3, l4, l5, l6⟩ := g3.2.1
  rw [isLoad_s a1 l2, misLoad_s a1 l3]
  simp only [within_s, in_s, Option.bind_some, gd]
  refine EqR.ite (fun h => ?_) (fun _ => EqR.ret hR1 hn)
  refine EqR.ite (fun h2 => ?_) (fun _ => EqR.ret hR1 hn)
  obtain ⟨l, hl, rfl⟩ := rngL (by omega) h
  obtain ⟨j, hj, rfl⟩ := rng (n := 4) (by omega) h2
  rw [lcell_s rfl, Option.bind_some, get_s (by omega), Option.bind_some, lb_s, nI_add, chk_t (inb_nI (by omega) (by omega)), nI_clamp (by omega), l4 l (by omega) j (by omega)]
  exact EqR.ret hR1 hn
theorem eq_book (hR : Rl n w wm) (hn : n < 513) (a1 a2 : Int32) : ∃ r w2 wm2, f_X9_book a1 a2 w = some (r, w2) ∧ f_X10_book a1 a2 wm = some (r, wm2) ∧ Rl (n + 1) w2 wm2 ∧ w2.2 = w.2 := by
  have hR1 : Rl n w (mst wm 0 0 0) := hR.thr
  unfold f_X9_book f_X10_book
  generalize mst wm 0 0 0 = m at hR1 ⊢
  show Eq0 n w _ _
  simp only [isPlace_s, misPlace_s, within_s, in_s, Option.bind_some, gd]
  refine Eq0.ite (fun h => ?_) (fun _ => Eq0.ret hR1 hn)
  refine Eq0.ite (fun h2 => ?_) (fun _ => Eq0.ret hR1 hn)
  obtain ⟨p, hp, rfl⟩ := rng (n := 59) (by omega) h
  obtain ⟨j, hj, rfl⟩ := rng (n := 8) (by omega) h2
  obtain ⟨T, O, hc, hm, b1, b2, g1, g2, g3, g4, g5⟩ := id hR1
  rw [hasMachine_s g3 (by omega), isThere_s g3 (by omega), Option.bind_some, Option.bind_some, gd, gd]
  refine Eq0.ite (fun h3 => ?_) (fun _ => Eq0.fnd hR1 hn)
  rw [read_k (k := 27 + j) (by exact nI_add 27 j) (by omega) (by omega), of_s (k := 32 + j) (by exact nI_add 32 j) (by omega), Option.bind_some, Option.bind_some, show w.1 11 (78 * p + (27 + j)) = m 1 (104 * p + (32 + j)) from (g3.1 p (by omega)).2.1.1 j (by omega)]
  exact Eq0.ret hR1 hn
theorem eq_bound (hR : Rl n w wm) (hn : n < 513) (a1 a2 a3 : Int32) : ∃ r w2 wm2 n2, f_X9_bound a1 a2 a3 w = some ((r, w2), n2) ∧ f_X10_bound a1 a2 a3 wm = some (r, wm2) ∧ Rl (n + 1) w2 wm2 ∧ 4096 * n2 + 2 * w.2 = 2 * w2.2 := by
  have hR1 : Rl n w (mst wm 0 0 0) := hR.thr
  unfold f_X9_bound f_X10_bound
  generalize mst wm 0 0 0 = m at hR1 ⊢
  show Eq1 n w _ _
  simp only [within_s, in_s, Option.bind_some, gd]
  refine Eq1.ite (fun h => ?_) (fun _ => Eq1.ret hR1 hn)
  refine Eq1.ite (fun h2 => ?_) (fun _ => Eq1.ret hR1 hn)
  refine Eq1.ite (fun h3 => ?_) (fun _ => Eq1.ret hR1 hn)
  obtain ⟨T, O, hc, hm, b1, b2, g1, g2, g3, g4, g5⟩ := id hR1
  obtain ⟨z1, z2, z3, z4⟩ := g3.2.2.2.2.2.1
  rw [gl_k (a := 8551) (by rfl) (by omega), Option.bind_some, chk_t (lit_in (a := 11356) (by rfl) (by omega) (by omega)), lit_cl (x := 11356) (a := 11356) (by rfl) (by omega), z2]
  refine Eq1.ite (fun _ => Eq1.ret hR1 hn) (fun _ => ?_)
  refine Eq1.fin hn b2 g4 g5 ((sl_k (a := 8544) rfl g1 rfl (by omega) (by omega)).bi fun _ h1 e1 _ => (sl_k (a := 8545) rfl h1 e1 (by omega) (by omega)).bi fun _ h1 e1 _ => (sl_k (a := 8546) rfl h1 e1 (by omega) (by omega)).bi fun _ h1 e1 _ => OkI.dn h1 e1)
    ((wl_k (a := 11353) rfl g2 rfl (by omega) (by omega) (by omega)).bi fun _ h1 e1 _ => (wl_k (a := 11354) rfl h1 e1 (by omega) (by omega) (by omega)).bi fun _ h1 e1 _ => (wl_k (a := 11355) rfl h1 e1 (by omega) (by omega) (by omega)).bi fun _ h1 e1 _ => OkMI.dn h1 e1) (by omega) (by omega) (by omega) ?_
  have c1 : ∀ j, (j < 8544 ∨ 8547 ≤ j) → upd (upd (upd (w.1 11) 8544 a1) 8545 a2) 8546 a3 j = w.1 11 j := fun j hj => by rw [upd_ne _ _ (by omega), upd_ne _ _ (by omega), upd_ne _ _ (by omega)]
  have m1 : ∀ j, (j < 11353 ∨ 11356 ≤ j) → upd (upd (upd (m 1) 11353 a1) 11354 a2) 11355 a3 j = m 1 j := fun j hj => by rw [upd_ne _ _ (by omega), upd_ne _ _ (by omega), upd_ne _ _ (by omega)]
  refine g3.rest (fun j hj => c1 j (by omega)) (fun j hj => m1 j (by omega)) (g3.2.1.congr (c1 _ (by omega)) (m1 _ (by omega)) (fun j h1 h2 => c1 _ (by omega)) (fun j h1 h2 => m1 _ (by omega)) (fun q hq h9 => by rw [m1 _ (by omega)]; exact h9) (fun q hq k hk => c1 _ (by omega))) (g3.2.2.1.congr (fun j h1 h2 => c1 _ (by omega)) (fun j h1 h2 => m1 _ (by omega)) (fun q hq k hk => m1 _ (by omega))) (g3.2.2.2.1.congr (fun j h1 h2 => c1 _ (by omega)) (fun j h1 h2 => m1 _ (by omega))) (g3.2.2.2.2.1.congr (fun j h1 h2 => c1 _ (by omega)) (fun j h1 h2 => m1 _ (by omega))) ⟨fun i hi => ⟨?_, ?_⟩, ?_, ?_, fun i hi => ?_⟩ (m1 _ (by omega))
  · rcases (by omega : i = 0 ∨ i = 1 ∨ i = 2) with rfl | rfl | rfl <;> rfl
  · rw [c1 _ (by omega), m1 _ (by omega)]; exact (z1 i hi).2
  · rw [c1 _ (by omega), m1 _ (by omega)]; exact z2
  · rw [m1 _ (by omega)]; exact z3
  · rw [c1 _ (by omega), m1 _ (by omega)]; exact z4 i hi
theorem eq_mix (hR : Rl n w wm) (hn : n < 513) (a1 a2 a3 : Int32) : ∃ r w2 wm2 n2, f_X9_mix a1 a2 a3 w = some ((r, w2), n2) ∧ f_X10_mix a1 a2 a3 wm = some (r, wm2) ∧ Rl (n + 1) w2 wm2 ∧ 4096 * n2 + 2 * w.2 = 2 * w2.2 := by
  have hR1 : Rl n w (mst wm 0 0 0) := hR.thr
  unfold f_X9_mix f_X10_mix
  generalize mst wm 0 0 0 = m at hR1 ⊢
  show Eq1 n w _ _
  simp only [isColour_s, in_s, Option.bind_some, gd]
  refine Eq1.ite (fun h => ?_) (fun _ => Eq1.ret hR1 hn)
  refine Eq1.ite (fun h2 => ?_) (fun _ => Eq1.ret hR1 hn)
  refine Eq1.ite (fun _ => Eq1.ret hR1 hn) (fun h3 => ?_)
  obtain ⟨a, ha, rfl⟩ := rng (n := 9) (by omega) h
  obtain ⟨c, hc9, rfl⟩ := rng (n := 9) (by omega) h2
  obtain ⟨T, O, hc, hm, b1, b2, g1, g2, g3, g4, g5⟩ := id hR1
  have hx := g3.2.2.2.2.1
  have hac : a ≠ c := fun q => h3 (by rw [q])
  obtain ⟨x1, x2⟩ := hx (10 * a + c) (by omega)
  have key : ∀ (v r : Int32), (v = 0 ∨ v = 1) → Eq1 n w (f_X9_mix_b47 (nI a) (nI c) r v w) ((f_X10_w (nI (8744 + 10 * a + c)) v m).bind fun y2 => f_X10_mix_b95 r (nI (8744 + 10 * c + a)) v y2) := by
    intro v r hv
    unfold f_X9_mix_b47 f_X10_mix_b95
    rw [barred_s, barred_s]
    simp only [Option.bind_some]
    refine Eq1.fin hn b2 g4 g5 ((set_k g1 rfl (by omega) (by omega)).bi fun _ h1 e1 _ => (set_k h1 e1 (by omega) (by omega)).bi fun _ h1 e1 _ => OkI.dn h1 e1)
      ((w_k g2 rfl (by omega) (by omega) (by omega)).bi fun _ h1 e1 _ => (w_k h1 e1 (by omega) (by omega) (by omega)).bi fun _ h1 e1 _ => OkMI.dn h1 e1) (by omega) (by omega) (by omega) ?_
    have c1 : ∀ j, (j < 8444 ∨ 8544 ≤ j) → upd (upd (w.1 11) (8444 + 10 * a + c) v) (8444 + 10 * c + a) v j = w.1 11 j := fun j hj => by rw [upd_ne _ _ (by omega), upd_ne _ _ (by omega)]
    have m1 : ∀ j, (j < 8744 ∨ 8844 ≤ j) → upd (upd (m 1) (8744 + 10 * a + c) v) (8744 + 10 * c + a) v j = m 1 j := fun j hj => by rw [upd_ne _ _ (by omega), upd_ne _ _ (by omega)]
    refine g3.rest (fun j hj => c1 j (by omega)) (fun j hj => m1 j (by omega)) (g3.2.1.congr (c1 _ (by omega)) (m1 _ (by omega)) (fun j h1 h2 => c1 _ (by omega)) (fun j h1 h2 => m1 _ (by omega)) (fun q hq h9 => by rw [m1 _ (by omega)]; exact h9) (fun q hq k hk => c1 _ (by omega))) (g3.2.2.1.congr (fun j h1 h2 => c1 _ (by omega)) (fun j h1 h2 => m1 _ (by omega)) (fun q hq k hk => m1 _ (by omega))) (g3.2.2.2.1.congr (fun j h1 h2 => c1 _ (by omega)) (fun j h1 h2 => m1 _ (by omega))) (fun i hi => ?_) (g3.2.2.2.2.2.1.congr (fun j h1 h2 _ => c1 _ (by omega)) (fun j h1 h2 => m1 _ (by omega))) (m1 _ (by omega))
    by_cases q1 : i = 10 * c + a
    · rw [show 8444 + i = 8444 + 10 * c + a by omega, show 8744 + i = 8744 + 10 * c + a by omega, upd_at, upd_at]; exact ⟨rfl, hv⟩
    · rw [upd_ne (k := 8444 + 10 * c + a) _ _ (by omega), upd_ne (k := 8744 + 10 * c + a) _ _ (by omega)]
      by_cases q2 : i = 10 * a + c
      · rw [show 8444 + i = 8444 + 10 * a + c by omega, show 8744 + i = 8744 + 10 * a + c by omega, upd_at, upd_at]; exact ⟨rfl, hv⟩
      · rw [upd_ne _ _ (by omega), upd_ne _ _ (by omega)]; exact hx i hi
  unfold f_X9_mayMix f_X9_mix_b36 f_X10_mix_b72
  rw [barred_s, Option.bind_some, get_s (by omega), Option.bind_some, xa_s, xa_s, chk_t (inb_nI (by omega) (by omega)), nI_clamp (by omega), show 8444 + 10 * a + c = 8444 + (10 * a + c) by omega, x1, show 8744 + (10 * a + c) = 8744 + 10 * a + c by omega]
  rw [show 8744 + (10 * a + c) = 8744 + 10 * a + c by omega] at x2
  rcases x2 with x2 | x2
  · rw [x2, if_pos rfl, Option.bind_some, if_neg (by decide)]
    exact Eq1.ite (fun h => by simp only [if_pos h]; exact key 1 1 (Or.inr rfl)) (fun h => by simp only [if_neg h]; exact key 0 1 (Or.inl rfl))
  · rw [x2, if_neg (by decide), Option.bind_some, if_pos rfl]
    exact Eq1.ite (fun h => by simp only [if_pos h]; exact key 1 0 (Or.inr rfl)) (fun h => by simp only [if_neg h]; exact key 0 0 (Or.inl rfl))
theorem eq_breaks (hR : Rl n w wm) (hn : n < 513) (a1 a2 : Int32) : ∃ r w2 wm2 n2, f_X9_breaks a1 a2 w = some ((r, w2), n2) ∧ f_X10_breaks a1 a2 wm = some (r, wm2) ∧ Rl (n + 1) w2 wm2 ∧ 4096 * n2 + 2 * w.2 = 2 * w2.2 := by
  have hR1 : Rl n w (mst wm 0 0 0) := hR.thr
  unfold f_X9_breaks f_X10_breaks
  generalize mst wm 0 0 0 = m at hR1 ⊢
  show Eq1 n w _ _
  simp only [isPlace_s, misPlace_s, within_s, in_s, Option.bind_some, gd]
  refine Eq1.ite (fun h => ?_) (fun _ => Eq1.ret hR1 hn)
  refine Eq1.ite (fun h2 => ?_) (fun _ => Eq1.ret hR1 hn)
  obtain ⟨p, hp, rfl⟩ := rng (n := 59) (by omega) h
  obtain ⟨T, O, hc, hm, b1, b2, g1, g2, g3, g4, g5⟩ := id hR1
  rw [hasMachine_s g3 (by omega), isThere_s g3 (by omega), Option.bind_some, Option.bind_some, gd, gd]
  refine Eq1.ite (fun h3 => ?_) (fun _ => Eq1.fnd hR1 hn)
  have ht : w.1 1 5 = m 1 11344 := by
    obtain ⟨e, f, d, mk, -, ⟨-, -, q, -⟩, -⟩ := g1
    rw [q]; exact g3.2.2.2.2.2.2.symm
  have key : ∀ (v : Int32), Eq1 n w (f_X9_breaks_b58 (nI p) 7 v w) (f_X10_breaks_b64 (nI p) 31 v m) := by
    intro v
    unfold f_X9_breaks_b58 f_X10_breaks_b64
    refine Eq1.fin hn b2 g4 g5 ((write_k (k := 7) rfl g1 rfl (by omega) (by omega) (by omega)).bi fun _ h1 e1 _ => OkI.dn h1 e1) ((let_k (k := 31) rfl g2 rfl (by omega) (by omega) (by omega)).bi fun _ h1 e1 _ => OkMI.dn h1 e1) (by omega) (by omega) (by omega) ?_
    obtain ⟨pa, pb, pr, pc, pe⟩ := g3.1 p (by omega)
    refine g3.place (p := p) (by omega) (fun j hj => upd_ne _ _ (by omega)) (fun j hj => upd_ne _ _ (by omega)) ?_ (fun q => by rw [upd_ne _ _ (by omega)]; exact q) (fun k hk => upd_ne _ _ (by omega)) (fun k hk => upd_ne _ _ (by omega))
    rw [cv_upd, mv_upd]
    refine ⟨pa.congr (fun k hk => upd_ne _ _ (by omega)) (fun k hk => upd_ne _ _ (by omega)), pb.congr (fun k hk => upd_ne _ _ (by omega)) (fun k hk => upd_ne _ _ (by omega)), pr.congr (fun k hk => upd_ne _ _ (by omega)) (fun k hk => upd_ne _ _ (by omega)), ?_, RPe.of (by rw [upd_ne _ _ (by omega)]; exact h3)⟩
    obtain ⟨q1, q2, q3, q4, q5, q6, q7, q8, q9⟩ := pc
    exact ⟨q1, q2, q3, q4, q5, q6, q7, rfl, q9⟩
  refine Eq1.ite (fun _ => key 0) (fun _ => ?_)
  rw [chk_t (lit_in (a := 11344) (by rfl) (by omega) (by omega)), lit_cl (x := 11344) (a := 11344) (by rfl) (by omega), show f_X1_time w = some (w.1 1 5) from rfl, Option.bind_some, ht]
  exact key _
end EASY
