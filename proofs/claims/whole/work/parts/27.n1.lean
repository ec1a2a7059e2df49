section N1
variable {n : Nat} {w : CW} {wm : MW} {now s : Nat → Int32} {T p : Nat}
theorem neg_ne {q : Nat} {x : Int32} (hx : x.toInt < 0) (hq : q < 2 ^ 31) : x ≠ nI q := by
  intro h
  rw [h, nI_toInt hq] at hx
  omega
theorem fl_and (a b : Bool) : fl a &&& fl b = fl (a && b) := by cases a <;> cases b <;> decide
/-- a load is moved -/
theorem move_rs {now' s' : Nat → Int32} {N l : Nat} {v : Int32} {Ls' : List Nat} (h : Rs now s T) (hp : p < 60) (hN : N ≤ 500) (eN : s 11345 = nI N) (hl : l < N) (h0 : s (104 * p) ≠ 0)
    (hv : v = -2 ∨ v = nI p) (hold : ∀ q, q < 60 → q ≠ p → whr s l ≠ nI q)
    (c1 : ∀ j, j ≠ 5920 + 5 * l + 3 → j ≠ 78 * p + 9 → (j < 78 * p + 19 ∨ 78 * p + 27 ≤ j) → now' j = now j) (c2 : now' (5920 + 5 * l + 3) = v)
    (m1 : ∀ j, j ≠ 8844 + 5 * l + 3 → s' j = s j) (m2 : s' (8844 + 5 * l + 3) = v)
    (L1 : Ls'.length ≤ 8) (L2 : now' (78 * p + 9) = nI Ls'.length) (L3 : ∀ i x, Ls'[i]? = some x → now' (78 * p + (19 + i)) = nI x) (L4 : Ls'.Perm (inP s' N p)) : Rs now' s' T := by
  obtain ⟨a1, a2, a3, a4, a5, a6, a7⟩ := id h
  obtain ⟨N', l1, l2, l3, l4, l5, l6⟩ := a2
  have : N = N' := nI_inj (by omega) (by omega) (eN.symm.trans l3)
  subst this
  have hw : ∀ x, x ≠ l → whr s' x = whr s x := fun x hx => m1 (8844 + 5 * x + 3) (by omega)
  have hwl : whr s' l = v := m2
  refine ⟨fun q hq => ?_, ⟨N, l1, (c1 _ (by omega) (by omega) (by omega)).trans l2, (m1 _ (by omega)).trans l3, fun x hx k hk => ?_, fun x hx => ?_, fun q hq => ?_⟩, a3.congr (fun j h1 h2 => c1 _ (by omega) (by omega) (by omega)) (fun j h1 h2 => m1 _ (by omega)) (fun q hq k hk => m1 _ (by omega)), a4.congr (fun j h1 h2 => c1 _ (by omega) (by omega) (by omega)) (fun j h1 h2 => m1 _ (by omega)), a5.congr (fun j h1 h2 => c1 _ (by omega) (by omega) (by omega)) (fun j h1 h2 => m1 _ (by omega)), a6.congr (fun j h1 h2 _ => c1 _ (by omega) (by omega) (by omega)) (fun j h1 h2 => m1 _ (by omega)), (m1 _ (by omega)).trans a7⟩
  · by_cases hqp : q = p
    · subst hqp
      obtain ⟨pa, pb, pr, pc, pe⟩ := a1 q hq
      exact ⟨pa.congr (fun k hk => c1 (78 * q + k) (by omega) (by omega) (by omega)) (fun k hk => m1 (104 * q + k) (by omega)), pb.congr (fun k hk => c1 (78 * q + k) (by omega) (by omega) (by omega)) (fun k hk => m1 (104 * q + k) (by omega)), pr.congr (fun k hk => c1 (78 * q + k) (by omega) (by omega) (by omega)) (fun k hk => m1 (104 * q + k) (by omega)), pc.congr (fun k hk => c1 (78 * q + k) (by omega) (by omega) (by omega)) (fun k hk => m1 (104 * q + k) (by omega)), RPe.of (fun z => h0 ((m1 (104 * q) (by omega)).symm.trans z))⟩
    · exact (a1 q hq).congr (fun k hk => c1 (78 * q + k) (by omega) (by omega) (by omega)) (fun k hk => m1 (104 * q + k) (by omega))
  · by_cases e : x = l ∧ k = 3
    · obtain ⟨rfl, rfl⟩ := e
      rw [c2, m2]
    · rw [c1 _ (by omega) (by omega) (by omega), m1 _ (by omega)]; exact l4 x hx k hk
  · rw [m1 (8844 + 5 * x + 1) (by omega), m1 (8844 + 5 * x + 2) (by omega)]
    obtain ⟨y1, y2⟩ := l5 x hx
    refine ⟨?_, y2⟩
    by_cases e : x = l
    · rw [e, hwl]
      rcases hv with hv | hv
      · exact Or.inr (Or.inl hv)
      · exact Or.inr (Or.inr ⟨p, hp, hv, by rw [m1 _ (by omega)]; exact h0⟩)
    · rw [hw x e]
      rcases y1 with y1 | y1 | ⟨q, v1, v2, v3⟩
      · exact Or.inl y1
      · exact Or.inr (Or.inl y1)
      · exact Or.inr (Or.inr ⟨q, v1, v2, by rw [m1 _ (by omega)]; exact v3⟩)
  · by_cases hqp : q = p
    · subst hqp
      exact ⟨Ls', L1, L2, L3, L4⟩
    · obtain ⟨Ls, v1, v2, v3, v4⟩ := l6 q hq
      refine ⟨Ls, v1, by rw [c1 _ (by omega) (by omega) (by omega)]; exact v2, fun i x hx => ?_, ?_⟩
      · have hi : i < Ls.length := (List.getElem?_eq_some_iff.mp hx).1
        rw [c1 _ (by omega) (by omega) (by omega)]; exact v3 i x hx
      · have : inP s' N q = inP s N q := by
          unfold inP
          apply List.filter_congr
          intro x hx
          by_cases e : x = l
          · rw [e, hwl, decide_eq_false (hold q hq hqp), decide_eq_false]
            rcases hv with hv | hv
            · rw [hv]; exact neg_ne (by decide) (by omega)
            · rw [hv]; exact fun z => hqp (nI_inj (by omega) (by omega) z).symm
          · rw [hw x e]
        rw [this]; exact v4
theorem putM {m : MW} {N l c : Nat} {u : Int32} (h : Rs (w.1 11) (m 1) T) (hN : N ≤ 500) (eN : m 1 11345 = nI N) (hc10 : c < 10) : f_X10_put_l157 FU (nI p) (nI l) u (nI c) 1 0 m = f_X10_put_l157_body (f_X10_put_l157 0) (nI p) (nI l) (u + lsum (fun l => m 1 (8844 + 5 * l + 1)) (inP (m 1) N p)) (nI c) (fl ((inP (m 1) N p).all (okM (m 1) c))) (nI N) m := by
  obtain ⟨N', l1, l2, l3, l4, l5, l6⟩ := h.2.1
  have : N = N' := nI_inj (by omega) (by omega) (eN.symm.trans l3)
  subst this
  have i45 : inb (11345 : Int32) 11360 := lit_in (a := 11345) rfl (by omega) (by omega)
  have c45 : (11345 : Int32).toNatClampNeg = 11345 := lit_cl (a := 11345) rfl (by omega)
  have := loop_FU (L := fun n i => f_X10_put_l157 n (nI p) (nI l) (u + lsum (fun l => m 1 (8844 + 5 * l + 1)) (inP (m 1) i p)) (nI c) (fl ((inP (m 1) i p).all (okM (m 1) c))) (nI i) m) (N := N) (res := f_X10_put_l157_body (f_X10_put_l157 0) (nI p) (nI l) (u + lsum (fun l => m 1 (8844 + 5 * l + 1)) (inP (m 1) N p)) (nI c) (fl ((inP (m 1) N p).all (okM (m 1) c))) (nI N) m) (by omega) (fun n i hi => ?_) (fun n => ?_)
  · refine Eq.trans ?_ this
    show _ = f_X10_put_l157 FU (nI p) (nI l) (u + 0) (nI c) 1 0 m
    rw [Int32.add_zero]
  · show f_X10_put_l157_body (f_X10_put_l157 n) (nI p) (nI l) _ (nI c) _ (nI i) m = f_X10_put_l157 n (nI p) (nI l) (u + lsum _ (inP (m 1) (i + 1) p)) (nI c) (fl ((inP (m 1) (i + 1) p).all _)) (nI (i + 1)) m
    unfold f_X10_put_l157_body f_X10_put_b247 f_X10_put_b250
    obtain ⟨-, -, x2, hx2, ex2⟩ := l5 i hi
    rw [chk_t i45, c45, l3, if_neg (nI_ge hi (by omega)), la3_s, lb_s, show nI (8844 + 5 * i) + (1 : Int32) = nI (8844 + 5 * i + 1) from nI_add _ _, show nI (8844 + 5 * i) + (2 : Int32) = nI (8844 + 5 * i + 2) from nI_add _ _, chk_t (inb_nI (by omega) (by omega)), chk_t (inb_nI (by omega) (by omega)), Option.bind_some, chk_t (inb_nI (by omega) (by omega)), nI_clamp (by omega), nI_clamp (by omega), nI_clamp (by omega), ex2, xa_s, chk_t (inb_nI (by omega) (by omega)), nI_clamp (by omega), nI_1, inP_snoc]
    show (if whr (m 1) i = nI p then _ else _) = _
    by_cases hw : whr (m 1) i = nI p
    · rw [if_pos hw, if_pos hw, lsum_append, List.all_append, ← fl_and, ← Int32.add_assoc]
      show _ = f_X10_put_l157 n (nI p) (nI l) (u + lsum _ (inP (m 1) i p) + (m 1 (8844 + 5 * i + 1) + 0)) (nI c) (fl _ &&& fl (okM (m 1) c i && true)) (nI (i + 1)) m
      rw [Int32.add_zero, Bool.and_true]
      unfold okM
      rw [ex2, nI_clamp (by omega)]
      by_cases hz : m 1 (8744 + 10 * c + x2) = 0
      · rw [if_pos hz, decide_eq_true hz]; rfl
      · rw [if_neg hz, decide_eq_false hz]; rfl
    · rw [if_neg hw, if_neg hw, List.append_nil]
  · show f_X10_put_l157_body (f_X10_put_l157 n) (nI p) (nI l) _ (nI c) _ (nI N) m = _
    unfold f_X10_put_l157_body
    rw [chk_t i45, chk_t i45, c45, l3, if_pos (nI_le (Nat.le_refl _) (by omega)), if_pos (nI_le (Nat.le_refl _) (by omega))]
theorem isBusy_s {m : MW} (h : Rs (w.1 11) (m 1) T) (hp : p < 60) : f_X9_isBusy (nI p) w = some (if m 1 (104 * p + 26) = 1 ∨ m 1 (104 * p + 101) = 1 then 1 else 0) := by
  unfold f_X9_isBusy
  obtain ⟨hr1, hr2⟩ := hasRun_s h hp
  obtain ⟨-, q2, -, -, -, -, -, -, q9⟩ := (h.1 p hp).2.2.2.1
  rw [hr1, Option.bind_some, gd, read_k (k := 3) (by rfl) hp (by omega), Option.bind_some, show w.1 11 (78 * p + 3) = m 1 (104 * p + 4) from q2]
  by_cases hr : m 1 (104 * p + 26) = 1
  · rw [if_pos hr, if_pos (Or.inl hr)]
  · rw [if_neg hr]
    rcases q9 with ⟨z1, z2⟩ | ⟨z1, z2⟩
    · rw [if_pos (show m 1 (104 * p + 4) = 4 from z2), if_pos (show m 1 (104 * p + 26) = 1 ∨ m 1 (104 * p + 101) = 1 from Or.inr z1)]
    · rw [if_neg (show ¬ m 1 (104 * p + 4) = 4 from z2), if_neg]
      rintro (q | q)
      · exact hr q
      · rw [show m 1 (104 * p + 101) = 0 from z1] at q; exact absurd q (by decide)
theorem eq_put (hR : Rl n w wm) (hn : n < 513) (a1 a2 : Int32) : ∃ r w2 wm2 n2, f_X9_put a1 a2 w = some ((r, w2), n2) ∧ f_X10_put a1 a2 wm = some (r, wm2) ∧ Rl (n + 1) w2 wm2 ∧ 4096 * n2 + 2 * w.2 = 2 * w2.2 := by
  have hR1 : Rl n w (mst wm 0 0 0) := hR.thr
  unfold f_X9_put f_X10_put
  generalize mst wm 0 0 0 = m at hR1 ⊢
  show Eq1 n w _ _
  obtain ⟨T0, O0, hc0, hm0, -, -, -, -, g30, -, -⟩ := id hR1
  obtain ⟨N, l1, l2, l3, l4, l5, l6⟩ := g30.2.1
  rw [isLoad_s a2 l2, misLoad_s a2 l3]
  simp only [isPlace_s, misPlace_s, Option.bind_some, gd]
  refine Eq1.ite (fun h => ?_) (fun _ => Eq1.ret hR1 hn)
  refine Eq1.ite (fun h2 => ?_) (fun _ => Eq1.ret hR1 hn)
  obtain ⟨p, hp, rfl⟩ := rng (n := 59) (by omega) h
  obtain ⟨l, hl, rfl⟩ := rngL (by omega) h2
  rw [hasMachine_s g30 (by omega), isThere_s g30 (by omega), Option.bind_some, Option.bind_some, gd, gd]
  refine Eq1.ite (fun h3 => ?_) (fun _ => Eq1.fnd hR1 hn)
  rw [enter_s (by omega), mtouch_s (by omega), Option.bind_some, Option.bind_some, mv7 g30 (by omega)]
  obtain ⟨v, hv⟩ : ∃ v, v = 1 + w.1 11 (78 * p + 8) := ⟨_, rfl⟩
  rw [← hv]
  have hRt := hR1.touch (p := p) (v := v)
  have ew : (enC w p v).1 11 = w.1 11 := enC_ne (by decide)
  have em : (toM m p v) 1 = m 1 := toM_ne (by decide)
  obtain ⟨T, O, hc, hm, b1, b2, g1, g2, g3, g4, g5⟩ := id hRt
  have g3' : Rs (w.1 11) (m 1) T := by rw [lvC_ne (by decide), ew, em] at g3; exact g3
  have g3'' : Rs ((enC w p v).1 11) ((toM m p v) 1) T := by rw [ew, em]; exact g3'
  refine Eq1E.out (by omega) hv ?_
  unfold f_X9_putInside
  have hw3 : w.1 11 (5920 + 5 * l + 3) = m 1 (8844 + 5 * l + 3) := l4 l (by omega) 3 (by omega)
  rw [lcell_s (k := 3) (by rfl), Option.bind_some, get_s (by omega), Option.bind_some, ew, hw3, la3_s, chk_t (inb_nI (by omega) (by omega)), nI_clamp (by omega), em]
  refine Eq1E.ite (fun hw => ?_) (fun _ => Eq1E.fnd hRt hn)
  obtain ⟨k, hk, ek⟩ := kind_ex g3' (show p < 60 by omega) h3
  have ek' : (toM m p v) 1 (104 * p) = nI (k + 1) := by rw [em]; exact ek
  have hb := isBusy_s g3'' (show p < 60 by omega)
  rw [hb, Option.bind_some, gd, em, of_s (k := 26) (by rfl) (by omega), Option.bind_some, of_s (k := 101) (by rfl) (by omega), Option.bind_some, em]
  unfold f_X10_put_b87
  by_cases h26 : m 1 (104 * p + 26) = 1
  · rw [if_pos (Or.inl h26), if_pos h26]; exact Eq1E.fnd hRt hn
  by_cases h101 : m 1 (104 * p + 101) = 1
  · rw [if_pos (Or.inr h101), if_neg h26, if_pos h101]; exact Eq1E.fnd hRt hn
  rw [if_neg (by rintro (q | q); exact h26 q; exact h101 q), if_neg h26, if_neg h101, isBank_s g3'' (by omega) hk ek', Option.bind_some, gd, kindOf_s (by omega) hk ek', Option.bind_some, read_k (k := 8) (by rfl) (by omega) (by omega), Option.bind_some, of_s (k := 7) (by rfl) (by omega), Option.bind_some, ew, em, mv7 g3' (show p < 60 by omega)]
  obtain ⟨-, ⟨u, hu, eu⟩, ⟨c, hc9, ec⟩⟩ := l5 l hl
  obtain ⟨Ls, y1, y2, y3, y4, y5, y6⟩ := lst_ex g3'.2.1 (show p < 60 by omega) l1 l3
  have key : Eq1E n p v (enC w p v) (f_X9_putInside_b62 (nI p) (nI l) (enC w p v)) (f_X10_put_b120 (nI p) (nI l) (toM m p v)) := by
    unfold f_X9_putInside_b62 f_X10_put_b120
    have hwt := weight_s (w := enC w p v) (show p < 60 by omega) l1 y1 (by rw [ew]; exact y2) (by rw [ew]; exact y3) (fun x hx => (y6 x hx).1)
    have hmx := mixes_s (w := enC w p v) (c := c) g3'' (show p < 60 by omega) (by omega) l1 y1 (by rw [ew]; exact y2) (by rw [ew]; exact y3) (fun x hx => (y6 x hx).1) (by rw [em]; exact l3)
    have hlw : lsum (fun l => (enC w p v).1 11 (5920 + 5 * l + 1)) Ls = lsum (fun l => m 1 (8844 + 5 * l + 1)) (inP (m 1) N p) := by
      rw [← lsum_perm _ y4, ew]
      have : ∀ (L : List Nat), (∀ x, x ∈ L → x < N) → lsum (fun l => w.1 11 (5920 + 5 * l + 1)) L = lsum (fun l => m 1 (8844 + 5 * l + 1)) L := by
        intro L
        induction L with
        | nil => intro _; rfl
        | cons a L ih =>
          intro hL
          show w.1 11 (5920 + 5 * a + 1) + _ = m 1 (8844 + 5 * a + 1) + _
          rw [ih (fun x hx => hL x (List.mem_cons_of_mem _ hx)), l4 a (by have := hL a List.mem_cons_self; omega) 1 (by omega)]
      exact this Ls (fun x hx => (y6 x hx).1)
    rw [em, y4.all_eq] at hmx
    rw [hlw] at hwt
    have hw1 : w.1 11 (5920 + 5 * l + 1) = nI u := (l4 l (by omega) 1 (by omega)).trans eu
    have hw2 : w.1 11 (5920 + 5 * l + 2) = nI c := (l4 l (by omega) 2 (by omega)).trans ec
    have hrm := roomOf_s g3'' (show p < 60 by omega)
    have hmrm := mroomOf_s g3'' (show p < 60 by omega) (by rw [em]; exact h3)
    rw [em] at hrm hmrm
    rw [hwt, hrm, lcell_s (k := 1) (by rfl), lcell_s (k := 2) (by rfl), Option.bind_some, Option.bind_some, Option.bind_some, get_s (by omega), get_s (by omega), Option.bind_some, Option.bind_some, Option.bind_some, ew, hw1, hw2, hmx, Option.bind_some, lb_s, show nI (8844 + 5 * l) + (1 : Int32) = nI (8844 + 5 * l + 1) from nI_add _ _, show nI (8844 + 5 * l) + (2 : Int32) = nI (8844 + 5 * l + 2) from nI_add _ _, chk_t (inb_nI (by omega) (by omega)), Option.bind_some, chk_t (inb_nI (by omega) (by omega)), Option.bind_some, nI_clamp (by omega), nI_clamp (by omega), em, eu, ec, putM (w := enC w p v) g3'' l1 (by rw [em]; exact l3) (by omega)]
    unfold f_X10_put_l157_body
    rw [em, chk_t (lit_in (a := 11345) (by rfl) (by omega) (by omega)), lit_cl (x := 11345) (a := 11345) (by rfl) (by omega), l3, if_pos (nI_le (Nat.le_refl _) (by omega)), hmrm, Option.bind_some, Int32.add_comm (nI u)]
    refine Eq1E.ite (fun hroom => ?_) (fun _ => Eq1E.fnd hRt hn)
    refine Eq1E.ite (fun _ => Eq1E.fnd hRt hn) (fun hmix => ?_)
    rw [read_k (k := 9) (by rfl) (by omega) (by omega), Option.bind_some, ew, y2, loadsIn_s l1 (by rw [em]; exact l3), Option.bind_some, em, ← y4.length_eq]
    by_cases h8 : Ls.length = 8
    · rw [h8, if_neg (by decide), if_pos (by decide)]; exact Eq1E.ret hRt hn
    · rw [if_pos (show nI Ls.length < (8 : Int32) from nI_lt (a := Ls.length) (b := 8) (by omega) (by omega)), if_neg (show ¬ nI Ls.length = (8 : Int32) from fun q => h8 (nI_inj (b := 8) (by omega) (by omega) q)), nI_1, la3_s, lcell_s (k := 3) (by rfl)]
      simp only [Option.bind_some]
      refine Eq1E.fin hn b2 g4 g5 ((write_k (k := 19 + Ls.length) (nI_add 19 _) g1.vl ew (by omega) (by omega) (by omega)).bi fun _ h1 e1 _ => (write_k (k := 9) rfl h1 e1 (by omega) (by omega) (by omega)).bi fun _ h1 e1 _ => (set_k h1 e1 (by omega) (by omega)).bi fun _ h1 e1 _ => OkI.dn h1 e1) ((w_k g2 em (by omega) (by omega) (by omega)).bi fun _ h1 e1 _ => OkMI.dn h1 e1) (by omega) (by omega) (by omega) ?_ (by rw [upd_ne _ _ (by omega), upd_ne _ _ (by omega), upd_ne _ _ (by omega), ew])
      have hwl : whr (m 1) l = -1 := hw
      refine move_rs (p := p) (N := N) (l := l) (v := nI p) (Ls' := Ls ++ [l]) g3' (by omega) l1 l3 hl h3 (Or.inr rfl) (fun q hq _ => by rw [hwl]; exact neg_ne (by decide) (by omega)) (fun j h1 h2 h3 => by rw [upd_ne _ _ h1, upd_ne _ _ h2, upd_ne _ _ (by omega)]) (upd_at _ _ _) (fun j h1 => upd_ne _ _ h1) (upd_at _ _ _) (by rw [List.length_append]; show Ls.length + 1 ≤ 8; omega) ?_ (fun i x hx => ?_) ?_
      · rw [upd_ne _ _ (by omega), upd_at, List.length_append]; rfl
      · have hi : i < (Ls ++ [l]).length := (List.getElem?_eq_some_iff.mp hx).1
        rw [List.length_append] at hi
        have hi' : i < Ls.length + 1 := hi
        rw [upd_ne (k := 5920 + 5 * l + 3) _ _ (by omega), upd_ne (k := 78 * p + 9) _ _ (by omega)]
        by_cases e : i = Ls.length
        · subst e
          rw [List.getElem?_append_right (Nat.le_refl _), Nat.sub_self] at hx
          have : l = x := Option.some.inj hx
          rw [upd_at, this]
        · rw [List.getElem?_append_left (by omega)] at hx
          rw [upd_ne _ _ (by omega), y3 i (by omega)]
          rw [List.getElem?_eq_getElem (by omega)] at hx
          rw [Option.some.inj hx]
      · have hnl : l ∉ Ls := fun q => by
          have := (y6 l q).2
          rw [hwl] at this
          exact neg_ne (by decide) (by omega) this
        refine (List.perm_ext_iff_of_nodup ?_ (inP_nodup _ _ _)).mpr (fun x => ?_)
        · exact (List.perm_append_comm (l₁ := [l]) (l₂ := Ls)).nodup (List.nodup_cons.mpr ⟨hnl, y5⟩)
        · rw [mem_inP, List.mem_append, List.mem_singleton]
          by_cases e : x = l
          · subst e
            exact ⟨fun _ => ⟨hl, upd_at _ _ _⟩, fun _ => Or.inr rfl⟩
          · have : whr (upd (m 1) (8844 + 5 * l + 3) (nI p)) x = whr (m 1) x := upd_ne _ _ (by omega)
            rw [this]
            constructor
            · rintro (q | q)
              · exact y6 x q
              · exact absurd q e
            · intro q
              exact Or.inl (y4.mem_iff.mpr (mem_inP.mpr q))
  by_cases hk4 : k = 4
  · subst hk4
    rw [if_pos rfl, if_pos (show nI 4 = (4 : Int32) from rfl)]
    exact Eq1E.ite (fun _ => Eq1E.fnd hRt hn) (fun _ => key)
  · rw [if_neg hk4, if_neg (show ¬ nI k = (4 : Int32) from fun q => hk4 (nI_inj (b := 4) (by omega) (by omega) q))]
    exact key
end N1
