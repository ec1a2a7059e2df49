section N8
variable {n : Nat} {w : CW} {wm : MW} {now s : Nat → Int32} {T p : Nat}
theorem Rl.fin2 {w' : CW} {m' : MW} {O b bm C : Nat} {hc hm : Nat → Nat → Int32} (hn : n < 513) (b2 : T ≤ 60 * n) (g4 : T ≠ 0 → ∀ t, O ≤ t → t ≤ T → Rs (hc t) (hm t) t) (ha : Ax w' m' (n + 1)) (h1 : HCx w' T T O b (200 * n) hc) (h2 : HMx m' T O bm (200 * n) C hm) (hb : b ≤ 200 * (n + 1)) (hbm : bm ≤ 200 * (n + 1)) (hC : C ≤ 100000 * (n + 1)) (hs : Rs (w'.1 11) (m' 1) T) : Rl (n + 1) w' m' :=
  ⟨T, O, hc, hm, by omega, by omega, h1.mono hb (by omega), h2.mono hbm (by omega) hC, hs, g4, ha⟩
theorem FB.lv {w w' : CW} {v : Int32} (h : FB w w') : FB (lvC w p v) (lvC w' p v) := by
  refine ⟨fun q q1 q2 q3 q4 => ?_, h.2⟩
  by_cases h6 : q = 6
  · subst h6
    unfold lvC
    rw [cs_at, cs_at, h.1 6 (by decide) (by decide) (by decide) (by decide)]
  · rw [lvC_ne h6, lvC_ne h6]; exact h.1 q q1 q2 q3 q4
theorem TR.lv {m : MW} {tr : Nat} {v : Int32} (h : TR w m tr) : TR (lvC w p v) m tr := by
  obtain ⟨h1, h2, h3, h4⟩ := h
  exact ⟨h1, by rw [lvC_ne (by decide)]; exact h2, by rw [lvC_ne (by decide)]; exact h3, fun i hi => by rw [lvC_ne (by decide)]; exact h4 i hi⟩
theorem TR.vl {m : MW} {tr : Nat} {v : Int32} (h : TR (lvC w p v) m tr) : TR w m tr := by
  obtain ⟨h1, h2, h3, h4⟩ := h
  rw [lvC_ne (by decide)] at h2 h3
  exact ⟨h1, h2, h3, fun i hi => by rw [← h4 i hi, lvC_ne (by decide)]⟩
theorem Ax.fb {w w' : CW} {m m' : MW} {tr : Nat} (h : Ax w m n) (h1 : TR w' m' tr) (hb : tr ≤ (n + 1) * 1000000) (h2 : FB w w') (h3 : FAM m m') : Ax w' m' (n + 1) := by
  obtain ⟨a1, a2, a3, a4, a5, a6⟩ := h
  unfold Ax
  rw [h2.1 5 (by decide) (by decide) (by decide) (by decide), h2.1 6 (by decide) (by decide) (by decide) (by decide), h2.1 17 (by decide) (by decide) (by decide) (by decide), h2.1 0 (by decide) (by decide) (by decide) (by decide), h3.1 6 (by decide) (by decide) (by decide), h3.1 7 (by decide) (by decide) (by decide), h3.2 7 (by decide), h3.2 8 (by decide), h3.2 9 (by decide)]
  exact ⟨a1, ⟨tr, hb, h1⟩, a3, a4, a5, a6⟩
theorem HCx.fb {w w' : CW} {τ O b Z : Nat} {hist : Nat → Nat → Int32} (h : HCx w τ T O b Z hist) (h2 : FB w w') : HCx w' τ T O b Z hist :=
  h.congr h2.2 (h2.1 1 (by decide) (by decide) (by decide) (by decide)) (h2.1 11 (by decide) (by decide) (by decide) (by decide)) (h2.1 12 (by decide) (by decide) (by decide) (by decide)) (h2.1 13 (by decide) (by decide) (by decide) (by decide))
theorem HMx.fam {m m' : MW} {O b Z C : Nat} {hist : Nat → Nat → Int32} (h : HMx m T O b Z C hist) (h3 : FAM m m') : HMx m' T O b Z C hist := by
  obtain ⟨c, mk, g2⟩ := h
  exact ⟨c, mk, g2.congr (h3.2 4 (by decide)) (h3.2 6 (by decide)) (h3.1 1 (by decide) (by decide) (by decide)) (h3.1 2 (by decide) (by decide) (by decide)) (h3.1 3 (by decide) (by decide) (by decide)) (h3.1 4 (by decide) (by decide) (by decide))⟩
theorem endN_congr {f g : Nat → Int32} (h : ∀ j, (j < 78 * p + 2 ∨ (78 * p + 4 ≤ j ∧ j < 78 * p + 10) ∨ j = 78 * p + 11 ∨ 78 * p + 13 ≤ j) → f j = g j) (hp : p < 60) : endN f p = endN g p := by
  funext j
  unfold endN
  rw [h 8555 (by omega), h (78 * p + 4) (by omega)]
  by_cases e12 : j = 78 * p + 12
  · subst e12; rw [upd_at, upd_at]
  rw [upd_ne _ _ e12, upd_ne _ _ e12]
  by_cases e11 : j = 78 * p + 11
  · subst e11; rw [upd_at, upd_at]
  rw [upd_ne _ _ e11, upd_ne _ _ e11]
  by_cases e10 : j = 78 * p + 10
  · subst e10; rw [upd_at, upd_at]
  rw [upd_ne _ _ e10, upd_ne _ _ e10]
  by_cases e6 : j = 78 * p + 6
  · subst e6; rw [upd_at, upd_at]
  rw [upd_ne _ _ e6, upd_ne _ _ e6]
  by_cases e5 : j = 78 * p + 5
  · subst e5; rw [upd_at, upd_at]
  rw [upd_ne _ _ e5, upd_ne _ _ e5]
  by_cases e3 : j = 78 * p + 3
  · subst e3; rw [upd_at, upd_at]
  rw [upd_ne _ _ e3, upd_ne _ _ e3]
  by_cases e2 : j = 78 * p + 2
  · subst e2; rw [upd_at, upd_at]
  rw [upd_ne _ _ e2, upd_ne _ _ e2]
  by_cases e4 : j = 78 * p + 4
  · subst e4; rw [upd_at, upd_at]
  rw [upd_ne _ _ e4, upd_ne _ _ e4]
  by_cases e8555 : j = 8555
  · subst e8555; rw [upd_at, upd_at]
  rw [upd_ne _ _ e8555, upd_ne _ _ e8555]
  exact h j (by omega)
theorem eq_start (hR : Rl n w wm) (hn : n < 513) (a1 a2 : Int32) : ∃ r w2 wm2 n2, f_X9_start a1 a2 w = some ((r, w2), n2) ∧ f_X10_start a1 a2 wm = some (r, wm2) ∧ Rl (n + 1) w2 wm2 ∧ 4096 * n2 + 2 * w.2 = 2 * w2.2 := by
  have hR1 : Rl n w (mst wm 0 0 0) := hR.thr
  unfold f_X9_start f_X10_start
  generalize mst wm 0 0 0 = m at hR1 ⊢
  show Eq1 n w _ _
  simp only [isPlace_s, misPlace_s, isProgram_s, misProgram_s, Option.bind_some, gd]
  refine Eq1.ite (fun h => ?_) (fun _ => Eq1.ret hR1 hn)
  refine Eq1.ite (fun h2 => ?_) (fun _ => Eq1.ret hR1 hn)
  obtain ⟨p, hp, rfl⟩ := rng (n := 59) (by omega) h
  obtain ⟨g, hg, rfl⟩ := rng (n := 39) (by omega) h2
  obtain ⟨T0, O0, hc0, hm0, -, -, -, -, g30, -, -⟩ := id hR1
  rw [hasMachine_s g30 (by omega), isThere_s g30 (by omega), Option.bind_some, Option.bind_some, gd, gd]
  refine Eq1.ite (fun h3 => ?_) (fun _ => Eq1.fnd hR1 hn)
  rw [enter_s (by omega), mtouch_s (by omega), Option.bind_some, Option.bind_some, mv7 g30 (by omega)]
  obtain ⟨v, hv⟩ : ∃ v, v = 1 + w.1 11 (78 * p + 8) := ⟨_, rfl⟩
  rw [← hv]
  have hRt := hR1.touch (p := p) (v := v)
  have ew : (enC w p v).1 11 = w.1 11 := enC_ne (by decide)
  have em : (toM m p v) 1 = m 1 := toM_ne (by decide)
  obtain ⟨T, O, hc, hm, b1, b2, g1, g2, g3, g4, g5⟩ := id hRt
  have g3' : Rs (w.1 11) (m 1) T := by rw [lvC_ne (by decide), ew, em] at g3; exact g3
  have g3'' : Rs ((enC w p v).1 11) ((toM m p v) 1) T := by rw [ew, em]; exact g3'
  obtain ⟨tr, t1, -, t3⟩ := hRt.TR
  obtain ⟨j, w', m', tr', r1, r2, r3, r4, r5, r6, r7, r8⟩ := why_s t3.vl g3'' (show p < 60 by omega) (show g < 40 by omega) (by rw [em]; exact h3) (by omega)
  have ew' : w'.1 11 = w.1 11 := (r6.1 11 (by decide) (by decide) (by decide) (by decide)).trans ew
  have em' : m' 1 = m 1 := (r7.1 1 (by decide) (by decide) (by decide)).trans em
  have hax : Ax (lvC w' p v) m' (n + 1) := g5.fb r5.lv (by omega) r6.lv r7
  have hC' : HCx w' T T O (200 * n) (200 * n) hc := g1.vl.fb r6
  have hM' : HMx m' T O (200 * n) (200 * n) (100000 * n) hm := g2.fam r7
  have hw2 : w'.2 = w.2 := r6.2
  rw [r2, r3, Option.bind_some, Option.bind_some]
  show Eq1 n w (if nI j = 0 then _ else _) (if nI j ≤ 0 then _ else _)
  have hb52 : ∀ (y : CW), y.1 11 (78 * p + 8) = w.1 11 (78 * p + 8) → f_X9_leave (nI p) y = some (lvC y p v) := fun y hy => by rw [leave_s (by omega), hy, ← hv]
  by_cases hj : j = 0
  case neg =>
    rw [if_neg (show ¬ nI j = 0 from fun q => hj (nI_inj (b := 0) (by omega) (by omega) q)), if_neg (nI_nle (by omega) (by omega))]
    unfold f_X9_start_b52
    rw [hb52 w' (by rw [ew']), Option.bind_some, if_neg (show ¬ nI j = 0 from fun q => hj (nI_inj (b := 0) (by omega) (by omega) q))]
    have hRl : Rl (n + 1) (lvC w' p v) m' := Rl.fin2 hn b2 g4 hax hC'.lv hM' (by omega) (by omega) (by omega) (by rw [lvC_ne (by decide), ew', em']; exact g3')
    exact ⟨_, _, _, 0, rfl, rfl, hRl.found, by show 4096 * 0 + 2 * w.2 = 2 * w'.2; omega⟩
  subst hj
  obtain ⟨z26, z101, zp⟩ := r8 rfl
  rw [em] at z26 z101 zp
  rw [if_pos (show nI 0 = (0 : Int32) from rfl), if_pos (show nI 0 ≤ (0 : Int32) by decide)]
  rcases g3'.2.2.2.1 g (by omega) with ⟨q1, q2⟩ | ⟨q1, N, q2, q3, q4, q5⟩
  · rw [zp] at q1; exact absurd q1 (by decide)
  have hlen : f_X9_lengthOf (nI g) w' = some (nI N) := by
    unfold f_X9_lengthOf
    rw [pcell_s, Option.bind_some, get_s (by omega), Option.bind_some, ew', q4, show nI (N + 1) - (1 : Int32) = nI (N + 1 - 1) from pk_sub (a := N + 1) (b := 1) (by omega), Nat.add_sub_cancel]
  obtain ⟨vv, hvv1, hvv2, hvv3⟩ : ∃ vv : Int32, (N = 0 → vv = 0) ∧ (N ≠ 0 → ∃ k u, k ≤ 4 ∧ 1 ≤ u ∧ u ≤ 200 ∧ w.1 11 (4680 + 31 * g + 1) = nI (1000 * k + u) ∧ vv = nI u) ∧ (N ≠ 0 → m 1 (6240 + 62 * g + 32) = vv) := by
    by_cases h0 : N = 0
    · exact ⟨0, fun _ => rfl, fun q => absurd h0 q, fun q => absurd h0 q⟩
    · obtain ⟨k, u, u1, u2, u3, u4, u5, u6⟩ := q5 0 (by omega)
      exact ⟨nI u, fun q => absurd q h0, fun _ => ⟨k, u, u1, u2, u3, u6, rfl⟩, fun _ => u5⟩
  have bg0 : w'.1 11 = bgF (w.1 11) p g 0 := by rw [ew']; funext j; exact (if_neg (by omega)).symm
  have hx : OkV (f_X9_beginRun (nI p) (nI g) w') w' T T O (200 * n + N + 15) (200 * n) hc (if N = 0 then endN (bgN (w.1 11) p g N vv) p else bgN (w.1 11) p g N vv) := by
    unfold f_X9_beginRun
    rw [hlen, Option.bind_some]
    exact bgC (by omega) (by omega) q2 hvv1 hvv2 N FU 0 (200 * n) w' (by omega) (by unfold FU; omega) hC' bg0 (by omega)
  obtain ⟨sf, hsf⟩ : ∃ sf : Nat → Int32, sf = if N = 0 then endS (upd (upd (m 1) 11356 1) (104 * p + 38) (m 1 (104 * p + 38) + 1)) p else bgS (upd (upd (m 1) 11356 1) (104 * p + 38) (m 1 (104 * p + 38) + 1)) p g N vv := ⟨_, rfl⟩
  have hy : OkMI ((f_X10_w 11356 1 m').bind fun y25 => (f_X10_of (nI p) 38 y25).bind fun y26 => (f_X10_let (nI p) 38 (y26 + 1) y25).bind fun y27 => if nI N = 0 then ((f_X10_ends (nI p) y27).bind fun y29 => some ((1 : Int32), y29)) else f_X10_start_l117 FU (nI p) (nI (6240 + 62 * g)) (nI N) 0 y27) m' T O (200 * n + 80) (200 * n) (100000 * n + 80) hm 1 sf := by
    refine (wl_k (a := 11356) rfl hM' em' (by omega) (by omega) (by omega)).bi fun m2 h2 e2 _ => ?_
    rw [of_s (k := 38) (by rfl) (by omega), Option.bind_some, e2, upd_ne _ _ (by omega)]
    refine (let_k (k := 38) rfl h2 e2 (by omega) (by omega) (by omega)).bi fun m3 h3 e3 _ => ?_
    rw [hsf]
    by_cases h0 : N = 0
    · subst h0
      rw [if_pos (show nI 0 = (0 : Int32) from rfl), if_pos rfl]
      exact ((ends_k h3 e3 (by omega) (by omega) (by omega)).bi fun _ h4 e4 _ => OkMI.dn h4 e4).mono (by omega) (by omega)
    · rw [if_neg (show ¬ nI N = 0 from fun q => h0 (nI_inj (b := 0) (by omega) (by omega) q)), if_neg h0]
      have bgg0 : m3 1 = bgG (upd (upd (m 1) 11356 1) (104 * p + 38) (m 1 (104 * p + 38) + 1)) p g 0 := by
        rw [e3]; funext j; unfold bgG; rw [if_neg (by omega), if_neg (by omega)]
      have hb := bgM (s := upd (upd (m 1) 11356 1) (104 * p + 38) (m 1 (104 * p + 38) + 1)) (show p < 60 by omega) (show g < 40 by omega) q2 N FU 0 _ _ m3 (by omega) (by unfold FU; omega) h3 bgg0 (by omega) (by omega)
      rw [upd_ne (j := 6240 + 62 * g + 32) _ _ (by omega), upd_ne (j := 6240 + 62 * g + 32) _ _ (by omega), hvv3 h0] at hb
      exact hb.mono (by omega) (by omega)
  have hrs : Rs (if N = 0 then endN (bgN (w.1 11) p g N vv) p else bgN (w.1 11) p g N vv) sf T := by
    rw [hsf]
    by_cases h0 : N = 0
    · subst h0
      rw [if_pos rfl, if_pos rfl]
      have k1 := RZ_on g3'
      have k2 := book_rs (i := 6) k1 (show p < 60 by omega) (by rw [upd_ne _ _ (by omega)]; exact h3) (by omega) (w.1 11 (78 * p + 33) + 1)
      have k3 := end_rs k2 (show p < 60 by omega) (by rw [upd_ne _ _ (by omega), upd_ne _ _ (by omega)]; exact h3) (by rw [upd_ne _ _ (by omega), upd_ne _ _ (by omega)]; exact z101)
      have x1 : endN (bgN (w.1 11) p g 0 vv) p = endN (upd (upd (w.1 11) 8551 1) (78 * p + (27 + 6)) (w.1 11 (78 * p + 33) + 1)) p := by
        have e4 : ∀ j, (j < 78 * p + 2 ∨ (78 * p + 4 ≤ j ∧ j < 78 * p + 10) ∨ j = 78 * p + 11 ∨ 78 * p + 13 ≤ j) → bgN (w.1 11) p g 0 vv j = upd (upd (w.1 11) 8551 1) (78 * p + (27 + 6)) (w.1 11 (78 * p + 33) + 1) j := by
          intro j hj
          unfold bgN bgA
          by_cases h51 : j = 8551
          · subst h51
            rw [upd_at, upd_ne _ _ (by omega), upd_at]
          · rw [upd_ne _ _ h51]
            by_cases h33 : j = 78 * p + 33
            · subst h33
              rw [upd_at, upd_at, upd_ne _ _ (by omega), upd_ne _ _ (by omega), upd_ne _ _ (by omega), upd_ne _ _ (by omega)]
              unfold bgF
              rw [if_neg (by omega)]
            · rw [upd_ne _ _ h33, upd_ne _ _ (by omega), upd_ne _ _ (by omega), upd_ne _ _ (by omega), upd_ne _ _ (by omega), upd_ne _ _ (by omega), upd_ne _ _ h51]
              unfold bgF
              rw [if_neg (by omega)]
        exact endN_congr e4 (by omega)
      rw [x1]
      rw [show m 1 (104 * p + 38) + 1 = w.1 11 (78 * p + 33) + 1 by rw [show w.1 11 (78 * p + 33) = m 1 (104 * p + 38) from (g3'.1 p (by omega)).2.1.1 6 (by omega)]]
      exact k3
    · rw [if_neg h0, if_neg h0]
      obtain ⟨k, u, u1, u2, u3, u4, u5⟩ := hvv2 h0
      rw [u5]
      exact bg_rsN g3' (by omega) (by omega) h3 z26 z101 (by omega) q2 u2 u3 (by rw [hvv3 h0, u5]) q5
  obtain ⟨w2, k2, e1, f1, f2, f3, f4⟩ := hx
  obtain ⟨m2, e2, p1, p2, p3⟩ := hy
  have e8 : w2.1 11 (78 * p + 8) = w.1 11 (78 * p + 8) := by
    rw [f2]
    by_cases h0 : N = 0
    · rw [if_pos h0, endN_ne (by omega)]
      unfold bgN bgA bgF
      rw [upd_ne _ _ (by omega), upd_ne _ _ (by omega), upd_ne _ _ (by omega), upd_ne _ _ (by omega), upd_ne _ _ (by omega), upd_ne _ _ (by omega), if_neg (by omega)]
    · rw [if_neg h0]
      unfold bgN bgA bgF
      rw [upd_ne _ _ (by omega), upd_ne _ _ (by omega), upd_ne _ _ (by omega), upd_ne _ _ (by omega), upd_ne _ _ (by omega), upd_ne _ _ (by omega), if_neg (by omega)]
  refine ⟨1, lvC w2 p v, m2, k2 + 0, bnc_of e1 ?_, ?_, Rl.fin2 hn b2 g4 (hax.fr f3.lv p3) f1.lv p1 (by omega) (by omega) (by omega) (by rw [lvC_ne (by decide), f2, p2]; exact hrs), by show 4096 * (k2 + 0) + 2 * w.2 = 2 * w2.2; omega⟩
  · unfold f_X9_start_b52
    rw [hb52 w2 e8, Option.bind_some, if_pos (show nI 0 = (0 : Int32) from rfl)]
  · dsimp only
    rw [pa_s, show nI (6240 + 62 * g) + (1 : Int32) = nI (6240 + 62 * g + 1) from nI_add _ _, chk_t (inb_nI (by omega) (by omega)), nI_clamp (by omega)]
    have hq : m' 1 (6240 + 62 * g + 1) = nI N := by rw [em']; exact q3
    simp only [hq]
    exact e2
end N8
