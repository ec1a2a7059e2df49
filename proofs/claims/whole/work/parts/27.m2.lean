section M2
variable {n : Nat} {w : CW} {wm : MW}
def enC (w : CW) (p : Nat) (v : Int32) : CW := cs w 5 p (w.1 5 p + v)
def lvC (w : CW) (p : Nat) (v : Int32) : CW := cs w 6 p (w.1 6 p + v)
def toM (m : MW) (p : Nat) (v : Int32) : MW := mst m 6 p (m 6 p + v)
theorem enter_s {p : Nat} (hp : p < 60) : f_X9_enter (nI p) w = some (enC w p (1 + w.1 11 (78 * p + 8))) := by
  unfold f_X9_enter
  rw [isPlace_s, Option.bind_some, gd, if_pos ⟨nI_pos' (by omega), show nI p ≤ nI 59 from nI_le (by omega) (by omega)⟩, chk_t (inb_nI hp (by omega)), read_k (k := 8) (by rfl) hp (by omega), Option.bind_some, chk_t (inb_nI hp (by omega)), nI_clamp (by omega)]
  rfl
theorem leave_s {p : Nat} (hp : p < 60) : f_X9_leave (nI p) w = some (lvC w p (1 + w.1 11 (78 * p + 8))) := by
  unfold f_X9_leave
  rw [isPlace_s, Option.bind_some, gd, if_pos ⟨nI_pos' (by omega), show nI p ≤ nI 59 from nI_le (by omega) (by omega)⟩, chk_t (inb_nI hp (by omega)), read_k (k := 8) (by rfl) hp (by omega), Option.bind_some, chk_t (inb_nI hp (by omega)), nI_clamp (by omega)]
  rfl
theorem mtouch_s {m : MW} {p : Nat} (hp : p < 60) : f_X10_touch (nI p) m = some (toM m p (1 + m 1 (104 * p + 7))) := by
  unfold f_X10_touch
  rw [chk_t (inb_nI hp (by omega)), of_s (k := 7) (by rfl) (by omega), Option.bind_some, chk_t (inb_nI hp (by omega)), nI_clamp (by omega)]
  rfl
theorem enC_ne {p q : Nat} {v : Int32} (h : q ≠ 5) : (enC w p v).1 q = w.1 q := cs_ne _ _ _ h
theorem lvC_ne {p q : Nat} {v : Int32} (h : q ≠ 6) : (lvC w p v).1 q = w.1 q := cs_ne _ _ _ h
theorem toM_ne {m : MW} {p q : Nat} {v : Int32} (h : q ≠ 6) : (toM m p v) q = m q := mst_ne _ _ _ h
theorem Rl.touch {m : MW} {p : Nat} {v : Int32} (h : Rl n w m) : Rl n (lvC (enC w p v) p v) (toM m p v) := by
  obtain ⟨T, O, hc, hm, b1, b2, g1, ⟨c, mk, g2⟩, g3, g4, ⟨a1, a2⟩⟩ := h
  have e : ∀ q, q ≠ 5 → q ≠ 6 → (lvC (enC w p v) p v).1 q = w.1 q := fun q h5 h6 => (lvC_ne h6).trans (enC_ne h5)
  refine ⟨T, O, hc, hm, b1, b2, g1.congr rfl (e 1 (by decide) (by decide)) (e 11 (by decide) (by decide)) (e 12 (by decide) (by decide)) (e 13 (by decide) (by decide)), ⟨c, mk, g2.congr (congrFun (toM_ne (by decide)) 4) (congrFun (toM_ne (by decide)) 6) (toM_ne (by decide)) (toM_ne (by decide)) (toM_ne (by decide)) (toM_ne (by decide))⟩, ?_, g4, ?_⟩
  · rw [e 11 (by decide) (by decide), toM_ne (by decide)]; exact g3
  · unfold Ax
    rw [e 3 (by decide) (by decide), e 19 (by decide) (by decide), e 17 (by decide) (by decide), e 0 (by decide) (by decide), toM_ne (q := 0) (by decide), toM_ne (q := 5) (by decide), toM_ne (q := 7) (by decide)]
    refine ⟨fun q hq => ?_, a2⟩
    obtain ⟨c1, c2⟩ := a1 q hq
    have h5 : (lvC (enC w p v) p v).1 5 = upd (w.1 5) p (w.1 5 p + v) := (lvC_ne (by decide)).trans (cs_at _ _ _ _)
    have h6 : (lvC (enC w p v) p v).1 6 = upd (w.1 6) p (w.1 6 p + v) := by
      unfold lvC; rw [cs_at, enC_ne (by decide)]
    have hm6 : (toM m p v) 6 = upd (m 6) p (m 6 p + v) := mst_at _ _ _ _
    rw [h5, h6, hm6]
    by_cases hqp : q = p
    · subst hqp
      rw [upd_at, upd_at, upd_at, c1, c2]; exact ⟨rfl, rfl⟩
    · rw [upd_ne _ _ hqp, upd_ne _ _ hqp, upd_ne _ _ hqp]; exact ⟨c1, c2⟩
theorem Fr.lv {w w' : CW} {p : Nat} {v : Int32} (h : Fr w w') : Fr (lvC w p v) (lvC w' p v) := by
  intro q h1 h2 h3 h4
  by_cases h6 : q = 6
  · subst h6
    unfold lvC
    rw [cs_at, cs_at, h 6 (by decide) (by decide) (by decide) (by decide)]
  · rw [lvC_ne h6, lvC_ne h6]; exact h q h1 h2 h3 h4
theorem HCx.lv {w : CW} {p : Nat} {v : Int32} {τ T O b Z : Nat} {hist : Nat → Nat → Int32} (h : HCx w τ T O b Z hist) : HCx (lvC w p v) τ T O b Z hist := h.cs (by decide) (by decide) (by decide) (by decide)
theorem HCx.vl {w : CW} {p : Nat} {v : Int32} {τ T O b Z : Nat} {hist : Nat → Nat → Int32} (h : HCx (lvC w p v) τ T O b Z hist) : HCx w τ T O b Z hist :=
  h.congr rfl (lvC_ne (by decide)).symm (lvC_ne (by decide)).symm (lvC_ne (by decide)).symm (lvC_ne (by decide)).symm
/-- between entering and leaving -/
def Eq1E (n p : Nat) (v : Int32) (w : CW) (x : Option ((Int32 × CW) × Nat)) (y : Option (Int32 × MW)) : Prop := ∃ r w2 wm2 n2, x = some ((r, w2), n2) ∧ y = some (r, wm2) ∧ Rl (n + 1) (lvC w2 p v) wm2 ∧ w2.1 11 (78 * p + 8) = w.1 11 (78 * p + 8) ∧ 4096 * n2 + 2 * w.2 = 2 * w2.2
theorem Eq1E.ret {m : MW} {p : Nat} {v r : Int32} (h : Rl n (lvC w p v) m) (hn : n < 513) : Eq1E n p v w (some ((r, w), 0)) (some (r, m)) := ⟨r, w, m, 0, rfl, rfl, Rl_next h hn, rfl, by omega⟩
theorem Eq1E.fnd {m : MW} {p : Nat} {v k : Int32} (h : Rl n (lvC w p v) m) (hn : n < 513) : Eq1E n p v w ((f_X9_found k w).bind fun y => some ((y.1, y.2), 0)) ((f_X10_found k m).bind fun y => some (y.1, y.2)) := by
  refine ⟨_, _, _, 0, rfl, rfl, ?_, ?_, by show 4096 * 0 + 2 * w.2 = 2 * w.2; omega⟩
  · have h1 := Rl_next (h.found (k := k)) hn
    have e : lvC (fwC w k) p v = fwC (lvC w p v) k := by
      unfold lvC fwC
      refine Prod.ext (funext fun q => ?_) rfl
      by_cases h0 : q = 0
      · subst h0
        rw [cs_ne _ _ _ (by decide), cs_at, cs_at, cs_at, cs_at, cs_ne _ _ _ (by decide)]
      · by_cases h6 : q = 6
        · subst h6
          rw [cs_at, cs_ne _ _ _ (by decide), cs_ne _ _ _ (by decide), cs_ne _ _ _ (by decide), cs_ne _ _ _ (by decide), cs_at]
        · rw [cs_ne _ _ _ h6, cs_ne _ _ _ h0, cs_ne _ _ _ h0, cs_ne _ _ _ h0, cs_ne _ _ _ h0, cs_ne _ _ _ h6]
    show Rl (n + 1) (lvC (fwC w k) p v) (fwM m k)
    rw [e]; exact h1
  · show (fwC w k).1 11 _ = _
    unfold fwC
    rw [cs_ne _ _ _ (by decide), cs_ne _ _ _ (by decide)]
theorem Eq1E.ite {c : Prop} [Decidable c] {p : Nat} {v : Int32} {x x' : Option ((Int32 × CW) × Nat)} {y y' : Option (Int32 × MW)} (h1 : c → Eq1E n p v w x y) (h2 : ¬ c → Eq1E n p v w x' y') : Eq1E n p v w (if c then x else x') (if c then y else y') := by
  by_cases h : c
  · rw [if_pos h, if_pos h]; exact h1 h
  · rw [if_neg h, if_neg h]; exact h2 h
theorem Eq1E.fin {m : MW} {p : Nat} {v r : Int32} {x : Option ((Int32 × CW) × Nat)} {y : Option (Int32 × MW)} {T O b bm C : Nat} {hc hm : Nat → Nat → Int32} {now' s' : Nat → Int32} (hn : n < 513) (b2 : T ≤ 60 * n) (g4 : T ≠ 0 → ∀ t, O ≤ t → t ≤ T → Rs (hc t) (hm t) t) (g5 : Ax (lvC w p v) m n) (hx : OkI x w T T O b (200 * n) hc r now') (hy : OkMI y m T O bm (200 * n) C hm r s') (hb : b ≤ 200 * (n + 1)) (hbm : bm ≤ 200 * (n + 1)) (hC : C ≤ 100000 * (n + 1)) (hs : Rs now' s' T) (h8 : now' (78 * p + 8) = w.1 11 (78 * p + 8)) : Eq1E n p v w x y := by
  obtain ⟨w', k, e1, q1, q2, q3, q4⟩ := hx
  obtain ⟨m', e2, p1, p2, p3⟩ := hy
  refine ⟨r, w', m', k, e1, e2, Rl.fin hn b2 g4 (g5.fr q3.lv p3) q1.lv p1 hb hbm hC ?_, by rw [q2]; exact h8, q4⟩
  rw [lvC_ne (by decide), q2, p2]; exact hs
theorem Eq1E.out {p : Nat} {v : Int32} {x : Option ((Int32 × CW) × Nat)} {y : Option (Int32 × MW)} (hp : p < 60) (hv : v = 1 + w.1 11 (78 * p + 8)) (h : Eq1E n p v (enC w p v) x y) : Eq1 n w (bnc x fun y8 => (f_X9_leave (nI p) y8.2).bind fun y9 => some ((y8.1, y9), 0)) y := by
  obtain ⟨r, w2, m2, k, e1, e2, h1, h8, h2⟩ := h
  rw [enC_ne (by decide)] at h8
  refine ⟨r, lvC w2 p v, m2, k + 0, bnc_of e1 ?_, e2, h1, by rw [Nat.add_zero]; exact h2⟩
  rw [leave_s hp, Option.bind_some, h8, ← hv]
theorem mv7 {m : MW} {T p : Nat} (h : Rs (w.1 11) (m 1) T) (hp : p < 60) : m 1 (104 * p + 7) = w.1 11 (78 * p + 8) := (h.1 p hp).1.2.2.2.1.symm
theorem eq_mend (hR : Rl n w wm) (hn : n < 513) (a1 : Int32) : ∃ r w2 wm2 n2, f_X9_mend a1 w = some ((r, w2), n2) ∧ f_X10_mend a1 wm = some (r, wm2) ∧ Rl (n + 1) w2 wm2 ∧ 4096 * n2 + 2 * w.2 = 2 * w2.2 := by
  have hR1 : Rl n w (mst wm 0 0 0) := hR.thr
  unfold f_X9_mend f_X10_mend
  generalize mst wm 0 0 0 = m at hR1 ⊢
  show Eq1 n w _ _
  simp only [isPlace_s, misPlace_s, Option.bind_some, gd]
  refine Eq1.ite (fun h => ?_) (fun _ => Eq1.ret hR1 hn)
  obtain ⟨p, hp, rfl⟩ := rng (n := 59) (by omega) h
  obtain ⟨T0, O0, hc0, hm0, -, -, -, -, g30, -, -⟩ := id hR1
  rw [hasMachine_s g30 (by omega), isThere_s g30 (by omega), Option.bind_some, Option.bind_some, gd, gd]
  refine Eq1.ite (fun h3 => ?_) (fun _ => Eq1.fnd hR1 hn)
  rw [enter_s (by omega), mtouch_s (by omega), Option.bind_some, Option.bind_some, mv7 g30 (by omega)]
  obtain ⟨v, hv⟩ : ∃ v, v = 1 + w.1 11 (78 * p + 8) := ⟨_, rfl⟩
  rw [← hv]
  have hRt := hR1.touch (p := p) (v := v)
  have ew : (enC w p v).1 11 = w.1 11 := enC_ne (by decide)
  have em : (toM m p v) 1 = m 1 := toM_ne (by decide)
  obtain ⟨T, O, hc, hm, b1, b2, g1, g2, g3, g4, g5⟩ := hRt
  have g3' : Rs (w.1 11) (m 1) T := by rw [lvC_ne (by decide), ew, em] at g3; exact g3
  obtain ⟨pa, pb, pr, pc, pe⟩ := g3'.1 p (by omega)
  obtain ⟨q1, q2, q3, q4, q5, q6, q7, q8, q9⟩ := id pc
  have hb43 : ∀ (x0 : Int32), f_X9_mend_b43 (nI p) x0 (enC w p v) = if x0 = 0 then f_X9_mend_b55 (nI p) x0 (enC w p v) else bnc (f_X9_write (nI p) 3 1 (enC w p v)) fun y4 => f_X9_mend_b55 (nI p) x0 y4 := fun _ => rfl
  rw [read_k (k := 3) (by rfl) (by omega) (by omega), of_s (k := 101) (by rfl) (by omega), Option.bind_some, Option.bind_some, ew, em, hb43, hb43]
  have q2' : w.1 11 (78 * p + 3) = m 1 (104 * p + 4) := q2
  rcases q9 with ⟨z1, z2⟩ | ⟨z1, z2⟩
  · rw [q2', show m 1 (104 * p + 4) = 4 from z2, show m 1 (104 * p + 101) = 1 from z1, if_pos rfl, if_neg (by decide), if_neg (by decide)]
    have hx : OkI (bnc (f_X9_write (nI p) 3 1 (enC w p v)) fun y4 => some (((1 : Int32), y4), 0)) (enC w p v) T T O (200 * n + 1) (200 * n) hc 1 (upd (w.1 11) (78 * p + 3) 1) := (write_k (k := 3) rfl g1.vl ew (by omega) (by omega) (by omega)).bi fun _ h1 e1 _ => OkI.dn h1 e1
    have hy : OkMI ((f_X10_let (nI p) 101 0 (toM m p v)).bind fun y8 => (f_X10_let (nI p) 4 1 y8).bind fun y9 => some ((1 : Int32), y9)) (toM m p v) T O (200 * n + 1 + 1) (200 * n) (100000 * n + 1 + 1) hm 1 (upd (upd (m 1) (104 * p + 101) 0) (104 * p + 4) 1) := (let_k (k := 101) rfl g2 em (by omega) (by omega) (by omega)).bi fun _ h1 e1 _ => (let_k (k := 4) rfl h1 e1 (by omega) (by omega) (by omega)).bi fun _ h1 e1 _ => OkMI.dn h1 e1
    have hE := Eq1E.fin (p := p) (v := v) hn b2 g4 g5 hx hy (by omega) (by omega) (by omega) (by
      refine g3'.place (p := p) (by omega) (fun j hj => upd_ne _ _ (by omega)) (fun j hj => by rw [upd_ne _ _ (by omega), upd_ne _ _ (by omega)]) ?_ (fun q => by rw [upd_ne _ _ (by omega), upd_ne _ _ (by omega)]; exact q) (fun k hk => upd_ne _ _ (by omega)) (fun k hk => by rw [upd_ne _ _ (by omega), upd_ne _ _ (by omega)])
      rw [cv_upd, mv_upd, mv_upd]
      refine ⟨pa.congr (fun k hk => upd_ne _ _ (by omega)) (fun k hk => by rw [upd_ne _ _ (by omega), upd_ne _ _ (by omega)]), pb.congr (fun k hk => upd_ne _ _ (by omega)) (fun k hk => by rw [upd_ne _ _ (by omega), upd_ne _ _ (by omega)]), ?_, ⟨q1, rfl, q3, q4, q5, q6, q7, q8, Or.inr ⟨rfl, by rw [upd_at]; decide⟩⟩, RPe.of (by rw [upd_ne _ _ (by omega), upd_ne _ _ (by omega)]; exact h3)⟩
      rcases pr with pr | ⟨r1, r2, -⟩
      · exact Or.inl pr
      · rw [z1] at r2; exact absurd r2 (by decide)) (by rw [upd_ne _ _ (by omega), ew])
    obtain ⟨r, w2, m2, k, e1, e2, h1, h8, h2⟩ := hE
    rw [ew] at h8
    obtain ⟨y4, na, nb, e3, e4, e5⟩ := bnc_some e1
    obtain ⟨e6, e7⟩ := Prod.mk.inj (Option.some.inj e4)
    obtain ⟨e9, e8⟩ := Prod.mk.inj e6
    subst e8
    refine ⟨r, lvC y4 p v, m2, k, ?_, e2, h1, h2⟩
    rw [e5, bnc_of e3 (show f_X9_mend_b55 (nI p) 1 y4 = some ((r, lvC y4 p v), nb) from ?_)]
    unfold f_X9_mend_b55
    rw [leave_s (by omega), Option.bind_some, h8, ← hv, if_neg (by decide), ← e9, ← e7]
  · rw [q2', if_neg (show ¬ m 1 (104 * p + 4) = 4 from z2), if_pos rfl, show m 1 (104 * p + 101) = 0 from z1, if_pos rfl]
    unfold f_X9_mend_b55
    rw [leave_s (by omega), Option.bind_some, if_pos rfl, ew, ← hv]
    exact ⟨0, _, _, 0, rfl, rfl, Rl_next ⟨T, O, hc, hm, b1, b2, g1, g2, g3, g4, g5⟩ hn, by show 4096 * 0 + 2 * w.2 = 2 * w.2; omega⟩
theorem progC {g N τ T O Z : Nat} {hist : Nat → Nat → Int32} (hg : g < 40) (hN : N ≤ 30) : ∀ (d k i b : Nat) (w : CW) (now : Nat → Int32), i + d = N → d < k → HCx w τ T O b Z hist → w.1 11 = now → b + d < 120000 →
    OkI (f_X9_program_l45 k (nI g) (nI N) (nI i) w) w τ T O (b + d) Z hist 1 (fun j => if 4680 + 31 * g + 1 + i ≤ j ∧ j < 4680 + 31 * g + 1 + N then 4001 else now j)
  | d, 0, i, b, w, now, _, h, _, _, _ => by omega
  | 0, k + 1, i, b, w, now, h, _, h1, e1, _ => by
    show OkI (f_X9_program_l45_body (f_X9_program_l45 k) (nI g) (nI N) (nI i) w) _ _ _ _ _ _ _ _ _
    unfold f_X9_program_l45_body
    rw [if_pos (nI_le (by omega) (by omega))]
    exact OkI.dn h1 (e1.trans (funext fun j => (if_neg (by omega)).symm))
  | d + 1, k + 1, i, b, w, now, h, h0, h1, e1, hb => by
    show OkI (f_X9_program_l45_body (f_X9_program_l45 k) (nI g) (nI N) (nI i) w) _ _ _ _ _ _ _ _ _
    unfold f_X9_program_l45_body
    rw [if_neg (nI_ge (by omega) (by omega)), stepCell_s, Option.bind_some, nI_1]
    refine (set_k h1 e1 (by omega) (by omega)).bi fun w2 h2 e2 _ => ?_
    have := progC hg hN d k (i + 1) (b + 1) w2 _ (by omega) (by omega) h2 e2 (by omega)
    rw [show b + 1 + d = b + (d + 1) by omega] at this
    refine this.to (funext fun j => ?_)
    by_cases hj : j = 4680 + 31 * g + 1 + i
    · subst hj
      rw [if_neg (by omega), if_pos (by omega), upd_at]
    · rw [upd_ne _ _ hj]
      by_cases h3 : 4680 + 31 * g + 1 + i ≤ j ∧ j < 4680 + 31 * g + 1 + N
      · rw [if_pos h3, if_pos (by omega)]
      · rw [if_neg h3, if_neg (by omega)]
theorem progM {g N T O Z : Nat} {hist : Nat → Nat → Int32} (hg : g < 40) (hN : N ≤ 30) : ∀ (d k i b C : Nat) (m : MW) (s : Nat → Int32), i + d = N → d < k → HMx m T O b Z C hist → m 1 = s → b + 2 * d < 120000 → C + 2 * d < 2 ^ 30 →
    OkMI (f_X10_program_l60 k (nI N) (nI (6240 + 62 * g)) (nI i) m) m T O (b + 2 * d) Z (C + 2 * d) hist 1 (fun j => if 6240 + 62 * g + 2 + i ≤ j ∧ j < 6240 + 62 * g + 2 + N then 4 else if 6240 + 62 * g + 32 + i ≤ j ∧ j < 6240 + 62 * g + 32 + N then 1 else s j)
  | d, 0, i, b, C, m, s, _, h, _, _, _, _ => by omega
  | 0, k + 1, i, b, C, m, s, h, _, h1, e1, _, _ => by
    show OkMI (f_X10_program_l60_body (f_X10_program_l60 k) (nI N) (nI (6240 + 62 * g)) (nI i) m) _ _ _ _ _ _ _ _ _
    unfold f_X10_program_l60_body
    rw [if_pos (nI_le (by omega) (by omega))]
    exact OkMI.dn h1 (e1.trans (funext fun j => by rw [if_neg (by omega), if_neg (by omega)]))
  | d + 1, k + 1, i, b, C, m, s, h, h0, h1, e1, hb, hC => by
    show OkMI (f_X10_program_l60_body (f_X10_program_l60 k) (nI N) (nI (6240 + 62 * g)) (nI i) m) _ _ _ _ _ _ _ _ _
    unfold f_X10_program_l60_body
    rw [if_neg (nI_ge (by omega) (by omega)), show nI (6240 + 62 * g) + (2 : Int32) = nI (6240 + 62 * g + 2) from nI_add _ _, show nI (6240 + 62 * g) + (32 : Int32) = nI (6240 + 62 * g + 32) from nI_add _ _, nI_add, nI_add, nI_1]
    refine (w_k h1 e1 (by omega) (by omega) (by omega)).bi fun m2 h2 e2 _ => (w_k h2 e2 (by omega) (by omega) (by omega)).bi fun m3 h3 e3 _ => ?_
    have := progM hg hN d k (i + 1) (b + 1 + 1) (C + 1 + 1) m3 _ (by omega) (by omega) h3 e3 (by omega) (by omega)
    rw [show b + 1 + 1 + 2 * d = b + 2 * (d + 1) by omega, show C + 1 + 1 + 2 * d = C + 2 * (d + 1) by omega] at this
    obtain ⟨m', x1, x2, x3, x4⟩ := this
    refine ⟨m', x1, x2, x3.trans (funext fun j => ?_), x4⟩
    by_cases hj : j = 6240 + 62 * g + 32 + i
    · subst hj
      rw [if_neg (by omega), if_neg (by omega), if_neg (by omega), if_pos (by omega), upd_at]
    · rw [upd_ne _ _ hj]
      by_cases hj2 : j = 6240 + 62 * g + 2 + i
      · subst hj2
        rw [if_neg (by omega), if_neg (by omega), if_pos (by omega), upd_at]
      · rw [upd_ne _ _ hj2]
        by_cases h3 : 6240 + 62 * g + 2 + i ≤ j ∧ j < 6240 + 62 * g + 2 + N
        · rw [if_pos h3, if_pos (by omega)]
        · rw [if_neg h3, if_neg (by omega)]
          by_cases h4 : 6240 + 62 * g + 32 + i ≤ j ∧ j < 6240 + 62 * g + 32 + N
          · rw [if_pos h4, if_pos (by omega)]
          · rw [if_neg h4, if_neg (by omega)]
theorem eq_program (hR : Rl n w wm) (hn : n < 513) (a1 a2 : Int32) : ∃ r w2 wm2 n2, f_X9_program a1 a2 w = some ((r, w2), n2) ∧ f_X10_program a1 a2 wm = some (r, wm2) ∧ Rl (n + 1) w2 wm2 ∧ 4096 * n2 + 2 * w.2 = 2 * w2.2 := by
  have hR1 : Rl n w (mst wm 0 0 0) := hR.thr
  unfold f_X9_program f_X10_program
  generalize mst wm 0 0 0 = m at hR1 ⊢
  show Eq1 n w _ _
  simp only [isProgram_s, misProgram_s, Option.bind_some, gd]
  refine Eq1.ite (fun h => ?_) (fun _ => Eq1.ret hR1 hn)
  refine Eq1.ite (fun h2 => ?_) (fun _ => Eq1.ret hR1 hn)
  refine Eq1.ite (fun h3 => ?_) (fun _ => Eq1.fnd hR1 hn)
  obtain ⟨g, hg, rfl⟩ := rng (n := 39) (by omega) h
  obtain ⟨N, hN, rfl⟩ := rng (n := 30) (by omega) ⟨h3, h2⟩
  obtain ⟨T, O, hc, hm, b1, b2, g1, g2, g3, g4, g5⟩ := id hR1
  rw [pcell_s, Option.bind_some, pa_s, nI_1, show nI (6240 + 62 * g) + (1 : Int32) = nI (6240 + 62 * g + 1) from nI_add _ _]
  refine Eq1.fin hn b2 g4 g5 ((set_k g1 rfl (by omega) (by omega)).bi fun _ h1 e1 _ => progC (by omega) hN N FU 0 _ _ _ (by omega) (by unfold FU; omega) h1 e1 (by omega))
    ((w_k g2 rfl (by omega) (by omega) (by omega)).bi fun _ h1 e1 _ => (w_k h1 e1 (by omega) (by omega) (by omega)).bi fun _ h1 e1 _ => progM (by omega) hN N FU 0 _ _ _ _ (by omega) (by unfold FU; omega) h1 e1 (by omega) (by omega)) (by omega) (by omega) (by omega) ?_
  refine g3.prog (fun j hj => ?_) (fun j hj => ?_) (fun g' hg' => ?_)
  · rw [if_neg (by omega), upd_ne _ _ (by omega)]
  · rw [if_neg (by omega), if_neg (by omega), upd_ne _ _ (by omega), upd_ne _ _ (by omega)]
  · by_cases e : g' = g
    · subst e
      refine Or.inr ⟨?_, N, hN, ?_, ?_, fun i hi => ⟨4, 1, by omega, by omega, by omega, ?_, ?_, ?_⟩⟩
      · rw [if_neg (by omega), if_neg (by omega), upd_ne _ _ (by omega), upd_at]
      · rw [if_neg (by omega), if_neg (by omega), upd_at]
      · rw [if_neg (by omega), upd_at]
      · rw [if_pos (by omega)]; rfl
      · rw [if_neg (by omega), if_pos (by omega)]; rfl
      · rw [if_pos (by omega)]; rfl
    · rw [if_neg (by omega), if_neg (by omega), upd_ne _ _ (by omega), upd_ne _ _ (by omega), if_neg (by omega), upd_ne _ _ (by omega), if_neg (by omega), if_neg (by omega), upd_ne _ _ (by omega), upd_ne _ _ (by omega)]
      rcases g3.2.2.2.1 g' hg' with h | ⟨q1, n, q2, q3, q4, q5⟩
      · exact Or.inl h
      · refine Or.inr ⟨q1, n, q2, q3, q4, fun i hi => ?_⟩
        rw [if_neg (by omega), if_neg (by omega), upd_ne _ _ (by omega), upd_ne _ _ (by omega), if_neg (by omega), if_neg (by omega), upd_ne _ _ (by omega), upd_ne _ _ (by omega), if_neg (by omega), upd_ne _ _ (by omega)]
        exact q5 i hi
end M2
