section O2
variable {w : CW} {now s : Nat → Int32} {T p : Nat}
def AxT (w : CW) (m : MW) : Prop := (∀ p, p < 60 → w.1 5 p = m 6 p ∧ w.1 6 p = m 6 p) ∧ (∀ k, k < 12 → w.1 17 k = m 7 k) ∧ w.1 0 10 = m 0 7 ∧ w.1 0 11 = m 0 8 ∧ w.1 0 12 = m 0 9
theorem AxT.cg {w w' : CW} {m m' : MW} (h : AxT w m) (h5 : w'.1 5 = w.1 5) (h6 : w'.1 6 = w.1 6) (h17 : w'.1 17 = w.1 17) (h0 : w'.1 0 = w.1 0) (g6 : m' 6 = m 6) (g7 : m' 7 = m 7) (g0 : ∀ k, 7 ≤ k → k ≤ 9 → m' 0 k = m 0 k) : AxT w' m' := by
  unfold AxT
  rw [h5, h6, h17, h0, g6, g7, g0 7 (by omega) (by omega), g0 8 (by omega) (by omega), g0 9 (by omega) (by omega)]
  exact h
theorem AxT.touch {w y : CW} {m m' : MW} {v : Int32} (h : AxT w m) (h5 : y.1 5 = (enC w p v).1 5) (h6 : y.1 6 = w.1 6) (h17 : y.1 17 = w.1 17) (h0 : y.1 0 = w.1 0) (g6 : m' 6 = (toM m p v) 6) (g7 : m' 7 = m 7) (g0 : ∀ k, 7 ≤ k → k ≤ 9 → m' 0 k = m 0 k) : AxT (lvC y p v) m' := by
  obtain ⟨a1, a2, a3, a4, a5⟩ := h
  refine ⟨fun q hq => ?_, fun k hk => ?_, ?_, ?_, ?_⟩
  · have e5 : (lvC y p v).1 5 = upd (w.1 5) p (w.1 5 p + v) := by rw [lvC_ne (by decide), h5]; exact cs_at _ _ _ _
    have e6 : (lvC y p v).1 6 = upd (w.1 6) p (w.1 6 p + v) := by rw [← h6]; exact cs_at _ _ _ _
    have eg : m' 6 = upd (m 6) p (m 6 p + v) := by rw [g6]; exact mst_at _ _ _ _
    rw [e5, e6, eg]
    by_cases e : q = p
    · subst e
      rw [upd_at, upd_at, upd_at, (a1 q hq).1, (a1 q hq).2]
      exact ⟨rfl, rfl⟩
    · rw [upd_ne _ _ e, upd_ne _ _ e, upd_ne _ _ e]
      exact a1 q hq
  · rw [lvC_ne (by decide), h17, g7]; exact a2 k hk
  · rw [lvC_ne (by decide), h0, g0 7 (by omega) (by omega)]; exact a3
  · rw [lvC_ne (by decide), h0, g0 8 (by omega) (by omega)]; exact a4
  · rw [lvC_ne (by decide), h0, g0 9 (by omega) (by omega)]; exact a5
theorem TR.cg {w w' : CW} {m m' : MW} {tr : Nat} (h : TR w m tr) (h3 : w'.1 3 = w.1 3) (h19 : w'.1 19 = w.1 19) (g0 : m' 0 11 = m 0 11) (g5 : m' 5 = m 5) : TR w' m' tr := by
  unfold TR
  rw [h3, h19, g0, g5]
  exact h
theorem HCx.time {τ O b Z : Nat} {hist : Nat → Nat → Int32} (h : HCx w τ T O b Z hist) : w.1 1 5 = nI τ := by
  obtain ⟨e, f, d, mk, ⟨-, ⟨-, -, h5, -⟩, -⟩⟩ := h
  exact h5
theorem HMx.to6 {m : MW} {O b Z C : Nat} {hist : Nat → Nat → Int32} {v : Int32} (h : HMx m T O b Z C hist) : HMx (toM m p v) T O b Z C hist := by
  obtain ⟨c, mk, h⟩ := h
  exact ⟨c, mk, h.congr (by rw [toM_ne (by decide)]) (by rw [toM_ne (by decide)]) (toM_ne (by decide)) (toM_ne (by decide)) (toM_ne (by decide)) (toM_ne (by decide))⟩
theorem HCx.en {τ O b Z : Nat} {hist : Nat → Nat → Int32} {v : Int32} (h : HCx w τ T O b Z hist) : HCx (enC w p v) τ T O b Z hist := h.cs (by decide) (by decide) (by decide) (by decide)
theorem upd_cg {f g : Nat → Int32} {k j : Nat} {x : Int32} (h : f j = g j) : upd f k x j = upd g k x j := by
  by_cases e : j = k
  · subst e; rw [upd_at, upd_at]
  · rw [upd_ne _ _ e, upd_ne _ _ e]; exact h
theorem endN_upd {a : Nat} {v : Int32} (h : a ≠ 8555 ∧ 78 * p + 13 ≤ a) (hp : p < 60) : endN (upd now a v) p = upd (endN now p) a v := by
  funext j
  by_cases e : j = a
  · subst e
    rw [upd_at, endN_ne (by omega), upd_at]
  · rw [upd_ne _ _ e]
    unfold endN
    rw [upd_ne (k := a) (j := 8555) _ _ (by omega), upd_ne (k := a) (j := 78 * p + 4) _ _ (by omega)]
    exact upd_cg (upd_cg (upd_cg (upd_cg (upd_cg (upd_cg (upd_cg (upd_cg (upd_cg (upd_ne _ _ e)))))))))
/-- a machine breaks -/
theorem brk_rs (h : Rs now s T) (hp : p < 60) (h0 : s (104 * p) ≠ 0) (h26 : s (104 * p + 26) = 0) : Rs (upd (upd now (78 * p + 3) 4) (78 * p + 7) 0) (upd (upd (upd s (104 * p + 31) 0) (104 * p + 101) 1) (104 * p + 4) 4) T := by
  obtain ⟨pa, pb, pr, pc, pe⟩ := h.1 p hp
  obtain ⟨q1, q2, q3, q4, q5, q6, q7, q8, q9⟩ := id pc
  have c1 : ∀ j, j ≠ 78 * p + 3 → j ≠ 78 * p + 7 → upd (upd now (78 * p + 3) 4) (78 * p + 7) 0 j = now j := fun j h3 h7 => by rw [upd_ne _ _ h7, upd_ne _ _ h3]
  have m1 : ∀ j, j ≠ 104 * p + 31 → j ≠ 104 * p + 101 → j ≠ 104 * p + 4 → upd (upd (upd s (104 * p + 31) 0) (104 * p + 101) 1) (104 * p + 4) 4 j = s j := fun j h3 h7 h4 => by rw [upd_ne _ _ h4, upd_ne _ _ h7, upd_ne _ _ h3]
  have c3 : upd (upd now (78 * p + 3) 4) (78 * p + 7) 0 (78 * p + 3) = 4 := by rw [upd_ne _ _ (by omega), upd_at]
  have c7 : upd (upd now (78 * p + 3) 4) (78 * p + 7) 0 (78 * p + 7) = 0 := upd_at _ _ _
  have m31 : upd (upd (upd s (104 * p + 31) 0) (104 * p + 101) 1) (104 * p + 4) 4 (104 * p + 31) = 0 := by rw [upd_ne _ _ (by omega), upd_ne _ _ (by omega), upd_at]
  have m101 : upd (upd (upd s (104 * p + 31) 0) (104 * p + 101) 1) (104 * p + 4) 4 (104 * p + 101) = 1 := by rw [upd_ne _ _ (by omega), upd_at]
  have m4 : upd (upd (upd s (104 * p + 31) 0) (104 * p + 101) 1) (104 * p + 4) 4 (104 * p + 4) = 4 := upd_at _ _ _
  generalize upd (upd now (78 * p + 3) 4) (78 * p + 7) 0 = now' at c1 c3 c7 ⊢
  generalize upd (upd (upd s (104 * p + 31) 0) (104 * p + 101) 1) (104 * p + 4) 4 = s' at m1 m31 m101 m4 ⊢
  obtain ⟨-, r10, r11, r12, r30⟩ : s (104 * p + 26) = 0 ∧ now (78 * p + 10) = 0 ∧ now (78 * p + 11) = 0 ∧ now (78 * p + 12) = 0 ∧ s (104 * p + 30) = 0 := by
    rcases pr with q | ⟨q, -⟩
    · exact q
    · exact absurd (h26.symm.trans q) (by decide)
  have e0 : s' (104 * p + 0) ≠ 0 := by rw [m1 _ (by omega) (by omega) (by omega)]; exact h0
  refine h.place hp (fun j hj => c1 j (by omega) (by omega)) (fun j hj => m1 j (by omega) (by omega) (by omega)) ⟨pa.congr (fun k hk => c1 (78 * p + k) (by omega) (by omega)) (fun k hk => m1 (104 * p + k) (by omega) (by omega) (by omega)), pb.congr (fun k hk => c1 (78 * p + k) (by omega) (by omega)) (fun k hk => m1 (104 * p + k) (by omega) (by omega) (by omega)), Or.inl ⟨(m1 (104 * p + 26) (by omega) (by omega) (by omega)).trans h26, (c1 (78 * p + 10) (by omega) (by omega)).trans r10, (c1 (78 * p + 11) (by omega) (by omega)).trans r11, (c1 (78 * p + 12) (by omega) (by omega)).trans r12, (m1 (104 * p + 30) (by omega) (by omega) (by omega)).trans r30⟩, ⟨?_, c3.trans m4.symm, ?_, ?_, ?_, ?_, ?_, c7.trans m31.symm, Or.inl ⟨m101, m4⟩⟩, RPe.of e0⟩ (fun _ => e0) (fun k hk => c1 _ (by omega) (by omega)) (fun k hk => m1 _ (by omega) (by omega) (by omega))
  · show now' (78 * p + 2) = s' (104 * p + 3)
    rw [c1 _ (by omega) (by omega), m1 _ (by omega) (by omega) (by omega)]; exact q1
  · show now' (78 * p + 4) = s' (104 * p + 5)
    rw [c1 _ (by omega) (by omega), m1 _ (by omega) (by omega) (by omega)]; exact q3
  · show now' (78 * p + 5) = s' (104 * p + 6)
    rw [c1 _ (by omega) (by omega), m1 _ (by omega) (by omega) (by omega)]; exact q4
  · show s' (104 * p + 6) = 0 ∨ s' (104 * p + 6) = 1
    rw [m1 _ (by omega) (by omega) (by omega)]; exact q5
  · show now' (78 * p + 6) = s' (104 * p + 30)
    rw [c1 _ (by omega) (by omega), m1 _ (by omega) (by omega) (by omega)]; exact q6
  · show ∃ v, v < T + 1 ∧ s' (104 * p + 30) = nI v
    rw [m1 _ (by omega) (by omega) (by omega)]; exact q7
theorem b51_s {τ O b Z : Nat} {hist : Nat → Nat → Int32} {y : CW} {X : Nat → Int32} (h : HCx y τ T O b Z hist) (e : y.1 11 = X) (hp : p < 60) (hb : b + 2 < 120000) :
    ∃ y2 n, (∀ (k2 : Int32 → CW → Option (CW × Nat)) (w'' : CW) (n'' : Nat), k2 (nI (p + 1)) (lvC y2 p (1 + X (78 * p + 8))) = some (w'', n'') → f_X9_breakDown_b51 k2 (nI p) y = some (w'', n + n'')) ∧ HCx y2 τ T O (b + 2) Z hist ∧ y2.1 11 = upd (upd X (78 * p + 3) 4) (78 * p + 7) 0 ∧ Fr y y2 ∧ 4096 * n + 2 * y.2 = 2 * y2.2 := by
  obtain ⟨y1, n1, e1, h1, q1, f1, c1⟩ := write_k (k := 3) (x := 3) (v := 4) rfl h e hp (by omega) (by omega)
  obtain ⟨y2, n2, e2, h2, q2, f2, c2⟩ := write_k (k := 7) (x := 7) (v := 0) rfl h1 q1 hp (by omega) (by omega)
  refine ⟨y2, n1 + n2, fun k2 w'' n'' hk => ?_, h2, q2, f1.trans f2, by omega⟩
  unfold f_X9_breakDown_b51 f_X9_breakDown_b71
  rw [Nat.add_assoc]
  refine bnc_of e1 ?_
  refine bnc_of e2 ?_
  show (f_X9_leave (nI p) y2).bind _ = _
  rw [leave_s hp, Option.bind_some, q2, upd_ne _ _ (by omega), upd_ne _ _ (by omega), nI_1]
  exact hk
theorem b37_k {m : MW} {O b Z C : Nat} {hist : Nat → Nat → Int32} (h : HMx m T O b Z C hist) (e : m 1 = s) (hp : p < 60) (hb : b + 3 < 120000) (hC : C + 3 < 2 ^ 30) : OkM (f_X10_breakDown_b37 (nI p) m) m T O (b + 3) Z (C + 3) hist (upd (upd (upd s (104 * p + 31) 0) (104 * p + 101) 1) (104 * p + 4) 4) := by
  unfold f_X10_breakDown_b37
  exact (let_k (k := 31) rfl h e (by omega) (by omega) (by omega)).bv fun _ h1 e1 _ => (let_k (k := 101) rfl h1 e1 (by omega) (by omega) (by omega)).bv fun _ h1 e1 _ => (let_k (k := 4) rfl h1 e1 (by omega) (by omega) (by omega)).bv fun _ h1 e1 _ => OkM.dn h1 e1
theorem OkM.mono {m : MW} {x : Option MW} {O b b' Z C C' : Nat} {hist : Nat → Nat → Int32} {s' : Nat → Int32} (h : OkM x m T O b Z C hist s') (hb : b ≤ b') (hC : C ≤ C') : OkM x m T O b' Z C' hist s' := by
  obtain ⟨m1, e1, h1, h2, h3⟩ := h
  exact ⟨m1, e1, h1.mono hb (Nat.le_refl _) hC, h2, h3⟩
theorem brk1 {m : MW} {O b Z C tr : Nat} {hc hm : Nat → Nat → Int32} (HC : HCx w (T + 1) T O b Z hc) (HM : HMx m T O b Z C hm) (hs : Rs (w.1 11) (m 1) (T + 1)) (hx : AxT w m) (ht : TR w m tr) (hp : p < 60) (h0 : m 1 (104 * p) ≠ 0) (hb : b + 12 < 120000) (hC : C + 12 < 2 ^ 30) :
    ∃ w' n m', (∀ (k2 : Int32 → CW → Option (CW × Nat)) (w'' : CW) (n'' : Nat), k2 (nI (p + 1)) w' = some (w'', n'') → ((f_X9_enter (nI p) w).bind fun y8 => (f_X9_hasRun (nI p) y8).bind fun y9 => if y9 = 0 then (f_X9_breakDown_b51 k2 (nI p) y8) else (bnc (f_X9_grow (nI p) 34 1 y8) fun y11 => bnc (f_X9_endRun (nI p) y11) fun y12 => f_X9_breakDown_b51 k2 (nI p) y12)) = some (w'', n + n'')) ∧ f_X10_breakDown (nI p) m = some m' ∧ HCx w' (T + 1) T O (b + 12) Z hc ∧ HMx m' T O (b + 12) Z (C + 12) hm ∧ Rs (w'.1 11) (m' 1) (T + 1) ∧ AxT w' m' ∧ TR w' m' tr ∧ m' 1 (104 * p + 26) = 0 ∧ ((m' 1 (104 * p + 30) = 0 ∨ m' 1 (104 * p + 30) = m 1 (104 * p + 30)) ∧ m' 1 (104 * p + 32) = m 1 (104 * p + 32)) ∧ (∀ j, (j < 104 * p ∨ 104 * p + 104 ≤ j) → j < 6240 → m' 1 j = m 1 j) ∧ 4096 * n + 2 * w.2 = 2 * w'.2 := by
  obtain ⟨v, hv⟩ : ∃ v, v = 1 + w.1 11 (78 * p + 8) := ⟨_, rfl⟩
  have ew : (enC w p v).1 11 = w.1 11 := enC_ne (by decide)
  have em : (toM m p v) 1 = m 1 := toM_ne (by decide)
  have em0 : (toM m p v) 0 = m 0 := toM_ne (by decide)
  have em5 : (toM m p v) 5 = m 5 := toM_ne (by decide)
  have em7 : (toM m p v) 7 = m 7 := toM_ne (by decide)
  obtain ⟨hr1, hr2⟩ := hasRun_s (w := enC w p v) (m := m) (T := T + 1) (by rw [ew]; exact hs) hp
  have fin : ∀ (y : CW) (m2 : MW), Fr (enC w p v) y → FrM (toM m p v) m2 → AxT (lvC y p v) m2 ∧ TR (lvC y p v) m2 tr := by
    intro y m2 f1 f2
    refine ⟨hx.touch (f1 5 (by decide) (by decide) (by decide) (by decide)) ((f1 6 (by decide) (by decide) (by decide) (by decide)).trans (enC_ne (by decide))) ((f1 17 (by decide) (by decide) (by decide) (by decide)).trans (enC_ne (by decide))) ((f1 0 (by decide) (by decide) (by decide) (by decide)).trans (enC_ne (by decide))) (f2.1 6 (by decide) (by decide) (by decide) (by decide)) ((f2.1 7 (by decide) (by decide) (by decide) (by decide)).trans em7) (fun k h1 h2 => by rw [f2.2 k (by omega), em0]), TR.lv (ht.cg ((f1 3 (by decide) (by decide) (by decide) (by decide)).trans (enC_ne (by decide))) ((f1 19 (by decide) (by decide) (by decide) (by decide)).trans (enC_ne (by decide))) (by rw [f2.2 11 (by decide), em0]) ((f2.1 5 (by decide) (by decide) (by decide) (by decide)).trans em5))⟩
  have hen : ∀ (k2 : Int32 → CW → Option (CW × Nat)), ((f_X9_enter (nI p) w).bind fun y8 => (f_X9_hasRun (nI p) y8).bind fun y9 => if y9 = 0 then (f_X9_breakDown_b51 k2 (nI p) y8) else (bnc (f_X9_grow (nI p) 34 1 y8) fun y11 => bnc (f_X9_endRun (nI p) y11) fun y12 => f_X9_breakDown_b51 k2 (nI p) y12)) = if m 1 (104 * p + 26) = 1 then (bnc (f_X9_grow (nI p) 34 1 (enC w p v)) fun y11 => bnc (f_X9_endRun (nI p) y11) fun y12 => f_X9_breakDown_b51 k2 (nI p) y12) else f_X9_breakDown_b51 k2 (nI p) (enC w p v) := by
    intro k2
    rw [enter_s hp, Option.bind_some, ← hv, hr1, Option.bind_some, gd]
  have hmo : f_X10_breakDown (nI p) m = if m 1 (104 * p + 26) = 1 then ((f_X10_ends (nI p) (toM m p v)).bind fun y7 => (f_X10_of (nI p) 39 y7).bind fun y8 => (f_X10_let (nI p) 39 (y8 + 1) y7).bind fun y9 => f_X10_breakDown_b37 (nI p) y9) else f_X10_breakDown_b37 (nI p) (toM m p v) := by
    unfold f_X10_breakDown
    rw [mtouch_s hp, Option.bind_some, mv7 hs hp, ← hv, of_s (k := 26) (by rfl) (by omega), Option.bind_some, em]
  rw [hmo]
  by_cases h26 : m 1 (104 * p + 26) = 1
  · have h101 : m 1 (104 * p + 101) = 0 := by
      rcases hr2 with q | ⟨-, q⟩
      · rw [q] at h26; exact absurd h26 (by decide)
      · exact q
    rw [if_pos h26]
    obtain ⟨y1, n1, e1, h1, q1, f1, c1⟩ := grow_k (p := p) (k := 34) (x := 34) (v := 1) rfl (HC.en (p := p) (v := v)) ew hp (by omega) (by omega)
    obtain ⟨y2, n2, e2, h2, q2, f2, c2⟩ := endRun_k h1 q1 hp (by omega)
    obtain ⟨y3, n3, e3, h3, q3, f3, c3⟩ := b51_s h2 q2 hp (by omega)
    have hX8 : endN (upd (w.1 11) (78 * p + 34) (w.1 11 (78 * p + 34) + 1)) p (78 * p + 8) = w.1 11 (78 * p + 8) := by rw [endN_ne (by omega), upd_ne _ _ (by omega)]
    rw [hX8, ← hv] at e3
    have hy : OkM ((f_X10_ends (nI p) (toM m p v)).bind fun y7 => (f_X10_of (nI p) 39 y7).bind fun y8 => (f_X10_let (nI p) 39 (y8 + 1) y7).bind fun y9 => f_X10_breakDown_b37 (nI p) y9) (toM m p v) T O (b + 7 + 1 + 3) Z (C + 7 + 1 + 3) hm (upd (upd (upd (upd (endS (m 1) p) (104 * p + 39) (endS (m 1) p (104 * p + 39) + 1)) (104 * p + 31) 0) (104 * p + 101) 1) (104 * p + 4) 4) := by
      refine (ends_k (HM.to6 (p := p) (v := v)) em hp (by omega) (by omega)).bv fun m1 g1 k1 _ => ?_
      rw [of_s (k := 39) (by rfl) (by omega), Option.bind_some, k1]
      exact (let_k (k := 39) rfl g1 k1 (by omega) (by omega) (by omega)).bv fun m2 g2 k2 _ => b37_k g2 k2 hp (by omega) (by omega)
    obtain ⟨m2, g1, g2, g3, g4⟩ := hy
    obtain ⟨ax, tx⟩ := fin y3 m2 (f1.trans (f2.trans f3)) g4
    have k1 := end_rs hs hp h0 h101
    have k2 := book_rs (i := 7) k1 hp (by rw [endS_ne (by omega)]; exact h0) (by omega) (w.1 11 (78 * p + 34) + 1)
    have k3 := brk_rs k2 hp (by rw [upd_ne _ _ (by omega), endS_ne (by omega)]; exact h0) (by rw [upd_ne _ _ (by omega)]; unfold endS; rw [upd_ne _ _ (by omega), upd_at])
    have e39 : endS (m 1) p (104 * p + 39) + 1 = w.1 11 (78 * p + 34) + 1 := by
      rw [endS_ne (by omega), show w.1 11 (78 * p + 34) = m 1 (104 * p + 39) from (hs.1 p hp).2.1.1 7 (by omega)]
    refine ⟨lvC y3 p v, n1 + (n2 + n3), m2, fun k2 w'' n'' hk => ?_, g1, (h3.lv).mono (by omega) (Nat.le_refl _), g2.mono (by omega) (Nat.le_refl _) (by omega), ?_, ax, tx, ?_, ⟨Or.inl ?_, ?_⟩, fun j hj hj2 => ?_, ?_⟩
    · rw [hen, if_pos h26, Nat.add_assoc, Nat.add_assoc]
      exact bnc_of e1 (bnc_of e2 (e3 k2 w'' n'' hk))
    · rw [lvC_ne (by decide), q3, g3, e39, endN_upd (by omega) hp]
      exact k3
    · rw [g3, upd_ne _ _ (by omega), upd_ne _ _ (by omega), upd_ne _ _ (by omega), upd_ne _ _ (by omega)]
      unfold endS
      rw [upd_ne _ _ (by omega), upd_at]
    · rw [g3, upd_ne _ _ (by omega), upd_ne _ _ (by omega), upd_ne _ _ (by omega), upd_ne _ _ (by omega)]
      unfold endS
      rw [upd_at]
    · rw [g3, upd_ne _ _ (by omega), upd_ne _ _ (by omega), upd_ne _ _ (by omega), upd_ne _ _ (by omega), endS_ne (by omega)]
    · rw [g3, upd_ne _ _ (by omega), upd_ne _ _ (by omega), upd_ne _ _ (by omega), upd_ne _ _ (by omega), endS_ne (by omega)]
    · have : (enC w p v).2 = w.2 := rfl
      have : (lvC y3 p v).2 = y3.2 := rfl
      omega
  · rw [if_neg h26]
    have z26 : m 1 (104 * p + 26) = 0 := by
      rcases hr2 with q | ⟨q, -⟩
      · exact q
      · exact absurd q h26
    obtain ⟨y3, n3, e3, h3, q3, f3, c3⟩ := b51_s (HC.en (p := p) (v := v)) ew hp (by omega)
    rw [← hv] at e3
    obtain ⟨m2, g1, g2, g3, g4⟩ := b37_k (HM.to6 (p := p) (v := v)) em hp (by omega) (by omega)
    obtain ⟨ax, tx⟩ := fin y3 m2 f3 g4
    refine ⟨lvC y3 p v, n3, m2, fun k2 w'' n'' hk => ?_, g1, (h3.lv).mono (by omega) (Nat.le_refl _), g2.mono (by omega) (Nat.le_refl _) (by omega), ?_, ax, tx, ?_, ⟨Or.inr ?_, ?_⟩, fun j hj hj2 => ?_, ?_⟩
    · rw [hen, if_neg h26]
      exact e3 k2 w'' n'' hk
    · rw [lvC_ne (by decide), q3, g3]
      exact brk_rs hs hp h0 z26
    · rw [g3, upd_ne _ _ (by omega), upd_ne _ _ (by omega), upd_ne _ _ (by omega)]
      exact z26
    · rw [g3, upd_ne _ _ (by omega), upd_ne _ _ (by omega), upd_ne _ _ (by omega)]
    · rw [g3, upd_ne _ _ (by omega), upd_ne _ _ (by omega), upd_ne _ _ (by omega)]
    · rw [g3, upd_ne _ _ (by omega), upd_ne _ _ (by omega), upd_ne _ _ (by omega)]
    · have : (enC w p v).2 = w.2 := rfl
      have : (lvC y3 p v).2 = y3.2 := rfl
      omega
/-- how many runs below n -/
def rc (s : Nat → Int32) : Nat → Nat
  | 0 => 0
  | n + 1 => rc s n + if s (104 * n + 26) = 1 then 1 else 0
theorem rc_congr {s' : Nat → Int32} : ∀ (n : Nat), (∀ q, q < n → s' (104 * q + 26) = s (104 * q + 26)) → rc s' n = rc s n
  | 0, _ => rfl
  | n + 1, h => by
    show rc s' n + (if s' (104 * n + 26) = 1 then 1 else 0) = rc s n + if s (104 * n + 26) = 1 then 1 else 0
    rw [rc_congr n (fun q hq => h q (by omega)), h n (by omega)]
theorem rc_le : ∀ (n : Nat), rc s n ≤ n
  | 0 => Nat.le_refl _
  | n + 1 => by
    have h := rc_le n
    show rc s n + (if s (104 * n + 26) = 1 then 1 else 0) ≤ n + 1
    by_cases e : s (104 * n + 26) = 1
    · rw [if_pos e]; omega
    · rw [if_neg e]; omega
/-- what has waited and gone -/
def BdW (s : Nat → Int32) (B : Nat) : Prop := ∀ q, q < 60 → (∃ v, v < B ∧ s (104 * q + 30) = nI v) ∧ ∃ g, g < B ∧ s (104 * q + 32) = nI g
theorem brkL {O Z B D tr : Nat} {hc hm : Nat → Nat → Int32} (hT : T < 99000) : ∀ (d kf i b C : Nat) (w : CW) (m : MW), i + d = 60 → d < kf → HCx w (T + 1) T O b Z hc → HMx m T O b Z C hm → Rs (w.1 11) (m 1) (T + 1) → AxT w m → TR w m tr → b + 12 * d < 120000 → C + 12 * d < 2 ^ 30 → b + 22 * rc (m 1) i ≤ B + 22 * i → C + 22 * rc (m 1) i ≤ D + 22 * i → BdW (m 1) (T + 1) →
    ∃ w' n m' b' C', f_X9_breakDown_l2 kf (nI i) w = some (w', n) ∧ f_X10_oneMinute_l45 kf (nI i) m = f_X10_oneMinute_l90 FU 0 m' ∧ HCx w' (T + 1) T O b' Z hc ∧ HMx m' T O b' Z C' hm ∧ Rs (w'.1 11) (m' 1) (T + 1) ∧ AxT w' m' ∧ TR w' m' tr ∧ b' + 22 * rc (m' 1) 60 ≤ B + 22 * 60 ∧ C' + 22 * rc (m' 1) 60 ≤ D + 22 * 60 ∧ BdW (m' 1) (T + 1) ∧ 4096 * n + 2 * w.2 = 2 * w'.2
  | d, 0, i, b, C, w, m, _, h, _, _, _, _, _, _, _, _, _, _ => by omega
  | 0, kf + 1, i, b, C, w, m, h, _, HC, HM, hs, hx, ht, hb, hC, hB, hD, hBd => by
    have : i = 60 := by omega
    subst this
    refine ⟨w, 0, m, b, C, ?_, ?_, HC, HM, hs, hx, ht, hB, hD, hBd, by omega⟩
    · show f_X9_breakDown_l2_body (f_X9_breakDown_l2 kf) (nI 60) w = _
      unfold f_X9_breakDown_l2_body
      rw [if_pos (by decide)]
    · show f_X10_oneMinute_l45_body (f_X10_oneMinute_l45 kf) (nI 60) m = _
      unfold f_X10_oneMinute_l45_body
      rw [if_pos (by decide)]
  | d + 1, kf + 1, i, b, C, w, m, h, hk, HC, HM, hs, hx, ht, hb, hC, hB, hD, hBd => by
    have hi : i < 60 := by omega
    have i44 : inb (11344 : Int32) 11360 := lit_in (a := 11344) rfl (by omega) (by omega)
    have l44 : (11344 : Int32).toNatClampNeg = 11344 := lit_cl (a := 11344) rfl (by omega)
    have ec7 : w.1 11 (78 * i + 7) = m 1 (104 * i + 31) := (hs.1 i hi).2.2.2.1.2.2.2.2.2.2.2.1
    have eT : m 1 11344 = nI (T + 1) := hs.2.2.2.2.2.2
    have hm1 : f_X10_oneMinute_l45 (kf + 1) (nI i) m = if m 1 (104 * i) ≠ 0 then (if m 1 (104 * i + 31) = nI (T + 1) then ((f_X10_breakDown (nI i) m).bind fun y31 => f_X10_oneMinute_l45 kf (nI (i + 1)) y31) else f_X10_oneMinute_l45 kf (nI (i + 1)) m) else f_X10_oneMinute_l45 kf (nI (i + 1)) m := by
      show f_X10_oneMinute_l45_body (f_X10_oneMinute_l45 kf) (nI i) m = _
      unfold f_X10_oneMinute_l45_body f_X10_oneMinute_b82
      rw [if_neg (show ¬ (60 : Int32) ≤ nI i from nI_ge (a := i) (b := 60) (by omega) (by omega)), isThere_s hs hi, Option.bind_some, gd, of_s (k := 31) (by rfl) (by omega), Option.bind_some, chk_t i44, l44, eT, nI_1]
    have hc1 : f_X9_breakDown_l2 (kf + 1) (nI i) w = if m 1 (104 * i + 31) = nI (T + 1) then ((f_X9_enter (nI i) w).bind fun y8 => (f_X9_hasRun (nI i) y8).bind fun y9 => if y9 = 0 then (f_X9_breakDown_b51 (f_X9_breakDown_l2 kf) (nI i) y8) else (bnc (f_X9_grow (nI i) 34 1 y8) fun y11 => bnc (f_X9_endRun (nI i) y11) fun y12 => f_X9_breakDown_b51 (f_X9_breakDown_l2 kf) (nI i) y12)) else f_X9_breakDown_l2 kf (nI (i + 1)) w := by
      show f_X9_breakDown_l2_body (f_X9_breakDown_l2 kf) (nI i) w = _
      unfold f_X9_breakDown_l2_body f_X9_breakDown_b71
      rw [if_neg (show ¬ (60 : Int32) ≤ nI i from nI_ge (a := i) (b := 60) (by omega) (by omega)), read_k (k := 7) (by rfl) hi (by omega), Option.bind_some, show f_X1_time w = some (w.1 1 5) from rfl, Option.bind_some, ec7, HC.time, nI_1]
    have hrc : ∀ s' : Nat → Int32, rc s' (i + 1) = rc s' i + if s' (104 * i + 26) = 1 then 1 else 0 := fun _ => rfl
    by_cases hq : m 1 (104 * i + 31) = nI (T + 1)
    · have h0 : m 1 (104 * i) ≠ 0 := fun q => by
        have := ((hs.1 i hi).2.2.2.2 q).2 31 (by omega)
        have h2 : m 1 (104 * i + 31) = 0 := this
        rw [hq] at h2
        exact nI_ne0 (by omega) (by omega) h2
      obtain ⟨w1, n1, m1, g1, g2, g3, g4, g5, g6, g7, g8, ⟨g81, g82⟩, g9, g10⟩ := brk1 HC HM hs hx ht hi h0 (by omega) (by omega)
      have hr : rc (m1 1) (i + 1) = rc (m 1) i := by
        rw [hrc, if_neg (by rw [g8]; decide), Nat.add_zero]
        exact rc_congr i (fun q hq => g9 _ (by omega) (by omega))
      have hBd1 : BdW (m1 1) (T + 1) := fun q hq' => by
        by_cases e : q = i
        · rw [e]
          refine ⟨?_, by rw [g82]; exact (hBd i hi).2⟩
          rcases g81 with c | c
          · exact ⟨0, by omega, c⟩
          · rw [c]; exact (hBd i hi).1
        · rw [g9 _ (by omega) (by omega), g9 _ (by omega) (by omega)]; exact hBd q hq'
      obtain ⟨w', n, m', b', C', r1, r2, r3, r4, r5, r6, r7, r8, r9, rB, r10⟩ := brkL (B := B) (D := D) hT d kf (i + 1) (b + 12) (C + 12) w1 m1 (by omega) (by omega) g3 g4 g5 g6 g7 (by omega) (by omega) (by rw [hr]; omega) (by rw [hr]; omega) hBd1
      refine ⟨w', n1 + n, m', b', C', ?_, ?_, r3, r4, r5, r6, r7, r8, r9, rB, by omega⟩
      · rw [hc1, if_pos hq]
        exact g1 _ _ _ r1
      · rw [hm1, if_pos h0, if_pos hq, g2, Option.bind_some]
        exact r2
    · obtain ⟨w', n, m', b', C', r1, r2, r3, r4, r5, r6, r7, r8, r9, rB, r10⟩ := brkL (B := B) (D := D) hT d kf (i + 1) b C w m (by omega) (by omega) HC HM hs hx ht (by omega) (by omega) (by
        rw [hrc]
        by_cases e : m 1 (104 * i + 26) = 1
        · rw [if_pos e]; omega
        · rw [if_neg e]; omega) (by
        rw [hrc]
        by_cases e : m 1 (104 * i + 26) = 1
        · rw [if_pos e]; omega
        · rw [if_neg e]; omega) hBd
      refine ⟨w', n, m', b', C', ?_, ?_, r3, r4, r5, r6, r7, r8, r9, rB, r10⟩
      · rw [hc1, if_neg hq]
        exact r1
      · rw [hm1]
        by_cases h0 : m 1 (104 * i) ≠ 0
        · rw [if_pos h0, if_neg hq]; exact r2
        · rw [if_neg h0]; exact r2
end O2
