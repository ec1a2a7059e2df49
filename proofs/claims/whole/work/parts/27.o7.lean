section O7
variable {w : CW} {now s : Nat → Int32} {T p : Nat}
theorem and3 (a b c : Prop) [Decidable a] [Decidable b] [Decidable c] : (((true && decide a) && decide b) && decide c) = decide ((a ∧ b) ∧ c) := by
  by_cases f0 : a <;> by_cases f1 : b <;> by_cases f2 : c <;> simp [f0, f1, f2]
theorem gow0 {m : MW} {x2 : Int32} {kf i : Nat} (b : Bool) (hi : i < 3) : f_X10_goesOrWaits_l32 (kf + 1) (nI p) x2 (fl b) (nI i) m = f_X10_goesOrWaits_l32 kf (nI p) x2 (fl (b && decide (m 1 (11350 + i) + m 13 i ≤ m 1 (11353 + i)))) (nI (i + 1)) m := by
  show f_X10_goesOrWaits_l32_body (f_X10_goesOrWaits_l32 kf) (nI p) x2 (fl b) (nI i) m = _
  unfold f_X10_goesOrWaits_l32_body f_X10_goesOrWaits_b77
  rw [if_neg (show ¬ (3 : Int32) ≤ nI i from nI_ge (a := i) (b := 3) (by omega) (by omega)), show (11350 : Int32) + nI i = nI (11350 + i) from nI_add 11350 i, show (11353 : Int32) + nI i = nI (11353 + i) from nI_add 11353 i, chk_t (inb_nI (by omega) (by omega)), chk_t (inb_nI hi (by omega)), chk_t (inb_nI (by omega) (by omega)), nI_clamp (show 11350 + i < 2 ^ 31 by omega), nI_clamp (show 11353 + i < 2 ^ 31 by omega), nI_clamp (show i < 2 ^ 31 by omega), nI_1 i]
  have e1 : fl b &&& (1 : Int32) = fl (b && true) := fl_and b true
  have e0 : fl b &&& (0 : Int32) = fl (b && false) := fl_and b false
  by_cases hq : m 1 (11350 + i) + m 13 i ≤ m 1 (11353 + i)
  · rw [if_neg (Int32.not_lt.mpr hq), decide_eq_true hq, e1]
  · rw [if_pos (Int32.not_le.mp hq), decide_eq_false hq, e0]
theorem gow_s {m : MW} {x2 : Int32} : f_X10_goesOrWaits_l32 FU (nI p) x2 1 0 m = if (m 1 (11350 + 0) + m 13 0 ≤ m 1 (11353 + 0) ∧ m 1 (11350 + 1) + m 13 1 ≤ m 1 (11353 + 1)) ∧ m 1 (11350 + 2) + m 13 2 ≤ m 1 (11353 + 2) then ((f_X10_goes (nI p) x2 m).bind fun y8 => some y8) else ((f_X10_of (nI p) 33 m).bind fun y3 => (f_X10_let (nI p) 33 (y3 + 1) m).bind fun y4 => (f_X10_of (nI p) 30 y4).bind fun y5 => (f_X10_let (nI p) 30 (y5 + 1) y4).bind fun y6 => (f_X10_let (nI p) 4 3 y6).bind fun y7 => some y7) := by
  have e0 : f_X10_goesOrWaits_l32 FU (nI p) x2 1 0 m = f_X10_goesOrWaits_l32 (FU - 4 + 1 + 1 + 1 + 1) (nI p) x2 (fl true) (nI 0) m := by rw [show FU - 4 + 1 + 1 + 1 + 1 = FU by unfold FU; rfl]; rfl
  rw [e0, gow0 _ (by omega), gow0 _ (by omega), gow0 _ (by omega), and3]
  show f_X10_goesOrWaits_l32_body (f_X10_goesOrWaits_l32 (FU - 4)) (nI p) x2 (fl (decide ((m 1 (11350 + 0) + m 13 0 ≤ m 1 (11353 + 0) ∧ m 1 (11350 + 1) + m 13 1 ≤ m 1 (11353 + 1)) ∧ m 1 (11350 + 2) + m 13 2 ≤ m 1 (11353 + 2)))) (nI 3) m = _
  unfold f_X10_goesOrWaits_l32_body
  rw [if_pos (by decide), fl_gd]
  by_cases hP : (m 1 (11350 + 0) + m 13 0 ≤ m 1 (11353 + 0) ∧ m 1 (11350 + 1) + m 13 1 ≤ m 1 (11353 + 1)) ∧ m 1 (11350 + 2) + m 13 2 ≤ m 1 (11353 + 2)
  · rw [if_pos (decide_eq_true hP), if_pos hP]
  · rw [if_neg (by rw [decide_eq_false hP]; decide), if_neg hP]
set_option maxHeartbeats 2000000 in
theorem serve1 {m : MW} {O b Z C tr g v0 : Nat} {hc hm : Nat → Nat → Int32} (HC : HCx w (T + 1) T O b Z hc) (HM : HMx m T O b Z C hm) (hs : Rs (pn (w.1 11) (m 1)) (m 1) (T + 1)) (U : ∀ i, i < 3 → w.1 10 i = m 1 (11350 + i)) (ht : TR w m tr) (htr : tr + 17 < 2 ^ 30) (hx : AxT w m) (hp : p < 60) (h26 : m 1 (104 * p + 26) = 1) (hg : g < T + 1) (eg : m 1 (104 * p + 32) = nI g) (hv : v0 < T + 1) (ev : m 1 (104 * p + 30) = nI v0) (hb : b + 30 < 120000) (hC : C + 30 < 2 ^ 30) :
    ∃ w' n m' tr', (∀ (k15 : Int32 → Int32 → CW → Option (CW × Nat)) (x1 x2 : Int32) (w'' : CW) (n'' : Nat), k15 x1 (x2 + 1) w' = some (w'', n'') → ((f_X9_read (nI p) 11 w).bind fun y10 => (f_X9_read (nI p) (48 + y10) w).bind fun y11 => (f_X9_kindOf y11).bind fun y12 => (f_X9_enter (nI p) w).bind fun y13 => (f_X9_askWishes (nI p) y12 y13).bind fun y14 => (f_X9_fitsBounds y14).bind fun y15 => if y15 = 0 then (bnc (f_X9_waitOn (nI p) y14) fun y17 => f_X9_serveRuns_b81 k15 x1 x2 (nI p) y17) else (bnc (f_X9_goOn (nI p) y12 y14) fun y18 => f_X9_serveRuns_b81 k15 x1 x2 (nI p) y18)) = some (w'', n + n'')) ∧ f_X10_goesOrWaits (nI p) m = some m' ∧ HCx w' (T + 1) T O (b + 22) Z hc ∧ HMx m' T O (b + 22) Z (C + 22) hm ∧ Rs (pn (w'.1 11) (m' 1)) (m' 1) (T + 1) ∧ (∀ i, i < 3 → w'.1 10 i = m' 1 (11350 + i)) ∧ TR w' m' tr' ∧ tr' ≤ tr + 17 ∧ AxT w' m' ∧ w'.1 7 = w.1 7 ∧ m' 14 = m 14 ∧ (∀ j, j < 6240 → (j < 104 * p ∨ 104 * p + 104 ≤ j) → m' 1 j = m 1 j) ∧ 4096 * n + 2 * w.2 = 2 * w'.2 := by
  obtain ⟨pa, pb, pr, pc, pe⟩ := hs.1 p hp
  have kc : ∀ k, k < 78 → cv (pn (w.1 11) (m 1)) p k = w.1 11 (78 * p + k) := fun k hk => pn_ne (by omega)
  rcases pr with ⟨r1, -⟩ | ⟨r1, h101, h0, N, a, l, t1, t2, t3, t4, t5, t6, t7, t8, t9, t10, t11, t12⟩
  · have r1' : m 1 (104 * p + 26) = 0 := r1
    rw [r1'] at h26; exact absurd h26 (by decide)
  have r10 : w.1 11 (78 * p + 10) = nI N := (kc 10 (by omega)).symm.trans t7
  have r11 : w.1 11 (78 * p + 11) = nI a := (kc 11 (by omega)).symm.trans t9
  have r12 : w.1 11 (78 * p + 12) = nI l := (kc 12 (by omega)).symm.trans t11
  have rst : ∀ i, i < N → ∃ k u, k ≤ 4 ∧ 1 ≤ u ∧ u ≤ 200 ∧ m 1 (104 * p + (41 + i)) = nI k ∧ m 1 (104 * p + (71 + i)) = nI u ∧ w.1 11 (78 * p + (48 + i)) = nI (1000 * k + u) := fun i hi => by
    obtain ⟨k, u, u1, u2, u3, u4, u5, u6⟩ := t12 i hi
    exact ⟨k, u, u1, u2, u3, u4, u5, (kc (48 + i) (by omega)).symm.trans u6⟩
  obtain ⟨ks, u, s1, s2, s3, s4, s5, s6⟩ := rst a t3
  obtain ⟨k, hk, ek⟩ : ∃ k, k ≤ 4 ∧ m 1 (104 * p) = nI (k + 1) := by
    obtain ⟨k0, hk0, ek0⟩ := pa.1
    have ek1 : m 1 (104 * p) = nI k0 := ek0
    cases k0 with
    | zero => exact absurd ek0 h0
    | succ k => exact ⟨k, by omega, ek1⟩
  have ec : w.1 11 (78 * p + 0) = nI (k + 1) := ((kc 0 (by omega)).symm.trans pa.2.1).trans ek
  have e8 : m 1 (104 * p + 7) = w.1 11 (78 * p + 8) := ((kc 8 (by omega)).symm.trans pa.2.2.2.1).symm
  obtain ⟨v, hvd⟩ : ∃ v, v = 1 + w.1 11 (78 * p + 8) := ⟨_, rfl⟩
  have ew : (enC w p v).1 11 = w.1 11 := enC_ne (by decide)
  have em : (toM m p v) 1 = m 1 := toM_ne (by decide)
  have em0 : (toM m p v) 0 = m 0 := toM_ne (by decide)
  obtain ⟨w1, m1, tr1, q1, q2, q3, q4, q5, q6, q7, q8⟩ := ask2 (w := enC w p v) (m := toM m p v) (p := p) (k := k) (x := nI ks) (ht.cg (enC_ne (by decide)) (enC_ne (by decide)) (by rw [em0]) (toM_ne (by decide))) hp hk (by rw [em]; exact ek) (by rw [ew]; exact ec) (by rw [em, ew]; exact e8) (by omega)
  have ew1 : w1.1 11 = w.1 11 := (q6 11 (by decide) (by decide) (by decide)).trans ew
  have em1 : m1 1 = m 1 := (q8.1 1 (by decide) (by decide) (by decide)).trans em
  have HC1 : HCx w1 (T + 1) T O b Z hc := (HC.en (p := p) (v := v)).congr q7 (q6 1 (by decide) (by decide) (by decide)) (q6 11 (by decide) (by decide) (by decide)) (q6 12 (by decide) (by decide) (by decide)) (q6 13 (by decide) (by decide) (by decide))
  have HM1 : HMx m1 T O b Z C hm := (HM.to6 (p := p) (v := v)).fam q8
  have hs1 : Rs (pn (w1.1 11) (m1 1)) (m1 1) (T + 1) := by rw [ew1, em1]; exact hs
  have U1 : ∀ i, i < 3 → w1.1 10 i = m1 1 (11350 + i) := fun i hi => by rw [q6 10 (by decide) (by decide) (by decide), enC_ne (by decide), em1]; exact U i hi
  have hz : ∀ i, i < 3 → w1.1 11 (8544 + i) = m1 1 (11353 + i) := fun i hi => by
    have h1 := (hs1.2.2.2.2.2.1.1 i hi).1
    rw [pn_ne (by omega)] at h1
    exact h1
  have hfit := fits_s (w := w1) (U := fun i => m1 1 (11350 + i)) U1
  have hcls : ∀ (k15 : Int32 → Int32 → CW → Option (CW × Nat)) (x1 x2 : Int32), ((f_X9_read (nI p) 11 w).bind fun y10 => (f_X9_read (nI p) (48 + y10) w).bind fun y11 => (f_X9_kindOf y11).bind fun y12 => (f_X9_enter (nI p) w).bind fun y13 => (f_X9_askWishes (nI p) y12 y13).bind fun y14 => (f_X9_fitsBounds y14).bind fun y15 => if y15 = 0 then (bnc (f_X9_waitOn (nI p) y14) fun y17 => f_X9_serveRuns_b81 k15 x1 x2 (nI p) y17) else (bnc (f_X9_goOn (nI p) y12 y14) fun y18 => f_X9_serveRuns_b81 k15 x1 x2 (nI p) y18)) = if (m1 1 (11350 + 0) + w1.1 9 0 ≤ w1.1 11 8544 ∧ m1 1 (11350 + 1) + w1.1 9 1 ≤ w1.1 11 8545) ∧ m1 1 (11350 + 2) + w1.1 9 2 ≤ w1.1 11 8546 then (bnc (f_X9_goOn (nI p) (nI ks) w1) fun y18 => f_X9_serveRuns_b81 k15 x1 x2 (nI p) y18) else (bnc (f_X9_waitOn (nI p) w1) fun y17 => f_X9_serveRuns_b81 k15 x1 x2 (nI p) y17) := by
    intro k15 x1 x2
    have o11 : f_X9_read (nI p) 11 w = some (nI a) := by rw [read_k (k := 11) (by rfl) hp (by omega), r11]
    have o48 : f_X9_read (nI p) (48 + nI a) w = some (nI (1000 * ks + u)) := by rw [read_k (k := 48 + a) (by exact nI_add 48 a) hp (by omega), s6]
    have oko : f_X9_kindOf (nI (1000 * ks + u)) = some (nI ks) := by
      unfold f_X9_kindOf
      rw [show nI (1000 * ks + u) / (1000 : Int32) = nI ((1000 * ks + u) / 1000) from pk_div (a := 1000 * ks + u) (d := 1000) (by omega) (by omega) (by omega), show (1000 * ks + u) / 1000 = ks by omega]
    rw [o11, Option.bind_some, o48, Option.bind_some, oko, Option.bind_some, enter_s hp, ← hvd, Option.bind_some, q1, Option.bind_some, hfit, Option.bind_some, gd]
  have hmod : f_X10_goesOrWaits (nI p) m = if (m1 1 (11350 + 0) + w1.1 9 0 ≤ w1.1 11 8544 ∧ m1 1 (11350 + 1) + w1.1 9 1 ≤ w1.1 11 8545) ∧ m1 1 (11350 + 2) + w1.1 9 2 ≤ w1.1 11 8546 then ((f_X10_goes (nI p) (nI ks) m1).bind fun y8 => some y8) else ((f_X10_of (nI p) 33 m1).bind fun y3 => (f_X10_let (nI p) 33 (y3 + 1) m1).bind fun y4 => (f_X10_of (nI p) 30 y4).bind fun y5 => (f_X10_let (nI p) 30 (y5 + 1) y4).bind fun y6 => (f_X10_let (nI p) 4 3 y6).bind fun y7 => some y7) := by
    have o28 : f_X10_of (nI p) 28 (toM m p v) = some (nI a) := by rw [of_s (k := 28) (by rfl) (by omega), em]; exact congrArg some t8
    have o41 : f_X10_of (nI p) (41 + nI a) (toM m p v) = some (nI ks) := by rw [of_s (k := 41 + a) (by exact nI_add 41 a) (by omega), em, s4]
    unfold f_X10_goesOrWaits
    rw [mtouch_s hp, Option.bind_some, e8, ← hvd, o28, Option.bind_some, o41, Option.bind_some, q2, Option.bind_some, gow_s, q5 0 (by omega), q5 1 (by omega), q5 2 (by omega), show w1.1 11 8544 = m1 1 (11353 + 0) from hz 0 (by omega), show w1.1 11 8545 = m1 1 (11353 + 1) from hz 1 (by omega), show w1.1 11 8546 = m1 1 (11353 + 2) from hz 2 (by omega)]
  have fin : ∀ (y : CW) (m2 : MW) (tr2 : Nat), y.1 5 = w1.1 5 → y.1 6 = w1.1 6 → y.1 17 = w1.1 17 → y.1 0 = w1.1 0 → m2 6 = m1 6 → m2 7 = m1 7 → (∀ k, k ≠ 4 → k ≠ 11 → m2 0 k = m1 0 k) → AxT (lvC y p v) m2 := by
    intro y m2 tr2 f5 f6 f17 f0 f6' f7' f0'
    exact hx.touch (f5.trans (q6 5 (by decide) (by decide) (by decide))) (f6.trans ((q6 6 (by decide) (by decide) (by decide)).trans (enC_ne (by decide)))) (f17.trans ((q6 17 (by decide) (by decide) (by decide)).trans (enC_ne (by decide)))) (f0.trans ((q6 0 (by decide) (by decide) (by decide)).trans (enC_ne (by decide)))) (f6'.trans (q8.1 6 (by decide) (by decide) (by decide))) (f7'.trans ((q8.1 7 (by decide) (by decide) (by decide)).trans (toM_ne (by decide)))) (fun k k1 k2 => by rw [f0' k (by omega) (by omega), q8.2 k (by omega), em0])
  have e2 : (enC w p v).2 = w.2 := rfl
  by_cases hF : (m1 1 (11350 + 0) + w1.1 9 0 ≤ w1.1 11 8544 ∧ m1 1 (11350 + 1) + w1.1 9 1 ≤ w1.1 11 8545) ∧ m1 1 (11350 + 2) + w1.1 9 2 ≤ w1.1 11 8546
  · have t6' : m1 1 (104 * p + 27) = nI N := by rw [em1]; exact t6
    have t8' : m1 1 (104 * p + 28) = nI a := by rw [em1]; exact t8
    have t10' : m1 1 (104 * p + 29) = nI l := by rw [em1]; exact t10
    have h101' : m1 1 (104 * p + 101) = 0 := by rw [em1]; exact h101
    have rst' : ∀ i, i < N → ∃ k u, k ≤ 4 ∧ 1 ≤ u ∧ u ≤ 200 ∧ m1 1 (104 * p + (41 + i)) = nI k ∧ m1 1 (104 * p + (71 + i)) = nI u ∧ w1.1 11 (78 * p + (48 + i)) = nI (1000 * k + u) := by rw [em1, ew1]; exact rst
    obtain ⟨w', n, m', tr', g1, g2, g3, g4, g5, g6, g7, g8, g9, g10, g11, g12, g13⟩ := goes_s (w := w1) (m := m1) (T := T) (p := p) (O := O) (b := b) (Z := Z) (C := C) (tr := tr1) (k := k) (ks := ks) (N := N) (a := a) (l := l) (g := g) (hc := hc) (hm := hm) HC1 HM1 hs1 U1 q5 q4 (by omega) hp hk (by rw [em1]; exact ek) (by rw [em1]; exact h26) t2 t3 t4 t5 t6' (by rw [ew1]; exact r10) t8' (by rw [ew1]; exact r11) t10' (by rw [ew1]; exact r12) rst' s1 hg (by rw [em1]; exact eg) h101' hb hC
    rw [ew1, ← hvd] at g1
    refine ⟨lvC w' p v, n, m', tr', fun k15 x1 x2 w'' n'' hk' => ?_, ?_, g3.lv, g4, by rw [lvC_ne (by decide)]; exact g5, fun i hi => by rw [lvC_ne (by decide)]; exact g6 i hi, g7.lv, by omega, fin w' m' 0 (g9 5 (by decide) (by decide) (by decide) (by decide) (by decide) (by decide) (by decide)) (g9 6 (by decide) (by decide) (by decide) (by decide) (by decide) (by decide) (by decide)) (g9 17 (by decide) (by decide) (by decide) (by decide) (by decide) (by decide) (by decide)) (g9 0 (by decide) (by decide) (by decide) (by decide) (by decide) (by decide) (by decide)) (g10 6 (by decide) (by decide) (by decide) (by decide) (by decide)) (g10 7 (by decide) (by decide) (by decide) (by decide) (by decide)) g11, ?_, ?_, fun j hj hj2 => by rw [g12 j hj hj2, em1], ?_⟩
    · rw [hcls, if_pos hF]
      exact g1 k15 x1 x2 w'' n'' hk'
    · rw [hmod, if_pos hF, g2, Option.bind_some]
    · rw [lvC_ne (by decide), g9 7 (by decide) (by decide) (by decide) (by decide) (by decide) (by decide) (by decide), q6 7 (by decide) (by decide) (by decide), enC_ne (by decide)]
    · rw [g10 14 (by decide) (by decide) (by decide) (by decide) (by decide), q8.1 14 (by decide) (by decide) (by decide), toM_ne (by decide)]
    · show 4096 * n + 2 * w.2 = 2 * w'.2
      omega
  · obtain ⟨y1, n1, a1, a2, a3, a4, a5⟩ := grow_k (p := p) (k := 6) (x := 6) (v := 1) rfl HC1 ew1 hp (by omega) (by omega)
    obtain ⟨y2, n2, b1, b2, b3, b4, b5⟩ := grow_k (p := p) (k := 28) (x := 28) (v := 1) rfl a2 a3 hp (by omega) (by omega)
    obtain ⟨y3, n3, c1, c2, c3, c4, c5⟩ := write_k (p := p) (k := 3) (x := 3) (v := 3) rfl b2 b3 hp (by omega) (by omega)
    obtain ⟨m2, d1, d2, d3, d4⟩ := let_k (p := p) (k := 33) (x := 33) (v := m 1 (104 * p + 33) + 1) rfl HM1 em1 (by omega) (by omega) (by omega)
    obtain ⟨m3, e1, e2', e3, e4⟩ := let_k (p := p) (k := 30) (x := 30) (v := nI v0 + 1) rfl d2 d3 (by omega) (by omega) (by omega)
    obtain ⟨m4, f1, f2, f3, f4⟩ := let_k (p := p) (k := 4) (x := 4) (v := 3) rfl e2' e3 (by omega) (by omega) (by omega)
    have fr := a4.trans (b4.trans c4)
    have frM := d4.trans (e4.trans f4)
    have hX : ∀ j, j ≠ 78 * p + 3 → j ≠ 78 * p + 6 → j ≠ 78 * p + 28 → y3.1 11 j = w.1 11 j := fun j h3 h6 h28 => by rw [c3, upd_ne _ _ h3, upd_ne _ _ h28, upd_ne _ _ h6]
    have hY : ∀ j, j ≠ 104 * p + 4 → j ≠ 104 * p + 30 → j ≠ 104 * p + 33 → m4 1 j = m 1 j := fun j h3 h6 h28 => by rw [f3, upd_ne _ _ h3, upd_ne _ _ h6, upd_ne _ _ h28]
    have w6 : w.1 11 (78 * p + 6) = nI v0 := ((kc 6 (by omega)).symm.trans pc.2.2.2.2.2.1).trans ev
    have w28 : w.1 11 (78 * p + 28) = m 1 (104 * p + 33) := (kc 28 (by omega)).symm.trans (pb.1 1 (by omega))
    have x12 : y3.1 11 (78 * p + 12) = nI l := by rw [hX _ (by omega) (by omega) (by omega)]; exact r12
    have x8 : 1 + y3.1 11 (78 * p + 8) = v := by rw [hX _ (by omega) (by omega) (by omega), hvd]
    have hRs : Rs (pn (y3.1 11) (m4 1)) (m4 1) (T + 1) := by
      refine wait_rs (v := v0) hs hp h26 (by omega) hX hY ?_ ?_ ?_ ?_ ?_
      · rw [c3, upd_ne _ _ (by omega), upd_ne _ _ (by omega), upd_at, w6, nI_1]
      · rw [f3, upd_ne _ _ (by omega), upd_at, nI_1]
      · rw [c3, upd_ne _ _ (by omega), upd_at, upd_ne _ _ (by omega), f3, upd_ne _ _ (by omega), upd_ne _ _ (by omega), upd_at, w28]
      · rw [c3, upd_at]
      · rw [f3, upd_at]
    refine ⟨lvC y3 p v, n1 + (n2 + (n3 + 0)), m4, tr1, fun k15 x1 x2 w'' n'' hk' => ?_, ?_, (c2.lv).mono (by omega) (Nat.le_refl _), f2.mono (by omega) (Nat.le_refl _) (by omega), by rw [lvC_ne (by decide)]; exact hRs, fun i hi => ?_, TR.lv (q4.cg (fr 3 (by decide) (by decide) (by decide) (by decide)) (fr 19 (by decide) (by decide) (by decide) (by decide)) (frM.2 11 (by decide)) (frM.1 5 (by decide) (by decide) (by decide) (by decide))), by omega, fin y3 m4 0 (fr 5 (by decide) (by decide) (by decide) (by decide)) (fr 6 (by decide) (by decide) (by decide) (by decide)) (fr 17 (by decide) (by decide) (by decide) (by decide)) (fr 0 (by decide) (by decide) (by decide) (by decide)) (frM.1 6 (by decide) (by decide) (by decide) (by decide)) (frM.1 7 (by decide) (by decide) (by decide) (by decide)) (fun k k4 _ => frM.2 k k4), ?_, ?_, fun j hj hj2 => hY j (by omega) (by omega) (by omega), ?_⟩
    · rw [hcls, if_neg hF]
      have hw : f_X9_waitOn (nI p) w1 = some (y3, n1 + (n2 + (n3 + 0))) := by
        unfold f_X9_waitOn
        exact bnc_of a1 (bnc_of b1 (bnc_of c1 rfl))
      refine bnc_of hw ?_
      show f_X9_serveRuns_b81 k15 x1 x2 (nI p) y3 = _
      rw [b81_run hp x12 t4 t5 x8]
      exact hk'
    · have o33 : f_X10_of (nI p) 33 m1 = some (m 1 (104 * p + 33)) := by rw [of_s (k := 33) (by rfl) (by omega), em1]
      have o30 : f_X10_of (nI p) 30 m2 = some (nI v0) := by rw [of_s (k := 30) (by rfl) (by omega), d3, upd_ne _ _ (by omega), ev]
      rw [hmod, if_neg hF, o33, Option.bind_some, d1, Option.bind_some, o30, Option.bind_some, e1, Option.bind_some, f1, Option.bind_some]
    · rw [lvC_ne (by decide), fr 10 (by decide) (by decide) (by decide) (by decide), U1 i hi, em1, hY _ (by omega) (by omega) (by omega)]
    · rw [lvC_ne (by decide), fr 7 (by decide) (by decide) (by decide) (by decide), q6 7 (by decide) (by decide) (by decide), enC_ne (by decide)]
    · rw [frM.1 14 (by decide) (by decide) (by decide) (by decide), q8.1 14 (by decide) (by decide) (by decide), toM_ne (by decide)]
    · show 4096 * (n1 + (n2 + (n3 + 0))) + 2 * w.2 = 2 * y3.2
      omega
end O7
