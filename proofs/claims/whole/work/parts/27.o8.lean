section O8
variable {w : CW} {now s : Nat → Int32} {T p : Nat}
theorem HMx.m14 {m : MW} {O b Z C k : Nat} {v : Int32} {hist : Nat → Nat → Int32} (h : HMx m T O b Z C hist) : HMx (mst m 14 k v) T O b Z C hist := by
  obtain ⟨c, mk, h⟩ := h
  exact ⟨c, mk, h.congr (by rw [mst_ne _ _ _ (by decide)]) (by rw [mst_ne _ _ _ (by decide)]) (mst_ne _ _ _ (by decide)) (mst_ne _ _ _ (by decide)) (mst_ne _ _ _ (by decide)) (mst_ne _ _ _ (by decide))⟩
theorem HMx.w14 {m m' : MW} {O b Z C : Nat} {hist : Nat → Nat → Int32} (h : HMx m T O b Z C hist) (h14 : W14 m m') : HMx m' T O b Z C hist := by
  obtain ⟨c, mk, h⟩ := h
  exact ⟨c, mk, h.congr (by rw [h14 0 (by decide)]) (by rw [h14 0 (by decide)]) (h14 1 (by decide)) (h14 2 (by decide)) (h14 3 (by decide)) (h14 4 (by decide))⟩
theorem bef_ne {f : Nat → Nat} {a b : Nat} (h : bef f a b) : a ≠ b := fun e => by
  subst e
  unfold bef at h
  omega
theorem serveL {O Z R : Nat} {hc hm : Nat → Nat → Int32} {s0 : Nat → Int32} {od : Nat → Nat} (hR : R ≤ 60) (ho : Ordr s0 60 R od) (hw0 : ∀ q, q < 60 → wt s0 q < T + 1 ∧ s0 (104 * q + 30) = nI (wt s0 q)) (hg0 : ∀ q, q < 60 → ∃ g, g < T + 1 ∧ s0 (104 * q + 32) = nI g) (hT : T < 99000) : ∀ (d kf i b C tr : Nat) (w : CW) (m : MW), i + d = R → d < kf → HCx w (T + 1) T O b Z hc → HMx m T O b Z C hm → Rs (pn (w.1 11) (m 1)) (m 1) (T + 1) → (∀ i, i < 3 → w.1 10 i = m 1 (11350 + i)) → TR w m tr → AxT w m → (∀ j, j < R → w.1 7 j = nI (od j)) → (∀ j, i ≤ j → j < R → ∀ k, k < 104 → m 1 (104 * od j + k) = s0 (104 * od j + k)) → (∀ j, i ≤ j → j < R → m 14 (od j) = nI (wt s0 (od j))) → (∀ q, q < 60 → (∀ j, i ≤ j → j < R → od j ≠ q) → m 14 q = -1) → b + 22 * d + 30 < 120000 → C + 22 * d + 30 < 2 ^ 30 → tr + 17 * d + 17 < 2 ^ 30 →
    ∃ w' n m' tr' kf', (∀ (w'' : CW) (n'' : Nat), f_X9_serveRuns_l107 FU 0 w' = some (w'', n'') → f_X9_serveRuns_l15 kf (nI R) (nI i) w = some (w'', n + n'')) ∧ f_X10_oneMinute_l187 kf (nI R) (nI i) m = f_X10_oneMinute_l187 (kf' + 1) (nI R) (nI R) m' ∧ HCx w' (T + 1) T O (b + 22 * d) Z hc ∧ HMx m' T O (b + 22 * d) Z (C + 22 * d) hm ∧ Rs (pn (w'.1 11) (m' 1)) (m' 1) (T + 1) ∧ (∀ i, i < 3 → w'.1 10 i = m' 1 (11350 + i)) ∧ TR w' m' tr' ∧ tr' ≤ tr + 17 * d ∧ AxT w' m' ∧ 4096 * n + 2 * w.2 = 2 * w'.2
  | d, 0, i, b, C, tr, w, m, _, h, _, _, _, _, _, _, _, _, _, _, _, _, _ => by omega
  | 0, kf + 1, i, b, C, tr, w, m, h, _, HC, HM, hs, U, ht, hx, hl, hcell, hwt, hno, hb, hC, htr => by
    have hi : i = R := by omega
    refine ⟨w, 0, m, tr, kf, fun w'' n'' hk => ?_, by rw [hi], HC, HM, hs, U, ht, by omega, hx, by omega⟩
    show f_X9_serveRuns_l15_body (f_X9_serveRuns_l15 kf) (nI R) (nI i) w = _
    unfold f_X9_serveRuns_l15_body
    rw [if_pos (nI_le (by omega) (by omega)), Nat.zero_add]
    exact hk
  | d + 1, kf + 1, i, b, C, tr, w, m, h, hk, HC, HM, hs, U, ht, hx, hl, hcell, hwt, hno, hb, hC, htr => by
    have hi : i < R := by omega
    obtain ⟨o1, o2, o3⟩ := ho
    have ha : od i < 60 := (o1 i hi).1
    obtain ⟨g, hg, eg⟩ := hg0 (od i) ha
    have hwa := (hw0 (od i) ha).1
    have mm1 : (mst m 14 (od i) (-1)) 1 = m 1 := mst_ne _ _ _ (by decide)
    have mm0 : (mst m 14 (od i) (-1)) 0 = m 0 := mst_ne _ _ _ (by decide)
    have h26 : m 1 (104 * od i + 26) = 1 := (hcell i (Nat.le_refl _) hi 26 (by omega)).trans (o1 i hi).2
    have eg' : m 1 (104 * od i + 32) = nI g := (hcell i (Nat.le_refl _) hi 32 (by omega)).trans eg
    have ev' : m 1 (104 * od i + 30) = nI (wt s0 (od i)) := (hcell i (Nat.le_refl _) hi 30 (by omega)).trans (hw0 (od i) ha).2
    obtain ⟨w1, n1, m1, tr1, g1, g2, g3, g4, g5, g6, g7, g8, g9, g10, g11, g12, g13⟩ := serve1 (p := od i) (m := mst m 14 (od i) (-1)) HC (HM.m14) (by rw [mm1]; exact hs) (by rw [mm1]; exact U) (ht.cg rfl rfl (by rw [mm0]) (mst_ne _ _ _ (by decide))) (by omega) (hx.cg rfl rfl rfl rfl (mst_ne _ _ _ (by decide)) (mst_ne _ _ _ (by decide)) (fun k _ _ => by rw [mm0])) ha (by rw [mm1]; exact h26) hg (by rw [mm1]; exact eg') hwa (by rw [mm1]; exact ev') (by omega) (by omega)
    have ne : ∀ j, i < j → j < R → od i ≠ od j := fun j h1 h2 => bef_ne (o2 i j h1 h2)
    have m14 : ∀ q, m1 14 q = upd (m 14) (od i) (-1) q := fun q => by rw [g11, mst_at]
    obtain ⟨w', n, m', tr', kf', r1, r2, r3, r4, r5, r6, r7, r8, r9, r10⟩ := serveL hR ⟨o1, o2, o3⟩ hw0 hg0 hT d kf (i + 1) (b + 22) (C + 22) tr1 w1 m1 (by omega) (by omega) g3 g4 g5 g6 g7 g9 (fun j hj => by rw [g10]; exact hl j hj) (fun j h1 h2 k hk => by
        have hne := ne j (by omega) h2
        have hlt := (o1 j h2).1
        rw [g12 _ (by omega) (by omega), mm1]
        exact hcell j (by omega) h2 k hk) (fun j h1 h2 => by
        rw [m14, upd_ne _ _ (ne j (by omega) h2).symm]
        exact hwt j (by omega) h2) (fun q hq hn => by
        rw [m14]
        by_cases e : q = od i
        · rw [e, upd_at]
        · rw [upd_ne _ _ e]
          refine hno q hq (fun j h1 h2 => ?_)
          by_cases ej : j = i
          · rw [ej]; exact fun q' => e q'.symm
          · exact hn j (by omega) h2) (by omega) (by omega) (by omega)
    have hp1 : ∀ q, q < od i → m 14 q < m 14 (od i) := by
      intro q hq
      rw [hwt i (Nat.le_refl _) hi]
      by_cases hex : ∃ j, i ≤ j ∧ j < R ∧ od j = q
      · obtain ⟨j, h1, h2, rfl⟩ := hex
        have hij : i < j := by
          rcases Nat.lt_or_ge i j with c | c
          · exact c
          · have : j = i := by omega
            rw [this] at hq; omega
        rw [hwt j h1 h2]
        rcases o2 i j hij h2 with c | ⟨-, c⟩
        · exact nI_lt c (by omega)
        · omega
      · rw [hno q (by omega) (fun j h1 h2 e => hex ⟨j, h1, h2, e⟩)]
        exact neg1_lt (by omega)
    have hp2 : ∀ q, od i < q → q < 60 → m 14 q ≤ m 14 (od i) := by
      intro q hq hq2
      rw [hwt i (Nat.le_refl _) hi]
      by_cases hex : ∃ j, i ≤ j ∧ j < R ∧ od j = q
      · obtain ⟨j, h1, h2, rfl⟩ := hex
        have hij : i < j := by
          rcases Nat.lt_or_ge i j with c | c
          · exact c
          · have : j = i := by omega
            rw [this] at hq; omega
        rw [hwt j h1 h2]
        rcases o2 i j hij h2 with c | ⟨c, -⟩
        · exact nI_le (by omega) (by omega)
        · exact nI_le (by omega) (by omega)
      · rw [hno q hq2 (fun j h1 h2 e => hex ⟨j, h1, h2, e⟩)]
        exact Int32.not_lt.mp (fun q' => by
          have c1 := Int32.lt_iff_toInt_lt.mp q'
          have c2 := Int32.lt_iff_toInt_lt.mp (neg1_lt (show wt s0 (od i) < 2 ^ 31 by omega))
          omega)
    refine ⟨w', n1 + n, m', tr', kf', fun w'' n'' hk' => ?_, ?_, ?_, ?_, r5, r6, r7, by omega, r9, by omega⟩
    · show f_X9_serveRuns_l15_body (f_X9_serveRuns_l15 kf) (nI R) (nI i) w = _
      unfold f_X9_serveRuns_l15_body
      rw [if_neg (nI_ge hi (by omega)), chk_t (inb_nI (by omega) (by omega)), nI_clamp (by omega), hl i hi, Nat.add_assoc]
      exact g1 (f_X9_serveRuns_l15 kf) (nI R) (nI i) w'' (n + n'') (by rw [nI_1]; exact r1 w'' n'' hk')
    · show f_X10_oneMinute_l187_body (f_X10_oneMinute_l187 kf) (nI R) (nI i) m = _
      unfold f_X10_oneMinute_l187_body
      rw [if_neg (nI_ge hi (by omega)), show f_X10_oneMinute_l197 (f_X10_oneMinute_l187 kf) FU (nI R) (nI i) 0 1 m = _ from pick_s (x1 := nI R) (x2 := nI i) ha hp1 hp2 59 FU 1 0 (by omega) (by unfold FU; omega) (by omega) (by omega), g2, Option.bind_some, nI_1]
      exact r2
    · rw [show b + 22 * (d + 1) = b + 22 + 22 * d by omega]; exact r3
    · rw [show b + 22 * (d + 1) = b + 22 + 22 * d by omega, show C + 22 * (d + 1) = C + 22 + 22 * d by omega]; exact r4
theorem l107_s {τ O b Z : Nat} {hist : Nat → Nat → Int32} (h : HCx w τ T O b Z hist) (e : w.1 11 = now) (hb : b + 3 < 120000) : OkV (f_X9_serveRuns_l107 FU 0 w) w τ T O (b + 3) Z hist (upd (upd (upd now 8547 (w.1 10 0)) 8548 (w.1 10 1)) 8549 (w.1 10 2)) := by
  have i0 : inb (0 : Int32) 3 := lit_in (a := 0) rfl (by omega) (by omega)
  have i1 : inb (1 : Int32) 3 := lit_in (a := 1) rfl (by omega) (by omega)
  have i2 : inb (2 : Int32) 3 := lit_in (a := 2) rfl (by omega) (by omega)
  have l0 : (0 : Int32).toNatClampNeg = 0 := rfl
  have l1 : (1 : Int32).toNatClampNeg = 1 := rfl
  have l2 : (2 : Int32).toNatClampNeg = 2 := rfl
  have e0 : f_X9_serveRuns_l107 FU 0 w = f_X9_serveRuns_l107 (FU - 4 + 1 + 1 + 1 + 1) 0 w := by rw [show FU - 4 + 1 + 1 + 1 + 1 = FU by unfold FU; rfl]
  rw [e0]
  show OkV (f_X9_serveRuns_l107_body (f_X9_serveRuns_l107 (FU - 4 + 1 + 1 + 1)) 0 w) _ _ _ _ _ _ _ _
  unfold f_X9_serveRuns_l107_body
  rw [if_neg (by decide), chk_t i0, l0]
  refine (sl_k (a := 8547) rfl h e (by omega) (by omega)).bv fun w1 h1 q1 f1 => ?_
  show OkV (f_X9_serveRuns_l107_body (f_X9_serveRuns_l107 (FU - 4 + 1 + 1)) (0 + 1) w1) _ _ _ _ _ _ _ _
  unfold f_X9_serveRuns_l107_body
  rw [show (0 : Int32) + 1 = 1 from rfl, if_neg (by decide), chk_t i1, l1, f1 10 (by decide) (by decide) (by decide) (by decide)]
  refine (sl_k (a := 8548) rfl h1 q1 (by omega) (by omega)).bv fun w2 h2 q2 f2 => ?_
  show OkV (f_X9_serveRuns_l107_body (f_X9_serveRuns_l107 (FU - 4 + 1)) (1 + 1) w2) _ _ _ _ _ _ _ _
  unfold f_X9_serveRuns_l107_body
  rw [show (1 : Int32) + 1 = 2 from rfl, if_neg (by decide), chk_t i2, l2, f2 10 (by decide) (by decide) (by decide) (by decide), f1 10 (by decide) (by decide) (by decide) (by decide)]
  refine (sl_k (a := 8549) rfl h2 q2 (by omega) (by omega)).bv fun w3 h3 q3 f3 => ?_
  show OkV (f_X9_serveRuns_l107_body (f_X9_serveRuns_l107 (FU - 4)) (2 + 1) w3) _ _ _ _ _ _ _ _
  unfold f_X9_serveRuns_l107_body
  rw [if_pos (by decide)]
  exact OkV.dn h3 q3
theorem pn_fin (U : ∀ i, i < 3 → w.1 10 i = s (11350 + i)) : upd (upd (upd now 8547 (w.1 10 0)) 8548 (w.1 10 1)) 8549 (w.1 10 2) = pn now s := by
  funext j
  by_cases h : 8547 ≤ j ∧ j < 8550
  · rcases (by omega : j = 8547 ∨ j = 8548 ∨ j = 8549) with rfl | rfl | rfl
    · rw [upd_ne _ _ (by omega), upd_ne _ _ (by omega), upd_at, U 0 (by omega)]
      exact (pn_in (i := 0) (by omega)).symm
    · rw [upd_ne _ _ (by omega), upd_at, U 1 (by omega)]
      exact (pn_in (i := 1) (by omega)).symm
    · rw [upd_at, U 2 (by omega)]
      exact (pn_in (i := 2) (by omega)).symm
  · rw [pn_ne (by omega), upd_ne _ _ (by omega), upd_ne _ _ (by omega), upd_ne _ _ (by omega)]
theorem oneMin {m : MW} {O b Z C tr : Nat} {hc hm : Nat → Nat → Int32} (HC : HCx w T T O b Z hc) (HM : HMx m T O b Z C hm) (hs : Rs (w.1 11) (m 1) T) (h4 : T ≠ 0 → ∀ t, O ≤ t → t ≤ T → Rs (hc t) (hm t) t) (hx : AxT w m) (ht : TR w m tr) (hbZ : b ≤ Z) (hT : T < 98000) (hZ : Z + 3000 < 120000) (hC : C + 3000 < 2 ^ 30) (htr : tr + 2000 < 2 ^ 30) :
    ∃ w' n m' tr' O' hc' hm', (∀ (kk : CW → Option ((Int32 × CW) × Nat)) (r : Int32 × CW) (n'' : Nat), kk w' = some (r, n'') → ((f_X1_beginMinute w).bind fun y3 => bnc (f_X9_breakDown y3) fun y4 => bnc (f_X9_serveRuns y4) fun y5 => (f_X1_endMinute y5).bind fun y6 => kk y6) = some (r, n + n'')) ∧ f_X10_oneMinute m = some m' ∧ HCx w' (T + 1) (T + 1) O' Z Z hc' ∧ HMx m' (T + 1) O' Z Z (C + 1330) hm' ∧ Rs (w'.1 11) (m' 1) (T + 1) ∧ (∀ t, O' ≤ t → t ≤ T + 1 → Rs (hc' t) (hm' t) t) ∧ AxT w' m' ∧ TR w' m' tr' ∧ tr' ≤ tr + 1020 ∧ 4096 * n + 2 * w.2 = 2 * w'.2 := by
  obtain ⟨wa, Oa, ha, a1, a2, a3, a4, a5, a6, a7⟩ := begin_s HC
  obtain ⟨ma, Ob, hb', b1, b2, b3, b4, b5, b6⟩ := mbegin_s HM hs.2.2.2.2.2.2 (by omega) (by omega) (by omega)
  have eO : Ob = Oa := by
    by_cases h0 : T = 0
    · rw [(a6 h0).1, (b5 h0).1]
    · rw [(a7 h0).1, (b6 h0).1]
  subst eO
  have hist : ∀ t, Ob ≤ t → t ≤ T → Rs (ha t) (hb' t) t := by
    intro t h1 h2
    by_cases h0 : T = 0
    · have ht0 : t = 0 := by omega
      rw [ht0, (a6 h0).2, (b5 h0).2]
      rw [h0] at hs
      exact hs
    · rw [(a7 h0).2, (b6 h0).2]
      rw [(a7 h0).1] at h1
      exact h4 h0 t h1 h2
  have hsa : Rs (wa.1 11) (ma 1) (T + 1) := by rw [a3, b3]; exact hs.clock
  have hxa : AxT wa ma := hx.cg (a4 5 (by decide) (by decide) (by decide) (by decide)) (a4 6 (by decide) (by decide) (by decide) (by decide)) (a4 17 (by decide) (by decide) (by decide) (by decide)) (a4 0 (by decide) (by decide) (by decide) (by decide)) (b4.1 6 (by decide) (by decide) (by decide) (by decide) (by decide)) (b4.1 7 (by decide) (by decide) (by decide) (by decide) (by decide)) (fun k h1 h2 => b4.2 k (by omega) (by omega))
  have hta : TR wa ma tr := ht.cg (a4 3 (by decide) (by decide) (by decide) (by decide)) (a4 19 (by decide) (by decide) (by decide) (by decide)) (b4.2 11 (by decide) (by decide)) (b4.1 5 (by decide) (by decide) (by decide) (by decide) (by decide))
  have hBd : BdW (ma 1) (T + 1) := fun q hq => by
    obtain ⟨-, ⟨-, -, gg⟩, -, ⟨-, -, -, -, -, -, vv, -⟩, -⟩ := hs.1 q hq
    rw [b3, upd_ne _ _ (by omega), upd_ne _ _ (by omega)]
    exact ⟨vv, gg⟩
  obtain ⟨wb, nb, mb, bb, Cb, c1, c2, c3, c4, c5, c6, c7, c8, c9, cB, c10⟩ := brkL (B := b + 1) (D := C + 1) (show T < 99000 by omega) 60 FU 0 (b + 1) (C + 1) wa ma (by omega) (by unfold FU; omega) (a2.mono (by omega) (Nat.le_refl _)) b2 hsa hxa hta (by omega) (by omega) (by show b + 1 + 22 * 0 ≤ _; omega) (by show C + 1 + 22 * 0 ≤ _; omega) hBd
  have hRle := rc_le (s := mb 1) 60
  obtain ⟨R, hRd⟩ : ∃ R, R = rc (mb 1) 60 := ⟨_, rfl⟩
  rw [← hRd] at c8 c9 hRle
  obtain ⟨mc, d1, d2, d3, d4⟩ := l90_s c4 (by omega) (by omega)
  have hmc : ∀ j, j < 11350 → mc 1 j = mb 1 j := fun j hj => by rw [d3, upd_ne _ _ (by omega), upd_ne _ _ (by omega), upd_ne _ _ (by omega)]
  have hrc : rc (mc 1) 60 = R := by rw [hRd]; exact rc_congr 60 (fun q hq => hmc _ (by omega))
  obtain ⟨wl, od, f1, f2, f3, f4⟩ := lineL c5 (show T + 1 < 99000 by omega) 60 FU 0 0 (fun _ => 0) wb (by omega) (by unfold FU; omega) ⟨fun _ _ => rfl, rfl⟩ ⟨fun i hi => by omega, fun i j h1 h2 => by omega, fun x hx => by omega⟩ rfl (fun i hi => by omega)
  rw [← hRd] at f1 f3 f4
  have hpn : Rs (pn (wb.1 11) (mc 1)) (mc 1) (T + 1) := by rw [d3]; exact pn_zero c5
  obtain ⟨md, g1, g2, g3⟩ := waitsL (now := pn (wb.1 11) (mc 1)) (m0 := mc) hpn 60 FU 0 mc (by omega) (by unfold FU; omega) (fun _ _ => rfl) (fun x hx => by omega)
  rw [hrc] at g1
  have wl11 : wl.1 11 = wb.1 11 := f2.1 11 (by decide)
  have md1 : md 1 = mc 1 := g2 1 (by decide)
  have md0 : md 0 = mc 0 := g2 0 (by decide)
  obtain ⟨wf, hwf⟩ : ∃ wf, wf = ca wl 10 (fillf 3 0 (wl.1 10)) := ⟨_, rfl⟩
  have hfill : f_J7_fill_53178 10 3 0 wl = some wf := by rw [hwf]; rfl
  have wfp : ∀ q, q ≠ 10 → q ≠ 7 → wf.1 q = wb.1 q := fun q h10 h7 => by rw [hwf, ca_ne _ _ h10]; exact f2.1 q h7
  have wf2 : wf.2 = wb.2 := by rw [hwf]; exact f2.2
  have wf7 : wf.1 7 = wl.1 7 := by rw [hwf, ca_ne _ _ (by decide)]
  have HCf : HCx wf (T + 1) T Ob (bb + 3) Z ha := (c3.congr (w' := wf) wf2 (wfp 1 (by decide) (by decide)) (wfp 11 (by decide) (by decide)) (wfp 12 (by decide) (by decide)) (wfp 13 (by decide) (by decide))).mono (by omega) (Nat.le_refl _)
  have wtE : ∀ q, q < 60 → wt (mc 1) q = wt (mb 1) q := fun q hq => by unfold wt; rw [hmc _ (by omega)]
  have hord : Ordr (mc 1) 60 R od := by
    obtain ⟨o1, o2, o3⟩ := f3
    refine ⟨fun i hi => ⟨(o1 i hi).1, by have := (o1 i hi).1; rw [hmc _ (by omega)]; exact (o1 i hi).2⟩, fun i j h1 h2 => ?_, fun x hx hr => o3 x hx (by rw [← hmc _ (by omega)]; exact hr)⟩
    have hbf := o2 i j h1 h2
    unfold bef at hbf ⊢
    rw [wtE _ (o1 i (by omega)).1, wtE _ (o1 j h2).1]
    exact hbf
  have hw0 : ∀ q, q < 60 → wt (mc 1) q < T + 1 ∧ mc 1 (104 * q + 30) = nI (wt (mc 1) q) := fun q hq => by
    obtain ⟨v, hv, ev⟩ := (cB q hq).1
    have ev' : mc 1 (104 * q + 30) = nI v := (hmc _ (by omega)).trans ev
    have e1 : wt (mc 1) q = v := by unfold wt; rw [ev', nI_clamp (by omega)]
    rw [e1]
    exact ⟨hv, ev'⟩
  have hg0 : ∀ q, q < 60 → ∃ g, g < T + 1 ∧ mc 1 (104 * q + 32) = nI g := fun q hq => by
    obtain ⟨v, hv, ev⟩ := (cB q hq).2
    exact ⟨v, hv, (hmc _ (by omega)).trans ev⟩
  have hUf : ∀ i, i < 3 → wf.1 10 i = md 1 (11350 + i) := fun i hi => by
    have h1 : wf.1 10 i = 0 := by rw [hwf, ca_at]; exact if_pos hi
    rw [h1, md1, d3]
    rcases (by omega : i = 0 ∨ i = 1 ∨ i = 2) with rfl | rfl | rfl
    · rw [upd_ne _ _ (by omega), upd_ne _ _ (by omega), upd_at]
    · rw [upd_ne _ _ (by omega), upd_at]
    · rw [upd_at]
  have htf : TR wf md tr := c7.cg (wfp 3 (by decide) (by decide)) (wfp 19 (by decide) (by decide)) (by rw [md0]; exact d4.2 11 (by decide)) ((g2 5 (by decide)).trans (d4.1 5 (by decide) (by decide) (by decide) (by decide)))
  have hxf : AxT wf md := c6.cg (wfp 5 (by decide) (by decide)) (wfp 6 (by decide) (by decide)) (wfp 17 (by decide) (by decide)) (wfp 0 (by decide) (by decide)) ((g2 6 (by decide)).trans (d4.1 6 (by decide) (by decide) (by decide) (by decide))) ((g2 7 (by decide)).trans (d4.1 7 (by decide) (by decide) (by decide) (by decide))) (fun k h1 h2 => by rw [md0]; exact d4.2 k (by omega))
  obtain ⟨ws, ns, ms, trs, kfs, s1, s2, s3, s4, s5, s6, s7, s8, s9, s10⟩ := serveL (R := R) (T := T) hRle hord hw0 hg0 (by omega) R FU 0 (bb + 3) (Cb + 3) tr wf md (by omega) (by unfold FU; omega) HCf (d2.w14 g2) (by rw [wfp 11 (by decide) (by decide), md1]; exact hpn) hUf htf hxf (fun j hj => by rw [wf7]; exact f4 j hj) (fun j h1 h2 k hk => by rw [md1]) (fun j h1 h2 => by
      rw [g3 _ (hord.1 j h2).1, if_pos (hord.1 j h2).2]; exact (hw0 _ (hord.1 j h2).1).2) (fun q hq hn => by
      rw [g3 q hq]
      by_cases e : mc 1 (104 * q + 26) = 1
      · obtain ⟨i, hi, ei⟩ := hord.2.2 q hq e
        exact absurd ei (hn i (by omega) hi)
      · rw [if_neg e]) (by omega) (by omega) (by omega)
  obtain ⟨wu, nu, u1, u2, u3, u4, u5⟩ := l107_s s3 rfl (by omega)
  rw [pn_fin s6] at u3
  have hK : K1 = 1330 := rfl
  obtain ⟨we, Oe, v1, v2, v3, v4, v5, v6⟩ := end_s u2 (by omega) (by omega)
  obtain ⟨me, Oe', x1, x2, x3, x4, x5⟩ := mend_s s4 s5.2.2.2.2.2.2 (by omega) (by omega) kfs R (by omega)
  have eOe : Oe' = Oe := by rw [x5, v6]
  subst eOe
  have hObO : Ob ≤ Oe' := by
    rw [x5]
    by_cases q : Ob + 300 < T + 1
    · rw [if_pos q]; omega
    · rw [if_neg q]; exact Nat.le_refl _
  have hsf : Rs (wu.1 11) (ms 1) (T + 1) := by rw [u3]; exact s5
  refine ⟨we, nb + (ns + nu), me, trs, Oe', _, _, fun kk r n'' hk => ?_, ?_, v2, x2.mono (Nat.le_refl _) (Nat.le_refl _) (by omega), by rw [v3, x3]; exact hsf, fun t h1 h2 => ?_, ?_, ?_, by omega, by omega⟩
  · rw [a1, Option.bind_some, Nat.add_assoc]
    refine bnc_of (show f_X9_breakDown wa = some (wb, nb) from c1) ?_
    have hser : f_X9_serveRuns wb = some (wu, ns + nu) := by
      unfold f_X9_serveRuns f_X9_lineUpRuns
      rw [show f_X9_lineUpRuns_l4 FU 0 0 wb = _ from f1, Option.bind_some]
      show (f_J7_fill_53178 10 3 0 wl).bind (fun y20 => f_X9_serveRuns_l15 FU (nI R) 0 y20) = _
      rw [hfill, Option.bind_some]
      exact s1 wu nu u1
    refine bnc_of hser ?_
    show (f_X1_endMinute wu).bind (fun y6 => kk y6) = _
    rw [v1, Option.bind_some]
    exact hk
  · rw [b1, show f_X10_oneMinute_l45 FU 0 ma = _ from c2, d1, show f_X10_oneMinute_l115 FU 0 0 mc = _ from g1, show f_X10_oneMinute_l187 FU (nI R) 0 md = _ from s2, x1]
  · by_cases e : t = T + 1
    · rw [if_pos e, if_pos e, e]; exact hsf
    · rw [if_neg e, if_neg e]; exact hist t (by omega) (by omega)
  · exact s9.cg ((v4 5 (by decide) (by decide) (by decide) (by decide)).trans (u4 5 (by decide) (by decide) (by decide) (by decide))) ((v4 6 (by decide) (by decide) (by decide) (by decide)).trans (u4 6 (by decide) (by decide) (by decide) (by decide))) ((v4 17 (by decide) (by decide) (by decide) (by decide)).trans (u4 17 (by decide) (by decide) (by decide) (by decide))) ((v4 0 (by decide) (by decide) (by decide) (by decide)).trans (u4 0 (by decide) (by decide) (by decide) (by decide))) (x4.1 6 (by decide) (by decide) (by decide) (by decide) (by decide)) (x4.1 7 (by decide) (by decide) (by decide) (by decide) (by decide)) (fun k h1 h2 => x4.2 k (by omega) (by omega))
  · exact s7.cg ((v4 3 (by decide) (by decide) (by decide) (by decide)).trans (u4 3 (by decide) (by decide) (by decide) (by decide))) ((v4 19 (by decide) (by decide) (by decide) (by decide)).trans (u4 19 (by decide) (by decide) (by decide) (by decide))) (x4.2 11 (by decide) (by decide)) (x4.1 5 (by decide) (by decide) (by decide) (by decide) (by decide))
set_option maxRecDepth 100000 in
theorem minLm {N Z : Nat} (hN : N ≤ 60) : ∀ (d kf i T O b C tr : Nat) (hc hm : Nat → Nat → Int32) (w : CW) (m : MW), i + d = N → d < kf → HCx w T T O b Z hc → HMx m T O b Z C hm → Rs (w.1 11) (m 1) T → (T ≠ 0 → ∀ t, O ≤ t → t ≤ T → Rs (hc t) (hm t) t) → AxT w m → TR w m tr → b ≤ Z → T + d < 98000 → Z + 3000 < 120000 → C + 1330 * d + 3000 < 2 ^ 30 → tr + 1020 * d + 2000 < 2 ^ 30 →
    ∃ w' n m' T' O' b' C' tr' hc' hm', f_X9_minute_l15 kf (nI N) (nI i) w = some ((nI T', w'), n) ∧ f_X10_minute_l20 kf (nI N) (nI i) m = some (nI T', m') ∧ HCx w' T' T' O' b' Z hc' ∧ HMx m' T' O' b' Z C' hm' ∧ Rs (w'.1 11) (m' 1) T' ∧ (T' ≠ 0 → ∀ t, O' ≤ t → t ≤ T' → Rs (hc' t) (hm' t) t) ∧ AxT w' m' ∧ TR w' m' tr' ∧ b' ≤ Z ∧ T' ≤ T + d ∧ C' ≤ C + 1330 * d ∧ tr' ≤ tr + 1020 * d ∧ 4096 * n + 2 * w.2 = 2 * w'.2
  | d, 0, i, T, O, b, C, tr, hc, hm, w, m, _, h, _, _, _, _, _, _, _, _, _, _, _ => by omega
  | 0, kf + 1, i, T, O, b, C, tr, hc, hm, w, m, h, _, HC, HM, hs, h4, hx, ht, hb, hT, hZ, hC, htr => by
    have hi : i = N := by omega
    refine ⟨w, 0, m, T, O, b, C, tr, hc, hm, ?_, ?_, HC, HM, hs, h4, hx, ht, hb, by omega, by omega, by omega, by omega⟩
    · show f_X9_minute_l15_body (f_X9_minute_l15 kf) (nI N) (nI i) w = _
      unfold f_X9_minute_l15_body
      rw [if_pos (nI_le (by omega) (by omega)), show f_X1_time w = some (w.1 1 5) from rfl, Option.bind_some, HC.time]
    · show f_X10_minute_l20_body (f_X10_minute_l20 kf) (nI N) (nI i) m = _
      unfold f_X10_minute_l20_body
      rw [if_pos (nI_le (by omega) (by omega)), chk_t (lit_in (a := 11344) (by rfl) (by omega) (by omega)), lit_cl (x := 11344) (a := 11344) (by rfl) (by omega), hs.2.2.2.2.2.2]
  | d + 1, kf + 1, i, T, O, b, C, tr, hc, hm, w, m, h, hk, HC, HM, hs, h4, hx, ht, hb, hT, hZ, hC, htr => by
    obtain ⟨w1, n1, m1, tr1, O1, hc1, hm1, g1, g2, g3, g4, g5, g6, g7, g8, g9, g10⟩ := oneMin HC HM hs h4 hx ht hb (by omega) hZ (by omega) (by omega)
    obtain ⟨w', n, m', T', O', b', C', tr', hc', hm', r1, r2, r3, r4, r5, r6, r7, r8, r9, r10, r11, r12, r13⟩ := minLm hN d kf (i + 1) (T + 1) O1 Z (C + 1330) tr1 hc1 hm1 w1 m1 (by omega) (by omega) g3 g4 g5 (fun _ => g6) g7 g8 (Nat.le_refl _) (by omega) hZ (by omega) (by omega)
    refine ⟨w', n1 + n, m', T', O', b', C', tr', hc', hm', ?_, ?_, r3, r4, r5, r6, r7, r8, r9, by omega, by omega, by omega, by omega⟩
    · show f_X9_minute_l15_body (f_X9_minute_l15 kf) (nI N) (nI i) w = _
      unfold f_X9_minute_l15_body
      rw [if_neg (nI_ge (by omega) (by omega)), nI_1 i]
      exact g1 _ _ _ r1
    · show f_X10_minute_l20_body (f_X10_minute_l20 kf) (nI N) (nI i) m = _
      unfold f_X10_minute_l20_body
      rw [if_neg (nI_ge (by omega) (by omega)), nI_1 i, g2, Option.bind_some]
      exact r2
theorem eq_minute {n : Nat} {wm : MW} (hR : Rl n w wm) (hn : n < 513) (a1 : Int32) : ∃ r w2 wm2 n2, f_X9_minute a1 w = some ((r, w2), n2) ∧ f_X10_minute a1 wm = some (r, wm2) ∧ Rl (n + 1) w2 wm2 ∧ 4096 * n2 + 2 * w.2 = 2 * w2.2 := by
  have hR1 : Rl n w (mst wm 0 0 0) := hR.thr
  unfold f_X9_minute f_X10_minute
  generalize mst wm 0 0 0 = m at hR1 ⊢
  show Eq1 n w _ _
  simp only [within_s, in_s, Option.bind_some, gd]
  refine Eq1.ite (fun h => ?_) (fun _ => Eq1.ret hR1 hn)
  obtain ⟨N, hN1, hN, rfl⟩ := rng2 (a := 1) (n := 60) (by omega) (by omega) h
  obtain ⟨T, O, hc, hm, b1, b2, g1, g2, g3, g4, ⟨x1, ⟨tr, x2, x3⟩, x4⟩⟩ := id hR1
  obtain ⟨w', n', m', T', O', b', C', tr', hc', hm', r1, r2, r3, r4, r5, r6, r7, r8, r9, r10, r11, r12, r13⟩ := minLm (Z := 200 * n) hN N FU 0 T O (200 * n) (100000 * n) tr hc hm w m (by omega) (by unfold FU; omega) g1 g2 g3 g4 ⟨x1, x4⟩ x3 (Nat.le_refl _) (by omega) (by omega) (by omega) (by omega)
  obtain ⟨y1, y2⟩ := r7
  exact ⟨nI T', w', m', n', r1, r2, ⟨T', O', hc', hm', by omega, by omega, r3.mono (by omega) (by omega), r4.mono (by omega) (by omega) (by omega), r5, r6, ⟨y1, ⟨tr', by omega, r8⟩, y2⟩⟩, r13⟩
end O8
