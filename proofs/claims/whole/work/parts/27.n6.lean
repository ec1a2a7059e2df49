section N6
variable {n : Nat} {w : CW} {wm : MW} {T p : Nat}
def FB (w w' : CW) : Prop := (∀ p, p ≠ 3 → p ≠ 9 → p ≠ 10 → p ≠ 19 → w'.1 p = w.1 p) ∧ w'.2 = w.2
def FAM (m m' : MW) : Prop := (∀ p, p ≠ 0 → p ≠ 5 → p ≠ 13 → m' p = m p) ∧ ∀ k, k ≠ 11 → m' 0 k = m 0 k
theorem FB.refl (w : CW) : FB w w := ⟨fun _ _ _ _ _ => rfl, rfl⟩
theorem FAM.refl (m : MW) : FAM m m := ⟨fun _ _ _ _ => rfl, fun _ _ => rfl⟩
theorem FB.trans {a b c : CW} (h1 : FB a b) (h2 : FB b c) : FB a c := ⟨fun p q1 q2 q3 q4 => (h2.1 p q1 q2 q3 q4).trans (h1.1 p q1 q2 q3 q4), h2.2.trans h1.2⟩
theorem FAM.trans {a b c : MW} (h1 : FAM a b) (h2 : FAM b c) : FAM a c := ⟨fun p q1 q2 q3 => (h2.1 p q1 q2 q3).trans (h1.1 p q1 q2 q3), fun k hk => (h2.2 k hk).trans (h1.2 k hk)⟩
theorem FT.fb {a b : CW} (h : FT a b) : FB a b := ⟨fun p q1 _ _ q4 => h.1 p q1 q4, h.2⟩
theorem FTM.fam {a b : MW} (h : FTM a b) : FAM a b := ⟨fun p q1 q2 _ => h.1 p q1 q2, h.2⟩
theorem FB.cs9 {a : CW} {k : Nat} {v : Int32} : FB a (cs a 9 k v) := ⟨fun p _ q2 _ _ => cs_ne _ _ _ q2, rfl⟩
theorem FAM.m13 {a : MW} {k : Nat} {v : Int32} : FAM a (mst a 13 k v) := ⟨fun p _ _ q3 => mst_ne _ _ _ q3, fun k _ => by rw [mst_ne _ _ _ (by decide)]⟩
theorem TR.ask {w : CW} {m : MW} {tr k : Nat} {v : Int32} (h : TR w m tr) : TR (cs w 9 k v) (mst m 13 k v) tr := by
  obtain ⟨h1, h2, h3, h4⟩ := h
  refine ⟨by rw [mst_ne _ _ _ (by decide)]; exact h1, by rw [cs_ne _ _ _ (by decide)]; exact h2, by rw [cs_ne _ _ _ (by decide)]; exact h3, fun i hi => by rw [cs_ne _ _ _ (by decide), mst_ne _ _ _ (by decide)]; exact h4 i hi⟩
theorem ask_s {m : MW} {tr : Nat} {x : Int32} (h : TR w m tr) (g3 : Rs (w.1 11) (m 1) T) (hp : p < 60) (h0 : m 1 (104 * p) ≠ 0) (ht : tr + 12 < 2 ^ 30) : ∃ w' m' tr', f_X9_askWishes (nI p) x w = some w' ∧ f_X10_ask (nI p) x m = some m' ∧ tr' ≤ tr + 12 ∧ TR w' m' tr' ∧ (∀ i, i < 3 → w'.1 9 i = m' 13 i) ∧ (∀ p, p ≠ 3 → p ≠ 9 → p ≠ 19 → w'.1 p = w.1 p) ∧ FB w w' ∧ FAM m m' := by
  obtain ⟨k, hk, ek⟩ := kind_ex g3 hp h0
  have e8 : m 1 (104 * p + 7) = w.1 11 (78 * p + 8) := mv7 g3 hp
  obtain ⟨r0, w1, m1, t1, a1, a2, a3, a4, a5, a6⟩ := wish0 (x3 := x) (c8 := w.1 11 (78 * p + 8)) h hp hk ek e8 (by omega)
  have em1 : (mst m1 13 0 r0) 1 = m 1 := by rw [mst_ne _ _ _ (by decide), a6.1 1 (by decide) (by decide)]
  obtain ⟨r1, w2, m2, t2, b1, b2, b3, b4, b5, b6⟩ := wish1 (x3 := x) (c8 := w.1 11 (78 * p + 8)) (a4.ask (k := 0) (v := r0)) hp hk (by rw [em1]; exact ek) (by rw [em1]; exact e8) (by omega)
  have em2 : (mst m2 13 1 r1) 1 = m 1 := by rw [mst_ne _ _ _ (by decide), b6.1 1 (by decide) (by decide), em1]
  obtain ⟨r2, w3, m3, t3, c1, c2, c3, c4, c5, c6⟩ := wish2 (x3 := x) (c8 := w.1 11 (78 * p + 8)) (b4.ask (k := 1) (v := r1)) hp hk (by rw [em2]; exact ek) (by rw [em2]; exact e8) (by omega)
  have i0 : inb (0 : Int32) 3 := lit_in (a := 0) rfl (by omega) (by omega)
  have i1 : inb (1 : Int32) 3 := lit_in (a := 1) rfl (by omega) (by omega)
  have i2 : inb (2 : Int32) 3 := lit_in (a := 2) rfl (by omega) (by omega)
  have l0 : (0 : Int32).toNatClampNeg = 0 := rfl
  have l1 : (1 : Int32).toNatClampNeg = 1 := rfl
  have l2 : (2 : Int32).toNatClampNeg = 2 := rfl
  refine ⟨cs w3 9 2 r2, mst m3 13 2 r2, t3, ?_, ?_, by omega, c4.ask, fun i hi => ?_, fun q q1 q2 q3 => ?_, ((a5.fb.trans FB.cs9).trans (b5.fb.trans FB.cs9)).trans (c5.fb.trans FB.cs9), ((a6.fam.trans FAM.m13).trans (b6.fam.trans FAM.m13)).trans (c6.fam.trans FAM.m13)⟩
  · unfold f_X9_askWishes
    rw [kindAt_s g3 hp hk ek, Option.bind_some, read_k (k := 8) (by rfl) hp (by omega), Option.bind_some]
    simp only [chk_t (show k < 5 by omega), chk_t i0, chk_t i1, chk_t i2, l0, l1, l2]
    rw [a1, Option.bind_some, b1, Option.bind_some, c1, Option.bind_some]
  · unfold f_X10_ask
    rw [show FU = FU - 4 + 1 + 1 + 1 + 1 by unfold FU; rfl]
    show f_X10_ask_l2_body (f_X10_ask_l2 (FU - 4 + 1 + 1 + 1)) (nI p) x 0 m = _
    unfold f_X10_ask_l2_body
    rw [if_neg (by decide), a2, Option.bind_some, chk_t i0, l0]
    show f_X10_ask_l2_body (f_X10_ask_l2 (FU - 4 + 1 + 1)) (nI p) x (0 + 1) (mst m1 13 0 r0) = _
    unfold f_X10_ask_l2_body
    rw [show (0 : Int32) + 1 = 1 from rfl, if_neg (by decide), b2, Option.bind_some, chk_t i1, l1]
    show f_X10_ask_l2_body (f_X10_ask_l2 (FU - 4 + 1)) (nI p) x (1 + 1) (mst m2 13 1 r1) = _
    unfold f_X10_ask_l2_body
    rw [show (1 : Int32) + 1 = 2 from rfl, if_neg (by decide), c2, Option.bind_some, chk_t i2, l2]
    show f_X10_ask_l2_body (f_X10_ask_l2 (FU - 4)) (nI p) x (2 + 1) (mst m3 13 2 r2) = _
    unfold f_X10_ask_l2_body
    rw [if_pos (by decide)]
  · rw [cs_at, mst_at, c5.1 9 (by decide) (by decide), c6.1 13 (by decide) (by decide), cs_at, mst_at, b5.1 9 (by decide) (by decide), b6.1 13 (by decide) (by decide), cs_at, mst_at]
    rcases (by omega : i = 0 ∨ i = 1 ∨ i = 2) with rfl | rfl | rfl <;> rfl
  · rw [cs_ne _ _ _ q2, c5.1 q q1 q3, cs_ne _ _ _ q2, b5.1 q q1 q3, cs_ne _ _ _ q2, a5.1 q q1 q3]
def cdo (k s : Nat) : Int32 := if s = 0 ∨ s = 3 then (if k = 2 ∨ k = 3 then 0 else 1) else if s = 1 then (if k = 3 then 0 else 1) else if s = 2 then (if k = 2 ∨ k = 3 then 1 else 0) else 1
theorem mcanDo_s : ∀ k, k < 5 → ∀ s, s < 5 → f_X10_canDo (nI k) (nI s) = some (cdo k s) := by decide +kernel
theorem canDo_s {k s : Nat} (hk : k < 5) (hs : s < 5) : fv_canDo k (nI s) w = some (cdo k s) := by
  rcases (by omega : k = 0 ∨ k = 1 ∨ k = 2 ∨ k = 3 ∨ k = 4) with rfl | rfl | rfl | rfl | rfl <;> rcases (by omega : s = 0 ∨ s = 1 ∨ s = 2 ∨ s = 3 ∨ s = 4) with rfl | rfl | rfl | rfl | rfl <;> rfl
theorem fits_s {U : Nat → Int32} (hU : ∀ i, i < 3 → w.1 10 i = U i) : f_X9_fitsBounds w = some (if (U 0 + w.1 9 0 ≤ w.1 11 8544 ∧ U 1 + w.1 9 1 ≤ w.1 11 8545) ∧ U 2 + w.1 9 2 ≤ w.1 11 8546 then 1 else 0) := by
  unfold f_X9_fitsBounds
  have i0 : inb (0 : Int32) 3 := lit_in (a := 0) rfl (by omega) (by omega)
  have i1 : inb (1 : Int32) 3 := lit_in (a := 1) rfl (by omega) (by omega)
  have i2 : inb (2 : Int32) 3 := lit_in (a := 2) rfl (by omega) (by omega)
  have l0 : (0 : Int32).toNatClampNeg = 0 := rfl
  have l1 : (1 : Int32).toNatClampNeg = 1 := rfl
  have l2 : (2 : Int32).toNatClampNeg = 2 := rfl
  rw [show FU = FU - 4 + 1 + 1 + 1 + 1 by unfold FU; rfl]
  show f_X9_fitsBounds_l2_body (f_X9_fitsBounds_l2 (FU - 4 + 1 + 1 + 1)) 0 w = _
  unfold f_X9_fitsBounds_l2_body
  rw [if_neg (by decide), chk_t i0, chk_t i0, l0, gl_k (a := 8544) (by rfl) (by omega), Option.bind_some, hU 0 (by omega)]
  by_cases h0 : U 0 + w.1 9 0 ≤ w.1 11 8544
  case neg => rw [if_neg h0, if_neg (fun q => h0 q.1.1)]
  rw [if_pos h0]
  show f_X9_fitsBounds_l2_body (f_X9_fitsBounds_l2 (FU - 4 + 1 + 1)) (0 + 1) w = _
  unfold f_X9_fitsBounds_l2_body
  rw [show (0 : Int32) + 1 = 1 from rfl, if_neg (by decide), chk_t i1, chk_t i1, l1, gl_k (a := 8545) (by rfl) (by omega), Option.bind_some, hU 1 (by omega)]
  by_cases h1 : U 1 + w.1 9 1 ≤ w.1 11 8545
  case neg => rw [if_neg h1, if_neg (fun q => h1 q.1.2)]
  rw [if_pos h1]
  show f_X9_fitsBounds_l2_body (f_X9_fitsBounds_l2 (FU - 4 + 1)) (1 + 1) w = _
  unfold f_X9_fitsBounds_l2_body
  rw [show (1 : Int32) + 1 = 2 from rfl, if_neg (by decide), chk_t i2, chk_t i2, l2, gl_k (a := 8546) (by rfl) (by omega), Option.bind_some, hU 2 (by omega)]
  by_cases h2 : U 2 + w.1 9 2 ≤ w.1 11 8546
  case neg => rw [if_neg h2, if_neg (fun q => h2 q.2)]
  rw [if_pos h2, if_pos ⟨⟨h0, h1⟩, h2⟩]
  show f_X9_fitsBounds_l2_body (f_X9_fitsBounds_l2 (FU - 4)) (2 + 1) w = _
  unfold f_X9_fitsBounds_l2_body
  rw [if_pos (by decide)]
theorem why_s {m : MW} {tr g : Nat} (h : TR w m tr) (g3 : Rs (w.1 11) (m 1) T) (hp : p < 60) (hg : g < 40) (h0 : m 1 (104 * p) ≠ 0) (ht : tr + 400 < 2 ^ 30) : ∃ j w' m' tr', j ≤ 12 ∧ f_X9_whyNoRun (nI p) (nI g) w = some (nI j, w') ∧ f_X10_against (nI p) (nI g) m = some (nI j, m') ∧ tr' ≤ tr + 400 ∧ TR w' m' tr' ∧ FB w w' ∧ FAM m m' ∧ (j = 0 → m 1 (104 * p + 26) = 0 ∧ m 1 (104 * p + 101) = 0 ∧ m 1 (6240 + 62 * g) = 1) := by
  unfold f_X9_whyNoRun f_X10_against
  obtain ⟨N, l1, l2, l3, l4, l5, l6⟩ := g3.2.1
  obtain ⟨k, hk, ek⟩ := kind_ex g3 hp h0
  obtain ⟨hr1, hr2⟩ := hasRun_s g3 hp
  rw [isBusy_s g3 hp, Option.bind_some, gd, of_s (k := 26) (by rfl) (by omega), Option.bind_some, of_s (k := 101) (by rfl) (by omega), Option.bind_some]
  by_cases h26 : m 1 (104 * p + 26) = 1
  · rw [if_pos (Or.inl h26), if_pos h26]
    exact ⟨7, w, m, tr, by omega, rfl, rfl, by omega, h, FB.refl w, FAM.refl m, fun q => by omega⟩
  by_cases h101 : m 1 (104 * p + 101) = 1
  · rw [if_pos (Or.inr h101), if_neg h26, if_pos h101]
    exact ⟨7, w, m, tr, by omega, rfl, rfl, by omega, h, FB.refl w, FAM.refl m, fun q => by omega⟩
  have z26 : m 1 (104 * p + 26) = 0 := by
    rcases hr2 with q | ⟨q, -⟩
    · exact q
    · exact absurd q h26
  have z101 : m 1 (104 * p + 101) = 0 := by
    rcases (g3.1 p hp).2.2.2.1.2.2.2.2.2.2.2.2 with ⟨q, -⟩ | ⟨q, -⟩
    · exact absurd q h101
    · exact q
  rw [if_neg (by rintro (q | q); exact h26 q; exact h101 q), if_neg h26, if_neg h101, hasProgram_s g3 hg, Option.bind_some, gd, pa_s, chk_t (inb_nI (by omega) (by omega)), nI_clamp (by omega)]
  rcases g3.2.2.2.1 g hg with ⟨q1, q2⟩ | ⟨q1, S, q2, q3, q4, q5⟩
  · rw [q1, if_neg (by decide), if_pos rfl]
    exact ⟨3, w, m, tr, by omega, rfl, rfl, by omega, h, FB.refl w, FAM.refl m, fun q => by omega⟩
  rw [q1, if_pos (by decide), if_neg (by decide), read_k (k := 9) (by rfl) hp (by omega), Option.bind_some, loadsIn_s l1 l3, Option.bind_some, (cell9_s g3 hp l1 l3).1, read_k (k := 5) (by rfl) hp (by omega), Option.bind_some, of_s (k := 6) (by rfl) (by omega), Option.bind_some, show w.1 11 (78 * p + 5) = m 1 (104 * p + 6) from (g3.1 p hp).2.2.2.1.2.2.2.1]
  by_cases hz9 : nI (inP (m 1) N p).length = 0
  · rw [if_pos hz9, if_pos hz9]
    exact ⟨2, w, m, tr, by omega, rfl, rfl, by omega, h, FB.refl w, FAM.refl m, fun q => by omega⟩
  rw [if_neg hz9, if_neg hz9]
  by_cases hz6 : m 1 (104 * p + 6) = 0
  · rw [if_pos hz6, if_pos hz6]
    exact ⟨8, w, m, tr, by omega, rfl, rfl, by omega, h, FB.refl w, FAM.refl m, fun q => by omega⟩
  rw [if_neg hz6, if_neg hz6]
  have hf : f_J7_fill_53178 10 3 0 w = some (ca w 10 (fillf 3 0 (w.1 10))) := rfl
  have hb0 : FB w (ca w 10 (fillf 3 0 (w.1 10))) := ⟨fun q _ _ q3 _ => ca_ne _ _ q3, rfl⟩
  have hlen : f_X9_lengthOf (nI g) (ca w 10 (fillf 3 0 (w.1 10))) = some (nI S) := by
    unfold f_X9_lengthOf
    rw [pcell_s, Option.bind_some, get_s (by omega), Option.bind_some, ca_ne _ _ (by decide), q4, show nI (S + 1) - (1 : Int32) = nI (S + 1 - 1) from pk_sub (a := S + 1) (b := 1) (by omega), Nat.add_sub_cancel]
  rw [hf, Option.bind_some, hlen, Option.bind_some]
  have hT0 : TR (ca w 10 (fillf 3 0 (w.1 10))) m tr := by
    obtain ⟨t1, t2, t3, t4⟩ := h
    refine ⟨t1, by rw [ca_ne _ _ (by decide)]; exact t2, by rw [ca_ne _ _ (by decide)]; exact t3, fun i hi => by rw [ca_ne _ _ (by decide)]; exact t4 i hi⟩
  have i0 : inb (0 : Int32) 3 := lit_in (a := 0) rfl (by omega) (by omega)
  have i1 : inb (1 : Int32) 3 := lit_in (a := 1) rfl (by omega) (by omega)
  have i2 : inb (2 : Int32) 3 := lit_in (a := 2) rfl (by omega) (by omega)
  have i53 : inb (11353 : Int32) 11360 := lit_in (a := 11353) rfl (by omega) (by omega)
  have i54 : inb (11354 : Int32) 11360 := lit_in (a := 11354) rfl (by omega) (by omega)
  have i55 : inb (11355 : Int32) 11360 := lit_in (a := 11355) rfl (by omega) (by omega)
  have c0 : (0 : Int32).toNatClampNeg = 0 := rfl
  have c1 : (1 : Int32).toNatClampNeg = 1 := rfl
  have c2 : (2 : Int32).toNatClampNeg = 2 := rfl
  have c53 : (11353 : Int32).toNatClampNeg = 11353 := lit_cl (a := 11353) rfl (by omega)
  have c54 : (11354 : Int32).toNatClampNeg = 11354 := lit_cl (a := 11354) rfl (by omega)
  have c55 : (11355 : Int32).toNatClampNeg = 11355 := lit_cl (a := 11355) rfl (by omega)
  obtain ⟨z1, -, -, -⟩ := g3.2.2.2.2.2.1
  have key : ∀ (d kf i : Nat) (w1 : CW) (m1 : MW) (tr1 : Nat), i + d = S → d < kf → TR w1 m1 tr1 → tr1 ≤ tr + 12 * i → FB w w1 → (∀ q, q < 3 → w1.1 10 q = 0) → FAM m m1 → ∃ j w' m' tr', j ≤ 12 ∧ f_X9_whyNoRun_l62 kf (nI p) (nI g) (nI S) (nI i) w1 = some (nI j, w') ∧ f_X10_against_l71 kf (nI p) (nI (6240 + 62 * g)) (nI i) m1 = some (nI j, m') ∧ tr' ≤ tr + 400 ∧ TR w' m' tr' ∧ FB w w' ∧ FAM m m' := by
    intro d
    induction d with
    | zero =>
      intro kf i w1 m1 tr1 hi hk2 h1 h2 h3 h4 h5
      cases kf with
      | zero => omega
      | succ kf =>
        refine ⟨0, w1, m1, tr1, by omega, ?_, ?_, by omega, h1, h3, h5⟩
        · show f_X9_whyNoRun_l62_body (f_X9_whyNoRun_l62 kf) (nI p) (nI g) (nI S) (nI i) w1 = _
          unfold f_X9_whyNoRun_l62_body
          rw [if_pos (nI_le (by omega) (by omega))]; rfl
        · show f_X10_against_l71_body (f_X10_against_l71 kf) (nI p) (nI (6240 + 62 * g)) (nI i) m1 = _
          unfold f_X10_against_l71_body
          rw [show nI (6240 + 62 * g) + (1 : Int32) = nI (6240 + 62 * g + 1) from nI_add _ _, chk_t (inb_nI (by omega) (by omega)), nI_clamp (by omega), h5.1 1 (by decide) (by decide) (by decide), q3, if_pos (nI_le (by omega) (by omega))]; rfl
    | succ d ih =>
      intro kf i w1 m1 tr1 hi hk2 h1 h2 h3 h4 h5
      cases kf with
      | zero => omega
      | succ kf =>
        have ew : w1.1 11 = w.1 11 := h3.1 11 (by decide) (by decide) (by decide) (by decide)
        have em : m1 1 = m 1 := h5.1 1 (by decide) (by decide) (by decide)
        have g3' : Rs (w1.1 11) (m1 1) T := by rw [ew, em]; exact g3
        obtain ⟨ks, u, v1, v2, v3, v4, v5, v6⟩ := q5 i (by omega)
        have cbody : f_X9_whyNoRun_l62 (kf + 1) (nI p) (nI g) (nI S) (nI i) w1 = if cdo k ks = 0 then some (5, w1) else (f_X9_askWishes (nI p) (nI ks) w1).bind fun y9 => (f_X9_fitsBounds y9).bind fun y10 => if y10 = 0 then some (12, y9) else f_X9_whyNoRun_l62 kf (nI p) (nI g) (nI S) (nI (i + 1)) y9 := by
          show f_X9_whyNoRun_l62_body (f_X9_whyNoRun_l62 kf) (nI p) (nI g) (nI S) (nI i) w1 = _
          unfold f_X9_whyNoRun_l62_body f_X9_kindOf
          rw [if_neg (nI_ge (by omega) (by omega)), stepCell_s, Option.bind_some, get_s (by omega), Option.bind_some, ew, v6, Option.bind_some, show nI (1000 * ks + u) / (1000 : Int32) = nI ((1000 * ks + u) / 1000) from pk_div (a := 1000 * ks + u) (d := 1000) (by omega) (by omega) (by omega), show (1000 * ks + u) / 1000 = ks by omega, kindAt_s g3' hp hk (by rw [em]; exact ek), Option.bind_some, chk_t (show k < 5 by omega), canDo_s (by omega) (by omega), Option.bind_some, nI_1]
        have mbody : f_X10_against_l71 (kf + 1) (nI p) (nI (6240 + 62 * g)) (nI i) m1 = if cdo k ks = 0 then some (5, m1) else (f_X10_ask (nI p) (nI ks) m1).bind fun y7 => if y7 1 11353 < y7 13 0 then some (12, y7) else if y7 1 11354 < y7 13 1 then some (12, y7) else if y7 13 2 ≤ y7 1 11355 then f_X10_against_l71 kf (nI p) (nI (6240 + 62 * g)) (nI (i + 1)) y7 else some (12, y7) := by
          show f_X10_against_l71_body (f_X10_against_l71 kf) (nI p) (nI (6240 + 62 * g)) (nI i) m1 = _
          unfold f_X10_against_l71_body
          rw [show nI (6240 + 62 * g) + (1 : Int32) = nI (6240 + 62 * g + 1) from nI_add _ _, chk_t (inb_nI (by omega) (by omega)), nI_clamp (by omega), em, q3, if_neg (nI_ge (by omega) (by omega)), show nI (6240 + 62 * g) + (2 : Int32) = nI (6240 + 62 * g + 2) from nI_add _ _, nI_add, chk_t (inb_nI (by omega) (by omega)), nI_clamp (by omega), v4, kindOf_s hp hk (by rw [em]; exact ek), Option.bind_some, mcanDo_s k (by omega) ks (by omega), Option.bind_some, nI_1]
          simp only [chk_t i0, chk_t i1, chk_t i2, chk_t i53, chk_t i54, chk_t i55, c0, c1, c2, c53, c54, c55]
        rw [cbody, mbody]
        by_cases hcd : cdo k ks = 0
        · rw [if_pos hcd, if_pos hcd]
          exact ⟨5, w1, m1, tr1, by omega, rfl, rfl, by omega, h1, h3, h5⟩
        rw [if_neg hcd, if_neg hcd]
        obtain ⟨w2, m2, tr2, a1, a2, a3, a4, a5, a6, a7, a8⟩ := ask_s (x := nI ks) h1 g3' hp (by rw [em]; exact h0) (by omega)
        have ew2 : w2.1 11 = w.1 11 := (a7.1 11 (by decide) (by decide) (by decide) (by decide)).trans ew
        have em2 : m2 1 = m 1 := (a8.1 1 (by decide) (by decide) (by decide)).trans em
        have hz10 : ∀ q, q < 3 → w2.1 10 q = 0 := fun q hq => by rw [a6 10 (by decide) (by decide) (by decide)]; exact h4 q hq
        have hfit := fits_s (w := w2) (U := fun _ => 0) hz10
        rw [a1, Option.bind_some, hfit, Option.bind_some, gd, a2, Option.bind_some, em2, ew2, a5 0 (by omega), a5 1 (by omega), a5 2 (by omega), Int32.zero_add, Int32.zero_add, Int32.zero_add, show w.1 11 8544 = m 1 11353 from (z1 0 (by omega)).1, show w.1 11 8545 = m 1 11354 from (z1 1 (by omega)).1, show w.1 11 8546 = m 1 11355 from (z1 2 (by omega)).1]
        have hend : ∃ j w' m' tr', j ≤ 12 ∧ (some ((12 : Int32), w2) : Option (Int32 × CW)) = some (nI j, w') ∧ (some ((12 : Int32), m2) : Option (Int32 × MW)) = some (nI j, m') ∧ tr' ≤ tr + 400 ∧ TR w' m' tr' ∧ FB w w' ∧ FAM m m' := ⟨12, w2, m2, tr2, by omega, rfl, rfl, by omega, a4, h3.trans a7, h5.trans a8⟩
        by_cases x0 : m2 13 0 ≤ m 1 11353
        · rw [if_neg (show ¬ m 1 11353 < m2 13 0 from Int32.not_lt.mpr x0)]
          by_cases x1 : m2 13 1 ≤ m 1 11354
          · rw [if_neg (show ¬ m 1 11354 < m2 13 1 from Int32.not_lt.mpr x1)]
            by_cases x2 : m2 13 2 ≤ m 1 11355
            · rw [if_pos ⟨⟨x0, x1⟩, x2⟩, if_pos x2]
              exact ih kf (i + 1) w2 m2 tr2 (by omega) (by omega) a4 (by omega) (h3.trans a7) hz10 (h5.trans a8)
            · rw [if_neg (fun q => x2 q.2), if_neg x2]; exact hend
          · rw [if_neg (fun q => x1 q.1.2), if_pos (Int32.not_le.mp x1)]; exact hend
        · rw [if_neg (fun q => x0 q.1.1), if_pos (Int32.not_le.mp x0)]; exact hend
  obtain ⟨j, w', m', tr', r1, r2, r3, r4, r5, r6, r7⟩ := key S FU 0 _ m tr (by omega) (by unfold FU; omega) hT0 (by omega) hb0 (fun q hq => by rw [ca_at]; exact if_pos hq) (FAM.refl m)
  exact ⟨j, w', m', tr', r1, r2, r3, r4, r5, r6, r7, fun _ => ⟨z26, z101, rfl⟩⟩
end N6
