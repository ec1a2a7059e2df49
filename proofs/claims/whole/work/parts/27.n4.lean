section N4
variable {n : Nat} {w : CW} {wm : MW} {T p : Nat}
/-- only the weights differ -/
def W8 (w w' : CW) : Prop := (∀ p, p ≠ 8 → w'.1 p = w.1 p) ∧ w'.2 = w.2
def W12 (m m' : MW) : Prop := ∀ p, p ≠ 12 → m' p = m p
theorem W8.cs {w w' : CW} {k : Nat} {v : Int32} (h : W8 w w') : W8 w (cs w' 8 k v) := ⟨fun p hp => by rw [cs_ne _ _ _ hp]; exact h.1 p hp, h.2⟩
theorem W12.mst {m m' : MW} {k : Nat} {v : Int32} (h : W12 m m') : W12 m (mst m' 12 k v) := fun p hp => by rw [mst_ne _ _ _ hp]; exact h p hp
theorem Rl.w8 {w w' : CW} {m m' : MW} (h : Rl n w m) (h1 : W8 w w') (h2 : W12 m m') : Rl n w' m' :=
  (h.cc h1.2 (fun k _ _ => by rw [h1.1 0 (by decide)]) (h1.1 1 (by decide)) (h1.1 3 (by decide)) (h1.1 5 (by decide)) (h1.1 6 (by decide)) (h1.1 11 (by decide)) (h1.1 12 (by decide)) (h1.1 13 (by decide)) (h1.1 17 (by decide)) (h1.1 19 (by decide))).cm (fun k _ _ => by rw [h2 0 (by decide)]) (fun p h3 h4 => h2 p (by omega))
theorem eq_cost (hR : Rl n w wm) (hn : n < 513) (a1 a2 : Int32) : ∃ r w2 wm2, f_X9_cost a1 a2 w = some (r, w2) ∧ f_X10_cost a1 a2 wm = some (r, wm2) ∧ Rl (n + 1) w2 wm2 ∧ w2.2 = w.2 := by
  have hR1 : Rl n w (mst wm 0 0 0) := hR.thr
  unfold f_X9_cost f_X10_cost
  generalize mst wm 0 0 0 = m at hR1 ⊢
  show Eq0 n w _ _
  simp only [isPlace_s, misPlace_s, within_s, in_s, Option.bind_some, gd]
  refine Eq0.ite (fun h => ?_) (fun _ => Eq0.ret hR1 hn)
  refine Eq0.ite (fun h2 => ?_) (fun _ => Eq0.ret hR1 hn)
  obtain ⟨p, hp, rfl⟩ := rng (n := 59) (by omega) h
  obtain ⟨A, hA, rfl⟩ := rng (n := 1000000) (by omega) h2
  obtain ⟨T, O, hc, hm, b1, b2, g1, g2, g3, g4, g5⟩ := id hR1
  obtain ⟨g, hg⟩ : ∃ g : Nat → Nat, ∀ i, i < 60 → g i < 2 ^ 20 ∧ m 1 (104 * i + 32) = nI (g i) ∧ w.1 11 (78 * i + 27) = nI (g i) := by
    refine ⟨fun i => (m 1 (104 * i + 32)).toNatClampNeg, fun i hi => ?_⟩
    obtain ⟨q1, -, ⟨x, hx, ex⟩⟩ := (g3.1 i hi).2.1
    have ex' : m 1 (104 * i + 32) = nI x := ex
    show (m 1 (104 * i + 32)).toNatClampNeg < 2 ^ 20 ∧ _ = nI (m 1 (104 * i + 32)).toNatClampNeg ∧ _ = nI (m 1 (104 * i + 32)).toNatClampNeg
    rw [ex', nI_clamp (by omega)]
    exact ⟨by omega, rfl, (q1 0 (by omega)).trans ex⟩
  have hsum : smN g 60 ≤ 60 * 2 ^ 20 := smN_le 60 (fun i hi => Nat.le_of_lt (hg i hi).1)
  have kc : ∀ (d k i : Nat) (w' : CW), i + d = 60 → d < k → W8 w w' → (∀ j, j < i → w'.1 8 j = nI (g j)) → ∃ w'', W8 w w'' ∧ (∀ j, j < 60 → w''.1 8 j = nI (g j)) ∧ f_X9_cost_l28 k (nI p) (nI A) (nI (smN g i)) (nI i) w' = if nI (smN g 60) = 0 then ((f_X9_found 6 w'').bind fun y4 => some (y4.1, y4.2)) else ((f_X9_shareOf (nI A) (nI p) w'').bind fun y3 => some (y3, w'')) := by
    intro d
    induction d with
    | zero =>
      intro k i w' hi hk h1 h2
      cases k with
      | zero => omega
      | succ k =>
        have : i = 60 := by omega
        subst this
        refine ⟨w', h1, h2, ?_⟩
        show f_X9_cost_l28_body (f_X9_cost_l28 k) (nI p) (nI A) (nI (smN g 60)) (nI 60) w' = _
        unfold f_X9_cost_l28_body
        rw [if_pos (by decide)]
    | succ d ih =>
      intro k i w' hi hk h1 h2
      cases k with
      | zero => omega
      | succ k =>
        obtain ⟨w'', e1, e2, e3⟩ := ih k (i + 1) (cs w' 8 i (nI (g i))) (by omega) (by omega) h1.cs (fun j hj => by
          rw [cs_at]
          by_cases e : j = i
          · subst e; rw [upd_at]
          · rw [upd_ne _ _ e]; exact h2 j (by omega))
        refine ⟨w'', e1, e2, ?_⟩
        rw [← e3]
        show f_X9_cost_l28_body (f_X9_cost_l28 k) (nI p) (nI A) (nI (smN g i)) (nI i) w' = f_X9_cost_l28 k (nI p) (nI A) (nI (smN g i + g i)) (nI (i + 1)) (cs w' 8 i (nI (g i)))
        unfold f_X9_cost_l28_body
        rw [if_neg (show ¬ (60 : Int32) ≤ nI i from nI_ge (a := i) (b := 60) (by omega) (by omega)), read_k (k := 27) (by rfl) (by omega) (by omega), Option.bind_some, h1.1 11 (by decide), (hg i (by omega)).2.2, chk_t (inb_nI (by omega) (by omega)), chk_t (inb_nI (by omega) (by omega)), nI_clamp (by omega), Option.bind_some, cs_at, upd_at, nI_add, nI_1]
  have km : ∀ (d k i : Nat) (m' : MW), i + d = 60 → d < k → W12 m m' → (∀ j, j < i → m' 12 j = nI (g j)) → ∃ m'', W12 m m'' ∧ (∀ j, j < 60 → m'' 12 j = nI (g j)) ∧ f_X10_cost_l32 k (nI p) (nI A) (nI (smN g i)) (nI i) m' = if nI (smN g 60) = 0 then ((f_X10_found 6 m'').bind fun y4 => some (y4.1, y4.2)) else ((f_X10_isThere (nI p) m'').bind fun y3 => if y3 = 0 then some (0, m'') else ((f_X10_shareOf (nI A) 60 (nI p) m'').bind fun y5 => some (y5, m''))) := by
    intro d
    induction d with
    | zero =>
      intro k i m' hi hk h1 h2
      cases k with
      | zero => omega
      | succ k =>
        have : i = 60 := by omega
        subst this
        refine ⟨m', h1, h2, ?_⟩
        show f_X10_cost_l32_body (f_X10_cost_l32 k) (nI p) (nI A) (nI (smN g 60)) (nI 60) m' = _
        unfold f_X10_cost_l32_body
        rw [if_pos (by decide)]
    | succ d ih =>
      intro k i m' hi hk h1 h2
      cases k with
      | zero => omega
      | succ k =>
        obtain ⟨m'', e1, e2, e3⟩ := ih k (i + 1) (mst m' 12 i (nI (g i))) (by omega) (by omega) h1.mst (fun j hj => by
          rw [mst_at]
          by_cases e : j = i
          · subst e; rw [upd_at]
          · rw [upd_ne _ _ e]; exact h2 j (by omega))
        refine ⟨m'', e1, e2, ?_⟩
        rw [← e3]
        show f_X10_cost_l32_body (f_X10_cost_l32 k) (nI p) (nI A) (nI (smN g i)) (nI i) m' = f_X10_cost_l32 k (nI p) (nI A) (nI (smN g i + g i)) (nI (i + 1)) (mst m' 12 i (nI (g i)))
        unfold f_X10_cost_l32_body
        rw [if_neg (show ¬ (60 : Int32) ≤ nI i from nI_ge (a := i) (b := 60) (by omega) (by omega)), of_s (k := 32) (by rfl) (by omega), Option.bind_some, h1 1 (by decide), (hg i (by omega)).2.1, chk_t (inb_nI (by omega) (by omega)), chk_t (inb_nI (by omega) (by omega)), nI_clamp (by omega), Option.bind_some, mst_at, upd_at, nI_add, nI_1]
  obtain ⟨w'', c1, c2, c3⟩ := kc 60 FU 0 w (by omega) (by unfold FU; omega) ⟨fun _ _ => rfl, rfl⟩ (fun j hj => by omega)
  obtain ⟨m'', d1, d2, d3⟩ := km 60 FU 0 m (by omega) (by unfold FU; omega) (fun _ _ => rfl) (fun j hj => by omega)
  have hR2 := hR1.w8 c1 d1
  rw [show f_X9_cost_l28 FU (nI p) (nI A) 0 0 w = _ from c3, show f_X10_cost_l32 FU (nI p) (nI A) 0 0 m = _ from d3]
  have hw2 : w''.2 = w.2 := c1.2
  have main : Eq0 n w'' (if nI (smN g 60) = 0 then ((f_X9_found 6 w'').bind fun y4 => some (y4.1, y4.2)) else ((f_X9_shareOf (nI A) (nI p) w'').bind fun y3 => some (y3, w''))) (if nI (smN g 60) = 0 then ((f_X10_found 6 m'').bind fun y4 => some (y4.1, y4.2)) else ((f_X10_isThere (nI p) m'').bind fun y3 => if y3 = 0 then some (0, m'') else ((f_X10_shareOf (nI A) 60 (nI p) m'').bind fun y5 => some (y5, m'')))) := by
    refine Eq0.ite (fun _ => Eq0.fnd hR2 hn) (fun hz => ?_)
    have hpos : 0 < smN g 60 := by
      rcases Nat.eq_zero_or_pos (smN g 60) with q | q
      · rw [q] at hz; exact absurd rfl hz
      · exact q
    have g3'' : Rs (w''.1 11) (m'' 1) T := by rw [c1.1 11 (by decide), d1 1 (by decide)]; exact g3
    rw [shC c2 (fun i hi => (hg i hi).1) hA (show p < 60 by omega) hpos, isThere_s g3'' (by omega), Option.bind_some, Option.bind_some, gd, d1 1 (by decide)]
    by_cases h0 : m 1 (104 * p) ≠ 0
    · rw [if_pos h0, show (60 : Int32) = nI 60 from rfl, shM (N := 60) (Nat.le_refl _) d2 (fun i hi => (hg i hi).1) hA (show p < 60 by omega) hpos, Option.bind_some]
      exact Eq0.ret hR2 hn
    · rw [if_neg h0]
      have hz0 : g p = 0 := by
        have h1 := ((g3.1 p (by omega)).2.2.2.2 (Classical.not_not.mp h0)).2 32 (by omega)
        have h2 : m 1 (104 * p + 32) = nI (g p) := (hg p (by omega)).2.1
        have h3 : nI (g p) = nI 0 := h2.symm.trans h1
        exact nI_inj (by have := (hg p (by omega)).1; omega) (by omega) h3
      rw [shV_0 hz0 hpos]
      exact Eq0.ret hR2 hn
  obtain ⟨r, w2, m2, e1, e2, e3, e4⟩ := main
  exact ⟨r, w2, m2, e1, e2, e3, e4.trans hw2⟩
theorem eq_share (hR : Rl n w wm) (hn : n < 513) (a1 a2 : Int32) : ∃ r w2 wm2, f_X9_share a1 a2 w = some (r, w2) ∧ f_X10_share a1 a2 wm = some (r, wm2) ∧ Rl (n + 1) w2 wm2 ∧ w2.2 = w.2 := by
  have hR1 : Rl n w (mst wm 0 0 0) := hR.thr
  unfold f_X9_share f_X10_share
  generalize mst wm 0 0 0 = m at hR1 ⊢
  show Eq0 n w _ _
  obtain ⟨T, O, hc, hm, b1, b2, g1, g2, g3, g4, g5⟩ := id hR1
  obtain ⟨N, l1, l2, l3, l4, l5, l6⟩ := g3.2.1
  rw [isLoad_s a1 l2, misLoad_s a1 l3]
  simp only [Option.bind_some, gd]
  refine Eq0.ite (fun h => ?_) (fun _ => Eq0.ret hR1 hn)
  obtain ⟨l, hl, rfl⟩ := rngL (by omega) h
  rw [lcell_s (k := 3) (by rfl), Option.bind_some, get_s (by omega), Option.bind_some, l4 l (by omega) 3 (by omega), la3_s, chk_t (inb_nI (by omega) (by omega)), nI_clamp (by omega), isPlace_s, Option.bind_some, gd]
  have hw0 : whr (m 1) l = m 1 (8844 + 5 * l + 3) := rfl
  obtain ⟨hwl, ⟨A, hA, eA⟩, -⟩ := l5 l hl
  rcases hwl with hw | hw | ⟨p, hp, hw, h3⟩
  · rw [hw0] at hw
    rw [hw, if_neg (by decide), if_neg (by decide)]; exact Eq0.fnd hR1 hn
  · rw [hw0] at hw
    rw [hw, if_neg (by decide), if_neg (by decide)]; exact Eq0.fnd hR1 hn
  rw [hw0] at hw
  obtain ⟨k, hk, ek⟩ := kind_ex g3 hp h3
  rw [hw, if_pos ⟨nI_pos' (by omega), show nI p ≤ nI 59 from nI_le (by omega) (by omega)⟩, if_pos (nI_pos' (by omega)), isBank_s g3 hp hk ek, Option.bind_some, gd, kindOf_s hp hk ek, Option.bind_some]
  by_cases h4 : k = 4
  case neg =>
    rw [if_neg h4, if_neg (show ¬ nI k = (4 : Int32) from fun q => h4 (nI_inj (b := 4) (by omega) (by omega) q))]
    exact Eq0.fnd hR1 hn
  subst h4
  obtain ⟨x1, x2, x3, x4, ⟨d, d1, d2, d3, d4, d5⟩, x6, x7, x8, x9, x10⟩ := (g3.1 p hp).1
  rw [if_pos rfl, if_pos (show nI 4 = (4 : Int32) from rfl), read_k (k := 8) (by rfl) hp (by omega), of_s (k := 7) (by rfl) (by omega), Option.bind_some, Option.bind_some, show w.1 11 (78 * p + 8) = nI d from x4.trans d2, show m 1 (104 * p + 7) = nI d from d2, within_s, in_s, Option.bind_some, Option.bind_some, gd, gd]
  refine Eq0.ite (fun h2 => ?_) (fun _ => Eq0.fnd hR1 hn)
  obtain ⟨t, ht, rfl⟩ := rngL (by omega) h2
  obtain ⟨g, hg⟩ : ∃ g : Nat → Nat, (∀ i, i < 60 → g i < 2 ^ 20) ∧ (∀ i, i < d → m 1 (104 * p + (8 + i)) = nI (g i) ∧ w.1 11 (78 * p + (13 + i)) = nI (g i) ∧ 0 < g i) ∧ ∀ i, d ≤ i → i < 60 → g i = 0 := by
    refine ⟨fun i => if i < d then (m 1 (104 * p + (8 + i))).toNatClampNeg else 0, fun i hi => ?_, fun i hi => ?_, fun i h1 h2 => if_neg (by omega)⟩
    · show (if i < d then (m 1 (104 * p + (8 + i))).toNatClampNeg else 0) < 2 ^ 20
      by_cases hid : i < d
      · rw [if_pos hid]
        obtain ⟨r, hr, er⟩ := x8 i (by omega)
        rw [show m 1 (104 * p + (8 + i)) = nI r from er, nI_clamp (by omega)]
        omega
      · rw [if_neg hid]; omega
    · show _ = nI (if i < d then (m 1 (104 * p + (8 + i))).toNatClampNeg else 0) ∧ _ = nI (if i < d then (m 1 (104 * p + (8 + i))).toNatClampNeg else 0) ∧ 0 < (if i < d then (m 1 (104 * p + (8 + i))).toNatClampNeg else 0)
      obtain ⟨r, hr, er⟩ := x8 i (by omega)
      have er' : m 1 (104 * p + (8 + i)) = nI r := er
      have hr0 : r ≠ 0 := fun q => d5 i hi (by rw [er, q]; rfl)
      rw [if_pos hi, er', nI_clamp (by omega)]
      exact ⟨rfl, (x6 ek i (by omega)).trans er, by omega⟩
  obtain ⟨hg1, hg2, hg3⟩ := hg
  have kc : ∀ (dd k i : Nat) (w' : CW), i + dd = d → dd < k → W8 w w' → (∀ j, j < 60 → w'.1 8 j = if j < i then nI (g j) else 0) → ∃ w'', W8 w w'' ∧ (∀ j, j < 60 → w''.1 8 j = nI (g j)) ∧ f_X9_share_l88 k (nI l) (nI t) (nI p) (nI d) (nI i) w' = f_X9_share_b125 (nI l) (nI t) w'' := by
    intro dd
    induction dd with
    | zero =>
      intro k i w' hi hk h1 hv
      cases k with
      | zero => omega
      | succ k =>
        have : i = d := by omega
        subst this
        refine ⟨w', h1, fun j hj => ?_, ?_⟩
        · rw [hv j hj]
          by_cases hji : j < i
          · rw [if_pos hji]
          · rw [if_neg hji, hg3 j (by omega) hj]; rfl
        · show f_X9_share_l88_body (f_X9_share_l88 k) (nI l) (nI t) (nI p) (nI i) (nI i) w' = _
          unfold f_X9_share_l88_body
          rw [if_pos (nI_le (Nat.le_refl _) (by omega))]
    | succ dd ih =>
      intro k i w' hi hk h1 hv
      cases k with
      | zero => omega
      | succ k =>
        obtain ⟨w'', e1, e2, e3⟩ := ih k (i + 1) (cs w' 8 i (nI (g i))) (by omega) (by omega) h1.cs (fun j hj => by
          rw [cs_at]
          by_cases e : j = i
          · subst e; rw [upd_at, if_pos (by omega)]
          · rw [upd_ne _ _ e, hv j hj]
            by_cases hji : j < i
            · rw [if_pos hji, if_pos (by omega)]
            · rw [if_neg hji, if_neg (by omega)])
        refine ⟨w'', e1, e2, ?_⟩
        rw [← e3]
        show f_X9_share_l88_body (f_X9_share_l88 k) (nI l) (nI t) (nI p) (nI d) (nI i) w' = _
        unfold f_X9_share_l88_body
        rw [if_neg (nI_ge (by omega) (by omega)), if_neg (show ¬ (6 : Int32) ≤ nI i from nI_ge (a := i) (b := 6) (by omega) (by omega)), read_k (k := 13 + i) (by exact nI_add 13 i) hp (by omega), Option.bind_some, h1.1 11 (by decide), (hg2 i (by omega)).2.1, chk_t (inb_nI (by omega) (by omega)), nI_clamp (by omega), nI_1]
  have km : ∀ (dd k i : Nat) (m' : MW), i + dd = d → dd < k → W12 m m' → (∀ j, j < i → m' 12 j = nI (g j)) → ∃ m'', W12 m m'' ∧ (∀ j, j < d → m'' 12 j = nI (g j)) ∧ f_X10_share_l85 k (nI l) (nI t) (nI p) (nI d) (nI i) m' = (f_X10_shareOf (m 1 (8844 + 5 * l + 1)) (nI d) (nI t) m'').bind fun y3 => some (y3, m'') := by
    intro dd
    induction dd with
    | zero =>
      intro k i m' hi hk h1 hv
      cases k with
      | zero => omega
      | succ k =>
        have : i = d := by omega
        subst this
        refine ⟨m', h1, hv, ?_⟩
        show f_X10_share_l85_body (f_X10_share_l85 k) (nI l) (nI t) (nI p) (nI i) (nI i) m' = _
        unfold f_X10_share_l85_body
        rw [if_pos (nI_le (Nat.le_refl _) (by omega)), lb_s, show nI (8844 + 5 * l) + (1 : Int32) = nI (8844 + 5 * l + 1) from nI_add _ _, chk_t (inb_nI (by omega) (by omega)), nI_clamp (by omega), h1 1 (by decide)]
    | succ dd ih =>
      intro k i m' hi hk h1 hv
      cases k with
      | zero => omega
      | succ k =>
        obtain ⟨m'', e1, e2, e3⟩ := ih k (i + 1) (mst m' 12 i (nI (g i))) (by omega) (by omega) h1.mst (fun j hj => by
          rw [mst_at]
          by_cases e : j = i
          · subst e; rw [upd_at]
          · rw [upd_ne _ _ e]; exact hv j (by omega))
        refine ⟨m'', e1, e2, ?_⟩
        rw [← e3]
        show f_X10_share_l85_body (f_X10_share_l85 k) (nI l) (nI t) (nI p) (nI d) (nI i) m' = _
        unfold f_X10_share_l85_body
        rw [if_neg (nI_ge (by omega) (by omega)), of_s (k := 8 + i) (by exact nI_add 8 i) (by omega), Option.bind_some, h1 1 (by decide), (hg2 i (by omega)).1, chk_t (inb_nI (by omega) (by omega)), nI_clamp (by omega), nI_1]
  have hf : f_J7_fill_53178 8 60 0 w = some (ca w 8 (fillf 60 0 (w.1 8))) := rfl
  rw [hf, Option.bind_some]
  obtain ⟨w'', c1, c2, c3⟩ := kc d FU 0 (ca w 8 (fillf 60 0 (w.1 8))) (by omega) (by unfold FU; omega) ⟨fun p hp => ca_ne _ _ hp, rfl⟩ (fun j hj => by
    rw [ca_at, if_neg (by omega)]
    unfold fillf
    exact if_pos hj)
  obtain ⟨m'', e1, e2, e3⟩ := km d FU 0 m (by omega) (by unfold FU; omega) (fun _ _ => rfl) (fun j hj => by omega)
  rw [show f_X9_share_l88 FU (nI l) (nI t) (nI p) (nI d) 0 (ca w 8 (fillf 60 0 (w.1 8))) = _ from c3, show f_X10_share_l85 FU (nI l) (nI t) (nI p) (nI d) 0 m = _ from e3]
  have hR2 := hR1.w8 c1 e1
  unfold f_X9_share_b125
  have hz := shV_z (A := A) (wt := g) (show d ≤ 60 by omega) ht hg3
  have hpos : 0 < smN g d := Nat.lt_of_lt_of_le (hg2 t ht).2.2 (smN_ge d t ht)
  rw [lcell_s (k := 1) (by rfl), Option.bind_some, get_s (by omega), Option.bind_some, c1.1 11 (by decide), l4 l (by omega) 1 (by omega), eA, shC c2 hg1 (show A ≤ 1000000 by omega) (show t < 60 by omega) (by rw [hz.1]; exact hpos), shM (show d ≤ 60 by omega) e2 (fun i hi => hg1 i (by omega)) (show A ≤ 1000000 by omega) ht hpos, Option.bind_some, Option.bind_some, hz.1, hz.2]
  obtain ⟨r, w2, m2, q1, q2, q3, q4⟩ : Eq0 n w'' (some (nI (shV A t g (smN g d) d), w'')) (some (nI (shV A t g (smN g d) d), m'')) := Eq0.ret hR2 hn
  exact ⟨r, w2, m2, q1, q2, q3, q4.trans c1.2⟩
end N4
