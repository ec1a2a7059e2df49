section M6
variable {n : Nat} {w : CW} {wm : MW} {now s : Nat → Int32} {T p : Nat}
theorem gb_rs {now' s' : Nat → Int32} {tot : Int32} (h : Rs now s T) (hp : p < 60) (h0 : s (104 * p) ≠ 0)
    (c1 : ∀ j, (∀ i, i < 12 → j ≠ 8432 + i ∧ j ≠ 78 * p + (36 + i)) → j ≠ 8553 → now' j = now j) (c2 : ∀ i, i < 12 → now' (8432 + i) = now (8432 + i) - now (78 * p + (36 + i)) ∧ now' (78 * p + (36 + i)) = 0) (c4 : now' 8553 = now 8553 + tot)
    (m1 : ∀ j, (∀ i, i < 12 → j ≠ 8720 + 2 * i + 1 ∧ j ≠ 104 * p + (14 + i)) → j ≠ 11347 → s' j = s j) (m2 : ∀ i, i < 12 → s' (8720 + 2 * i + 1) = s (8720 + 2 * i + 1) - s (104 * p + (14 + i)) ∧ s' (104 * p + (14 + i)) = 0) (m4 : s' 11347 = s 11347 + tot) : Rs now' s' T := by
  obtain ⟨a1, a2, a3, a4, a5, a6, a7⟩ := id h
  obtain ⟨pa, pb, pr, pc, pe⟩ := a1 p hp
  obtain ⟨z1, z2, z3, z4⟩ := a6
  refine ⟨fun q hq => ?_, a2.congr (c1 _ (fun i hi => by omega) (by omega)) (m1 _ (fun i hi => by omega) (by omega)) (fun j h1 h2 => c1 _ (fun i hi => by omega) (by omega)) (fun j h1 h2 => m1 _ (fun i hi => by omega) (by omega)) (fun q hq h9 => by rw [m1 _ (fun i hi => by omega) (by omega)]; exact h9) (fun q hq j hj => c1 _ (fun i hi => by omega) (by omega)), ⟨fun i hi => ?_, fun i j hi hj hij => ?_⟩, a4.congr (fun j h1 h2 => c1 _ (fun i hi => by omega) (by omega)) (fun j h1 h2 => m1 _ (fun i hi => by omega) (by omega)), a5.congr (fun j h1 h2 => c1 _ (fun i hi => by omega) (by omega)) (fun j h1 h2 => m1 _ (fun i hi => by omega) (by omega)), ⟨fun i hi => ?_, ?_, ?_, fun i hi => ?_⟩, (m1 _ (fun i hi => by omega) (by omega)).trans a7⟩
  · by_cases hqp : q = p
    · rw [hqp]
      refine ⟨pa.congr (fun j hj => c1 (78 * p + j) (fun i hi => by omega) (by omega)) (fun j hj => m1 (104 * p + j) (fun i hi => by omega) (by omega)), ⟨fun i hi => ?_, fun i hi => ?_, ?_⟩, pr.congr (fun j hj => c1 (78 * p + j) (fun i hi => by omega) (by omega)) (fun j hj => m1 (104 * p + j) (fun i hi => by omega) (by omega)), pc.congr (fun j hj => c1 (78 * p + j) (fun i hi => by omega) (by omega)) (fun j hj => m1 (104 * p + j) (fun i hi => by omega) (by omega)), RPe.of (fun q => h0 ((m1 (104 * p) (fun i hi => by omega) (by omega)).symm.trans q))⟩
      · show now' (78 * p + (27 + i)) = s' (104 * p + (32 + i))
        rw [c1 _ (fun i hi => by omega) (by omega), m1 _ (fun i hi => by omega) (by omega)]; exact pb.1 i hi
      · show now' (78 * p + (36 + i)) = s' (104 * p + (14 + i))
        rw [(c2 i hi).2, (m2 i hi).2]
      · show ∃ g, g < T + 1 ∧ s' (104 * p + 32) = nI g
        rw [m1 _ (fun i hi => by omega) (by omega)]; exact pb.2.2
    · exact (a1 q hq).congr (fun j hj => c1 (78 * q + j) (fun i hi => by omega) (by omega)) (fun j hj => m1 (104 * q + j) (fun i hi => by omega) (by omega))
  · obtain ⟨y1, y2, v', x', y3, y4, y5, y6, y7, y8, y9⟩ := a3.1 i hi
    have hcl := crd_le (s := s) i 60 p hp
    have hcp : crd s' p i = 0 := by
      show (s' (104 * p + (14 + i))).toNatClampNeg = _
      rw [(m2 i hi).2]; rfl
    have hcq : ∀ q, q < 60 → q ≠ p → crd s' q i = crd s q i := fun q h1 h2 => by
      unfold crd
      rw [m1 _ (fun i hi => by omega) (by omega)]
    have hs := crs_upd 60 hp hcq
    have e3 : now (78 * p + (36 + i)) = s (104 * p + (14 + i)) := pb.2.1 i hi
    refine ⟨?_, ?_, v', x' - crd s p i, y3, by omega, ?_, ?_, fun q hq => ?_, by omega, fun q => by have := y9 q; omega⟩
    · rw [c1 _ (fun i hi => by omega) (by omega), m1 _ (fun i hi => by omega) (by omega)]; exact y1
    · rw [(c2 i hi).1, (m2 i hi).1, e3, y2]
    · rw [m1 _ (fun i hi => by omega) (by omega)]; exact y5
    · rw [(m2 i hi).1, y6, y7 p hp, pk_sub (by omega)]
    · by_cases hqp : q = p
      · subst hqp
        rw [hcp]; exact (m2 i hi).2
      · rw [m1 _ (fun i hi => by omega) (by omega), hcq q hq hqp]; exact y7 q hq
  · rw [m1 _ (fun i hi => by omega) (by omega), m1 _ (fun i hi => by omega) (by omega)]; exact a3.2 i j hi hj hij
  · rw [c1 _ (fun i hi => by omega) (by omega), c1 _ (fun i hi => by omega) (by omega), m1 _ (fun i hi => by omega) (by omega), m1 _ (fun i hi => by omega) (by omega)]; exact z1 i hi
  · rw [c1 _ (fun i hi => by omega) (by omega), m1 _ (fun i hi => by omega) (by omega)]; exact z2
  · rw [m1 _ (fun i hi => by omega) (by omega)]; exact z3
  · by_cases e : i = 1
    · subst e
      show now' 8553 = s' 11347
      rw [c4, m4, show now 8553 = s 11347 from z4 1 (by omega)]
    · rw [c1 _ (fun i hi => by omega) (by omega), m1 _ (fun i hi => by omega) (by omega)]; exact z4 i hi
theorem gb_rs2 {tot : Int32} (h : Rs now s T) (hp : p < 60) (h0 : s (104 * p) ≠ 0) : Rs (upd (gbN now p 12) 8553 (gbN now p 12 8553 + tot)) (upd (gbS s p 12) 11347 (gbS s p 12 11347 + tot)) T := by
  refine gb_rs (tot := tot) h hp h0 (fun j h1 h2 => ?_) (fun i hi => ?_) ?_ (fun j h1 h2 => ?_) (fun i hi => ?_) ?_
  · rw [upd_ne _ _ h2, gbN_ne hp 12 j (by omega) h1]
  · rw [upd_ne _ _ (by omega), upd_ne _ _ (by omega)]; exact gbN_at hp 12 i (by omega) hi
  · rw [upd_at, gbN_ne hp 12 _ (by omega) (fun i hi => by omega)]
  · rw [upd_ne _ _ h2, gbS_ne hp 12 j (by omega) h1]
  · rw [upd_ne _ _ (by omega), upd_ne _ _ (by omega)]; exact gbS_at hp 12 i (by omega) hi
  · rw [upd_at, gbS_ne hp 12 _ (by omega) (fun i hi => by omega)]
theorem bnc_eta (x : Option ((Int32 × CW) × Nat)) : (bnc x fun y => some ((y.1, y.2), 0)) = x := by
  cases x with
  | none => rfl
  | some a => rfl
theorem bind_eta (x : Option (Int32 × MW)) : (x.bind fun y => some (y.1, y.2)) = x := by
  cases x with
  | none => rfl
  | some a => rfl
theorem eq_refund (hR : Rl n w wm) (hn : n < 513) (a1 : Int32) : ∃ r w2 wm2 n2, f_X9_refund a1 w = some ((r, w2), n2) ∧ f_X10_refund a1 wm = some (r, wm2) ∧ Rl (n + 1) w2 wm2 ∧ 4096 * n2 + 2 * w.2 = 2 * w2.2 := by
  have hR1 : Rl n w (mst wm 0 0 0) := hR.thr
  unfold f_X9_refund f_X10_refund
  generalize mst wm 0 0 0 = m at hR1 ⊢
  show Eq1 n w _ _
  simp only [isPlace_s, misPlace_s, Option.bind_some, gd]
  refine Eq1.ite (fun h => ?_) (fun _ => Eq1.ret hR1 hn)
  obtain ⟨p, hp, rfl⟩ := rng (n := 59) (by omega) h
  obtain ⟨T, O, hc, hm, b1, b2, g1, g2, g3, g4, g5⟩ := id hR1
  rw [hasMachine_s g3 (by omega), isThere_s g3 (by omega), Option.bind_some, Option.bind_some, gd, gd]
  refine Eq1.ite (fun h3 => ?_) (fun _ => Eq1.fnd hR1 hn)
  rw [bnc_eta, bind_eta]
  unfold f_X6_giveBack f_X10_giveBack
  rw [creditOf_s g3 (by omega), mcreditOf_s (by omega), Option.bind_some, Option.bind_some]
  exact Eq1.fin hn b2 g4 g5 (givC (now := w.1 11) (by omega) 12 FU 0 _ w (by omega) (by unfold FU; omega) g1 rfl (by omega)) (givM (s := m 1) (by omega) 12 FU 0 _ _ m (by omega) (by unfold FU; omega) g2 rfl (by omega) (by omega)) (by omega) (by omega) (by omega) (gb_rs2 g3 (by omega) h3)
theorem zC {τ O Z : Nat} {hist : Nat → Nat → Int32} {r : Int32} (hp : p < 60) : ∀ (d k i b : Nat) (w : CW) (now : Nat → Int32), i + d = 78 → d < k → HCx w τ T O b Z hist → w.1 11 = now → b + d < 120000 →
    OkI (f_X9_remove_l70 k (nI p) r (nI i) w) w τ T O (b + d) Z hist r (fun j => if 78 * p + i ≤ j ∧ j < 78 * p + 78 then 0 else now j)
  | d, 0, i, b, w, now, _, h, _, _, _ => by omega
  | 0, k + 1, i, b, w, now, h, _, h1, e1, _ => by
    have : i = 78 := by omega
    subst this
    show OkI (f_X9_remove_l70_body (f_X9_remove_l70 k) (nI p) r (nI 78) w) _ _ _ _ _ _ _ _ _
    unfold f_X9_remove_l70_body
    rw [if_pos (by decide)]
    exact OkI.dn h1 (e1.trans (funext fun j => (if_neg (by omega)).symm))
  | d + 1, k + 1, i, b, w, now, h, h0, h1, e1, hb => by
    show OkI (f_X9_remove_l70_body (f_X9_remove_l70 k) (nI p) r (nI i) w) _ _ _ _ _ _ _ _ _
    unfold f_X9_remove_l70_body
    rw [if_neg (show ¬ (78 : Int32) ≤ nI i from nI_ge (a := i) (b := 78) (by omega) (by omega)), nI_1]
    refine (write_k (k := i) rfl h1 e1 hp (by omega) (by omega)).bi fun w2 h2 e2 _ => ?_
    have := zC (r := r) hp d k (i + 1) (b + 1) w2 _ (by omega) (by omega) h2 e2 (by omega)
    rw [show b + 1 + d = b + (d + 1) by omega] at this
    refine this.to (funext fun j => ?_)
    by_cases hj : j = 78 * p + i
    · subst hj
      rw [if_neg (by omega), if_pos (by omega), upd_at]
    · rw [upd_ne _ _ hj]
      by_cases h3 : 78 * p + i ≤ j ∧ j < 78 * p + 78
      · rw [if_pos h3, if_pos (by omega)]
      · rw [if_neg h3, if_neg (by omega)]
theorem zM {O Z : Nat} {hist : Nat → Nat → Int32} {r : Int32} (hp : p < 60) : ∀ (d k i b C : Nat) (m : MW) (s : Nat → Int32), i + d = 104 → d < k → HMx m T O b Z C hist → m 1 = s → b + d < 120000 → C + d < 2 ^ 30 →
    OkMI (f_X10_remove_l70 k (nI p) r (nI i) m) m T O (b + d) Z (C + d) hist r (fun j => if 104 * p + i ≤ j ∧ j < 104 * p + 104 then 0 else s j)
  | d, 0, i, b, C, m, s, _, h, _, _, _, _ => by omega
  | 0, k + 1, i, b, C, m, s, h, _, h1, e1, _, _ => by
    have : i = 104 := by omega
    subst this
    show OkMI (f_X10_remove_l70_body (f_X10_remove_l70 k) (nI p) r (nI 104) m) _ _ _ _ _ _ _ _ _
    unfold f_X10_remove_l70_body
    rw [if_pos (by decide)]
    exact OkMI.dn h1 (e1.trans (funext fun j => (if_neg (by omega)).symm))
  | d + 1, k + 1, i, b, C, m, s, h, h0, h1, e1, hb, hC => by
    show OkMI (f_X10_remove_l70_body (f_X10_remove_l70 k) (nI p) r (nI i) m) _ _ _ _ _ _ _ _ _
    unfold f_X10_remove_l70_body
    rw [if_neg (show ¬ (104 : Int32) ≤ nI i from nI_ge (a := i) (b := 104) (by omega) (by omega)), nI_1]
    refine (let_k (k := i) rfl h1 e1 (by omega) (by omega) (by omega)).bi fun m2 h2 e2 _ => ?_
    have := zM (r := r) hp d k (i + 1) (b + 1) (C + 1) m2 _ (by omega) (by omega) h2 e2 (by omega) (by omega)
    rw [show b + 1 + d = b + (d + 1) by omega, show C + 1 + d = C + (d + 1) by omega] at this
    obtain ⟨m', x1, x2, x3, x4⟩ := this
    refine ⟨m', x1, x2, x3.trans (funext fun j => ?_), x4⟩
    by_cases hj : j = 104 * p + i
    · subst hj
      rw [if_neg (by omega), if_pos (by omega), upd_at]
    · rw [upd_ne _ _ hj]
      by_cases h3 : 104 * p + i ≤ j ∧ j < 104 * p + 104
      · rw [if_pos h3, if_pos (by omega)]
      · rw [if_neg h3, if_neg (by omega)]
theorem RPl_zero {c m : Nat → Int32} (hc : ∀ k, k < 78 → c k = 0) (hm : ∀ k, k < 104 → m k = 0) : RPl (T + 1) c m := by
  have m0 : m 0 = nI 0 := hm 0 (by omega)
  refine ⟨⟨⟨0, by omega, m0⟩, by rw [hc 0 (by omega), hm 0 (by omega)], by rw [hc 1 (by omega), hm 2 (by omega)], by rw [hc 8 (by omega), hm 7 (by omega)], ⟨0, by omega, hm 7 (by omega), fun _ => rfl, fun i _ h2 => hm _ (by omega), fun i h1 => by omega⟩, fun _ i hi => by rw [hc _ (by omega), hm _ (by omega)], fun _ => ⟨by rw [hc 13 (by omega), hm 1 (by omega)], fun i h1 h2 => hc _ (by omega)⟩, fun i hi => ⟨0, by omega, hm _ (by omega)⟩, ⟨0, by omega, hm _ (by omega)⟩, ⟨0, by omega, hm _ (by omega)⟩⟩, ⟨fun i hi => by rw [hc _ (by omega), hm _ (by omega)], fun i hi => by rw [hc _ (by omega), hm _ (by omega)], ⟨0, by omega, hm _ (by omega)⟩⟩, Or.inl ⟨hm _ (by omega), hc _ (by omega), hc _ (by omega), hc _ (by omega), hm _ (by omega)⟩, ⟨by rw [hc 2 (by omega), hm 3 (by omega)], by rw [hc 3 (by omega), hm 4 (by omega)], by rw [hc 4 (by omega), hm 5 (by omega)], by rw [hc 5 (by omega), hm 6 (by omega)], Or.inl (hm 6 (by omega)), by rw [hc 6 (by omega), hm 30 (by omega)], ⟨0, by omega, hm 30 (by omega)⟩, by rw [hc 7 (by omega), hm 31 (by omega)], Or.inr ⟨hm 101 (by omega), by rw [hm 4 (by omega)]; decide⟩⟩, fun _ => ⟨hc, hm⟩⟩
theorem eq_remove (hR : Rl n w wm) (hn : n < 513) (a1 : Int32) : ∃ r w2 wm2 n2, f_X9_remove a1 w = some ((r, w2), n2) ∧ f_X10_remove a1 wm = some (r, wm2) ∧ Rl (n + 1) w2 wm2 ∧ 4096 * n2 + 2 * w.2 = 2 * w2.2 := by
  have hR1 : Rl n w (mst wm 0 0 0) := hR.thr
  unfold f_X9_remove f_X10_remove f_X9_remove_b52 f_X10_remove_b55
  generalize mst wm 0 0 0 = m at hR1 ⊢
  show Eq1 n w _ _
  simp only [isPlace_s, misPlace_s, Option.bind_some, gd]
  refine Eq1.ite (fun h => ?_) (fun _ => Eq1.ret hR1 hn)
  obtain ⟨p, hp, rfl⟩ := rng (n := 59) (by omega) h
  obtain ⟨T, O, hc, hm, b1, b2, g1, g2, g3, g4, g5⟩ := id hR1
  rw [hasMachine_s g3 (by omega), isThere_s g3 (by omega), Option.bind_some, Option.bind_some, gd, gd]
  refine Eq1.ite (fun h3 => ?_) (fun _ => Eq1.fnd hR1 hn)
  obtain ⟨k, hk, ek⟩ := kind_ex g3 (by omega) h3
  obtain ⟨N, l1, l2, l3, l4, l5, l6⟩ := g3.2.1
  obtain ⟨c9, c9'⟩ := cell9_s g3 (show p < 60 by omega) l1 l3
  obtain ⟨hr1, hr2⟩ := hasRun_s g3 (show p < 60 by omega)
  rw [read_k (k := 9) (by rfl) (by omega) (by omega), loadsIn_s l1 l3, Option.bind_some, Option.bind_some, c9]
  refine Eq1.ite (fun _ => Eq1.fnd hR1 hn) (fun hl => ?_)
  have hin : inP (m 1) N p = [] := by
    rcases Nat.eq_zero_or_pos (inP (m 1) N p).length with q | q
    · exact List.eq_nil_of_length_eq_zero q
    · exact absurd (nI_lt (a := 0) q (by omega)) hl
  rw [hr1, Option.bind_some, gd, of_s (k := 26) (by rfl) (by omega), Option.bind_some]
  by_cases hrun : m 1 (104 * p + 26) = 1
  · rw [if_pos hrun, if_pos hrun]; exact Eq1.fnd hR1 hn
  rw [if_neg hrun, if_neg hrun, creditOf_s g3 (by omega), mcreditOf_s (by omega), Option.bind_some, Option.bind_some]
  refine Eq1.ite (fun hcr => ?_) (fun _ => Eq1.fnd hR1 hn)
  rw [read_k (k := 0) (by rfl) (by omega) (by omega), kindOf_s (by omega) hk ek, Option.bind_some, Option.bind_some, show w.1 11 (78 * p + 0) = nI (k + 1) from (g3.1 p (by omega)).1.2.1.trans ek, show nI (k + 1) - (1 : Int32) = nI (k + 1 - 1) from pk_sub (a := k + 1) (b := 1) (by omega), Nat.add_sub_cancel]
  refine Eq1.fin hn b2 g4 g5 (zC (by omega) 78 FU 0 _ w _ (by omega) (by unfold FU; omega) g1 rfl (by omega)) (zM (by omega) 104 FU 0 _ _ m _ (by omega) (by unfold FU; omega) g2 rfl (by omega) (by omega)) (by omega) (by omega) (by omega) ?_
  obtain ⟨now', hnow⟩ : ∃ now', now' = fun j => if 78 * p + 0 ≤ j ∧ j < 78 * p + 78 then 0 else w.1 11 j := ⟨_, rfl⟩
  obtain ⟨s', hs'⟩ : ∃ s', s' = fun j => if 104 * p + 0 ≤ j ∧ j < 104 * p + 104 then 0 else m 1 j := ⟨_, rfl⟩
  rw [← hnow, ← hs']
  have c1 : ∀ j, (j < 78 * p ∨ 78 * p + 78 ≤ j) → now' j = w.1 11 j := fun j hj => by rw [hnow]; exact if_neg (by omega)
  have m1 : ∀ j, (j < 104 * p ∨ 104 * p + 104 ≤ j) → s' j = m 1 j := fun j hj => by rw [hs']; exact if_neg (by omega)
  have c2 : ∀ k, k < 78 → now' (78 * p + k) = 0 := fun j hj => by rw [hnow]; exact if_pos (by omega)
  have m2 : ∀ k, k < 104 → s' (104 * p + k) = 0 := fun j hj => by rw [hs']; exact if_pos (by omega)
  obtain ⟨x1, x2, x3, x4, x5, x6, x7⟩ := id g3
  have hwp : ∀ l, l < N → whr (m 1) l ≠ nI p := by
    intro l hl q
    have : l ∈ inP (m 1) N p := List.mem_filter.mpr ⟨List.mem_range.mpr hl, by rw [decide_eq_true_eq]; exact q⟩
    rw [hin] at this
    exact absurd this (List.not_mem_nil)
  have hw : ∀ l, l < 500 → whr s' l = whr (m 1) l := fun l hl => m1 (8844 + 5 * l + 3) (by omega)
  have hcrd : ∀ i, i < 12 → m 1 (104 * p + (14 + i)) = 0 := fun i hi => by
    have h1 := cr_zero x3 (show p < 60 by omega) hcr hi
    obtain ⟨-, -, -, -, -, -, -, -, y7, -, -⟩ := x3.1 i hi
    rw [y7 p (by omega), h1]; rfl
  refine ⟨fun q hq => ?_, ⟨N, l1, (c1 _ (by omega)).trans l2, (m1 _ (by omega)).trans l3, fun l hl j hj => ?_, fun l hl => ?_, fun q hq => ?_⟩, x3.congr (fun j h1 h2 => c1 _ (by omega)) (fun j h1 h2 => m1 _ (by omega)) (fun q hq i hi => ?_), x4.congr (fun j h1 h2 => c1 _ (by omega)) (fun j h1 h2 => m1 _ (by omega)), x5.congr (fun j h1 h2 => c1 _ (by omega)) (fun j h1 h2 => m1 _ (by omega)), x6.congr (fun j h1 h2 _ => c1 _ (by omega)) (fun j h1 h2 => m1 _ (by omega)), (m1 _ (by omega)).trans x7⟩
  · by_cases hqp : q = p
    · rw [hqp]; exact RPl_zero c2 m2
    · exact (x1 q hq).congr (fun j hj => c1 (78 * q + j) (by omega)) (fun j hj => m1 (104 * q + j) (by omega))
  · rw [c1 _ (by omega), m1 _ (by omega)]; exact l4 l hl j hj
  · rw [hw l (by omega), m1 _ (by omega), m1 _ (by omega)]
    obtain ⟨y1, y2⟩ := l5 l hl
    refine ⟨?_, y2⟩
    rcases y1 with y1 | y1 | ⟨q, v1, v2, v3⟩
    · exact Or.inl y1
    · exact Or.inr (Or.inl y1)
    · have hqp : q ≠ p := fun e => hwp l hl (by rw [← e]; exact v2)
      exact Or.inr (Or.inr ⟨q, v1, v2, by rw [m1 _ (by omega)]; exact v3⟩)
  · have hiq : inP s' N q = inP (m 1) N q := by
      unfold inP
      apply List.filter_congr
      intro l hl
      rw [hw l (by have := List.mem_range.mp hl; omega)]
    rw [hiq]
    by_cases hqp : q = p
    · subst hqp
      rw [hin]
      exact ⟨[], by show 0 ≤ 8; omega, c2 9 (by omega), fun i x hx => by simp at hx, List.Perm.refl _⟩
    · obtain ⟨Ls, v1, v2, v3, v4⟩ := l6 q hq
      refine ⟨Ls, v1, by rw [c1 _ (by omega)]; exact v2, fun i x hx => ?_, v4⟩
      have hi : i < Ls.length := (List.getElem?_eq_some_iff.mp hx).1
      rw [c1 _ (by omega)]; exact v3 i x hx
  · by_cases hqp : q = p
    · subst hqp
      rw [m2 _ (by omega), hcrd i hi]
    · exact m1 _ (by omega)
theorem isBank_s {m : MW} {k : Nat} (h : Rs (w.1 11) (m 1) T) (hp : p < 60) (hk : k ≤ 4) (e : m 1 (104 * p) = nI (k + 1)) : f_X9_isBank (nI p) w = some (if k = 4 then 1 else 0) := by
  unfold f_X9_isBank
  rw [read_k (k := 0) (by rfl) hp (by omega), Option.bind_some, show w.1 11 (78 * p + 0) = nI (k + 1) from (h.1 p hp).1.2.1.trans e]
  by_cases h4 : k = 4
  · subst h4; rw [if_pos (by decide), if_pos rfl]
  · rw [if_neg (show ¬ nI (k + 1) = (5 : Int32) from fun q => h4 (by have := nI_inj (b := 5) (by omega) (by omega) q; omega)), if_neg h4]
theorem eq_drum (hR : Rl n w wm) (hn : n < 513) (a1 a2 : Int32) : ∃ r w2 wm2 n2, f_X9_drum a1 a2 w = some ((r, w2), n2) ∧ f_X10_drum a1 a2 wm = some (r, wm2) ∧ Rl (n + 1) w2 wm2 ∧ 4096 * n2 + 2 * w.2 = 2 * w2.2 := by
  have hR1 : Rl n w (mst wm 0 0 0) := hR.thr
  unfold f_X9_drum f_X10_drum f_X9_drum_b69 f_X10_drum_b76
  generalize mst wm 0 0 0 = m at hR1 ⊢
  show Eq1 n w _ _
  simp only [isPlace_s, misPlace_s, within_s, in_s, Option.bind_some, gd]
  refine Eq1.ite (fun h => ?_) (fun _ => Eq1.ret hR1 hn)
  refine Eq1.ite (fun h2 => ?_) (fun _ => Eq1.ret hR1 hn)
  obtain ⟨p, hp, rfl⟩ := rng (n := 59) (by omega) h
  obtain ⟨u, hu1, hu2, rfl⟩ := rng2 (a := 1) (n := 20000) (by omega) (by omega) h2
  obtain ⟨T, O, hc, hm, b1, b2, g1, g2, g3, g4, g5⟩ := id hR1
  rw [hasMachine_s g3 (by omega), isThere_s g3 (by omega), Option.bind_some, Option.bind_some, gd, gd]
  refine Eq1.ite (fun h3 => ?_) (fun _ => Eq1.fnd hR1 hn)
  obtain ⟨k, hk, ek⟩ := kind_ex g3 (by omega) h3
  obtain ⟨N, l1, l2, l3, l4, l5, l6⟩ := g3.2.1
  obtain ⟨c9, c9'⟩ := cell9_s g3 (show p < 60 by omega) l1 l3
  obtain ⟨hr1, hr2⟩ := hasRun_s g3 (show p < 60 by omega)
  rw [isBank_s g3 (by omega) hk ek, kindOf_s (by omega) hk ek, Option.bind_some, Option.bind_some, gd]
  by_cases h4 : k = 4
  case neg =>
    rw [if_neg h4, if_neg (show ¬ nI k = (4 : Int32) from fun q => h4 (nI_inj (b := 4) (by omega) (by omega) q))]
    exact Eq1.fnd hR1 hn
  subst h4
  rw [if_pos rfl, if_pos (show nI 4 = (4 : Int32) from rfl), read_k (k := 9) (by rfl) (by omega) (by omega), loadsIn_s l1 l3, Option.bind_some, Option.bind_some, c9]
  refine Eq1.ite (fun _ => Eq1.fnd hR1 hn) (fun hl => ?_)
  rw [hr1, Option.bind_some, gd, of_s (k := 26) (by rfl) (by omega), Option.bind_some]
  by_cases hrun : m 1 (104 * p + 26) = 1
  · rw [if_pos hrun, if_pos hrun]; exact Eq1.fnd hR1 hn
  obtain ⟨pa, pb, pr, pc, pe⟩ := g3.1 p (by omega)
  obtain ⟨x1, x2, x3, x4, ⟨d, d1, d2, d3, d4, d5⟩, x6, x7, x8, x9, x10⟩ := id pa
  rw [if_neg hrun, if_neg hrun, read_k (k := 8) (by rfl) (by omega) (by omega), of_s (k := 7) (by rfl) (by omega), Option.bind_some, Option.bind_some, show w.1 11 (78 * p + 8) = nI d from x4.trans d2, show m 1 (104 * p + 7) = nI d from d2]
  by_cases hd : d = 6
  · subst hd
    rw [if_neg (by decide), if_pos (by decide)]
    exact Eq1.ret hR1 hn
  rw [if_pos (show nI d < (6 : Int32) from nI_lt (a := d) (b := 6) (by omega) (by omega)), if_neg (show ¬ nI d = (6 : Int32) from fun q => hd (nI_inj (b := 6) (by omega) (by omega) q)), nI_1]
  refine Eq1.fin hn b2 g4 g5 ((write_k (k := 13 + d) (nI_add 13 d) g1 rfl (by omega) (by omega) (by omega)).bi fun _ h1 e1 _ => (write_k (k := 8) rfl h1 e1 (by omega) (by omega) (by omega)).bi fun _ h1 e1 _ => OkI.dn h1 e1) ((let_k (k := 8 + d) (nI_add 8 d) g2 rfl (by omega) (by omega) (by omega)).bi fun _ h1 e1 _ => (let_k (k := 7) rfl h1 e1 (by omega) (by omega) (by omega)).bi fun _ h1 e1 _ => OkMI.dn h1 e1) (by omega) (by omega) (by omega) ?_
  refine g3.place (p := p) (by omega) (fun j hj => by rw [upd_ne _ _ (by omega), upd_ne _ _ (by omega)]) (fun j hj => by rw [upd_ne _ _ (by omega), upd_ne _ _ (by omega)]) ?_ (fun q => by rw [upd_ne _ _ (by omega), upd_ne _ _ (by omega)]; exact q) (fun k hk => by rw [upd_ne _ _ (by omega), upd_ne _ _ (by omega)]) (fun k hk => by rw [upd_ne _ _ (by omega), upd_ne _ _ (by omega)])
  rw [cv_upd, cv_upd, mv_upd, mv_upd]
  refine ⟨⟨?_, ?_, ?_, by rw [upd_at, upd_at], ⟨d + 1, by omega, upd_at _ _ _, fun q => absurd ek (by rw [upd_ne _ _ (by omega), upd_ne _ _ (by omega)] at q; exact q), fun i h1 h2 => ?_, fun i h1 => ?_⟩, fun _ i hi => ?_, fun q => absurd ek (by rw [upd_ne _ _ (by omega), upd_ne _ _ (by omega)] at q; exact q), fun i hi => ?_, ?_, ?_⟩, pb.congr (fun k hk => by rw [upd_ne _ _ (by omega), upd_ne _ _ (by omega)]) (fun k hk => by rw [upd_ne _ _ (by omega), upd_ne _ _ (by omega)]), pr.congr (fun k hk => by rw [upd_ne _ _ (by omega), upd_ne _ _ (by omega)]) (fun k hk => by rw [upd_ne _ _ (by omega), upd_ne _ _ (by omega)]), pc.congr (fun k hk => by rw [upd_ne _ _ (by omega), upd_ne _ _ (by omega)]) (fun k hk => by rw [upd_ne _ _ (by omega), upd_ne _ _ (by omega)]), RPe.of (by rw [upd_ne _ _ (by omega), upd_ne _ _ (by omega)]; exact h3)⟩
  · rw [upd_ne _ _ (by omega), upd_ne _ _ (by omega)]; exact x1
  · rw [upd_ne _ _ (by omega), upd_ne _ _ (by omega), upd_ne _ _ (by omega), upd_ne _ _ (by omega)]; exact x2
  · rw [upd_ne _ _ (by omega), upd_ne _ _ (by omega), upd_ne _ _ (by omega), upd_ne _ _ (by omega)]; exact x3
  · rw [upd_ne _ _ (by omega), upd_ne _ _ (by omega)]; exact d4 i (by omega) h2
  · rw [upd_ne (k := 7) _ _ (by omega)]
    by_cases e : i = d
    · subst e
      rw [upd_at]
      exact fun q => by have := nI_inj (b := 0) (by omega) (by omega) q; omega
    · rw [upd_ne _ _ (by omega)]; exact d5 i (by omega)
  · rw [upd_ne (k := 8) _ _ (by omega), upd_ne (k := 7) _ _ (by omega)]
    by_cases e : i = d
    · subst e; rw [upd_at, upd_at]
    · rw [upd_ne _ _ (by omega), upd_ne _ _ (by omega)]; exact x6 ek i hi
  · rw [upd_ne _ _ (by omega)]
    by_cases e : i = d
    · subst e; exact ⟨u, hu2, upd_at _ _ _⟩
    · rw [upd_ne _ _ (by omega)]; exact x8 i hi
  · rw [upd_ne _ _ (by omega), upd_ne _ _ (by omega)]; exact x9
  · rw [upd_ne _ _ (by omega), upd_ne _ _ (by omega)]; exact x10
end M6
