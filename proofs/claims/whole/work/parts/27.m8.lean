section M8
variable {n : Nat} {w : CW} {wm : MW} {now s : Nat → Int32} {T p : Nat}
def exB (P : Nat → Bool) : Nat → Bool
  | 0 => false
  | n + 1 => exB P n || P n
theorem exB_of {P : Nat → Bool} {i : Nat} : ∀ (n : Nat), i < n → P i = true → exB P n = true
  | 0, h, _ => by omega
  | n + 1, h, hi => by
    show (exB P n || P n) = true
    by_cases e : i = n
    · subst e; rw [hi, Bool.or_true]
    · rw [exB_of n (by omega) hi]; rfl
theorem exB_no {P : Nat → Bool} {n : Nat} (h : exB P n = false) : ∀ i, i < n → P i = false := by
  intro i hi
  cases e : P i with
  | false => rfl
  | true => rw [exB_of n hi e] at h; cases h
def fl (b : Bool) : Int32 := if b = true then 1 else 0
theorem fl_or (a b : Bool) : fl a ||| fl b = fl (a || b) := by cases a <;> cases b <;> decide
theorem fl_gd {α : Sort _} (b : Bool) (x y : α) : (if fl b = 0 then x else y) = if b = true then y else x := gd _ _ _
theorem loop_exU {P : Nat → Bool} (L : Nat → Nat → Option Int32) (N : Nat) (hs : ∀ n i, i < N → L (n + 1) i = if P i = true then some 1 else L n (i + 1)) (he : ∀ n, L (n + 1) N = some 0) : ∀ (d n i : Nat), i + d = N → d < n → exB P i = false → L n i = some (fl (exB P N))
  | d, 0, i, _, h2, _ => by omega
  | 0, n + 1, i, h, _, h3 => by
    have : i = N := by omega
    subst this
    rw [he n, h3]; rfl
  | d + 1, n + 1, i, h, h2, h3 => by
    rw [hs n i (by omega)]
    by_cases hp : P i = true
    · rw [if_pos hp, exB_of N (show i < N by omega) hp]; rfl
    · rw [if_neg hp]
      refine loop_exU L N hs he d n (i + 1) (by omega) (by omega) ?_
      show (exB P i || P i) = false
      rw [h3, Bool.not_eq_true _ |>.mp hp]; rfl
def tbP (s : Nat → Int32) (k : Nat) (v : Int32) (i : Nat) : Bool := decide (i ≠ k ∧ s (8720 + 2 * i) = v)
def crP (s : Nat → Int32) (q : Nat) : Bool := decide (¬ sm (crF s q) 12 ≤ 0)
theorem another_s {m : MW} {k : Nat} {v : Int32} (h : Rs (w.1 11) (m 1) T) (hk : k < 12) : f_X6_anotherHas (nI k) v w = some (fl (exB (tbP (m 1) k v) 12)) := by
  unfold f_X6_anotherHas
  refine loop_exU (fun n i => f_X6_anotherHas_l2 n (nI k) v (nI i) w) 12 (fun n i hi => ?_) (fun n => ?_) 12 FU 0 (by omega) (by unfold FU; omega) rfl
  · show f_X6_anotherHas_l2_body (f_X6_anotherHas_l2 n) (nI k) v (nI i) w = _
    unfold f_X6_anotherHas_l2_body f_X6_anotherHas_b31 tbP
    rw [if_neg (show ¬ (12 : Int32) ≤ nI i from nI_ge (a := i) (b := 12) hi (by omega)), nI_1, show (8420 : Int32) + nI i = nI (8420 + i) from nI_add _ _, get_s (by omega), Option.bind_some, (h.2.2.1.1 i hi).1]
    by_cases e : i = k
    · subst e
      rw [if_pos rfl, if_neg (by simp)]
    · rw [if_neg (fun q => e (nI_inj (by omega) (by omega) q))]
      by_cases hv : m 1 (8720 + 2 * i) = v
      · rw [if_pos hv, if_pos (by simp [e, hv])]
      · rw [if_neg hv, if_neg (by simp [hv])]
  · show f_X6_anotherHas_l2_body (f_X6_anotherHas_l2 n) (nI k) v (nI 12) w = _
    unfold f_X6_anotherHas_l2_body
    rw [if_pos (by decide)]
theorem hasCredit_s {m : MW} (h : Rs (w.1 11) (m 1) T) : f_X6_hasCredit w = some (fl (exB (crP (m 1)) 60)) := by
  unfold f_X6_hasCredit
  refine loop_exU (fun n i => f_X6_hasCredit_l2 n (nI i) w) 60 (fun n i hi => ?_) (fun n => ?_) 60 FU 0 (by omega) (by unfold FU; omega) rfl
  · show f_X6_hasCredit_l2_body (f_X6_hasCredit_l2 n) (nI i) w = _
    unfold f_X6_hasCredit_l2_body crP
    rw [if_neg (show ¬ (60 : Int32) ≤ nI i from nI_ge (a := i) (b := 60) hi (by omega)), nI_1, creditOf_s h hi, Option.bind_some]
    by_cases hv : sm (crF (m 1) i) 12 ≤ 0
    · rw [if_pos hv, if_neg (by simp [hv])]
    · rw [if_neg hv, if_pos (by simp [hv])]
  · show f_X6_hasCredit_l2_body (f_X6_hasCredit_l2 n) (nI 60) w = _
    unfold f_X6_hasCredit_l2_body
    rw [if_pos (by decide)]
theorem mtube_s {m : MW} {k : Nat} {v x : Int32} (hk : k < 12) : f_X10_tube_l45 FU (nI k) v x 0 0 m = if (exB (tbP (m 1) k v) 12 || exB (crP (m 1)) 60) = true then some (-3, m) else (f_X10_w (nI (8720 + 2 * k)) v m).bind fun y3 => (f_X10_w (nI (8720 + 2 * k + 1)) x y3).bind fun y4 => some ((1 : Int32), y4) := by
  refine loop_FU (L := fun n i => f_X10_tube_l45 n (nI k) v x (fl (exB (tbP (m 1) k v) i)) (nI i) m) (N := 12) (by omega) (fun n i hi => ?_) (fun n => ?_)
  · show f_X10_tube_l45_body (f_X10_tube_l45 n) (nI k) v x _ (nI i) m = f_X10_tube_l45 n (nI k) v x (fl (exB (tbP (m 1) k v) i || tbP (m 1) k v i)) (nI (i + 1)) m
    unfold f_X10_tube_l45_body f_X10_tube_b81 f_X10_tube_b82
    rw [← fl_or, if_neg (show ¬ (12 : Int32) ≤ nI i from nI_ge (a := i) (b := 12) hi (by omega)), nI_1, ta_s, chk_t (inb_nI (by omega) (by omega)), nI_clamp (by omega)]
    by_cases e : i = k
    · subst e
      rw [if_pos rfl, show tbP (m 1) i v i = false by simp [tbP]]; rfl
    · rw [if_neg (fun q => e (nI_inj (by omega) (by omega) q))]
      by_cases hv : m 1 (8720 + 2 * i) = v
      · rw [if_pos hv, show tbP (m 1) k v i = true by simp [tbP, e, hv]]; rfl
      · rw [if_neg hv, show tbP (m 1) k v i = false by simp [tbP, hv]]; rfl
  · show f_X10_tube_l45_body (f_X10_tube_l45 n) (nI k) v x _ (nI 12) m = _
    unfold f_X10_tube_l45_body
    rw [if_pos (by decide)]
    refine (Eq.trans ?_ (loop_FU (L := fun n i => f_X10_tube_l94 n (nI k) v x (fl (exB (tbP (m 1) k v) 12 || exB (crP (m 1)) i)) (nI i) m) (N := 60) (by omega) (fun n i hi => ?_) (fun n => ?_)))
    · show _ = f_X10_tube_l94 FU (nI k) v x (fl (exB (tbP (m 1) k v) 12 || false)) (nI 0) m
      rw [Bool.or_false]; rfl
    · show f_X10_tube_l94_body (f_X10_tube_l94 n) (nI k) v x _ (nI i) m = f_X10_tube_l94 n (nI k) v x (fl (exB (tbP (m 1) k v) 12 || (exB (crP (m 1)) i || crP (m 1) i))) (nI (i + 1)) m
      unfold f_X10_tube_l94_body f_X10_tube_b117
      rw [← Bool.or_assoc, ← fl_or _ (crP (m 1) i), if_neg (show ¬ (60 : Int32) ≤ nI i from nI_ge (a := i) (b := 60) hi (by omega)), nI_1, mcreditOf_s hi, Option.bind_some]
      by_cases hv : sm (crF (m 1) i) 12 ≤ 0
      · rw [if_pos hv, show crP (m 1) i = false by simp [crP, hv]]; rfl
      · rw [if_neg hv, show crP (m 1) i = true by simp [crP, hv]]; rfl
    · show f_X10_tube_l94_body (f_X10_tube_l94 n) (nI k) v x _ (nI 60) m = _
      unfold f_X10_tube_l94_body
      rw [if_pos (by decide), fl_gd, ta_s, show nI (8720 + 2 * k) + (1 : Int32) = nI (8720 + 2 * k + 1) from nI_add _ _]
theorem eq_tube (hR : Rl n w wm) (hn : n < 513) (a1 a2 a3 : Int32) : ∃ r w2 wm2 n2, f_X9_tube a1 a2 a3 w = some ((r, w2), n2) ∧ f_X10_tube a1 a2 a3 wm = some (r, wm2) ∧ Rl (n + 1) w2 wm2 ∧ 4096 * n2 + 2 * w.2 = 2 * w2.2 := by
  have hR1 : Rl n w (mst wm 0 0 0) := hR.thr
  unfold f_X9_tube f_X10_tube
  generalize mst wm 0 0 0 = m at hR1 ⊢
  show Eq1 n w _ _
  simp only [isTube_s, misTube_s, within_s, in_s, Option.bind_some, gd]
  refine Eq1.ite (fun h1 => ?_) (fun _ => Eq1.ret hR1 hn)
  refine Eq1.ite (fun h2 => ?_) (fun _ => Eq1.ret hR1 hn)
  refine Eq1.ite (fun h3 => ?_) (fun _ => Eq1.ret hR1 hn)
  obtain ⟨k, hk, rfl⟩ := rng (n := 11) (by omega) h1
  obtain ⟨v, hv1, hv, rfl⟩ := rng2 (a := 1) (n := 5000) (by omega) (by omega) h2
  obtain ⟨x, hx, rfl⟩ := rng (n := 1000) (by omega) h3
  obtain ⟨T, O, hc, hm, b1, b2, g1, g2, g3, g4, g5⟩ := id hR1
  rw [another_s g3 (by omega), Option.bind_some, fl_gd, hasCredit_s g3, Option.bind_some, fl_gd, mtube_s (by omega)]
  cases e1 : exB (tbP (m 1) k (nI v)) 12 with
  | true => rw [if_pos rfl, Bool.true_or, if_pos rfl]; exact Eq1.ret hR1 hn
  | false =>
    cases e2 : exB (crP (m 1)) 60 with
    | true => rw [if_neg (by decide), if_pos rfl, Bool.or_true, if_pos rfl]; exact Eq1.ret hR1 hn
    | false =>
      rw [if_neg (by decide), if_neg (by decide), Bool.or_false, if_neg (by decide), show (8420 : Int32) + nI k = nI (8420 + k) from nI_add _ _, show (8432 : Int32) + nI k = nI (8432 + k) from nI_add _ _]
      refine Eq1.fin hn b2 g4 g5 ((set_k g1 rfl (by omega) (by omega)).bi fun _ h1 e1 _ => (set_k h1 e1 (by omega) (by omega)).bi fun _ h1 e1 _ => OkI.dn h1 e1) ((w_k g2 rfl (by omega) (by omega) (by omega)).bi fun _ h1 e1 _ => (w_k h1 e1 (by omega) (by omega) (by omega)).bi fun _ h1 e1 _ => OkMI.dn h1 e1) (by omega) (by omega) (by omega) ?_
      obtain ⟨now', hnow⟩ : ∃ now', now' = upd (upd (w.1 11) (8420 + k) (nI v)) (8432 + k) (nI x) := ⟨_, rfl⟩
      obtain ⟨s', hs'⟩ : ∃ s', s' = upd (upd (m 1) (8720 + 2 * k) (nI v)) (8720 + 2 * k + 1) (nI x) := ⟨_, rfl⟩
      rw [← hnow, ← hs']
      have c1 : ∀ j, j ≠ 8420 + k → j ≠ 8432 + k → now' j = w.1 11 j := fun j h1 h2 => by rw [hnow, upd_ne _ _ h2, upd_ne _ _ h1]
      have m1 : ∀ j, j ≠ 8720 + 2 * k → j ≠ 8720 + 2 * k + 1 → s' j = m 1 j := fun j h1 h2 => by rw [hs', upd_ne _ _ h2, upd_ne _ _ h1]
      have c2 : now' (8420 + k) = nI v := by rw [hnow, upd_ne _ _ (by omega), upd_at]
      have c3 : now' (8432 + k) = nI x := by rw [hnow, upd_at]
      have m2 : s' (8720 + 2 * k) = nI v := by rw [hs', upd_ne _ _ (by omega), upd_at]
      have m3 : s' (8720 + 2 * k + 1) = nI x := by rw [hs', upd_at]
      have hcr : ∀ q, q < 60 → crd (m 1) q k = 0 := fun q hq => by
        have h5 := exB_no e2 q hq
        have h6 : sm (crF (m 1) q) 12 ≤ 0 := by
          unfold crP at h5
          exact Classical.not_not.mp (of_decide_eq_false h5)
        exact cr_zero g3.2.2.1 hq h6 (by omega)
      have hcs : ∀ N, N ≤ 60 → crs (m 1) k N = 0 := by
        intro N
        induction N with
        | zero => intro _; rfl
        | succ N ih =>
          intro hN
          show crs (m 1) k N + crd (m 1) N k = 0
          rw [ih (by omega), hcr N (by omega)]
      obtain ⟨t1, t2⟩ := g3.2.2.1
      refine g3.rest (fun j hj => c1 j (by omega) (by omega)) (fun j hj => m1 j (by omega) (by omega)) (g3.2.1.congr (c1 _ (by omega) (by omega)) (m1 _ (by omega) (by omega)) (fun j h1 h2 => c1 _ (by omega) (by omega)) (fun j h1 h2 => m1 _ (by omega) (by omega)) (fun q hq h9 => by rw [m1 _ (by omega) (by omega)]; exact h9) (fun q hq j hj => c1 _ (by omega) (by omega))) ⟨fun i hi => ?_, fun i j hi hj hij hv => ?_⟩ (g3.2.2.2.1.congr (fun j h1 h2 => c1 _ (by omega) (by omega)) (fun j h1 h2 => m1 _ (by omega) (by omega))) (g3.2.2.2.2.1.congr (fun j h1 h2 => c1 _ (by omega) (by omega)) (fun j h1 h2 => m1 _ (by omega) (by omega))) (g3.2.2.2.2.2.1.congr (fun j h1 h2 _ => c1 _ (by omega) (by omega)) (fun j h1 h2 => m1 _ (by omega) (by omega))) (m1 _ (by omega) (by omega))
      · have hcc : ∀ q, q < 60 → s' (104 * q + (14 + i)) = m 1 (104 * q + (14 + i)) := fun q hq => m1 _ (by omega) (by omega)
        obtain ⟨y1, y2, v', x', y3, y4, y5, y6, y7, y8, y9⟩ := t1 i hi
        by_cases e : i = k
        · subst e
          refine ⟨by rw [c2, m2], by rw [c3, m3], v, x, hv, hx, m2, m3, fun q hq => ?_, by rw [crs_congr 60 hcc, hcs 60 (by omega)]; omega, fun q => by omega⟩
          unfold crd
          rw [hcc q hq]; exact y7 q hq
        · rw [c1 _ (by omega) (by omega), c1 _ (by omega) (by omega), m1 _ (by omega) (by omega), m1 _ (by omega) (by omega), crs_congr 60 hcc]
          refine ⟨y1, y2, v', x', y3, y4, y5, y6, fun q hq => ?_, y8, y9⟩
          unfold crd
          rw [hcc q hq]; exact y7 q hq
      · have hno : ∀ i, i < 12 → i ≠ k → m 1 (8720 + 2 * i) ≠ nI v := fun i hi hik q => by
          have h5 := exB_no e1 i hi
          unfold tbP at h5
          exact of_decide_eq_false h5 ⟨hik, q⟩
        by_cases e : i = k
        · subst e
          rw [m2, m1 _ (by omega) (by omega)] at hv
          exact absurd hv.symm (hno j hj (by omega))
        · by_cases e' : j = k
          · subst e'
            rw [m2, m1 _ (by omega) (by omega)] at hv
            exact absurd hv (hno i hi e)
          · rw [m1 _ (by omega) (by omega), m1 _ (by omega) (by omega)] at hv
            rw [m1 _ (by omega) (by omega)]
            exact t2 i j hi hj hij hv
theorem eq_count (hR : Rl n w wm) (hn : n < 513) (a1 : Int32) : ∃ r wm2, f_X9_count a1 w = some r ∧ f_X10_count a1 wm = some (r, wm2) ∧ Rl (n + 1) w wm2 := by
  have hR1 : Rl n w (mst wm 0 0 0) := hR.thr
  unfold f_X9_count f_X10_count
  generalize mst wm 0 0 0 = m at hR1 ⊢
  show EqR n w _ _
  obtain ⟨T, O, hc, hm, b1, b2, g1, g2, g3, g4, g5⟩ := id hR1
  have e1 : f_X9_countMachines w = some (sm (fun q => if m 1 (104 * q) ≠ 0 then 1 else 0) 60) := by
    unfold f_X9_countMachines
    refine loop_FU (L := fun n i => f_X9_countMachines_l4 n (sm (fun q => if m 1 (104 * q) ≠ 0 then 1 else 0) i) (nI i) w) (N := 60) (by omega) (fun n i hi => ?_) (fun n => ?_)
    · show f_X9_countMachines_l4_body (f_X9_countMachines_l4 n) _ (nI i) w = _
      unfold f_X9_countMachines_l4_body f_X9_countMachines_b24
      rw [if_neg (show ¬ (60 : Int32) ≤ nI i from nI_ge (a := i) (b := 60) hi (by omega)), hasMachine_s g3 hi, Option.bind_some, gd, nI_1]
      show _ = f_X9_countMachines_l4 n (sm _ i + (if m 1 (104 * i) ≠ 0 then 1 else 0)) (nI (i + 1)) w
      split <;> rfl
    · show f_X9_countMachines_l4_body (f_X9_countMachines_l4 n) _ (nI 60) w = _
      unfold f_X9_countMachines_l4_body
      rw [if_pos (by decide)]
  have e2 : f_X9_countPrograms w = some (sm (fun q => m 1 (6240 + 62 * q)) 40) := by
    unfold f_X9_countPrograms
    refine loop_FU (L := fun n i => f_X9_countPrograms_l4 n (sm (fun q => m 1 (6240 + 62 * q)) i) (nI i) w) (N := 40) (by omega) (fun n i hi => ?_) (fun n => ?_)
    · show f_X9_countPrograms_l4_body (f_X9_countPrograms_l4 n) _ (nI i) w = _
      unfold f_X9_countPrograms_l4_body f_X9_countPrograms_b24
      rw [if_neg (show ¬ (40 : Int32) ≤ nI i from nI_ge (a := i) (b := 40) hi (by omega)), hasProgram_s g3 hi, Option.bind_some, gd, nI_1]
      show _ = f_X9_countPrograms_l4 n (sm _ i + m 1 (6240 + 62 * i)) (nI (i + 1)) w
      rcases g3.2.2.2.1 i hi with ⟨q1, q2⟩ | ⟨q1, k, q2, q3, q4, q5⟩
      · rw [q1, if_neg (by decide)]
      · rw [q1, if_pos (by decide)]
    · show f_X9_countPrograms_l4_body (f_X9_countPrograms_l4 n) _ (nI 40) w = _
      unfold f_X9_countPrograms_l4_body
      rw [if_pos (by decide)]
  have e3 : f_X9_countRuns w = some (sm (fun q => m 1 (104 * q + 26)) 60) := by
    unfold f_X9_countRuns
    refine loop_FU (L := fun n i => f_X9_countRuns_l4 n (sm (fun q => m 1 (104 * q + 26)) i) (nI i) w) (N := 60) (by omega) (fun n i hi => ?_) (fun n => ?_)
    · show f_X9_countRuns_l4_body (f_X9_countRuns_l4 n) _ (nI i) w = _
      unfold f_X9_countRuns_l4_body f_X9_countRuns_b24
      obtain ⟨hr1, hr2⟩ := hasRun_s g3 hi
      rw [if_neg (show ¬ (60 : Int32) ≤ nI i from nI_ge (a := i) (b := 60) hi (by omega)), hr1, Option.bind_some, gd, nI_1]
      show _ = f_X9_countRuns_l4 n (sm _ i + m 1 (104 * i + 26)) (nI (i + 1)) w
      rcases hr2 with q1 | ⟨q1, -⟩
      · rw [q1, if_neg (by decide)]
      · rw [q1, if_pos (by decide)]
    · show f_X9_countRuns_l4_body (f_X9_countRuns_l4 n) _ (nI 60) w = _
      unfold f_X9_countRuns_l4_body
      rw [if_pos (by decide)]
  have e4 : f_X6_moneyInside w = some (sm (fun k => m 1 (8720 + 2 * k) * m 1 (8720 + 2 * k + 1)) 12) := by
    unfold f_X6_moneyInside
    refine loop_FU (L := fun n i => f_X6_moneyInside_l4 n (sm (fun k => m 1 (8720 + 2 * k) * m 1 (8720 + 2 * k + 1)) i) (nI i) w) (N := 12) (by omega) (fun n i hi => ?_) (fun n => ?_)
    · show f_X6_moneyInside_l4_body (f_X6_moneyInside_l4 n) _ (nI i) w = _
      unfold f_X6_moneyInside_l4_body
      rw [if_neg (show ¬ (12 : Int32) ≤ nI i from nI_ge (a := i) (b := 12) hi (by omega)), show (8420 : Int32) + nI i = nI (8420 + i) from nI_add _ _, show (8432 : Int32) + nI i = nI (8432 + i) from nI_add _ _, get_s (by omega), get_s (by omega), Option.bind_some, Option.bind_some, (g3.2.2.1.1 i hi).1, (g3.2.2.1.1 i hi).2.1, nI_1]
      rfl
    · show f_X6_moneyInside_l4_body (f_X6_moneyInside_l4 n) _ (nI 12) w = _
      unfold f_X6_moneyInside_l4_body
      rw [if_pos (by decide)]
  have em : f_X10_count_l12 FU a1 0 0 0 m = f_X10_count_l97_body (f_X10_count_l97 0) a1 (sm (fun q => if m 1 (104 * q) ≠ 0 then 1 else 0) 60) (sm (fun q => m 1 (104 * q + 26)) 60) (sm (fun q => m 1 (6240 + 62 * q)) 40) (sm (fun k => m 1 (8720 + 2 * k) * m 1 (8720 + 2 * k + 1)) 12) 12 m := by
    refine loop_FU (L := fun n i => f_X10_count_l12 n a1 (sm (fun q => if m 1 (104 * q) ≠ 0 then 1 else 0) i) (sm (fun q => m 1 (104 * q + 26)) i) (nI i) m) (N := 60) (by omega) (fun n i hi => ?_) (fun n => ?_)
    · show f_X10_count_l12_body (f_X10_count_l12 n) a1 _ _ (nI i) m = f_X10_count_l12 n a1 (sm _ i + (if m 1 (104 * i) ≠ 0 then 1 else 0)) (sm _ i + m 1 (104 * i + 26)) (nI (i + 1)) m
      unfold f_X10_count_l12_body f_X10_count_b34
      rw [if_neg (show ¬ (60 : Int32) ≤ nI i from nI_ge (a := i) (b := 60) hi (by omega)), isThere_s g3 hi, Option.bind_some, gd, of_s (k := 26) (by rfl) (by omega), Option.bind_some, Option.bind_some, nI_1]
      split <;> rfl
    · show f_X10_count_l12_body (f_X10_count_l12 n) a1 _ _ (nI 60) m = _
      unfold f_X10_count_l12_body
      rw [if_pos (by decide)]
      refine loop_FU (L := fun n i => f_X10_count_l59 n a1 (sm (fun q => if m 1 (104 * q) ≠ 0 then 1 else 0) 60) (sm (fun q => m 1 (104 * q + 26)) 60) (sm (fun q => m 1 (6240 + 62 * q)) i) (nI i) m) (N := 40) (by omega) (fun n i hi => ?_) (fun n => ?_)
      · show f_X10_count_l59_body (f_X10_count_l59 n) a1 _ _ _ (nI i) m = _
        unfold f_X10_count_l59_body
        rw [if_neg (show ¬ (40 : Int32) ≤ nI i from nI_ge (a := i) (b := 40) hi (by omega)), pa_s, chk_t (inb_nI (by omega) (by omega)), nI_clamp (by omega), Option.bind_some, nI_1]
        rfl
      · show f_X10_count_l59_body (f_X10_count_l59 n) a1 _ _ _ (nI 40) m = _
        unfold f_X10_count_l59_body
        rw [if_pos (by decide)]
        refine loop_FU (L := fun n i => f_X10_count_l97 n a1 (sm (fun q => if m 1 (104 * q) ≠ 0 then 1 else 0) 60) (sm (fun q => m 1 (104 * q + 26)) 60) (sm (fun q => m 1 (6240 + 62 * q)) 40) (sm (fun k => m 1 (8720 + 2 * k) * m 1 (8720 + 2 * k + 1)) i) (nI i) m) (N := 12) (by omega) (fun n i hi => ?_) (fun n => ?_)
        · show f_X10_count_l97_body (f_X10_count_l97 n) a1 _ _ _ _ (nI i) m = _
          unfold f_X10_count_l97_body
          rw [if_neg (show ¬ (12 : Int32) ≤ nI i from nI_ge (a := i) (b := 12) hi (by omega)), ta_s, show nI (8720 + 2 * i) + (1 : Int32) = nI (8720 + 2 * i + 1) from nI_add _ _, chk_t (inb_nI (by omega) (by omega)), chk_t (inb_nI (by omega) (by omega)), nI_clamp (by omega), nI_clamp (by omega), Option.bind_some, nI_1]
          rfl
        · show f_X10_count_l97_body (f_X10_count_l97 n) a1 _ _ _ _ (nI 12) m = _
          unfold f_X10_count_l97_body
          rw [if_pos (show (12 : Int32) ≤ nI 12 by decide), if_pos (show (12 : Int32) ≤ 12 by decide)]
  rw [em, e1, e2, e3, e4]
  unfold f_X10_count_l97_body
  have ht : w.1 1 5 = nI T ∧ w.1 1 6 = nI O := by
    obtain ⟨e, f, d, mk, -, ⟨-, -, q, q2⟩, -⟩ := g1
    exact ⟨q, q2⟩
  have hs : m 1 11344 = nI T := g3.2.2.2.2.2.2
  have hO : m 0 6 = nI O ∧ O ≤ T := by
    obtain ⟨c, mk, ⟨⟨-, -, q⟩, ⟨q2, -, -⟩, -⟩⟩ := g2
    exact ⟨q, q2⟩
  obtain ⟨N, l1, l2, l3, -⟩ := g3.2.1
  obtain ⟨z1, z2, z3, z4⟩ := g3.2.2.2.2.2.1
  have i44 : inb (11344 : Int32) 11360 := lit_in (a := 11344) rfl (by omega) (by omega)
  have i45 : inb (11345 : Int32) 11360 := lit_in (a := 11345) rfl (by omega) (by omega)
  have c44 : (11344 : Int32).toNatClampNeg = 11344 := lit_cl (a := 11344) rfl (by omega)
  have c45 : (11345 : Int32).toNatClampNeg = 11345 := lit_cl (a := 11345) rfl (by omega)
  rw [if_pos (show (12 : Int32) ≤ 12 by decide), gl_k (a := 8550) (by rfl) (by omega), gl_k (a := 8552) (by rfl) (by omega), gl_k (a := 8553) (by rfl) (by omega), gl_k (a := 8554) (by rfl) (by omega), gl_k (a := 8555) (by rfl) (by omega)]
  unfold f_X1_time f_X1_keptMinutes
  simp only [Option.bind_some, chk_t i44, chk_t i45, c44, c45]
  refine EqR.ite (fun _ => ?_) (fun n0 => EqR.ite (fun _ => EqR.ret hR1 hn) (fun n1 => EqR.ite (fun _ => EqR.ret hR1 hn) (fun n2 => EqR.ite (fun _ => ?_) (fun n3 => EqR.ite (fun _ => ?_) (fun n4 => EqR.ite (fun _ => EqR.ret hR1 hn) (fun n5 => EqR.ite (fun _ => EqR.ret hR1 hn) (fun n6 => EqR.ite (fun q => ?_) (fun n7 => EqR.ite (fun q => ?_) (fun n8 => EqR.ite (fun q => ?_) (fun n9 => EqR.ite (fun q => ?_) (fun n10 => EqR.ite (fun q => ?_) (fun n11 => EqR.ite (fun q => ?_) (fun n12 => EqR.ret hR1 hn)))))))))))))
  · rw [ht.1, hs]; exact EqR.ret hR1 hn
  · rw [l2, l3]; exact EqR.ret hR1 hn
  · rw [g5.2.2.2.1]; exact EqR.ret hR1 hn
  · rw [q, show (11346 : Int32) + 7 - 7 = nI 11346 by decide, chk_t (inb_nI (by omega) (by omega)), nI_clamp (by omega), show w.1 11 8552 = m 1 11346 from z4 0 (by omega)]; exact EqR.ret hR1 hn
  · rw [q, show (11346 : Int32) + 8 - 7 = nI 11347 by decide, chk_t (inb_nI (by omega) (by omega)), nI_clamp (by omega), show w.1 11 8553 = m 1 11347 from z4 1 (by omega)]; exact EqR.ret hR1 hn
  · rw [q, show (11346 : Int32) + 9 - 7 = nI 11348 by decide, chk_t (inb_nI (by omega) (by omega)), nI_clamp (by omega), show w.1 11 8554 = m 1 11348 from z4 2 (by omega)]; exact EqR.ret hR1 hn
  · rw [q, show (11346 : Int32) + 10 - 7 = nI 11349 by decide, chk_t (inb_nI (by omega) (by omega)), nI_clamp (by omega), show w.1 11 8555 = m 1 11349 from z4 3 (by omega)]; exact EqR.ret hR1 hn
  · rw [ht.1, ht.2, hs, hO.1]
    by_cases hT : T = 0
    · subst hT
      have : O = 0 := by omega
      subst this
      rw [if_pos (show nI 0 = (0 : Int32) from rfl)]; exact EqR.ret hR1 hn
    · rw [if_neg (show ¬ nI T = 0 from fun q => hT (by
        have hT2 : T ≤ 60 * n := b2
        exact nI_inj (b := 0) (by omega) (by omega) q))]; exact EqR.ret hR1 hn
  · rw [g5.2.2.2.2.1]; exact EqR.ret hR1 hn
end M8
