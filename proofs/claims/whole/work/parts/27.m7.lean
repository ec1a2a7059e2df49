section M7
variable {n : Nat} {w : CW} {wm : MW} {now s : Nat → Int32} {T p : Nat}
theorem OkMI.mono {m : MW} {x : Option (Int32 × MW)} {O b b' Z C C' : Nat} {hist : Nat → Nat → Int32} {r : Int32} {s' : Nat → Int32} (h : OkMI x m T O b Z C hist r s') (hb : b ≤ b') (hC : C ≤ C') : OkMI x m T O b' Z C' hist r s' := by
  obtain ⟨m1, e1, h1, h2, h3⟩ := h
  exact ⟨m1, e1, h1.mono hb (Nat.le_refl _) hC, h2, h3⟩
def machS (s : Nat → Int32) (p κ u c : Nat) : Nat → Int32 := upd (upd (upd (upd (upd s (104 * p + 0) (nI (κ + 1))) (104 * p + 1) (nI u)) (104 * p + 2) (nI c)) (104 * p + 3) 1) (104 * p + 4) 1
def machS2 (s : Nat → Int32) (p κ u c : Nat) : Nat → Int32 := if κ = 4 ∧ 0 < u then upd (upd (machS s p κ u c) (104 * p + 7) 1) (104 * p + 8) (nI u) else machS s p κ u c
theorem machM {O Z κ u c : Nat} {hist : Nat → Nat → Int32} (hp : p < 60) (hκ : κ ≤ 4) (hu : u ≤ 20000) (hz : ∀ j, j < 104 → s (104 * p + j) = 0) : ∀ (d k i b C : Nat) (m : MW), i + d = 104 → d < k → HMx m T O b Z C hist → m 1 = s → b + d + 7 < 120000 → C + d + 7 < 2 ^ 30 →
    OkMI (f_X10_machine_l72 k (nI p) (nI κ) (nI u) (nI c) (nI i) m) m T O (b + d + 7) Z (C + d + 7) hist 1 (machS2 s p κ u c)
  | d, 0, i, b, C, m, _, h, _, _, _, _ => by omega
  | 0, k + 1, i, b, C, m, h, _, h1, e1, hb, hC => by
    have : i = 104 := by omega
    subst this
    show OkMI (f_X10_machine_l72_body (f_X10_machine_l72 k) (nI p) (nI κ) (nI u) (nI c) (nI 104) m) _ _ _ _ _ _ _ _ _
    unfold f_X10_machine_l72_body
    rw [if_pos (by decide), nI_1]
    refine (let_k (k := 0) rfl h1 e1 (by omega) (by omega) (by omega)).bi fun _ h1 e1 _ => (let_k (k := 1) rfl h1 e1 (by omega) (by omega) (by omega)).bi fun _ h1 e1 _ => (let_k (k := 2) rfl h1 e1 (by omega) (by omega) (by omega)).bi fun _ h1 e1 _ => (let_k (k := 3) rfl h1 e1 (by omega) (by omega) (by omega)).bi fun _ h1 e1 _ => (let_k (k := 4) rfl h1 e1 (by omega) (by omega) (by omega)).bi fun m5 h1 e1 _ => ?_
    unfold machS2
    by_cases h4 : κ = 4
    · subst h4
      rw [if_pos (show nI 4 = (4 : Int32) from rfl)]
      by_cases hu0 : 0 < u
      · rw [if_neg (nI_nle hu0 (by omega)), if_pos ⟨rfl, hu0⟩]
        exact (let_k (k := 7) rfl h1 e1 (by omega) (by omega) (by omega)).bi fun _ h1 e1 _ => (let_k (k := 8) rfl h1 e1 (by omega) (by omega) (by omega)).bi fun _ h1 e1 _ => OkMI.dn h1 e1
      · rw [if_pos (show nI u ≤ 0 from nI_le (a := u) (b := 0) (by omega) (by omega)), if_neg (fun q => hu0 q.2)]
        exact (OkMI.dn h1 e1).mono (by omega) (by omega)
    · rw [if_neg (show ¬ nI κ = (4 : Int32) from fun q => h4 (nI_inj (b := 4) (by omega) (by omega) q)), if_neg (fun q => h4 q.1)]
      exact (OkMI.dn h1 e1).mono (by omega) (by omega)
  | d + 1, k + 1, i, b, C, m, h, h0, h1, e1, hb, hC => by
    show OkMI (f_X10_machine_l72_body (f_X10_machine_l72 k) (nI p) (nI κ) (nI u) (nI c) (nI i) m) _ _ _ _ _ _ _ _ _
    unfold f_X10_machine_l72_body
    rw [if_neg (show ¬ (104 : Int32) ≤ nI i from nI_ge (a := i) (b := 104) (by omega) (by omega)), nI_1 i]
    refine (let_k (k := i) rfl h1 e1 (by omega) (by omega) (by omega)).bi fun m2 h2 e2 _ => ?_
    have e3 : m2 1 = s := by rw [e2, ← hz i (by omega), upd_same]
    have := machM (c := c) hp hκ hu hz d k (i + 1) (b + 1) (C + 1) m2 (by omega) (by omega) h2 e3 (by omega) (by omega)
    rw [show b + 1 + d + 7 = b + (d + 1) + 7 by omega, show C + 1 + d + 7 = C + (d + 1) + 7 by omega] at this
    exact this
theorem mach_rp {c m : Nat → Int32} {κ u c0 e : Nat} (hκ : κ ≤ 4) (hu : u ≤ 20000) (hc0 : c0 ≤ 5000) (he : e = if κ = 4 ∧ 0 < u then 1 else 0)
    (k0 : c 0 = nI (κ + 1)) (k1 : c 1 = nI c0) (k2 : c 2 = 1) (k3 : c 3 = 1) (k13 : c 13 = nI u) (k8 : c 8 = nI e) (ko : ∀ k, k < 78 → k ≠ 0 → k ≠ 1 → k ≠ 2 → k ≠ 3 → k ≠ 13 → k ≠ 8 → c k = 0)
    (j0 : m 0 = nI (κ + 1)) (j1 : m 1 = nI u) (j2 : m 2 = nI c0) (j3 : m 3 = 1) (j4 : m 4 = 1) (j7 : m 7 = nI e) (j8 : m 8 = nI (if e = 1 then u else 0)) (jo : ∀ k, k < 104 → k ≠ 0 → k ≠ 1 → k ≠ 2 → k ≠ 3 → k ≠ 4 → k ≠ 7 → k ≠ 8 → m k = 0) : RPl (T + 1) c m := by
  have e1 : e ≤ 1 ∧ (κ ≠ 4 → e = 0) ∧ (e = 0 → κ = 4 → u = 0) ∧ (e = 1 → 0 < u) := by
    rw [he]; split <;> refine ⟨by omega, fun q => by omega, fun q q2 => by omega, fun q => by omega⟩
  obtain ⟨f1, f2, f3, f4⟩ := e1
  refine ⟨⟨⟨κ + 1, by omega, j0⟩, by rw [k0, j0], by rw [k1, j2], by rw [k8, j7], ⟨e, by omega, j7, fun q => f2 (fun z => q (by rw [j0, z])), fun i h1 h2 => ?_, fun i h1 => ?_⟩, fun q i hi => ?_, fun q => ⟨by rw [k13, j1], fun i h1 h2 => ko _ (by omega) (by omega) (by omega) (by omega) (by omega) (by omega) (by omega)⟩, fun i hi => ?_, ⟨u, hu, j1⟩, ⟨c0, hc0, j2⟩⟩, ⟨fun i hi => ?_, fun i hi => ?_, ⟨0, by omega, jo _ (by omega) (by omega) (by omega) (by omega) (by omega) (by omega) (by omega) (by omega)⟩⟩, Or.inl ⟨jo _ (by omega) (by omega) (by omega) (by omega) (by omega) (by omega) (by omega) (by omega), ko _ (by omega) (by omega) (by omega) (by omega) (by omega) (by omega) (by omega), ko _ (by omega) (by omega) (by omega) (by omega) (by omega) (by omega) (by omega), ko _ (by omega) (by omega) (by omega) (by omega) (by omega) (by omega) (by omega), jo _ (by omega) (by omega) (by omega) (by omega) (by omega) (by omega) (by omega) (by omega)⟩, ⟨by rw [k2, j3], by rw [k3, j4], ?_, ?_, Or.inl (jo _ (by omega) (by omega) (by omega) (by omega) (by omega) (by omega) (by omega) (by omega)), ?_, ⟨0, by omega, jo _ (by omega) (by omega) (by omega) (by omega) (by omega) (by omega) (by omega) (by omega)⟩, ?_, Or.inr ⟨jo _ (by omega) (by omega) (by omega) (by omega) (by omega) (by omega) (by omega) (by omega), by rw [j4]; decide⟩⟩, RPe.of (by rw [j0]; exact fun q => by have := nI_inj (b := 0) (by omega) (by omega) q; omega)⟩
  · by_cases i0 : i = 0
    · subst i0
      show m 8 = 0
      rw [j8, if_neg (by omega)]; rfl
    · exact jo _ (by omega) (by omega) (by omega) (by omega) (by omega) (by omega) (by omega) (by omega)
  · have : i = 0 := by omega
    subst this
    show m 8 ≠ 0
    rw [j8, if_pos (by omega)]
    exact fun q => by have := nI_inj (b := 0) (by omega) (by omega) q; have := f4 (by omega); omega
  · by_cases i0 : i = 0
    · subst i0
      show c 13 = m 8
      rw [k13, j8]
      have hk4 : κ = 4 := by rw [j0] at q; have := nI_inj (by omega) (by omega) q; omega
      by_cases he1 : e = 1
      · rw [if_pos he1]
      · rw [if_neg he1, f3 (by omega) hk4]
    · rw [ko _ (by omega) (by omega) (by omega) (by omega) (by omega) (by omega) (by omega), jo _ (by omega) (by omega) (by omega) (by omega) (by omega) (by omega) (by omega) (by omega)]
  · by_cases i0 : i = 0
    · subst i0
      exact ⟨_, by split <;> omega, j8⟩
    · exact ⟨0, by omega, jo _ (by omega) (by omega) (by omega) (by omega) (by omega) (by omega) (by omega) (by omega)⟩
  · rw [ko _ (by omega) (by omega) (by omega) (by omega) (by omega) (by omega) (by omega), jo _ (by omega) (by omega) (by omega) (by omega) (by omega) (by omega) (by omega) (by omega)]
  · rw [ko _ (by omega) (by omega) (by omega) (by omega) (by omega) (by omega) (by omega), jo _ (by omega) (by omega) (by omega) (by omega) (by omega) (by omega) (by omega) (by omega)]
  · rw [ko _ (by omega) (by omega) (by omega) (by omega) (by omega) (by omega) (by omega), jo _ (by omega) (by omega) (by omega) (by omega) (by omega) (by omega) (by omega) (by omega)]
  · rw [ko _ (by omega) (by omega) (by omega) (by omega) (by omega) (by omega) (by omega), jo _ (by omega) (by omega) (by omega) (by omega) (by omega) (by omega) (by omega) (by omega)]
  · rw [ko _ (by omega) (by omega) (by omega) (by omega) (by omega) (by omega) (by omega), jo _ (by omega) (by omega) (by omega) (by omega) (by omega) (by omega) (by omega) (by omega)]
  · rw [ko _ (by omega) (by omega) (by omega) (by omega) (by omega) (by omega) (by omega), jo _ (by omega) (by omega) (by omega) (by omega) (by omega) (by omega) (by omega) (by omega)]
theorem machKey {m : MW} {lo : Nat} {κ u c : Nat} (hR1 : Rl n w m) (hn : n < 513) (hp : p < 60) (hκ : κ ≤ 4) (hu : u ≤ 20000) (hc0 : c ≤ 5000) (hz : m 1 (104 * p) = 0) : Eq1 n w (bnc (f_X9_write (nI p) 0 (nI κ + 1) w) fun y10 => bnc (f_X9_write (nI p) 1 (nI c) y10) fun y11 => bnc (f_X9_write (nI p) 2 1 y11) fun y12 => bnc (f_X9_write (nI p) 3 1 y12) fun y13 => bnc (f_X9_write (nI p) 13 (nI u) y13) fun y14 => if nI κ = 4 then (if nI u ≤ 0 then f_X9_machine_b124 (nI p) 8 y14 else f_X9_machine_b125 (nI p) 8 1 y14) else f_X9_machine_b124 (nI p) 8 y14) (f_X10_machine_l72 FU (nI p) (nI κ) (nI u) (nI c) 0 m) := by
  obtain ⟨T, O, hc, hm, b1, b2, g1, g2, g3, g4, g5⟩ := id hR1
  obtain ⟨pa, pb, pr, pc, pe⟩ := g3.1 p hp
  obtain ⟨z1, z2⟩ := pe hz
  obtain ⟨e, he⟩ : ∃ e, e = if κ = 4 ∧ 0 < u then 1 else 0 := ⟨_, rfl⟩
  have hlast : ∀ (w5 : CW) (now5 : Nat → Int32), HCx w5 T T O (200 * n + 5) (200 * n) hc → w5.1 11 = now5 → OkI (if nI κ = 4 then (if nI u ≤ 0 then f_X9_machine_b124 (nI p) 8 w5 else f_X9_machine_b125 (nI p) 8 1 w5) else f_X9_machine_b124 (nI p) 8 w5) w5 T T O (200 * n + 6) (200 * n) hc 1 (upd now5 (78 * p + 8) (nI e)) := by
    intro w5 now5 h5 e5
    have hb : ∀ v, OkI (f_X9_machine_b125 (nI p) 8 v w5) w5 T T O (200 * n + 6) (200 * n) hc 1 (upd now5 (78 * p + 8) v) := fun v => by
      unfold f_X9_machine_b125
      exact (write_k (k := 8) rfl h5 e5 hp (by omega) (by omega)).bi fun _ h1 e1 _ => OkI.dn h1 e1
    unfold f_X9_machine_b124
    by_cases h4 : κ = 4
    · subst h4
      rw [if_pos (show nI 4 = (4 : Int32) from rfl)]
      by_cases hu0 : 0 < u
      · rw [if_neg (nI_nle hu0 (by omega)), he, if_pos ⟨rfl, hu0⟩]; exact hb 1
      · rw [if_pos (show nI u ≤ 0 from nI_le (a := u) (b := 0) (by omega) (by omega)), he, if_neg (fun q => hu0 q.2)]; exact hb 0
    · rw [if_neg (show ¬ nI κ = (4 : Int32) from fun q => h4 (nI_inj (b := 4) (by omega) (by omega) q)), he, if_neg (fun q => h4 q.1)]; exact hb 0
  rw [nI_1]
  refine Eq1.fin hn b2 g4 g5 ((write_k (k := 0) rfl g1 rfl hp (by omega) (by omega)).bi fun _ h1 e1 _ => (write_k (k := 1) rfl h1 e1 hp (by omega) (by omega)).bi fun _ h1 e1 _ => (write_k (k := 2) rfl h1 e1 hp (by omega) (by omega)).bi fun _ h1 e1 _ => (write_k (k := 3) rfl h1 e1 hp (by omega) (by omega)).bi fun _ h1 e1 _ => (write_k (k := 13) rfl h1 e1 hp (by omega) (by omega)).bi fun w5 h1 e1 _ => hlast w5 _ h1 e1) (machM hp hκ hu z2 104 FU 0 _ _ m (by omega) (by unfold FU; omega) g2 rfl (by omega) (by omega)) (by omega) (by omega) (by omega) ?_
  have ms : ∀ j, (j < 104 * p ∨ 104 * p + 9 ≤ j) → machS2 (m 1) p κ u c j = m 1 j := fun j hj => by
    unfold machS2 machS
    by_cases h : κ = 4 ∧ 0 < u
    · rw [if_pos h, upd_ne _ _ (by omega), upd_ne _ _ (by omega), upd_ne _ _ (by omega), upd_ne _ _ (by omega), upd_ne _ _ (by omega), upd_ne _ _ (by omega), upd_ne _ _ (by omega)]
    · rw [if_neg h, upd_ne _ _ (by omega), upd_ne _ _ (by omega), upd_ne _ _ (by omega), upd_ne _ _ (by omega), upd_ne _ _ (by omega)]
  have mv9 : ∀ k, k < 9 → machS2 (m 1) p κ u c (104 * p + k) = if k = 0 then nI (κ + 1) else if k = 1 then nI u else if k = 2 then nI c else if k = 3 then 1 else if k = 4 then 1 else if k = 7 then nI e else if k = 8 then nI (if e = 1 then u else 0) else 0 := by
    intro k hk
    have hz2 : m 1 (104 * p + k) = 0 := z2 k (by omega)
    unfold machS2 machS upd
    rw [he]
    by_cases h : κ = 4 ∧ 0 < u
    · rw [if_pos h, if_pos h]
      rcases (by omega : k = 0 ∨ k = 1 ∨ k = 2 ∨ k = 3 ∨ k = 4 ∨ k = 5 ∨ k = 6 ∨ k = 7 ∨ k = 8) with rfl | rfl | rfl | rfl | rfl | rfl | rfl | rfl | rfl <;> repeat (first | rw [if_neg (by omega)] | rw [if_pos (by omega)])
      all_goals first | exact hz2 | rfl
    · rw [if_neg h, if_neg h]
      rcases (by omega : k = 0 ∨ k = 1 ∨ k = 2 ∨ k = 3 ∨ k = 4 ∨ k = 5 ∨ k = 6 ∨ k = 7 ∨ k = 8) with rfl | rfl | rfl | rfl | rfl | rfl | rfl | rfl | rfl <;> repeat (first | rw [if_neg (by omega)] | rw [if_pos (by omega)])
      all_goals first | exact hz2 | rfl
  refine g3.place (p := p) hp (fun j hj => by rw [upd_ne _ _ (by omega), upd_ne _ _ (by omega), upd_ne _ _ (by omega), upd_ne _ _ (by omega), upd_ne _ _ (by omega), upd_ne _ _ (by omega)]) (fun j hj => ms j (by omega)) ?_ (fun q => absurd hz q) (fun k hk => by rw [upd_ne _ _ (by omega), upd_ne _ _ (by omega), upd_ne _ _ (by omega), upd_ne _ _ (by omega), upd_ne _ _ (by omega), upd_ne _ _ (by omega)]) (fun k hk => ms _ (by omega))
  rw [cv_upd, cv_upd, cv_upd, cv_upd, cv_upd, cv_upd]
  refine mach_rp (κ := κ) (u := u) (c0 := c) (e := e) hκ hu hc0 he ?_ ?_ ?_ ?_ ?_ (upd_at _ _ _) (fun k h1 h2 h3 h4 h5 h6 h7 => ?_) (mv9 0 (by omega)) (mv9 1 (by omega)) (mv9 2 (by omega)) (mv9 3 (by omega)) (mv9 4 (by omega)) (mv9 7 (by omega)) (mv9 8 (by omega)) (fun k h1 h2 h3 h4 h5 h6 h7 h8 => ?_)
  · rw [upd_ne _ _ (by omega), upd_ne _ _ (by omega), upd_ne _ _ (by omega), upd_ne _ _ (by omega), upd_ne _ _ (by omega), upd_at]
  · rw [upd_ne _ _ (by omega), upd_ne _ _ (by omega), upd_ne _ _ (by omega), upd_ne _ _ (by omega), upd_at]
  · rw [upd_ne _ _ (by omega), upd_ne _ _ (by omega), upd_ne _ _ (by omega), upd_at]
  · rw [upd_ne _ _ (by omega), upd_ne _ _ (by omega), upd_at]
  · rw [upd_ne _ _ (by omega), upd_at]
  · rw [upd_ne _ _ h7, upd_ne _ _ h6, upd_ne _ _ h5, upd_ne _ _ h4, upd_ne _ _ h3, upd_ne _ _ h2]; exact z1 k h1
  · by_cases h9 : k < 9
    · show machS2 (m 1) p κ u c (104 * p + k) = 0
      rw [mv9 k h9, if_neg h2, if_neg h3, if_neg h4, if_neg h5, if_neg h6, if_neg h7, if_neg h8]
    · exact (ms _ (by omega)).trans (z2 k h1)
theorem eq_machine (hR : Rl n w wm) (hn : n < 513) (a1 a2 a3 a4 : Int32) : ∃ r w2 wm2 n2, f_X9_machine a1 a2 a3 a4 w = some ((r, w2), n2) ∧ f_X10_machine a1 a2 a3 a4 wm = some (r, wm2) ∧ Rl (n + 1) w2 wm2 ∧ 4096 * n2 + 2 * w.2 = 2 * w2.2 := by
  have hR1 : Rl n w (mst wm 0 0 0) := hR.thr
  unfold f_X9_machine f_X10_machine
  generalize mst wm 0 0 0 = m at hR1 ⊢
  show Eq1 n w _ _
  simp only [isPlace_s, misPlace_s, in_s, Option.bind_some, gd]
  refine Eq1.ite (fun h => ?_) (fun _ => Eq1.ret hR1 hn)
  obtain ⟨p, hp, rfl⟩ := rng (n := 59) (by omega) h
  obtain ⟨T, O, hc, hm, b1, b2, g1, g2, g3, g4, g5⟩ := id hR1
  have key : ∀ lo : Nat, lo ≤ 1 → Eq1 n w (f_X9_machine_b19 (nI p) a2 a3 a4 (nI lo) w) (if (0 : Int32) ≤ a2 ∧ a2 ≤ 4 then f_X10_machine_b34 (nI p) a2 a3 a4 a3 (nI lo) m else some (-2, m)) := by
    intro lo hlo
    unfold f_X9_machine_b19 f_X10_machine_b34
    simp only [within_s, in_s, Option.bind_some, gd]
    refine Eq1.ite (fun h2 => ?_) (fun _ => Eq1.ret hR1 hn)
    refine Eq1.ite (fun h3 => ?_) (fun _ => Eq1.ret hR1 hn)
    refine Eq1.ite (fun h4 => ?_) (fun _ => Eq1.ret hR1 hn)
    obtain ⟨κ, hκ, rfl⟩ := rng (n := 4) (by omega) h2
    obtain ⟨u, hu1, hu, rfl⟩ := rng2 (a := lo) (n := 20000) (by omega) (by omega) h3
    obtain ⟨c, hc0, rfl⟩ := rng (n := 5000) (by omega) h4
    rw [hasMachine_s g3 (by omega), isThere_s g3 (by omega), Option.bind_some, Option.bind_some, gd, gd]
    refine Eq1.ite (fun _ => Eq1.ret hR1 hn) (fun h5 => ?_)
    exact machKey (lo := lo) hR1 hn (by omega) hκ hu hc0 (Classical.not_not.mp h5)
  by_cases h4 : a2 = 4
  · rw [if_pos h4]
    have h2 : (0 : Int32) ≤ a2 ∧ a2 ≤ 4 := by rw [h4]; decide
    have k0 := key 0 (by omega)
    rw [if_pos h2] at k0 ⊢
    rw [if_pos h4]
    exact k0
  · rw [if_neg h4]
    have k1 := key 1 (by omega)
    by_cases h2 : (0 : Int32) ≤ a2 ∧ a2 ≤ 4
    · rw [if_pos h2] at k1 ⊢
      rw [if_neg h4]; exact k1
    · rw [if_neg h2] at k1 ⊢; exact k1
end M7
