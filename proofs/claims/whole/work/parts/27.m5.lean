section M5
variable {n : Nat} {w : CW} {wm : MW} {now s : Nat → Int32} {T p : Nat}
theorem growl_k {τ O b Z k : Nat} {hist : Nat → Nat → Int32} {x v : Int32} (hx : x = nI k) (h : HCx w τ T O b Z hist) (e : w.1 11 = now) (hp : p < 60) (hk : k < 78) (hb : b < 120000) : OkV (f_X9_grow (nI p) x v w) w τ T O (b + 1) Z hist (upd now (78 * p + k) (now (78 * p + k) + v)) := grow_k hx h e hp hk hb
theorem crs_upd {s' : Nat → Int32} {k : Nat} : ∀ (N : Nat), p < N → (∀ q, q < N → q ≠ p → crd s' q k = crd s q k) → crs s' k N + crd s p k = crs s k N + crd s' p k
  | 0, h, _ => by omega
  | N + 1, h, hq => by
    show crs s' k N + crd s' N k + crd s p k = crs s k N + crd s N k + crd s' p k
    by_cases e : p = N
    · subst e
      have : ∀ M, M ≤ p → crs s' k M = crs s k M := by
        intro M
        induction M with
        | zero => intro _; rfl
        | succ M ih =>
          intro hM
          show crs s' k M + crd s' M k = crs s k M + crd s M k
          rw [ih (by omega), hq M (by omega) (by omega)]
      rw [this p (by omega)]
      omega
    · have := crs_upd N (by omega) (fun q h1 h2 => hq q (by omega) h2)
      rw [hq N (by omega) (by omega)]
      omega
theorem coin_rs {now' s' : Nat → Int32} {k a x v : Nat} (h : Rs now s T) (hp : p < 60) (hk : k < 12) (h0 : s (104 * p) ≠ 0) (hx : s (8720 + 2 * k + 1) = nI x) (hv : s (8720 + 2 * k) = nI v) (hv0 : v ≠ 0) (hv5 : v ≤ 5000) (hxa : x + a ≤ 1000)
    (c1 : ∀ j, j ≠ 8432 + k → j ≠ 78 * p + (36 + k) → j ≠ 8552 → now' j = now j) (c2 : now' (8432 + k) = nI (x + a)) (c3 : now' (78 * p + (36 + k)) = now (78 * p + (36 + k)) + nI a) (c4 : now' 8552 = now 8552 + nI a * nI v)
    (m1 : ∀ j, j ≠ 8720 + 2 * k + 1 → j ≠ 104 * p + (14 + k) → j ≠ 11346 → s' j = s j) (m2 : s' (8720 + 2 * k + 1) = nI (x + a)) (m3 : s' (104 * p + (14 + k)) = s (104 * p + (14 + k)) + nI a) (m4 : s' 11346 = s 11346 + nI a * nI v) : Rs now' s' T := by
  obtain ⟨a1, a2, a3, a4, a5, a6, a7⟩ := id h
  obtain ⟨pa, pb, pr, pc, pe⟩ := a1 p hp
  obtain ⟨z1, z2, z3, z4⟩ := a6
  have e3 : now (78 * p + (36 + k)) = s (104 * p + (14 + k)) := pb.2.1 k hk
  refine ⟨fun q hq => ?_, a2.congr (c1 _ (by omega) (by omega) (by omega)) (m1 _ (by omega) (by omega) (by omega)) (fun j h1 h2 => c1 _ (by omega) (by omega) (by omega)) (fun j h1 h2 => m1 _ (by omega) (by omega) (by omega)) (fun q hq h9 => by rw [m1 _ (by omega) (by omega) (by omega)]; exact h9) (fun q hq j hj => c1 _ (by omega) (by omega) (by omega)), ⟨fun i hi => ?_, fun i j hi hj hij => ?_⟩, a4.congr (fun j h1 h2 => c1 _ (by omega) (by omega) (by omega)) (fun j h1 h2 => m1 _ (by omega) (by omega) (by omega)), a5.congr (fun j h1 h2 => c1 _ (by omega) (by omega) (by omega)) (fun j h1 h2 => m1 _ (by omega) (by omega) (by omega)), ⟨fun i hi => ?_, ?_, ?_, fun i hi => ?_⟩, (m1 _ (by omega) (by omega) (by omega)).trans a7⟩
  · by_cases hqp : q = p
    · rw [hqp]
      refine ⟨pa.congr (fun j hj => c1 (78 * p + j) (by omega) (by omega) (by omega)) (fun j hj => m1 (104 * p + j) (by omega) (by omega) (by omega)), ⟨fun i hi => ?_, fun i hi => ?_, ?_⟩, pr.congr (fun j hj => c1 (78 * p + j) (by omega) (by omega) (by omega)) (fun j hj => m1 (104 * p + j) (by omega) (by omega) (by omega)), pc.congr (fun j hj => c1 (78 * p + j) (by omega) (by omega) (by omega)) (fun j hj => m1 (104 * p + j) (by omega) (by omega) (by omega)), RPe.of (fun q => h0 ((m1 (104 * p) (by omega) (by omega) (by omega)).symm.trans q))⟩
      · show now' (78 * p + (27 + i)) = s' (104 * p + (32 + i))
        rw [c1 _ (by omega) (by omega) (by omega), m1 _ (by omega) (by omega) (by omega)]; exact pb.1 i hi
      · show now' (78 * p + (36 + i)) = s' (104 * p + (14 + i))
        by_cases e : i = k
        · subst e; rw [c3, m3, e3]
        · rw [c1 _ (by omega) (by omega) (by omega), m1 _ (by omega) (by omega) (by omega)]; exact pb.2.1 i hi
      · show ∃ g, g < T + 1 ∧ s' (104 * p + 32) = nI g
        rw [m1 _ (by omega) (by omega) (by omega)]; exact pb.2.2
    · exact (a1 q hq).congr (fun j hj => c1 (78 * q + j) (by omega) (by omega) (by omega)) (fun j hj => m1 (104 * q + j) (by omega) (by omega) (by omega))
  · by_cases e : i = k
    · subst e
      obtain ⟨y1, y2, v', x', y3, y4, y5, y6, y7, y8, y9⟩ := a3.1 i hi
      have hx' : x' = x := nI_inj (by omega) (by omega) (y6.symm.trans hx)
      have hv' : v' = v := nI_inj (by omega) (by omega) (y5.symm.trans hv)
      subst hx' hv'
      have hcl := crd_le (s := s) i 60 p hp
      have m3' : s' (104 * p + (14 + i)) = nI (crd s p i + a) := by rw [m3, y7 p hp, nI_add]
      have hcp : crd s' p i = crd s p i + a := by
        show (s' (104 * p + (14 + i))).toNatClampNeg = _
        rw [m3', nI_clamp (by omega)]
      have hcq : ∀ q, q < 60 → q ≠ p → crd s' q i = crd s q i := fun q h1 h2 => by
        unfold crd
        rw [m1 _ (by omega) (by omega) (by omega)]
      have hs := crs_upd 60 hp hcq
      refine ⟨?_, ?_, v', x' + a, y3, by omega, ?_, m2, fun q hq => ?_, by omega, fun q => absurd q hv0⟩
      · rw [c1 _ (by omega) (by omega) (by omega), m1 _ (by omega) (by omega) (by omega)]; exact y1
      · rw [c2, m2]
      · rw [m1 _ (by omega) (by omega) (by omega)]; exact y5
      · by_cases hqp : q = p
        · subst hqp
          rw [hcp]; exact m3'
        · rw [m1 _ (by omega) (by omega) (by omega), hcq q hq hqp]; exact y7 q hq
    · obtain ⟨y1, y2, v', x', y3, y4, y5, y6, y7, y8, y9⟩ := a3.1 i hi
      have hcq : ∀ q, q < 60 → s' (104 * q + (14 + i)) = s (104 * q + (14 + i)) := fun q h1 => m1 _ (by omega) (by omega) (by omega)
      rw [c1 _ (by omega) (by omega) (by omega), c1 _ (by omega) (by omega) (by omega), m1 _ (by omega) (by omega) (by omega), m1 _ (by omega) (by omega) (by omega), crs_congr 60 hcq]
      refine ⟨y1, y2, v', x', y3, y4, y5, y6, fun q hq => ?_, y8, y9⟩
      unfold crd
      rw [hcq q hq]; exact y7 q hq
  · rw [m1 _ (by omega) (by omega) (by omega), m1 _ (by omega) (by omega) (by omega)]; exact a3.2 i j hi hj hij
  · rw [c1 _ (by omega) (by omega) (by omega), c1 _ (by omega) (by omega) (by omega), m1 _ (by omega) (by omega) (by omega), m1 _ (by omega) (by omega) (by omega)]; exact z1 i hi
  · rw [c1 _ (by omega) (by omega) (by omega), m1 _ (by omega) (by omega) (by omega)]; exact z2
  · rw [m1 _ (by omega) (by omega) (by omega)]; exact z3
  · by_cases e : i = 0
    · subst e
      show now' 8552 = s' 11346
      rw [c4, m4, show now 8552 = s 11346 from z4 0 (by omega)]
    · rw [c1 _ (by omega) (by omega) (by omega), m1 _ (by omega) (by omega) (by omega)]; exact z4 i hi
theorem eq_coin (hR : Rl n w wm) (hn : n < 513) (a1 a2 a3 : Int32) : ∃ r w2 wm2 n2, f_X9_coin a1 a2 a3 w = some ((r, w2), n2) ∧ f_X10_coin a1 a2 a3 wm = some (r, wm2) ∧ Rl (n + 1) w2 wm2 ∧ 4096 * n2 + 2 * w.2 = 2 * w2.2 := by
  have hR1 : Rl n w (mst wm 0 0 0) := hR.thr
  unfold f_X9_coin f_X10_coin
  generalize mst wm 0 0 0 = m at hR1 ⊢
  show Eq1 n w _ _
  simp only [isPlace_s, misPlace_s, isTube_s, misTube_s, within_s, in_s, Option.bind_some, gd]
  refine Eq1.ite (fun h => ?_) (fun _ => Eq1.ret hR1 hn)
  refine Eq1.ite (fun h2 => ?_) (fun _ => Eq1.ret hR1 hn)
  refine Eq1.ite (fun h3 => ?_) (fun _ => Eq1.ret hR1 hn)
  obtain ⟨p, hp, rfl⟩ := rng (n := 59) (by omega) h
  obtain ⟨k, hk, rfl⟩ := rng (n := 11) (by omega) h2
  obtain ⟨a, ha, ha2, rfl⟩ := rng2 (a := 1) (n := 50) (by omega) (by omega) h3
  obtain ⟨T, O, hc, hm, b1, b2, g1, g2, g3, g4, g5⟩ := id hR1
  obtain ⟨y1, y2, v, x, y3, y4, y5, y6, y7, y8, y9⟩ := g3.2.2.1.1 k (by omega)
  rw [ta_s, show nI (8720 + 2 * k) + (1 : Int32) = nI (8720 + 2 * k + 1) from nI_add _ _, show (8420 : Int32) + nI k = nI (8420 + k) from nI_add _ _, show (8432 : Int32) + nI k = nI (8432 + k) from nI_add _ _, get_s (by omega), Option.bind_some, y1]
  have i1 : inb (nI (8720 + 2 * k)) 11360 := inb_nI (by omega) (by omega)
  have i2 : inb (nI (8720 + 2 * k + 1)) 11360 := inb_nI (by omega) (by omega)
  have i3 : inb (11346 : Int32) 11360 := lit_in (a := 11346) rfl (by omega) (by omega)
  have l1 : (nI (8720 + 2 * k)).toNatClampNeg = 8720 + 2 * k := nI_clamp (by omega)
  have l2 : (nI (8720 + 2 * k + 1)).toNatClampNeg = 8720 + 2 * k + 1 := nI_clamp (by omega)
  have l3 : (11346 : Int32).toNatClampNeg = 11346 := lit_cl (a := 11346) rfl (by omega)
  simp only [chk_t i1, chk_t i2, chk_t i3, l1, l2, l3]
  refine Eq1.ite (fun _ => Eq1.ret hR1 hn) (fun hz => ?_)
  rw [hasMachine_s g3 (by omega), isThere_s g3 (by omega), Option.bind_some, Option.bind_some, gd, gd]
  refine Eq1.ite (fun h4 => ?_) (fun _ => Eq1.fnd hR1 hn)
  rw [get_s (by omega), Option.bind_some, y2, y5, y6, nI_add]
  refine Eq1.ite (fun h5 => ?_) (fun _ => Eq1.ret hR1 hn)
  have hxa : x + a ≤ 1000 := (nI_leI (b := 1000) (by omega) (by omega)).mp h5
  have hv0 : v ≠ 0 := fun q => hz (by rw [y5, q]; rfl)
  obtain ⟨now', hnow⟩ : ∃ now', now' = upd (upd (upd (w.1 11) (8432 + k) (nI (x + a))) (78 * p + (36 + k)) ((upd (w.1 11) (8432 + k) (nI (x + a))) (78 * p + (36 + k)) + nI a)) 8552 ((upd (upd (w.1 11) (8432 + k) (nI (x + a))) (78 * p + (36 + k)) ((upd (w.1 11) (8432 + k) (nI (x + a))) (78 * p + (36 + k)) + nI a)) 8552 + nI a * nI v) := ⟨_, rfl⟩
  obtain ⟨s', hs'⟩ : ∃ s', s' = upd (upd (upd (m 1) (8720 + 2 * k + 1) (nI (x + a))) (104 * p + (14 + k)) (m 1 (104 * p + (14 + k)) + nI a)) 11346 (m 1 11346 + nI a * nI v) := ⟨_, rfl⟩
  have hrs : Rs now' s' T := by
    refine coin_rs g3 (p := p) (k := k) (a := a) (x := x) (v := v) (by omega) (by omega) h4 y6 y5 hv0 y3 hxa (fun j h1 h2 h3 => ?_) ?_ ?_ ?_ (fun j h1 h2 h3 => ?_) ?_ ?_ ?_
    · rw [hnow, upd_ne _ _ h3, upd_ne _ _ h2, upd_ne _ _ h1]
    · rw [hnow, upd_ne _ _ (by omega), upd_ne _ _ (by omega), upd_at]
    · rw [hnow, upd_ne _ _ (by omega), upd_at, upd_ne _ _ (by omega)]
    · rw [hnow, upd_at, upd_ne _ _ (by omega), upd_ne _ _ (by omega)]
    · rw [hs', upd_ne _ _ h3, upd_ne _ _ h2, upd_ne _ _ h1]
    · rw [hs', upd_ne _ _ (by omega), upd_ne _ _ (by omega), upd_at]
    · rw [hs', upd_ne _ _ (by omega), upd_at]
    · rw [hs', upd_at]
  refine Eq1.fin (now' := now') (s' := s') (r := sm (crF s' p) 12) (b := 200 * n + 3) (bm := 200 * n + 3) (C := 100000 * n + 3) hn b2 g4 g5 ?_ ?_ (by omega) (by omega) (by omega) hrs
  · refine (set_k g1 rfl (by omega) (by omega)).bi fun w1 h1 e1 _ => (growl_k (k := 36 + k) (nI_add 36 k) h1 e1 (by omega) (by omega) (by omega)).bi fun w2 h2 e2 _ => (addl_k (a := 8552) rfl h2 e2 (by omega) (by omega)).bi fun w3 h3 e3 _ => ?_
    have hq : w3.1 11 = now' := e3.trans hnow.symm
    rw [creditOf_s (m := fun _ => s') (by rw [hq]; exact hrs) (by omega), Option.bind_some]
    exact OkI.dn h3 hq
  · refine (w_k g2 rfl (by omega) (by omega) (by omega)).bi fun m1 h1 e1 _ => ?_
    rw [of_s (k := 14 + k) (by exact nI_add 14 k) (by omega), Option.bind_some, e1, upd_ne _ _ (by omega)]
    refine (let_k (k := 14 + k) (nI_add 14 k) h1 e1 (by omega) (by omega) (by omega)).bi fun m2 h2 e2 _ => ?_
    rw [e2, upd_ne _ _ (by omega), upd_ne _ _ (by omega), upd_ne _ _ (by omega), upd_ne _ _ (by omega), y5]
    refine (wl_k (a := 11346) rfl h2 e2 (by omega) (by omega) (by omega)).bi fun m3 h3 e3 _ => ?_
    have hq : m3 1 = s' := e3.trans hs'.symm
    rw [mcreditOf_s (by omega), Option.bind_some, hq]
    exact OkMI.dn h3 hq
def gbN (now : Nat → Int32) (p : Nat) : Nat → Nat → Int32
  | 0 => now
  | k + 1 => upd (upd (gbN now p k) (8432 + k) (now (8432 + k) - now (78 * p + (36 + k)))) (78 * p + (36 + k)) 0
def gbS (s : Nat → Int32) (p : Nat) : Nat → Nat → Int32
  | 0 => s
  | k + 1 => upd (upd (gbS s p k) (8720 + 2 * k + 1) (s (8720 + 2 * k + 1) - s (104 * p + (14 + k)))) (104 * p + (14 + k)) 0
theorem gbN_ne (hp : p < 60) : ∀ (k j : Nat), k ≤ 12 → (∀ i, i < k → j ≠ 8432 + i ∧ j ≠ 78 * p + (36 + i)) → gbN now p k j = now j
  | 0, _, _, _ => rfl
  | k + 1, j, hk, h => by
    show upd (upd (gbN now p k) (8432 + k) _) (78 * p + (36 + k)) 0 j = _
    rw [upd_ne _ _ (h k (by omega)).2, upd_ne _ _ (h k (by omega)).1, gbN_ne hp k j (by omega) (fun i hi => h i (by omega))]
theorem gbS_ne (hp : p < 60) : ∀ (k j : Nat), k ≤ 12 → (∀ i, i < k → j ≠ 8720 + 2 * i + 1 ∧ j ≠ 104 * p + (14 + i)) → gbS s p k j = s j
  | 0, _, _, _ => rfl
  | k + 1, j, hk, h => by
    show upd (upd (gbS s p k) (8720 + 2 * k + 1) _) (104 * p + (14 + k)) 0 j = _
    rw [upd_ne _ _ (h k (by omega)).2, upd_ne _ _ (h k (by omega)).1, gbS_ne hp k j (by omega) (fun i hi => h i (by omega))]
theorem gbN_at (hp : p < 60) : ∀ (k i : Nat), k ≤ 12 → i < k → gbN now p k (8432 + i) = now (8432 + i) - now (78 * p + (36 + i)) ∧ gbN now p k (78 * p + (36 + i)) = 0
  | 0, _, _, h => by omega
  | k + 1, i, hk, h => by
    show upd (upd (gbN now p k) (8432 + k) _) (78 * p + (36 + k)) 0 _ = _ ∧ upd (upd (gbN now p k) (8432 + k) _) (78 * p + (36 + k)) 0 _ = _
    by_cases e : i = k
    · subst e
      rw [upd_ne _ _ (by omega), upd_at, upd_at]; exact ⟨rfl, rfl⟩
    · rw [upd_ne _ _ (by omega), upd_ne _ _ (by omega), upd_ne _ _ (by omega), upd_ne _ _ (by omega)]
      exact gbN_at hp k i (by omega) (by omega)
theorem gbS_at (hp : p < 60) : ∀ (k i : Nat), k ≤ 12 → i < k → gbS s p k (8720 + 2 * i + 1) = s (8720 + 2 * i + 1) - s (104 * p + (14 + i)) ∧ gbS s p k (104 * p + (14 + i)) = 0
  | 0, _, _, h => by omega
  | k + 1, i, hk, h => by
    show upd (upd (gbS s p k) (8720 + 2 * k + 1) _) (104 * p + (14 + k)) 0 _ = _ ∧ upd (upd (gbS s p k) (8720 + 2 * k + 1) _) (104 * p + (14 + k)) 0 _ = _
    by_cases e : i = k
    · subst e
      rw [upd_ne _ _ (by omega), upd_at, upd_at]; exact ⟨rfl, rfl⟩
    · rw [upd_ne _ _ (by omega), upd_ne _ _ (by omega), upd_ne _ _ (by omega), upd_ne _ _ (by omega)]
      exact gbS_at hp k i (by omega) (by omega)
theorem givC {τ O Z : Nat} {hist : Nat → Nat → Int32} {tot : Int32} (hp : p < 60) : ∀ (d k i b : Nat) (w : CW), i + d = 12 → d < k → HCx w τ T O b Z hist → w.1 11 = gbN now p i → b + 2 * d + 1 < 120000 →
    OkI (f_X6_giveBack_l8 k (nI p) tot (nI i) w) w τ T O (b + 2 * d + 1) Z hist tot (upd (gbN now p 12) 8553 (gbN now p 12 8553 + tot))
  | d, 0, i, b, w, _, h, _, _, _ => by omega
  | 0, k + 1, i, b, w, h, _, h1, e1, hb => by
    have : i = 12 := by omega
    subst this
    show OkI (f_X6_giveBack_l8_body (f_X6_giveBack_l8 k) (nI p) tot (nI 12) w) _ _ _ _ _ _ _ _ _
    unfold f_X6_giveBack_l8_body
    rw [if_pos (by decide)]
    exact (addl_k (a := 8553) rfl h1 e1 (by omega) (by omega)).bi fun _ h2 e2 _ => OkI.dn h2 e2
  | d + 1, k + 1, i, b, w, h, h0, h1, e1, hb => by
    show OkI (f_X6_giveBack_l8_body (f_X6_giveBack_l8 k) (nI p) tot (nI i) w) _ _ _ _ _ _ _ _ _
    unfold f_X6_giveBack_l8_body f_X6_takeOff
    rw [if_neg (show ¬ (12 : Int32) ≤ nI i from nI_ge (a := i) (b := 12) (by omega) (by omega)), ccell_s, Option.bind_some, get_s (by omega), Option.bind_some, e1, gbN_ne hp i _ (by omega) (fun j hj => by omega), nI_1]
    refine OkV.bi (b1 := b + 1) (n1 := upd (gbN now p i) (8432 + i) (now (8432 + i) - now (78 * p + (36 + i)))) ?_ fun w2 h2 e2 _ => ?_
    · refine ((addl_k (a := 8432 + i) (nI_add 8432 i) h1 e1 (by omega) (by omega)).to ?_).bv fun _ h2 e2 _ => OkV.dn h2 e2
      rw [gbN_ne hp i (8432 + i) (by omega) (fun j hj => by omega), Int32.sub_eq_add_neg]
    · rw [Option.bind_some]
      refine (set_k h2 e2 (by omega) (by omega)).bi fun w3 h3 e3 _ => ?_
      have := givC (tot := tot) hp d k (i + 1) (b + 1 + 1) w3 (by omega) (by omega) h3 e3 (by omega)
      rw [show b + 1 + 1 + 2 * d + 1 = b + 2 * (d + 1) + 1 by omega] at this
      exact this
theorem givM {O Z : Nat} {hist : Nat → Nat → Int32} {tot : Int32} (hp : p < 60) : ∀ (d k i b C : Nat) (m : MW), i + d = 12 → d < k → HMx m T O b Z C hist → m 1 = gbS s p i → b + 2 * d + 1 < 120000 → C + 2 * d + 1 < 2 ^ 30 →
    OkMI (f_X10_giveBack_l8 k (nI p) tot (nI i) m) m T O (b + 2 * d + 1) Z (C + 2 * d + 1) hist tot (upd (gbS s p 12) 11347 (gbS s p 12 11347 + tot))
  | d, 0, i, b, C, m, _, h, _, _, _, _ => by omega
  | 0, k + 1, i, b, C, m, h, _, h1, e1, hb, hC => by
    have : i = 12 := by omega
    subst this
    show OkMI (f_X10_giveBack_l8_body (f_X10_giveBack_l8 k) (nI p) tot (nI 12) m) _ _ _ _ _ _ _ _ _
    unfold f_X10_giveBack_l8_body
    rw [if_pos (by decide), chk_t (lit_in (a := 11347) (by rfl) (by omega) (by omega)), lit_cl (x := 11347) (a := 11347) (by rfl) (by omega), e1]
    exact (wl_k (a := 11347) rfl h1 e1 (by omega) (by omega) (by omega)).bi fun _ h2 e2 _ => OkMI.dn h2 e2
  | d + 1, k + 1, i, b, C, m, h, h0, h1, e1, hb, hC => by
    show OkMI (f_X10_giveBack_l8_body (f_X10_giveBack_l8 k) (nI p) tot (nI i) m) _ _ _ _ _ _ _ _ _
    unfold f_X10_giveBack_l8_body
    rw [if_neg (show ¬ (12 : Int32) ≤ nI i from nI_ge (a := i) (b := 12) (by omega) (by omega)), ta_s, show nI (8720 + 2 * i) + (1 : Int32) = nI (8720 + 2 * i + 1) from nI_add _ _, chk_t (inb_nI (by omega) (by omega)), nI_clamp (by omega), of_s (k := 14 + i) (by exact nI_add 14 i) (by omega), Option.bind_some, e1, gbS_ne hp i _ (by omega) (fun j hj => by omega), gbS_ne hp i _ (by omega) (fun j hj => by omega), nI_1]
    refine (w_k h1 e1 (by omega) (by omega) (by omega)).bi fun m2 h2 e2 _ => (let_k (k := 14 + i) (nI_add 14 i) h2 e2 (by omega) (by omega) (by omega)).bi fun m3 h3 e3 _ => ?_
    have := givM (tot := tot) hp d k (i + 1) (b + 1 + 1) (C + 1 + 1) m3 (by omega) (by omega) h3 e3 (by omega) (by omega)
    rw [show b + 1 + 1 + 2 * d + 1 = b + 2 * (d + 1) + 1 by omega, show C + 1 + 1 + 2 * d + 1 = C + 2 * (d + 1) + 1 by omega] at this
    exact this
end M5
