section N7
variable {n : Nat} {w : CW} {wm : MW} {now s : Nat → Int32} {T p : Nat}
def bgF (now : Nat → Int32) (p g i : Nat) : Nat → Int32 := fun j => if 78 * p + 48 ≤ j ∧ j < 78 * p + 48 + i then now (4680 + 31 * g + 1 + (j - (78 * p + 48))) else now j
def bgA (now : Nat → Int32) (p g N : Nat) (v : Int32) : Nat → Int32 := upd (upd (upd (upd (bgF now p g N) (78 * p + 10) (nI N)) (78 * p + 12) v) (78 * p + 2) 0) (78 * p + 3) 2
def bgN (now : Nat → Int32) (p g N : Nat) (v : Int32) : Nat → Int32 := upd (upd (bgA now p g N v) (78 * p + 33) (bgA now p g N v (78 * p + 33) + 1)) 8551 1
theorem bg74 {τ O b Z N g : Nat} {hist : Nat → Nat → Int32} {v : Int32} (hp : p < 60) (hN : N ≤ 30) (h1 : HCx w τ T O b Z hist) (e1 : w.1 11 = upd (bgF now p g N) (78 * p + 10) (nI N)) (hb : b + 14 < 120000) :
    OkV (f_X9_beginRun_b74 (nI p) (nI N) (nI p) 12 v w) w τ T O (b + 14) Z hist (if N = 0 then endN (bgN now p g N v) p else bgN now p g N v) := by
  unfold f_X9_beginRun_b74
  refine (write_k (k := 12) rfl h1 e1 hp (by omega) (by omega)).bv fun _ h2 e2 _ => (write_k (k := 2) rfl h2 e2 hp (by omega) (by omega)).bv fun _ h3 e3 _ => (write_k (k := 3) rfl h3 e3 hp (by omega) (by omega)).bv fun _ h4 e4 _ => (grow_k (k := 33) rfl h4 e4 hp (by omega) (by omega)).bv fun _ h5 e5 _ => (sl_k (a := 8551) rfl h5 e5 (by omega) (by omega)).bv fun w6 h6 e6 _ => ?_
  by_cases h0 : N = 0
  · subst h0
    rw [if_pos (show nI 0 = (0 : Int32) from rfl), if_pos rfl]
    exact (endRun_k h6 e6 hp (by omega)).bv fun _ h7 e7 _ => OkV.dn h7 e7
  · rw [if_neg (show ¬ nI N = 0 from fun q => h0 (nI_inj (b := 0) (by omega) (by omega) q)), if_neg h0]
    exact (OkV.dn h6 e6).mono (by omega)
theorem bgC {τ O Z N g : Nat} {hist : Nat → Nat → Int32} {v : Int32} (hp : p < 60) (hg : g < 40) (hN : N ≤ 30) (hv : N = 0 → v = 0) (hv2 : N ≠ 0 → ∃ k u, k ≤ 4 ∧ 1 ≤ u ∧ u ≤ 200 ∧ now (4680 + 31 * g + 1) = nI (1000 * k + u) ∧ v = nI u) : ∀ (d kf i b : Nat) (w : CW), i + d = N → d < kf → HCx w τ T O b Z hist → w.1 11 = bgF now p g i → b + d + 15 < 120000 →
    OkV (f_X9_beginRun_l9 kf (nI p) (nI g) (nI N) (nI i) w) w τ T O (b + d + 15) Z hist (if N = 0 then endN (bgN now p g N v) p else bgN now p g N v)
  | d, 0, i, b, w, _, h, _, _, _ => by omega
  | 0, kf + 1, i, b, w, h, _, h1, e1, hb => by
    have : i = N := by omega
    subst this
    show OkV (f_X9_beginRun_l9_body (f_X9_beginRun_l9 kf) (nI p) (nI g) (nI i) (nI i) w) _ _ _ _ _ _ _ _
    unfold f_X9_beginRun_l9_body
    rw [if_pos (nI_le (Nat.le_refl _) (by omega))]
    refine (write_k (k := 10) rfl h1 e1 hp (by omega) (by omega)).bv fun w2 h2 e2 _ => ?_
    by_cases h0 : i = 0
    · subst h0
      rw [if_pos (show nI 0 = (0 : Int32) from rfl), hv rfl]
      exact bg74 hp (by omega) h2 e2 (by omega)
    · rw [if_neg (show ¬ nI i = 0 from fun q => h0 (nI_inj (b := 0) (by omega) (by omega) q)), read_k (k := 48) (by rfl) hp (by omega), Option.bind_some]
      obtain ⟨k, u, u1, u2, u3, u4, u5⟩ := hv2 h0
      have e48 : w2.1 11 (78 * p + 48) = nI (1000 * k + u) := by
        rw [e2, upd_ne _ _ (by omega)]
        show (if 78 * p + 48 ≤ 78 * p + 48 ∧ 78 * p + 48 < 78 * p + 48 + i then now (4680 + 31 * g + 1 + (78 * p + 48 - (78 * p + 48))) else now (78 * p + 48)) = _
        rw [if_pos (by omega), Nat.sub_self]; exact u4
      rw [e48]
      unfold f_X9_minutesOf
      rw [Option.bind_some, rem_s (d := 1000) (by rfl) (by omega) (by omega) (by omega), show (1000 * k + u) % 1000 = u by omega, ← u5]
      exact bg74 hp hN h2 e2 (by omega)
  | d + 1, kf + 1, i, b, w, h, h0, h1, e1, hb => by
    show OkV (f_X9_beginRun_l9_body (f_X9_beginRun_l9 kf) (nI p) (nI g) (nI N) (nI i) w) _ _ _ _ _ _ _ _
    unfold f_X9_beginRun_l9_body
    have ei : bgF now p g i (4680 + 31 * g + 1 + i) = now (4680 + 31 * g + 1 + i) := if_neg (by omega)
    rw [if_neg (nI_ge (by omega) (by omega)), stepCell_s, Option.bind_some, get_s (by omega), Option.bind_some, e1, ei, nI_1]
    refine (write_k (k := 48 + i) (nI_add 48 i) h1 e1 hp (by omega) (by omega)).bv fun w2 h2 e2 _ => ?_
    have e3 : w2.1 11 = bgF now p g (i + 1) := by
      rw [e2]
      funext j
      by_cases hj : j = 78 * p + (48 + i)
      · subst hj
        rw [upd_at]
        unfold bgF
        rw [if_pos (by omega), show 78 * p + (48 + i) - (78 * p + 48) = i by omega]
      · rw [upd_ne _ _ hj]
        unfold bgF
        by_cases h3 : 78 * p + 48 ≤ j ∧ j < 78 * p + 48 + i
        · rw [if_pos h3, if_pos (by omega)]
        · rw [if_neg h3, if_neg (by omega)]
    have := bgC hp hg hN hv hv2 d kf (i + 1) (b + 1) w2 (by omega) (by omega) h2 e3 (by omega)
    rw [show b + 1 + d + 15 = b + (d + 1) + 15 by omega] at this
    exact this
def bgG (s : Nat → Int32) (p g i : Nat) : Nat → Int32 := fun j => if 104 * p + 41 ≤ j ∧ j < 104 * p + 41 + i then s (6240 + 62 * g + 2 + (j - (104 * p + 41))) else if 104 * p + 71 ≤ j ∧ j < 104 * p + 71 + i then s (6240 + 62 * g + 32 + (j - (104 * p + 71))) else s j
def bgS (s : Nat → Int32) (p g N : Nat) (v : Int32) : Nat → Int32 := upd (upd (upd (upd (upd (upd (upd (bgG s p g N) (104 * p + 27) (nI N)) (104 * p + 28) 0) (104 * p + 29) v) (104 * p + 30) 0) (104 * p + 26) 1) (104 * p + 3) 0) (104 * p + 4) 2
theorem bgM {O Z N g : Nat} {hist : Nat → Nat → Int32} (hp : p < 60) (hg : g < 40) (hN : N ≤ 30) : ∀ (d kf i b C : Nat) (m : MW), i + d = N → d < kf → HMx m T O b Z C hist → m 1 = bgG s p g i → b + 2 * d + 7 < 120000 → C + 2 * d + 7 < 2 ^ 30 →
    OkMI (f_X10_start_l117 kf (nI p) (nI (6240 + 62 * g)) (nI N) (nI i) m) m T O (b + 2 * d + 7) Z (C + 2 * d + 7) hist 1 (bgS s p g N (s (6240 + 62 * g + 32)))
  | d, 0, i, b, C, m, _, h, _, _, _, _ => by omega
  | 0, kf + 1, i, b, C, m, h, _, h1, e1, hb, hC => by
    have : i = N := by omega
    subst this
    show OkMI (f_X10_start_l117_body (f_X10_start_l117 kf) (nI p) (nI (6240 + 62 * g)) (nI i) (nI i) m) _ _ _ _ _ _ _ _ _
    unfold f_X10_start_l117_body
    rw [if_pos (nI_le (Nat.le_refl _) (by omega)), show nI (6240 + 62 * g) + (32 : Int32) = nI (6240 + 62 * g + 32) from nI_add _ _]
    refine (let_k (k := 27) rfl h1 e1 (by omega) (by omega) (by omega)).bi fun _ h2 e2 _ => (let_k (k := 28) rfl h2 e2 (by omega) (by omega) (by omega)).bi fun m3 h3 e3 _ => ?_
    have e32 : m3 1 (6240 + 62 * g + 32) = s (6240 + 62 * g + 32) := by
      rw [e3, upd_ne _ _ (by omega), upd_ne _ _ (by omega)]
      unfold bgG
      rw [if_neg (by omega), if_neg (by omega)]
    rw [chk_t (inb_nI (by omega) (by omega)), nI_clamp (by omega), e32]
    exact (let_k (k := 29) rfl h3 e3 (by omega) (by omega) (by omega)).bi fun _ h4 e4 _ => (let_k (k := 30) rfl h4 e4 (by omega) (by omega) (by omega)).bi fun _ h5 e5 _ => (let_k (k := 26) rfl h5 e5 (by omega) (by omega) (by omega)).bi fun _ h6 e6 _ => (let_k (k := 3) rfl h6 e6 (by omega) (by omega) (by omega)).bi fun _ h7 e7 _ => (let_k (k := 4) rfl h7 e7 (by omega) (by omega) (by omega)).bi fun _ h8 e8 _ => OkMI.dn h8 e8
  | d + 1, kf + 1, i, b, C, m, h, h0, h1, e1, hb, hC => by
    show OkMI (f_X10_start_l117_body (f_X10_start_l117 kf) (nI p) (nI (6240 + 62 * g)) (nI N) (nI i) m) _ _ _ _ _ _ _ _ _
    unfold f_X10_start_l117_body
    have ei : m 1 (6240 + 62 * g + 2 + i) = s (6240 + 62 * g + 2 + i) := by rw [e1]; unfold bgG; rw [if_neg (by omega), if_neg (by omega)]
    rw [if_neg (nI_ge (by omega) (by omega)), show nI (6240 + 62 * g) + (2 : Int32) = nI (6240 + 62 * g + 2) from nI_add _ _, show nI (6240 + 62 * g) + (32 : Int32) = nI (6240 + 62 * g + 32) from nI_add _ _, nI_add, nI_add, chk_t (inb_nI (by omega) (by omega)), nI_clamp (by omega), ei, nI_1]
    refine (let_k (k := 41 + i) (nI_add 41 i) h1 e1 (by omega) (by omega) (by omega)).bi fun m2 h2 e2 _ => ?_
    have ei2 : m2 1 (6240 + 62 * g + 32 + i) = s (6240 + 62 * g + 32 + i) := by rw [e2, upd_ne _ _ (by omega)]; unfold bgG; rw [if_neg (by omega), if_neg (by omega)]
    rw [chk_t (inb_nI (by omega) (by omega)), nI_clamp (by omega), ei2]
    refine (let_k (k := 71 + i) (nI_add 71 i) h2 e2 (by omega) (by omega) (by omega)).bi fun m3 h3 e3 _ => ?_
    have e4 : m3 1 = bgG s p g (i + 1) := by
      rw [e3]
      funext j
      by_cases hj : j = 104 * p + (71 + i)
      · subst hj
        rw [upd_at]
        unfold bgG
        rw [if_neg (by omega), if_pos (by omega), show 104 * p + (71 + i) - (104 * p + 71) = i by omega]
      · rw [upd_ne _ _ hj]
        by_cases hj2 : j = 104 * p + (41 + i)
        · subst hj2
          rw [upd_at]
          unfold bgG
          rw [if_pos (by omega), show 104 * p + (41 + i) - (104 * p + 41) = i by omega]
        · rw [upd_ne _ _ hj2]
          unfold bgG
          by_cases h3 : 104 * p + 41 ≤ j ∧ j < 104 * p + 41 + i
          · rw [if_pos h3, if_pos (by omega)]
          · rw [if_neg h3, if_neg (show ¬ (104 * p + 41 ≤ j ∧ j < 104 * p + 41 + (i + 1)) by omega)]
            by_cases h4 : 104 * p + 71 ≤ j ∧ j < 104 * p + 71 + i
            · rw [if_pos h4, if_pos (by omega)]
            · rw [if_neg h4, if_neg (by omega)]
    have := bgM hp hg hN d kf (i + 1) (b + 1 + 1) (C + 1 + 1) m3 (by omega) (by omega) h3 e4 (by omega) (by omega)
    rw [show b + 1 + 1 + 2 * d + 7 = b + 2 * (d + 1) + 7 by omega, show C + 1 + 1 + 2 * d + 7 = C + 2 * (d + 1) + 7 by omega] at this
    exact this
/-- the house is at work -/
theorem RZ_on (h : Rs now s T) : Rs (upd now 8551 1) (upd s 11356 1) T := by
  obtain ⟨z1, z2, z3, z4⟩ := h.2.2.2.2.2.1
  have c1 : ∀ j, j ≠ 8551 → upd now 8551 1 j = now j := fun j hj => upd_ne _ _ hj
  have m1 : ∀ j, j ≠ 11356 → upd s 11356 1 j = s j := fun j hj => upd_ne _ _ hj
  refine h.rest (fun j hj => c1 j (by omega)) (fun j hj => m1 j (by omega)) (h.2.1.congr (c1 _ (by omega)) (m1 _ (by omega)) (fun j h1 h2 => c1 _ (by omega)) (fun j h1 h2 => m1 _ (by omega)) (fun q hq h9 => by rw [m1 _ (by omega)]; exact h9) (fun q hq k hk => c1 _ (by omega))) (h.2.2.1.congr (fun j h1 h2 => c1 _ (by omega)) (fun j h1 h2 => m1 _ (by omega)) (fun q hq k hk => m1 _ (by omega))) (h.2.2.2.1.congr (fun j h1 h2 => c1 _ (by omega)) (fun j h1 h2 => m1 _ (by omega))) (h.2.2.2.2.1.congr (fun j h1 h2 => c1 _ (by omega)) (fun j h1 h2 => m1 _ (by omega))) ⟨fun i hi => ?_, ?_, Or.inr (upd_at _ _ _), fun i hi => ?_⟩ (m1 _ (by omega))
  · rw [c1 _ (by omega), c1 _ (by omega), m1 _ (by omega), m1 _ (by omega)]; exact z1 i hi
  · rw [upd_at, upd_at]
  · rw [c1 _ (by omega), m1 _ (by omega)]; exact z4 i hi
theorem bg_rs {g N u0 : Nat} {now' s' : Nat → Int32} (h : Rs now s T) (hp : p < 60) (hg : g < 40) (h0 : s (104 * p) ≠ 0) (h26 : s (104 * p + 26) = 0) (h101 : s (104 * p + 101) = 0) (hN1 : 1 ≤ N) (hN : N ≤ 30) (hu1 : 1 ≤ u0) (hu2 : u0 ≤ 200)
    (hst : ∀ i, i < N → ∃ k u, k ≤ 4 ∧ 1 ≤ u ∧ u ≤ 200 ∧ s (6240 + 62 * g + 2 + i) = nI k ∧ s (6240 + 62 * g + 32 + i) = nI u ∧ now (4680 + 31 * g + 1 + i) = nI (1000 * k + u))
    (c1 : ∀ j, (j < 78 * p + 2 ∨ (78 * p + 4 ≤ j ∧ j < 78 * p + 10) ∨ j = 78 * p + 11 ∨ (78 * p + 13 ≤ j ∧ j < 78 * p + 33) ∨ (78 * p + 34 ≤ j ∧ j < 78 * p + 48) ∨ 78 * p + 48 + N ≤ j) → j ≠ 8551 → now' j = now j)
    (c10 : now' (78 * p + 10) = nI N) (c12 : now' (78 * p + 12) = nI u0) (c2 : now' (78 * p + 2) = 0) (c3 : now' (78 * p + 3) = 2) (c33 : now' (78 * p + 33) = now (78 * p + 33) + 1) (c51 : now' 8551 = 1) (c48 : ∀ i, i < N → now' (78 * p + (48 + i)) = now (4680 + 31 * g + 1 + i))
    (m1 : ∀ j, (j < 104 * p + 3 ∨ (104 * p + 5 ≤ j ∧ j < 104 * p + 26) ∨ (104 * p + 31 ≤ j ∧ j < 104 * p + 41 ∧ j ≠ 104 * p + 38) ∨ (104 * p + 41 + N ≤ j ∧ j < 104 * p + 71) ∨ 104 * p + 71 + N ≤ j) → j ≠ 11356 → s' j = s j)
    (m3 : s' (104 * p + 3) = 0) (m4 : s' (104 * p + 4) = 2) (m26 : s' (104 * p + 26) = 1) (m27 : s' (104 * p + 27) = nI N) (m28 : s' (104 * p + 28) = 0) (m29 : s' (104 * p + 29) = nI u0) (m30 : s' (104 * p + 30) = 0) (m38 : s' (104 * p + 38) = s (104 * p + 38) + 1) (m56 : s' 11356 = 1) (m41 : ∀ i, i < N → s' (104 * p + (41 + i)) = s (6240 + 62 * g + 2 + i)) (m71 : ∀ i, i < N → s' (104 * p + (71 + i)) = s (6240 + 62 * g + 32 + i)) : Rs now' s' T := by
  obtain ⟨pa, pb, pr, pc, pe⟩ := h.1 p hp
  obtain ⟨q1, q2, q3, q4, q5, q6, q7, q8, q9⟩ := id pc
  obtain ⟨z1, z2, z3, z4⟩ := h.2.2.2.2.2.1
  obtain ⟨-, r10, r11, r12, r30⟩ : s (104 * p + 26) = 0 ∧ now (78 * p + 10) = 0 ∧ now (78 * p + 11) = 0 ∧ now (78 * p + 12) = 0 ∧ s (104 * p + 30) = 0 := by
    rcases pr with q | ⟨q, -⟩
    · exact q
    · exact absurd (h26.symm.trans q) (by decide)
  have m101 : s' (104 * p + 101) = 0 := (m1 _ (by omega) (by omega)).trans h101
  have m0 : s' (104 * p + 0) ≠ 0 := fun q => h0 ((m1 (104 * p + 0) (by omega) (by omega)).symm.trans q)
  refine h.placeG hp (fun j hj => c1 j (by omega) (by omega)) (fun j hj => m1 j (by omega) (by omega)) ⟨fun i hi => ?_, by rw [c51, m56], Or.inr m56, fun i hi => ?_⟩ ⟨pa.congr (fun k hk => c1 (78 * p + k) (by omega) (by omega)) (fun k hk => m1 (104 * p + k) (by omega) (by omega)), ⟨fun i hi => ?_, fun i hi => ?_, ?_⟩, Or.inr ⟨m26, m101, m0, N, 0, u0, hN1, hN, by omega, hu1, hu2, m27, c10, m28, (c1 (78 * p + 11) (by omega) (by omega)).trans r11, m29, c12, fun i hi => ?_⟩, ⟨c2.trans m3.symm, c3.trans m4.symm, ?_, ?_, ?_, ?_, ⟨0, by omega, m30⟩, ?_, Or.inr ⟨m101, by show s' (104 * p + 4) ≠ 4; rw [m4]; decide⟩⟩, RPe.of m0⟩ (fun _ => m0) (fun k hk => c1 _ (by omega) (by omega)) (fun k hk => m1 _ (by omega) (by omega))
  · rw [c1 _ (by omega) (by omega), c1 _ (by omega) (by omega), m1 _ (by omega) (by omega), m1 _ (by omega) (by omega)]; exact z1 i hi
  · rw [c1 _ (by omega) (by omega), m1 _ (by omega) (by omega)]; exact z4 i hi
  · show now' (78 * p + (27 + i)) = s' (104 * p + (32 + i))
    by_cases e : i = 6
    · subst e
      rw [c33, m38, show now (78 * p + 33) = s (104 * p + 38) from pb.1 6 (by omega)]
    · rw [c1 _ (by omega) (by omega), m1 _ (by omega) (by omega)]; exact pb.1 i hi
  · show now' (78 * p + (36 + i)) = s' (104 * p + (14 + i))
    rw [c1 _ (by omega) (by omega), m1 _ (by omega) (by omega)]; exact pb.2.1 i hi
  · show ∃ x, x < T + 1 ∧ s' (104 * p + 32) = nI x
    rw [m1 _ (by omega) (by omega)]; exact pb.2.2
  · obtain ⟨k, u, u1, u2, u3, u4, u5, u6⟩ := hst i hi
    exact ⟨k, u, u1, u2, u3, (m41 i hi).trans u4, (m71 i hi).trans u5, (c48 i hi).trans u6⟩
  · show now' (78 * p + 4) = s' (104 * p + 5)
    rw [c1 _ (by omega) (by omega), m1 _ (by omega) (by omega)]; exact q3
  · show now' (78 * p + 5) = s' (104 * p + 6)
    rw [c1 _ (by omega) (by omega), m1 _ (by omega) (by omega)]; exact q4
  · show s' (104 * p + 6) = 0 ∨ s' (104 * p + 6) = 1
    rw [m1 _ (by omega) (by omega)]; exact q5
  · show now' (78 * p + 6) = s' (104 * p + 30)
    rw [c1 _ (by omega) (by omega), m30]; exact q6.trans r30
  · show now' (78 * p + 7) = s' (104 * p + 31)
    rw [c1 _ (by omega) (by omega), m1 _ (by omega) (by omega)]; exact q8
theorem bg_rsN {g N u0 : Nat} (h : Rs now s T) (hp : p < 60) (hg : g < 40) (h0 : s (104 * p) ≠ 0) (h26 : s (104 * p + 26) = 0) (h101 : s (104 * p + 101) = 0) (hN1 : 1 ≤ N) (hN : N ≤ 30) (hu1 : 1 ≤ u0) (hu2 : u0 ≤ 200) (eu : s (6240 + 62 * g + 32) = nI u0)
    (hst : ∀ i, i < N → ∃ k u, k ≤ 4 ∧ 1 ≤ u ∧ u ≤ 200 ∧ s (6240 + 62 * g + 2 + i) = nI k ∧ s (6240 + 62 * g + 32 + i) = nI u ∧ now (4680 + 31 * g + 1 + i) = nI (1000 * k + u)) : Rs (bgN now p g N (nI u0)) (bgS (upd (upd s 11356 1) (104 * p + 38) (s (104 * p + 38) + 1)) p g N (nI u0)) T := by
  have fF : ∀ j, (j < 78 * p + 48 ∨ 78 * p + 48 + N ≤ j) → bgF now p g N j = now j := fun j hj => if_neg (by omega)
  have fG : ∀ j, (j < 104 * p + 41 ∨ (104 * p + 41 + N ≤ j ∧ j < 104 * p + 71) ∨ 104 * p + 71 + N ≤ j) → bgG (upd (upd s 11356 1) (104 * p + 38) (s (104 * p + 38) + 1)) p g N j = upd (upd s 11356 1) (104 * p + 38) (s (104 * p + 38) + 1) j := fun j hj => by unfold bgG; rw [if_neg (by omega), if_neg (by omega)]
  refine bg_rs (g := g) (N := N) (u0 := u0) h hp hg h0 h26 h101 hN1 hN hu1 hu2 hst (fun j hj h5 => ?_) ?_ ?_ ?_ ?_ ?_ ?_ (fun i hi => ?_) (fun j hj h5 => ?_) ?_ ?_ ?_ ?_ ?_ ?_ ?_ ?_ ?_ (fun i hi => ?_) (fun i hi => ?_)
  · unfold bgN bgA
    rw [upd_ne _ _ h5, upd_ne _ _ (by omega), upd_ne _ _ (by omega), upd_ne _ _ (by omega), upd_ne _ _ (by omega), upd_ne _ _ (by omega), fF j (by omega)]
  · unfold bgN bgA
    rw [upd_ne _ _ (by omega), upd_ne _ _ (by omega), upd_ne _ _ (by omega), upd_ne _ _ (by omega), upd_ne _ _ (by omega), upd_at]
  · unfold bgN bgA
    rw [upd_ne _ _ (by omega), upd_ne _ _ (by omega), upd_ne _ _ (by omega), upd_ne _ _ (by omega), upd_at]
  · unfold bgN bgA
    rw [upd_ne _ _ (by omega), upd_ne _ _ (by omega), upd_ne _ _ (by omega), upd_at]
  · unfold bgN bgA
    rw [upd_ne _ _ (by omega), upd_ne _ _ (by omega), upd_at]
  · unfold bgN bgA
    rw [upd_ne _ _ (by omega), upd_at, upd_ne _ _ (by omega), upd_ne _ _ (by omega), upd_ne _ _ (by omega), upd_ne _ _ (by omega), fF _ (by omega)]
  · exact upd_at _ _ _
  · unfold bgN bgA
    rw [upd_ne _ _ (by omega), upd_ne _ _ (by omega), upd_ne _ _ (by omega), upd_ne _ _ (by omega), upd_ne _ _ (by omega), upd_ne _ _ (by omega)]
    unfold bgF
    rw [if_pos (by omega), show 78 * p + (48 + i) - (78 * p + 48) = i by omega]
  · unfold bgS
    rw [upd_ne _ _ (by omega), upd_ne _ _ (by omega), upd_ne _ _ (by omega), upd_ne _ _ (by omega), upd_ne _ _ (by omega), upd_ne _ _ (by omega), upd_ne _ _ (by omega), fG j (by omega), upd_ne _ _ (by omega), upd_ne _ _ h5]
  · unfold bgS; rw [upd_ne _ _ (by omega), upd_at]
  · unfold bgS; rw [upd_at]
  · unfold bgS; rw [upd_ne _ _ (by omega), upd_ne _ _ (by omega), upd_at]
  · unfold bgS; rw [upd_ne _ _ (by omega), upd_ne _ _ (by omega), upd_ne _ _ (by omega), upd_ne _ _ (by omega), upd_ne _ _ (by omega), upd_ne _ _ (by omega), upd_at]
  · unfold bgS; rw [upd_ne _ _ (by omega), upd_ne _ _ (by omega), upd_ne _ _ (by omega), upd_ne _ _ (by omega), upd_ne _ _ (by omega), upd_at]
  · unfold bgS; rw [upd_ne _ _ (by omega), upd_ne _ _ (by omega), upd_ne _ _ (by omega), upd_ne _ _ (by omega), upd_at]
  · unfold bgS; rw [upd_ne _ _ (by omega), upd_ne _ _ (by omega), upd_ne _ _ (by omega), upd_at]
  · unfold bgS; rw [upd_ne _ _ (by omega), upd_ne _ _ (by omega), upd_ne _ _ (by omega), upd_ne _ _ (by omega), upd_ne _ _ (by omega), upd_ne _ _ (by omega), upd_ne _ _ (by omega), fG _ (by omega), upd_at]
  · unfold bgS; rw [upd_ne _ _ (by omega), upd_ne _ _ (by omega), upd_ne _ _ (by omega), upd_ne _ _ (by omega), upd_ne _ _ (by omega), upd_ne _ _ (by omega), upd_ne _ _ (by omega), fG _ (by omega), upd_ne _ _ (by omega), upd_at]
  · unfold bgS; rw [upd_ne _ _ (by omega), upd_ne _ _ (by omega), upd_ne _ _ (by omega), upd_ne _ _ (by omega), upd_ne _ _ (by omega), upd_ne _ _ (by omega), upd_ne _ _ (by omega)]
    unfold bgG
    rw [if_pos (by omega), show 104 * p + (41 + i) - (104 * p + 41) = i by omega, upd_ne _ _ (by omega), upd_ne _ _ (by omega)]
  · unfold bgS; rw [upd_ne _ _ (by omega), upd_ne _ _ (by omega), upd_ne _ _ (by omega), upd_ne _ _ (by omega), upd_ne _ _ (by omega), upd_ne _ _ (by omega), upd_ne _ _ (by omega)]
    unfold bgG
    rw [if_neg (by omega), if_pos (by omega), show 104 * p + (71 + i) - (104 * p + 71) = i by omega, upd_ne _ _ (by omega), upd_ne _ _ (by omega)]
end N7
