section Q1
theorem set_0 {w : CW} {e a : Nat} {v : Int32} (h4 : w.1 1 4 = nI (2 * e)) (hr : 2 * e + 2 ≤ w.2) (hw : w.2 < 2 ^ 30) (ha : a < 8556) (hv : w.1 11 a ≠ v) : f_X1_set (nI a) v w = some (cs (cs (cs (cs w 13 (2 * e) (nI a)) 13 (2 * e + 1) (w.1 11 a)) 1 4 (nI (2 * (e + 1)))) 11 a v, 0) := by
  unfold f_X1_set
  rw [if_neg (nI_pos (by omega)), if_neg (show ¬ Int32.ofNat 8556 ≤ nI a from nI_ge ha (by omega)), chk_t (inb_nI ha (by omega)), nI_clamp (by omega), if_neg hv, h4, show Int32.ofNat w.2 - 2 = nI (w.2 - 2) from pk_sub (a := w.2) (b := 2) (by omega), if_pos (nI_le (by omega) (by omega))]
  unfold f_X1_set_b42
  rw [h4, show Int32.ofNat w.2 - 2 = nI (w.2 - 2) from pk_sub (a := w.2) (b := 2) (by omega), if_neg (nI_nlt (by omega) (by omega)), chk_t (inb_nI (by omega) (by omega)), chk_t (inb_nI ha (by omega)), nI_clamp (by omega), nI_clamp (show a < 2 ^ 31 by omega)]
  have k1 : (cs w 13 (2 * e) (nI a)).1 1 = w.1 1 := cs_ne _ _ _ (by decide)
  have k11 : (cs w 13 (2 * e) (nI a)).1 11 = w.1 11 := cs_ne _ _ _ (by decide)
  rw [k1, k11, h4, cs_2, show nI (2 * e) + (1 : Int32) = nI (2 * e + 1) from nI_1 _, chk_t (inb_nI (by omega) (by omega)), nI_clamp (by omega), Option.bind_some]
  unfold f_X1_set_b93
  rw [chk_t (inb_nI ha (by omega)), nI_clamp (by omega)]
  have m1 : (cs (cs w 13 (2 * e) (nI a)) 13 (2 * e + 1) (w.1 11 a)).1 1 = w.1 1 := by rw [cs_ne _ _ _ (by decide), k1]
  rw [m1, h4, show nI (2 * e) + (2 : Int32) = nI (2 * (e + 1)) from nI_add _ _]
theorem set_1 {w : CW} {τ T O b Z e a : Nat} {hist : Nat → Nat → Int32} {v : Int32} (H : HCx w τ T O b Z hist) (hb : b < 120000) (h4 : w.1 1 4 = nI (2 * e)) (hr : 2 * e + 2 ≤ w.2) (hw : w.2 < 2 ^ 30) (ha : a < 8556) (hv : w.1 11 a ≠ v) : ∃ w', f_X1_set (nI a) v w = some (w', 0) ∧ HCx w' τ T O (b + 1) Z hist ∧ w'.1 11 = upd (w.1 11) a v ∧ Fr w w' ∧ w'.2 = w.2 ∧ w'.1 1 4 = nI (2 * (e + 1)) := by
  obtain ⟨w', n, g1, g2, g3, g4, g5⟩ := set_s v H ha hb
  have e2 := set_0 h4 hr hw ha hv
  rw [e2] at g1
  obtain ⟨g6, g7⟩ := Prod.mk.inj (Option.some.inj g1)
  rw [← g6] at g2 g3 g4
  exact ⟨_, e2, g2, g3, g4, rfl, by rw [cs_ne _ _ _ (by decide), cs_at, upd_at]⟩
theorem crs_z {s : Nat → Int32} {k : Nat} : ∀ n, (∀ p, p < n → crd s p k = 0) → crs s k n = 0
  | 0, _ => rfl
  | n + 1, h => by
    show crs s k n + crd s n k = 0
    rw [crs_z n (fun p hp => h p (by omega)), h n (by omega)]
theorem Rs_0 {now s : Nat → Int32} (hc : ∀ j, (j < 8544 ∨ 8547 ≤ j) → now j = 0) (hm : ∀ j, (j < 11353 ∨ 11356 ≤ j) → s j = 0) (he : ∀ i, i < 3 → now (8544 + i) = s (11353 + i)) : Rs now s 0 := by
  have z : (0 : Int32) = nI 0 := rfl
  have hcr : ∀ k, k < 12 → ∀ p, p < 60 → crd s p k = 0 := fun k hk p hp => by
    unfold crd
    rw [hm _ (by omega)]; rfl
  refine ⟨fun p hp => RPl_zero (fun k hk => hc _ (by omega)) (fun k hk => hm _ (by omega)), ⟨0, by omega, (hc _ (by omega)).trans z, (hm _ (by omega)).trans z, fun l hl k hk => by rw [hc _ (by omega), hm _ (by omega)], fun l hl => by omega, fun p hp => ⟨[], by decide, (hc _ (by omega)).trans z, fun i x hx => by simp at hx, List.Perm.refl _⟩⟩, ⟨fun k hk => ⟨by rw [hc _ (by omega), hm _ (by omega)], by rw [hc _ (by omega), hm _ (by omega)], 0, 0, by omega, by omega, (hm _ (by omega)).trans z, (hm _ (by omega)).trans z, fun p hp => by rw [hcr k hk p hp]; exact (hm _ (by omega)).trans z, by rw [crs_z 60 (hcr k hk)]; exact Nat.le_refl _, fun _ => rfl⟩, fun i j hi hj _ _ => hm _ (by omega)⟩, fun g hg => Or.inl ⟨hm _ (by omega), hc _ (by omega)⟩, fun i hi => ⟨by rw [hc _ (by omega), hm _ (by omega)], Or.inl (hm _ (by omega))⟩, ⟨fun i hi => ⟨he i hi, by rw [hc _ (by omega), hm _ (by omega)]⟩, by rw [hc _ (by omega), hm _ (by omega)], Or.inl (hm _ (by omega)), fun i hi => by rw [hc _ (by omega), hm _ (by omega)]⟩, (hm _ (by omega)).trans z⟩
theorem Rl_start : ∃ w1, (bnc (f_X1_set 8544 100 ((fun _ _ => 0), 2048)) fun y1 => bnc (f_X1_set 8545 100 y1) fun y2 => bnc (f_X1_set 8546 100 y2) fun y3 => some (y3, 0)) = some (w1, 0) ∧ Rl 1 w1 wm0 ∧ w1.2 = 2048 := by
  have H0 : HCx ((fun _ _ => 0), 2048) 0 0 0 0 0 (fun _ _ => 0) := ⟨0, 0, 0, fun _ => 0, ⟨⟨by decide, by omega⟩, ⟨rfl, rfl, rfl, rfl⟩, ⟨by omega, by show 2 * 0 ≤ 2048; omega, by omega, by omega, by omega, rfl⟩, fun t h1 h2 => ⟨rfl, Nat.le_refl 0, Nat.le_refl 0, by show 0 - 0 ≤ _; omega, rfl⟩, fun t t' h1 h2 h3 => ⟨Nat.le_refl 0, by show 0 - 0 ≤ _; omega⟩, fun i h1 h2 => by omega⟩⟩
  obtain ⟨w1, a1, a2, a3, a4, a5, a6⟩ := set_1 (a := 8544) (v := 100) (e := 0) H0 (by omega) rfl (by show 2 * 0 + 2 ≤ 2048; omega) (by show 2048 < 2 ^ 30; omega) (by omega) (by decide)
  have a5' : w1.2 = 2048 := a5
  have a3' : w1.1 11 = upd (fun _ => 0) 8544 100 := a3
  obtain ⟨w2, b1, b2, b3, b4, b5, b6⟩ := set_1 (a := 8545) (v := 100) (e := 1) a2 (by omega) a6 (by omega) (by omega) (by omega) (by rw [a3', upd_ne _ _ (by omega)]; decide)
  rw [a3'] at b3
  obtain ⟨w3, c1, c2, c3, c4, c5, c6⟩ := set_1 (a := 8546) (v := 100) (e := 2) b2 (by omega) b6 (by omega) (by omega) (by omega) (by rw [b3, upd_ne _ _ (by omega), upd_ne _ _ (by omega)]; decide)
  rw [b3] at c3
  have fr : ∀ q, q ≠ 1 → q ≠ 11 → q ≠ 12 → q ≠ 13 → w3.1 q = fun _ => 0 := fun q q1 q2 q3 q4 => (c4 q q1 q2 q3 q4).trans ((b4 q q1 q2 q3 q4).trans (a4 q q1 q2 q3 q4))
  have fm : ∀ q, q ≠ 1 → wm0 q = fun _ => 0 := fun q hq => if_neg hq
  have m1 : wm0 1 = upd (upd (upd (fun _ => 0) 11353 100) 11354 100) 11355 100 := rfl
  refine ⟨w3, ?_, ⟨0, 0, fun _ _ => 0, fun _ => wm0 1, by omega, by omega, c2.mono (by omega) (by omega), ⟨0, fun _ => 0, ⟨⟨by rw [fm 0 (by decide)]; rfl, by omega, by rw [fm 0 (by decide)]; rfl⟩, ⟨by omega, by omega, by omega⟩, fun t h1 h2 => ⟨by rw [fm 4 (by decide)]; rfl, Nat.le_refl 0, Nat.le_refl 0, by show 0 - 0 ≤ _; omega, rfl⟩, fun t t' h1 h2 h3 => ⟨Nat.le_refl 0, by show 0 - 0 ≤ _; omega⟩, fun i h1 h2 => by omega⟩⟩, ?_, fun q => absurd rfl q, ?_⟩, by rw [c5, b5]; exact a5'⟩
  · show _ = some (w3, 0 + (0 + (0 + 0)))
    refine bnc_of a1 ?_
    refine bnc_of b1 ?_
    exact bnc_of c1 rfl
  · rw [c3, m1]
    refine Rs_0 (fun j hj => by rw [upd_ne _ _ (by omega), upd_ne _ _ (by omega), upd_ne _ _ (by omega)]) (fun j hj => by rw [upd_ne _ _ (by omega), upd_ne _ _ (by omega), upd_ne _ _ (by omega)]) (fun i hi => ?_)
    rcases (by omega : i = 0 ∨ i = 1 ∨ i = 2) with rfl | rfl | rfl
    · rw [upd_ne _ _ (by omega), upd_ne _ _ (by omega), upd_at, upd_ne _ _ (by omega), upd_ne _ _ (by omega), upd_at]
    · rw [upd_ne _ _ (by omega), upd_at, upd_ne _ _ (by omega), upd_at]
    · rw [upd_at, upd_at]
  · unfold Ax
    rw [fr 5 (by decide) (by decide) (by decide) (by decide), fr 6 (by decide) (by decide) (by decide) (by decide), fr 3 (by decide) (by decide) (by decide) (by decide), fr 19 (by decide) (by decide) (by decide) (by decide), fr 17 (by decide) (by decide) (by decide) (by decide), fr 0 (by decide) (by decide) (by decide) (by decide), fm 6 (by decide), fm 0 (by decide), fm 5 (by decide), fm 7 (by decide)]
    exact ⟨fun p hp => ⟨rfl, rfl⟩, ⟨0, by omega, rfl, rfl, rfl, fun i hi => rfl⟩, fun k hk => rfl, rfl, rfl, rfl⟩
end Q1
