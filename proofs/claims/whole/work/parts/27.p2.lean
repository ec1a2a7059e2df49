section P2
variable {w w0 : CW} {T p : Nat}
/-- only the till's scratch differs -/
def FCt (w w' : CW) : Prop := (∀ p, p < 25 → p ≠ 14 → p ≠ 15 → p ≠ 16 → w'.1 p = w.1 p) ∧ w'.2 = w.2
theorem FCt.refl (w : CW) : FCt w w := ⟨fun _ _ _ _ _ => rfl, rfl⟩
theorem FCt.trans {a b c : CW} (h1 : FCt a b) (h2 : FCt b c) : FCt a c := ⟨fun p q1 q2 q3 q4 => (h2.1 p q1 q2 q3 q4).trans (h1.1 p q1 q2 q3 q4), h2.2.trans h1.2⟩
def W14c (w w' : CW) : Prop := (∀ p, p ≠ 14 → w'.1 p = w.1 p) ∧ w'.2 = w.2
theorem W14c.cs {w w' : CW} {k : Nat} {v : Int32} (h : W14c w w') : W14c w (cs w' 14 k v) := ⟨fun p hp => by rw [cs_ne _ _ _ hp]; exact h.1 p hp, h.2⟩
def W15c (w w' : CW) : Prop := (∀ p, p ≠ 15 → w'.1 p = w.1 p) ∧ w'.2 = w.2
theorem W15c.cs {w w' : CW} {k : Nat} {v : Int32} (h : W15c w w') : W15c w (cs w' 15 k v) := ⟨fun p hp => by rw [cs_ne _ _ _ hp]; exact h.1 p hp, h.2⟩
def W16c (w w' : CW) : Prop := (∀ p, p ≠ 16 → w'.1 p = w.1 p) ∧ w'.2 = w.2
theorem W16c.cs {w w' : CW} {k : Nat} {v : Int32} (h : W16c w w') : W16c w (cs w' 16 k v) := ⟨fun p hp => by rw [cs_ne _ _ _ hp]; exact h.1 p hp, h.2⟩
theorem srtC {k2 : Int32 → CW → Option CW} {v od : Nat → Nat} {q : Nat} (hq : q < 12) (hv : ∀ k, k < 12 → w0.1 11 (8420 + k) = nI (v k) ∧ v k ≤ 5000) (hod : ∀ i, i < q → od i < 12) : ∀ (to kf : Nat) (w : CW), to < kf → to ≤ q → W14c w0 w → (∀ i, i < to → w.1 14 i = nI (od i)) → (∀ i, to < i → i ≤ q → w.1 14 i = nI (od (i - 1))) →
    ∃ w', W14c w0 w' ∧ (∀ i, i ≤ q → w'.1 14 i = nI (insO od (ds (fun t => decide (v q < v (od t))) to) q i)) ∧ f_X6_sortByValue_l10 k2 kf (nI q) (nI to) w = k2 (nI (q + 1)) w'
  | to, 0, w, h, _, _, _, _ => by omega
  | to, kf + 1, w, hk, hto, h7, h1, h2 => by
    have stop : f_X6_sortByValue_l10 k2 (kf + 1) (nI q) (nI to) w = f_X6_sortByValue_b68 k2 (nI q) (nI to) w → ∃ w', W14c w0 w' ∧ (∀ i, i ≤ q → w'.1 14 i = nI (insO od to q i)) ∧ f_X6_sortByValue_l10 k2 (kf + 1) (nI q) (nI to) w = k2 (nI (q + 1)) w' := by
      intro he
      refine ⟨cs w 14 to (nI q), h7.cs, fun i hi => ?_, ?_⟩
      · rw [cs_at]
        rcases Nat.lt_trichotomy i to with c | c | c
        · rw [upd_ne _ _ (by omega), insO_lt c]; exact h1 i c
        · rw [c, upd_at, insO_at]
        · rw [upd_ne _ _ (by omega), insO_gt c]; exact h2 i c hi
      · rw [he]
        unfold f_X6_sortByValue_b68
        rw [chk_t (inb_nI (by omega) (by omega)), nI_clamp (by omega), nI_1 q]
    cases to with
    | zero =>
      refine stop ?_
      show f_X6_sortByValue_l10_body k2 (f_X6_sortByValue_l10 k2 kf) (nI q) (nI 0) w = _
      unfold f_X6_sortByValue_l10_body
      rw [if_pos (by decide)]
    | succ t =>
      have hot := hod t (by omega)
      have hbody : f_X6_sortByValue_l10 k2 (kf + 1) (nI q) (nI (t + 1)) w = if nI (v (od t)) ≤ nI (v q) then f_X6_sortByValue_b68 k2 (nI q) (nI (t + 1)) w else f_X6_sortByValue_l10 k2 kf (nI q) (nI t) (cs w 14 (t + 1) (nI (od t))) := by
        show f_X6_sortByValue_l10_body k2 (f_X6_sortByValue_l10 k2 kf) (nI q) (nI (t + 1)) w = _
        unfold f_X6_sortByValue_l10_body
        have e1 : nI (t + 1) - (1 : Int32) = nI t := pk_sub (a := t + 1) (b := 1) (by omega)
        have g1 : f_X1_get (nI (8420 + od t)) w = some (nI (v (od t))) := by rw [get_s (by omega), h7.1 11 (by decide), (hv (od t) hot).1]
        have g2 : f_X1_get (nI (8420 + q)) w = some (nI (v q)) := by rw [get_s (by omega), h7.1 11 (by decide), (hv q hq).1]
        rw [if_neg (nI_nle (by omega) (by omega)), e1]
        simp only [chk_t (inb_nI (show t < 12 by omega) (show 12 < 2 ^ 31 by omega)), chk_t (inb_nI (show t + 1 < 12 by omega) (show 12 < 2 ^ 31 by omega))]
        rw [nI_clamp (show t < 2 ^ 31 by omega), nI_clamp (show t + 1 < 2 ^ 31 by omega), h1 t (by omega), show (8420 : Int32) + nI (od t) = nI (8420 + od t) from nI_add 8420 _, show (8420 : Int32) + nI q = nI (8420 + q) from nI_add 8420 _, g1, Option.bind_some, g2, Option.bind_some, nI_dec (by omega), Nat.add_sub_cancel]
      have b1 := (hv (od t) hot).2
      have b2 := (hv q hq).2
      by_cases hc : v (od t) ≤ v q
      · have e2 : ds (fun t => decide (v q < v (od t))) (t + 1) = t + 1 := by
          rw [ds_succ, if_neg]
          intro h
          have := of_decide_eq_true h
          omega
        rw [e2]
        exact stop (by rw [hbody, if_pos (nI_le hc (by omega))])
      · have e2 : ds (fun t => decide (v q < v (od t))) (t + 1) = ds (fun t => decide (v q < v (od t))) t := by
          rw [ds_succ, if_pos (decide_eq_true (by omega))]
        rw [e2, hbody, if_neg (nI_ge (by omega) (by omega))]
        refine srtC hq hv hod t kf (cs w 14 (t + 1) (nI (od t))) (by omega) (by omega) h7.cs (fun i hi => ?_) (fun i h4 h5 => ?_)
        · rw [cs_at, upd_ne _ _ (by omega)]; exact h1 i (by omega)
        · rw [cs_at]
          by_cases e : i = t + 1
          · rw [e, upd_at, Nat.add_sub_cancel]
          · rw [upd_ne _ _ e]; exact h2 i (by omega) h5
theorem sortC {v : Nat → Nat} (hv : ∀ k, k < 12 → w0.1 11 (8420 + k) = nI (v k) ∧ v k ≤ 5000) (hd : ∀ i j, i < 12 → j < 12 → i ≠ j → v i = v j → v i = 0) : ∀ (d kf q : Nat) (w : CW), q + d = 12 → d < kf → W14c w0 w → (∀ i, i < q → w.1 14 i = nI (bvF v q i)) →
    ∃ w', f_X6_sortByValue_l2 kf (nI q) w = some w' ∧ W14c w0 w' ∧ ∀ i, i < 12 → w'.1 14 i = nI (bvF v 12 i)
  | d, 0, q, w, _, h, _, _ => by omega
  | 0, kf + 1, q, w, h, _, h7, h1 => by
    have hq : q = 12 := by omega
    rw [hq] at h1 ⊢
    refine ⟨w, ?_, h7, h1⟩
    show f_X6_sortByValue_l2_body (f_X6_sortByValue_l2 kf) (nI 12) w = _
    unfold f_X6_sortByValue_l2_body
    rw [if_pos (by decide)]
  | d + 1, kf + 1, q, w, h, hk, h7, h1 => by
    have hq : q < 12 := by omega
    have hb := (twoO hd q (by omega)).2.1
    have hbody : f_X6_sortByValue_l2 (kf + 1) (nI q) w = f_X6_sortByValue_l10 (f_X6_sortByValue_l2 kf) FU (nI q) (nI q) w := by
      show f_X6_sortByValue_l2_body (f_X6_sortByValue_l2 kf) (nI q) w = _
      unfold f_X6_sortByValue_l2_body
      rw [if_neg (show ¬ (12 : Int32) ≤ nI q from nI_ge (a := q) (b := 12) (by omega) (by omega))]
    obtain ⟨w1, g1, g2, g3⟩ := srtC (k2 := f_X6_sortByValue_l2 kf) hq hv (fun i hi => by have := hb i hi; omega) q FU w (by unfold FU; omega) (Nat.le_refl _) h7 h1 (fun i h1 h2 => by omega)
    rw [hbody, g3]
    exact sortC hv hd d kf (q + 1) w1 (by omega) (by omega) g1 (fun i hi => g2 i (by omega))
/-- what the other places have put into tube k -/
def crx (s : Nat → Int32) (p k : Nat) : Nat → Nat
  | 0 => 0
  | q + 1 => crx s p k q + if q = p then 0 else crd s q k
theorem crx_le {s : Nat → Int32} {k : Nat} : ∀ q, crx s p k q ≤ crs s k q
  | 0 => Nat.le_refl _
  | q + 1 => by
    have := crx_le (s := s) (k := k) q
    show crx s p k q + (if q = p then 0 else crd s q k) ≤ crs s k q + crd s q k
    by_cases h : q = p
    · rw [if_pos h]; omega
    · rw [if_neg h]; omega
theorem crx_mono {s : Nat → Int32} {k : Nat} : ∀ {a b : Nat}, a ≤ b → crx s p k a ≤ crx s p k b := by
  intro a b h
  induction b with
  | zero => have : a = 0 := by omega
            rw [this]; exact Nat.le_refl _
  | succ b ih =>
    by_cases e : a = b + 1
    · rw [e]; exact Nat.le_refl _
    · exact Nat.le_trans (ih (by omega)) (Nat.le_add_right _ _)
def xNk (s : Nat → Int32) (k : Nat) : Nat := (s (8720 + 2 * k + 1)).toNatClampNeg
def cNk (s : Nat → Int32) (p k : Nat) : Nat := xNk s k - crx s p k 60
/-- the tubes, in numbers -/
theorem tubes_s {now s : Nat → Int32} (h : RT now s) {k : Nat} (hk : k < 12) : now (8420 + k) = nI (vN s k) ∧ s (8720 + 2 * k) = nI (vN s k) ∧ vN s k ≤ 5000 ∧ now (8432 + k) = nI (xNk s k) ∧ s (8720 + 2 * k + 1) = nI (xNk s k) ∧ xNk s k ≤ 1000 ∧ crs s k 60 ≤ xNk s k ∧ (vN s k = 0 → xNk s k = 0) ∧ ∀ q, q < 60 → s (104 * q + (14 + k)) = nI (crd s q k) := by
  obtain ⟨y1, y2, v, x, y3, y4, y5, y6, y7, y8, y9⟩ := h.1 k hk
  have ev : vN s k = v := by unfold vN; rw [y5, nI_clamp (by omega)]
  have ex : xNk s k = x := by unfold xNk; rw [y6, nI_clamp (by omega)]
  rw [ev, ex]
  exact ⟨y1.trans y5, y5, y3, y2.trans y6, y6, y4, y8, y9, y7⟩
theorem tubes_d {now s : Nat → Int32} (h : RT now s) : ∀ i j, i < 12 → j < 12 → i ≠ j → vN s i = vN s j → vN s i = 0 := by
  intro i j hi hj hij he
  have h1 := (tubes_s h hi).2.1
  have h2 := (tubes_s h hj).2.1
  have h3 := h.2 i j hi hj hij (by rw [h1, h2, he])
  rw [h1] at h3
  have h5 := (tubes_s h hi).2.2.1
  exact nI_inj (b := 0) (by omega) (by omega) h3
theorem spC {k2 : Int32 → Int32 → CW → Option CW} {s : Nat → Int32} {k : Nat} (hk : k < 12) (hT : RT (w0.1 11) s) (hcr : ∀ q, q < 60 → w0.1 11 (78 * q + (36 + k)) = nI (crd s q k)) (hp : p < 60) : ∀ (d kf q : Nat) (w : CW), q + d = 60 → d < kf → W15c w0 w → w.1 15 k = nI (xNk s k - crx s p k q) →
    ∃ w', f_X6_countSpare_l28 k2 kf (nI p) (nI k) (nI q) w = k2 (nI p) (nI (k + 1)) w' ∧ W15c w0 w' ∧ w'.1 15 k = nI (cNk s p k) ∧ ∀ j, j ≠ k → w'.1 15 j = w.1 15 j
  | d, 0, q, w, _, h, _, _ => by omega
  | 0, kf + 1, q, w, h, _, h15, hv => by
    have hq : q = 60 := by omega
    rw [hq] at hv ⊢
    refine ⟨w, ?_, h15, hv, fun _ _ => rfl⟩
    show f_X6_countSpare_l28_body k2 (f_X6_countSpare_l28 k2 kf) (nI p) (nI k) (nI 60) w = _
    unfold f_X6_countSpare_l28_body
    rw [if_pos (by decide), nI_1]
  | d + 1, kf + 1, q, w, h, hkf, h15, hv => by
    have hq : q < 60 := by omega
    have hle := crx_le (s := s) (p := p) (k := k) 60
    have hx := (tubes_s hT hk).2.2.2.2.2.2.1
    have hmo := crx_mono (s := s) (p := p) (k := k) (show q + 1 ≤ 60 by omega)
    have hsu : crx s p k (q + 1) = crx s p k q + if q = p then 0 else crd s q k := rfl
    have hbody : f_X6_countSpare_l28 k2 (kf + 1) (nI p) (nI k) (nI q) w = f_X6_countSpare_l28 k2 kf (nI p) (nI k) (nI (q + 1)) (cs w 15 k (nI (xNk s k - crx s p k (q + 1)))) := by
      show f_X6_countSpare_l28_body k2 (f_X6_countSpare_l28 k2 kf) (nI p) (nI k) (nI q) w = _
      unfold f_X6_countSpare_l28_body f_X6_countSpare_b62
      rw [if_neg (show ¬ (60 : Int32) ≤ nI q from nI_ge (a := q) (b := 60) (by omega) (by omega)), chk_t (inb_nI hk (by omega))]
      by_cases e : q = p
      · rw [if_pos (show nI q = nI p by rw [e]), chk_t (inb_nI hk (by omega)), nI_clamp (by omega), hv, nI_1 q, hsu, if_pos e, Int32.sub_zero]
        rfl
      · rw [if_neg (show ¬ nI q = nI p from fun q' => e (nI_inj (by omega) (by omega) q')), ccell_s, Option.bind_some, get_s (by omega), Option.bind_some, chk_t (inb_nI hk (by omega)), nI_clamp (by omega), hv, nI_1 q, h15.1 11 (by decide), hcr q hq, hsu, if_neg e]
        rw [hsu, if_neg e] at hmo
        rw [pk_sub (by omega), Nat.sub_sub]
    obtain ⟨w', g1, g2, g3, g4⟩ := spC (k2 := k2) hk hT hcr hp d kf (q + 1) (cs w 15 k (nI (xNk s k - crx s p k (q + 1)))) (by omega) (by omega) h15.cs (by rw [cs_at, upd_at])
    exact ⟨w', hbody.trans g1, g2, g3, fun j hj => by rw [g4 j hj, cs_at, upd_ne _ _ hj]⟩
theorem spareC {s : Nat → Int32} (hT : RT (w0.1 11) s) (hcr : ∀ k, k < 12 → ∀ q, q < 60 → w0.1 11 (78 * q + (36 + k)) = nI (crd s q k)) (hp : p < 60) : ∀ (d kf k : Nat) (w : CW), k + d = 12 → d < kf → W15c w0 w → (∀ j, j < k → w.1 15 j = nI (cNk s p j)) →
    ∃ w', f_X6_countSpare_l2 kf (nI p) (nI k) w = some w' ∧ W15c w0 w' ∧ ∀ j, j < 12 → w'.1 15 j = nI (cNk s p j)
  | d, 0, k, w, _, h, _, _ => by omega
  | 0, kf + 1, k, w, h, _, h15, hv => by
    have hk : k = 12 := by omega
    rw [hk] at hv ⊢
    refine ⟨w, ?_, h15, hv⟩
    show f_X6_countSpare_l2_body (f_X6_countSpare_l2 kf) (nI p) (nI 12) w = _
    unfold f_X6_countSpare_l2_body
    rw [if_pos (by decide)]
  | d + 1, kf + 1, k, w, h, hkf, h15, hv => by
    have hk : k < 12 := by omega
    have hx := (tubes_s hT hk).2.2.2.1
    have hbody : f_X6_countSpare_l2 (kf + 1) (nI p) (nI k) w = f_X6_countSpare_l28 (f_X6_countSpare_l2 kf) FU (nI p) (nI k) (nI 0) (cs w 15 k (nI (xNk s k))) := by
      show f_X6_countSpare_l2_body (f_X6_countSpare_l2 kf) (nI p) (nI k) w = _
      unfold f_X6_countSpare_l2_body
      rw [if_neg (show ¬ (12 : Int32) ≤ nI k from nI_ge (a := k) (b := 12) (by omega) (by omega)), show (8432 : Int32) + nI k = nI (8432 + k) from nI_add 8432 _, get_s (by omega), Option.bind_some, chk_t (inb_nI hk (by omega)), nI_clamp (by omega), h15.1 11 (by decide), hx]
      rfl
    obtain ⟨w1, g1, g2, g3, g4⟩ := spC (k2 := f_X6_countSpare_l2 kf) hk hT (hcr k hk) hp 60 FU 0 (cs w 15 k (nI (xNk s k))) (by omega) (by unfold FU; omega) h15.cs (by rw [cs_at, upd_at]; rfl)
    rw [hbody, g1]
    refine spareC hT hcr hp d kf (k + 1) w1 (by omega) (by omega) g2 (fun j hj => ?_)
    by_cases e : j = k
    · rw [e]; exact g3
    · rw [g4 j e, cs_at, upd_ne _ _ e]; exact hv j (by omega)
/-- one row of the class's table differs -/
def WR (x : Nat) (w w' : CW) : Prop := (∀ p, p ≠ x → w'.1 p = w.1 p) ∧ w'.2 = w.2
theorem lotC {k11 : Nat → Int32 → Int32 → Int32 → Int32 → CW → Option CW} {x0 A n V : Nat} {x4 x5 : Int32} {R : Nat → Nat} (hx : 25 ≤ x0 ∧ x0 < 38) (hA : A ≤ 500) (hw1 : 1 ≤ n * V) (hR : ∀ s, s ≤ A → R s ≤ 1000000) (hn : n ≤ 500) (hV5 : V ≤ 5000) : ∀ (kf j : Nat) (w : CW), j ≤ A + 1 → j < kf + n * V → 0 < kf → WR x0 w0 w → (∀ s, j ≤ s → s ≤ A → w.1 x0 s = nI (if n * V ≤ s then (if R (s - n * V) + n < R s then R (s - n * V) + n else R s) else R s)) → (∀ s, s < j → s ≤ A → w.1 x0 s = nI (R s)) → n * V ≤ j →
    ∃ w', f_X6_addTube_l42 k11 kf x0 (nI V) (nI A) x4 x5 (nI n) (nI (n * V)) (nI j - 1) w = k11 x0 (nI V) (nI A) (x4 - nI n) (x5 * 2) w' ∧ WR x0 w0 w' ∧ ∀ s, s ≤ A → w'.1 x0 s = nI (if n * V ≤ s then (if R (s - n * V) + n < R s then R (s - n * V) + n else R s) else R s)
  | 0, j, w, _, _, h, _, _, _, _ => by omega
  | kf + 1, j, w, hj, hkf, _, h7, h1, h2, h3 => by
    have hnV : n * V ≤ 2500000 := Nat.le_trans (Nat.mul_le_mul hn hV5) (by decide)
    by_cases e : j = n * V
    · refine ⟨w, ?_, h7, fun s hs => ?_⟩
      · show f_X6_addTube_l42_body k11 (f_X6_addTube_l42 k11 kf) x0 (nI V) (nI A) x4 x5 (nI n) (nI (n * V)) (nI j - 1) w = _
        unfold f_X6_addTube_l42_body
        have e1 : nI j - (1 : Int32) = nI (j - 1) := pk_sub (a := j) (b := 1) (by omega)
        rw [e1, if_pos (nI_lt (by omega) (by omega))]
      · by_cases hjs : j ≤ s
        · exact h1 s hjs hs
        · rw [h2 s (by omega) hs, if_neg (by omega)]
    · have hj1 : j - 1 ≤ A := by omega
      have e1 : nI j - (1 : Int32) = nI (j - 1) := pk_sub (a := j) (b := 1) (by omega)
      have v1 := h2 (j - 1) (by omega) hj1
      have v2 := h2 (j - 1 - n * V) (by omega) (by omega)
      have b1 := hR (j - 1) hj1
      have b2 := hR (j - 1 - n * V) (by omega)
      have hbody : f_X6_addTube_l42 k11 (kf + 1) x0 (nI V) (nI A) x4 x5 (nI n) (nI (n * V)) (nI j - 1) w = f_X6_addTube_l42 k11 kf x0 (nI V) (nI A) x4 x5 (nI n) (nI (n * V)) (nI (j - 1) - 1) (cs w x0 (j - 1) (nI (if R (j - 1 - n * V) + n < R (j - 1) then R (j - 1 - n * V) + n else R (j - 1)))) := by
        show f_X6_addTube_l42_body k11 (f_X6_addTube_l42 k11 kf) x0 (nI V) (nI A) x4 x5 (nI n) (nI (n * V)) (nI j - 1) w = _
        unfold f_X6_addTube_l42_body
        rw [e1, if_neg (nI_nlt (by omega) (by omega)), pk_sub (show n * V ≤ j - 1 by omega)]
        simp only [chk_t (inb_nI (show j - 1 < 501 by omega) (show 501 < 2 ^ 31 by omega)), chk_t hx, chk_t (inb_nI (show j - 1 - n * V < 501 by omega) (show 501 < 2 ^ 31 by omega))]
        have hval : (if nI (R (j - 1 - n * V) + n) < nI (R (j - 1)) then nI (R (j - 1 - n * V) + n) else nI (R (j - 1))) = nI (if R (j - 1 - n * V) + n < R (j - 1) then R (j - 1 - n * V) + n else R (j - 1)) := by
          by_cases c : R (j - 1 - n * V) + n < R (j - 1)
          · rw [if_pos c, if_pos (nI_lt c (by omega))]
          · rw [if_neg c, if_neg (nI_nlt (by omega) (by omega))]
        rw [nI_clamp (show j - 1 < 2 ^ 31 by omega), nI_clamp (show j - 1 - n * V < 2 ^ 31 by omega), v1, v2, nI_add, hval, Option.bind_some, Int32.sub_eq_add_neg]
      rw [hbody]
      refine lotC hx hA hw1 hR hn hV5 kf (j - 1) _ (by omega) (by omega) (by omega) ⟨fun p hp => by rw [cs_ne _ _ _ hp]; exact h7.1 p hp, h7.2⟩ (fun s hs1 hs2 => ?_) (fun s hs1 hs2 => ?_) (by omega)
      · rw [cs_at]
        by_cases es : s = j - 1
        · rw [es, upd_at, if_pos (show n * V ≤ j - 1 by omega)]
        · rw [upd_ne _ _ es]; exact h1 s (by omega) hs2
      · rw [cs_at, upd_ne _ _ (by omega)]; exact h2 s (by omega) hs2
end P2
