section P4
variable {m m0 : MW} {T p : Nat} {s : Nat → Int32}
/-- only the reference's scratch differs -/
def FMs (m m' : MW) : Prop := (∀ p, p ≠ 0 → p < 8 → m' p = m p) ∧ ∀ k, k ≠ 15 → m' 0 k = m 0 k
theorem FMs.refl (m : MW) : FMs m m := ⟨fun _ _ _ => rfl, fun _ _ => rfl⟩
theorem FMs.trans {a b c : MW} (h1 : FMs a b) (h2 : FMs b c) : FMs a c := ⟨fun p q1 q2 => (h2.1 p q1 q2).trans (h1.1 p q1 q2), fun k q => (h2.2 k q).trans (h1.2 k q)⟩
/-- one array differs -/
def W1m (x : Nat) (m m' : MW) : Prop := ∀ p, p ≠ x → m' p = m p
theorem W1m.refl {x : Nat} (m : MW) : W1m x m m := fun _ _ => rfl
theorem W1m.mst {x k : Nat} {v : Int32} {m m' : MW} (h : W1m x m m') : W1m x m (mst m' x k v) := fun p hp => by rw [mst_ne _ _ _ hp]; exact h p hp
theorem W1m.fms {x : Nat} {m m' : MW} (h : W1m x m m') (hx : 8 ≤ x) : FMs m m' := ⟨fun p _ q2 => h p (by omega), fun k _ => by rw [h 0 (by omega)]⟩
theorem freeM {k7 : Int32 → Int32 → MW → Option MW} {now : Nat → Int32} {k : Nat} (hk : k < 12) (hT : RT now s) (hp : p < 60) : ∀ (d kf q : Nat) (m : MW), q + d = 60 → d < kf → m 1 = s → m 10 k = nI (xNk s k - crx s p k q) →
    ∃ m', f_X10_orderTubes_l35 k7 kf (nI p) (nI k) (nI q) m = (if nI (vN s k) ≤ 0 then k7 (nI p) (nI (k + 1)) (mst m' 11 k 0) else f_X10_orderTubes_l101 k7 FU (nI p) (nI k) ((mst m' 11 k 0) 0 15) (mst m' 11 k 0)) ∧ W1m 10 m m' ∧ m' 10 k = nI (cNk s p k) ∧ ∀ j, j ≠ k → m' 10 j = m 10 j
  | d, 0, q, m, _, h, _, _ => by omega
  | 0, kf + 1, q, m, h, _, e1, hv => by
    have hq : q = 60 := by omega
    rw [hq] at hv ⊢
    refine ⟨m, ?_, W1m.refl m, hv, fun _ _ => rfl⟩
    show f_X10_orderTubes_l35_body k7 (f_X10_orderTubes_l35 k7 kf) (nI p) (nI k) (nI 60) m = _
    unfold f_X10_orderTubes_l35_body f_X10_orderTubes_b176
    rw [if_pos (by decide), chk_t (inb_nI hk (by omega)), ta_s, chk_t (inb_nI (by omega) (by omega)), nI_clamp (show k < 2 ^ 31 by omega), nI_clamp (show 8720 + 2 * k < 2 ^ 31 by omega), nI_1 k, show (mst m 11 k 0) 1 = s from (mst_ne _ _ _ (by decide)).trans e1, (tubes_s hT hk).2.1]
  | d + 1, kf + 1, q, m, h, hkf, e1, hv => by
    have hq : q < 60 := by omega
    have hle := crx_le (s := s) (p := p) (k := k) 60
    have hx := (tubes_s hT hk).2.2.2.2.2.2.1
    have hmo := crx_mono (s := s) (p := p) (k := k) (show q + 1 ≤ 60 by omega)
    have hsu : crx s p k (q + 1) = crx s p k q + if q = p then 0 else crd s q k := rfl
    have hbody : f_X10_orderTubes_l35 k7 (kf + 1) (nI p) (nI k) (nI q) m = f_X10_orderTubes_l35 k7 kf (nI p) (nI k) (nI (q + 1)) (mst m 10 k (nI (xNk s k - crx s p k (q + 1)))) := by
      show f_X10_orderTubes_l35_body k7 (f_X10_orderTubes_l35 k7 kf) (nI p) (nI k) (nI q) m = _
      unfold f_X10_orderTubes_l35_body f_X10_orderTubes_b66
      rw [if_neg (show ¬ (60 : Int32) ≤ nI q from nI_ge (a := q) (b := 60) (by omega) (by omega)), chk_t (inb_nI hk (by omega))]
      by_cases e : q = p
      · rw [if_pos (show nI q = nI p by rw [e]), chk_t (inb_nI hk (by omega)), nI_clamp (by omega), hv, nI_1 q, hsu, if_pos e, Int32.sub_zero]
        rfl
      · rw [if_neg (show ¬ nI q = nI p from fun q' => e (nI_inj (by omega) (by omega) q')), of_s (k := 14 + k) (by exact nI_add 14 k) (by omega), Option.bind_some, chk_t (inb_nI hk (by omega)), nI_clamp (by omega), hv, nI_1 q, e1, (tubes_s hT hk).2.2.2.2.2.2.2.2 q hq, hsu, if_neg e]
        rw [hsu, if_neg e] at hmo
        rw [pk_sub (by omega), Nat.sub_sub]
    obtain ⟨m', g1, g2, g3, g4⟩ := freeM (k7 := k7) hk hT hp d kf (q + 1) (mst m 10 k (nI (xNk s k - crx s p k (q + 1)))) (by omega) (by omega) ((mst_ne _ _ _ (by decide)).trans e1) (by rw [mst_at, upd_at])
    exact ⟨m', hbody.trans g1, fun r hr => by rw [g2 r hr, mst_ne _ _ _ hr], g3, fun j hj => by rw [g4 j hj, mst_at, upd_ne _ _ hj]⟩
theorem srtM {k7 : Int32 → Int32 → MW → Option MW} {v od : Nat → Nat} {q r : Nat} (hq : q < 12) (hr : r ≤ q) (hv : ∀ k, k < 12 → m0 1 (8720 + 2 * k) = nI (v k) ∧ v k ≤ 5000) (hod : ∀ i, i < r → od i < 12) : ∀ (to kf : Nat) (m : MW), to < kf → to ≤ r → W1m 8 m0 m → (∀ i, i < to → m 8 i = nI (od i)) → (∀ i, to < i → i ≤ r → m 8 i = nI (od (i - 1))) →
    ∃ m', (∀ x, x ≠ 8 → x ≠ 0 → m' x = m0 x) ∧ m' 0 = upd (m0 0) 15 (m0 0 15 + 1) ∧ (∀ i, i ≤ r → m' 8 i = nI (insO od (ds (fun t => decide (v (od t) < v q)) to) q i)) ∧ f_X10_orderTubes_l101 k7 kf (nI p) (nI q) (nI to) m = k7 (nI p) (nI (q + 1)) m'
  | to, 0, m, h, _, _, _, _ => by omega
  | to, kf + 1, m, hk, hto, h7, h1, h2 => by
    have stop : f_X10_orderTubes_l101 k7 (kf + 1) (nI p) (nI q) (nI to) m = f_X10_orderTubes_b159 k7 (nI p) (nI q) (nI to) m → ∃ m', (∀ x, x ≠ 8 → x ≠ 0 → m' x = m0 x) ∧ m' 0 = upd (m0 0) 15 (m0 0 15 + 1) ∧ (∀ i, i ≤ r → m' 8 i = nI (insO od to q i)) ∧ f_X10_orderTubes_l101 k7 (kf + 1) (nI p) (nI q) (nI to) m = k7 (nI p) (nI (q + 1)) m' := by
      intro he
      have e0 : (mst m 8 to (nI q)) 0 = m0 0 := (mst_ne _ _ _ (by decide)).trans (h7 0 (by decide))
      refine ⟨mst (mst m 8 to (nI q)) 0 15 (m0 0 15 + 1), fun x h8 hx0 => by rw [mst_ne _ _ _ hx0, mst_ne _ _ _ h8]; exact h7 x h8, by rw [mst_at, e0], fun i hi => ?_, ?_⟩
      · rw [mst_ne _ _ _ (by decide), mst_at]
        rcases Nat.lt_trichotomy i to with c | c | c
        · rw [upd_ne _ _ (by omega), insO_lt c]; exact h1 i c
        · rw [c, upd_at, insO_at]
        · rw [upd_ne _ _ (by omega), insO_gt c]; exact h2 i c hi
      · rw [he]
        unfold f_X10_orderTubes_b159 f_X10_orderTubes_b176
        rw [chk_t (inb_nI (by omega) (by omega)), nI_clamp (by omega), Option.bind_some, nI_1 q, e0]
    cases to with
    | zero =>
      refine stop ?_
      show f_X10_orderTubes_l101_body k7 (f_X10_orderTubes_l101 k7 kf) (nI p) (nI q) (nI 0) m = _
      unfold f_X10_orderTubes_l101_body
      rw [if_pos (by decide)]
    | succ t =>
      have hot := hod t (by omega)
      have b1 := (hv (od t) hot).2
      have b2 := (hv q hq).2
      have hbody : f_X10_orderTubes_l101 k7 (kf + 1) (nI p) (nI q) (nI (t + 1)) m = if nI (v q) ≤ nI (v (od t)) then f_X10_orderTubes_b159 k7 (nI p) (nI q) (nI (t + 1)) m else f_X10_orderTubes_l101 k7 kf (nI p) (nI q) (nI t) (mst m 8 (t + 1) (nI (od t))) := by
        show f_X10_orderTubes_l101_body k7 (f_X10_orderTubes_l101 k7 kf) (nI p) (nI q) (nI (t + 1)) m = _
        unfold f_X10_orderTubes_l101_body
        have e1 : nI (t + 1) - (1 : Int32) = nI t := pk_sub (a := t + 1) (b := 1) (by omega)
        rw [if_neg (nI_nle (by omega) (by omega)), e1]
        simp only [chk_t (inb_nI (show t < 12 by omega) (show 12 < 2 ^ 31 by omega)), chk_t (inb_nI (show t + 1 < 12 by omega) (show 12 < 2 ^ 31 by omega))]
        rw [nI_clamp (show t < 2 ^ 31 by omega), nI_clamp (show t + 1 < 2 ^ 31 by omega), h1 t (by omega), ta_s, ta_s, chk_t (inb_nI (by omega) (by omega)), chk_t (inb_nI (by omega) (by omega)), nI_clamp (show 8720 + 2 * q < 2 ^ 31 by omega), nI_clamp (show 8720 + 2 * od t < 2 ^ 31 by omega), h7 1 (by decide), (hv q hq).1, (hv (od t) hot).1, nI_dec (by omega), Nat.add_sub_cancel]
      by_cases hc : v q ≤ v (od t)
      · have e2 : ds (fun t => decide (v (od t) < v q)) (t + 1) = t + 1 := by
          rw [ds_succ, if_neg]
          intro h
          have := of_decide_eq_true h
          omega
        rw [e2]
        exact stop (by rw [hbody, if_pos (nI_le hc (by omega))])
      · have e2 : ds (fun t => decide (v (od t) < v q)) (t + 1) = ds (fun t => decide (v (od t) < v q)) t := by
          rw [ds_succ, if_pos (decide_eq_true (by omega))]
        rw [e2, hbody, if_neg (nI_ge (by omega) (by omega))]
        refine srtM hq hr hv hod t kf (mst m 8 (t + 1) (nI (od t))) (by omega) (by omega) h7.mst (fun i hi => ?_) (fun i h4 h5 => ?_)
        · rw [mst_at, upd_ne _ _ (by omega)]; exact h1 i (by omega)
        · rw [mst_at]
          by_cases e : i = t + 1
          · rw [e, upd_at, Nat.add_sub_cancel]
          · rw [upd_ne _ _ e]; exact h2 i (by omega) h5
theorem orderM {now : Nat → Int32} (hT : RT now s) (h01 : m0 1 = s) (hp : p < 60) : ∀ (d kf q : Nat) (m : MW), q + d = 12 → d < kf → FMs m0 m → m 0 15 = nI (rF (vN s) q) → (∀ i, i < rF (vN s) q → m 8 i = nI (moF (vN s) q i)) → (∀ k, k < q → m 10 k = nI (cNk s p k) ∧ m 11 k = 0) →
    ∃ m', f_X10_orderTubes_l7 kf (nI p) (nI q) m = some m' ∧ FMs m0 m' ∧ m' 0 15 = nI (rF (vN s) 12) ∧ (∀ i, i < rF (vN s) 12 → m' 8 i = nI (moF (vN s) 12 i)) ∧ (∀ k, k < 12 → m' 10 k = nI (cNk s p k) ∧ m' 11 k = 0)
  | d, 0, q, m, _, h, _, _, _, _ => by omega
  | 0, kf + 1, q, m, h, _, h1, h2, h3, h4 => by
    have hq : q = 12 := by omega
    rw [hq] at h2 h3 h4 ⊢
    refine ⟨m, ?_, h1, h2, h3, h4⟩
    show f_X10_orderTubes_l7_body (f_X10_orderTubes_l7 kf) (nI p) (nI 12) m = _
    unfold f_X10_orderTubes_l7_body
    rw [if_pos (by decide)]
  | d + 1, kf + 1, q, m, h, hkf, h1, h2, h3, h4 => by
    have hq : q < 12 := by omega
    have em : m 1 = s := (h1.1 1 (by decide) (by decide)).trans h01
    have hrq := rF_le (vN s) q
    have hv5 := (tubes_s hT hq).2.2.1
    obtain ⟨t1, t2, t3, t4, t5, t6⟩ := twoO (tubes_d hT) q (by omega)
    have hod : ∀ i, i < rF (vN s) q → moF (vN s) q i < 12 := fun i hi => by
      rw [(t6 i hi).1]
      have := t2 (q - 1 - i) (by omega)
      omega
    obtain ⟨m1, g1, g2, g3, g4⟩ := freeM (k7 := f_X10_orderTubes_l7 kf) (k := q) hq hT hp 60 FU 0 (mst m 10 q (nI (xNk s q))) (by omega) (by unfold FU; omega) ((mst_ne _ _ _ (by decide)).trans em) (by rw [mst_at, upd_at]; rfl)
    have hbody : f_X10_orderTubes_l7 (kf + 1) (nI p) (nI q) m = (if nI (vN s q) ≤ 0 then f_X10_orderTubes_l7 kf (nI p) (nI (q + 1)) (mst m1 11 q 0) else f_X10_orderTubes_l101 (f_X10_orderTubes_l7 kf) FU (nI p) (nI q) ((mst m1 11 q 0) 0 15) (mst m1 11 q 0)) := by
      rw [← g1]
      show f_X10_orderTubes_l7_body (f_X10_orderTubes_l7 kf) (nI p) (nI q) m = _
      unfold f_X10_orderTubes_l7_body
      rw [if_neg (show ¬ (12 : Int32) ≤ nI q from nI_ge (a := q) (b := 12) (by omega) (by omega)), ta_s, show nI (8720 + 2 * q) + (1 : Int32) = nI (8720 + 2 * q + 1) from nI_add _ _, chk_t (inb_nI (by omega) (by omega)), chk_t (inb_nI hq (by omega)), nI_clamp (show q < 2 ^ 31 by omega), nI_clamp (show 8720 + 2 * q + 1 < 2 ^ 31 by omega), em, (tubes_s hT hq).2.2.2.2.1, Option.bind_some]
      rfl
    obtain ⟨m2, hm2⟩ : ∃ m2, m2 = mst m1 11 q 0 := ⟨_, rfl⟩
    rw [← hm2] at hbody
    have p2 : ∀ x, x ≠ 10 → x ≠ 11 → m2 x = m x := fun x h10 h11 => by rw [hm2, mst_ne _ _ _ h11, g2 x h10, mst_ne _ _ _ h10]
    have a10 : ∀ k, k < q + 1 → m2 10 k = nI (cNk s p k) ∧ m2 11 k = 0 := fun k hk => by
      rw [hm2, mst_ne _ _ _ (show 10 ≠ 11 by decide), mst_at]
      by_cases e : k = q
      · rw [e, g3, upd_at]; exact ⟨rfl, rfl⟩
      · rw [upd_ne _ _ e, g4 k e, mst_at, upd_ne _ _ e, g2 11 (by decide), mst_ne _ _ _ (show 11 ≠ 10 by decide)]
        exact h4 k (by omega)
    have f2 : FMs m0 m2 := ⟨fun x h0 h8 => (p2 x (by omega) (by omega)).trans (h1.1 x h0 h8), fun k hk => by rw [p2 0 (by decide) (by decide)]; exact h1.2 k hk⟩
    have e15 : m2 0 15 = nI (rF (vN s) q) := by rw [p2 0 (by decide) (by decide)]; exact h2
    have hrs : rF (vN s) (q + 1) = if vN s q = 0 then rF (vN s) q else rF (vN s) q + 1 := rfl
    have hms : moF (vN s) (q + 1) = if vN s q = 0 then moF (vN s) q else insO (moF (vN s) q) (ds (fun t => decide (vN s (moF (vN s) q t) < vN s q)) (rF (vN s) q)) q := rfl
    rw [hbody]
    by_cases hv : vN s q = 0
    · rw [if_pos (show nI (vN s q) ≤ 0 by rw [hv]; decide)]
      refine orderM hT h01 hp d kf (q + 1) m2 (by omega) (by omega) f2 ?_ ?_ a10
      · rw [hrs, if_pos hv]; exact e15
      · rw [hrs, hms, if_pos hv, if_pos hv]
        intro i hi
        rw [p2 8 (by decide) (by decide)]; exact h3 i hi
    · rw [if_neg (nI_nle (by omega) (by omega)), e15]
      obtain ⟨m3, k1, k2, k3, k4⟩ := srtM (k7 := f_X10_orderTubes_l7 kf) (p := p) (m0 := m2) (v := vN s) (od := moF (vN s) q) (r := rF (vN s) q) hq hrq (fun k hk => by rw [p2 1 (by decide) (by decide), em]; exact ⟨(tubes_s hT hk).2.1, (tubes_s hT hk).2.2.1⟩) hod (rF (vN s) q) FU m2 (by unfold FU; omega) (Nat.le_refl _) (W1m.refl m2) (fun i hi => by rw [p2 8 (by decide) (by decide)]; exact h3 i hi) (fun i h1 h2 => by omega)
      rw [k4]
      refine orderM hT h01 hp d kf (q + 1) m3 (by omega) (by omega) ⟨fun x h0 h8 => (k1 x (by omega) h0).trans (f2.1 x h0 h8), fun k hk => by rw [k2, upd_ne _ _ hk]; exact f2.2 k hk⟩ ?_ ?_ (fun k hk => ?_)
      · rw [hrs, if_neg hv, k2, upd_at, e15, nI_1]
      · rw [hrs, hms, if_neg hv, if_neg hv]
        intro i hi
        exact k3 i (by omega)
      · rw [k1 10 (by decide) (by decide), k1 11 (by decide) (by decide)]; exact a10 k hk
/-- the first row -/
theorem initM {A r : Nat} (hA : A ≤ 500) (hr : r ≤ 12) (h15 : m0 0 15 = nI r) : ∀ (d kf a : Nat) (m : MW), a + d = A + 1 → d < kf → W1m 9 m0 m → (∀ a', a' < a → m 9 (501 * r + a') = nI (if a' = 0 then 0 else 9999)) →
    ∃ m', f_X10_canChange_l16 kf (nI A) (nI a) m = f_X10_canChange_l60 FU (nI A) (nI r - 1) m' ∧ W1m 9 m0 m' ∧ ∀ a', a' ≤ A → m' 9 (501 * r + a') = nI (if a' = 0 then 0 else 9999)
  | d, 0, a, m, _, h, _, _ => by omega
  | 0, kf + 1, a, m, h, _, h9, hv => by
    refine ⟨m, ?_, h9, fun a' ha => hv a' (by omega)⟩
    show f_X10_canChange_l16_body (f_X10_canChange_l16 kf) (nI A) (nI a) m = _
    unfold f_X10_canChange_l16_body
    rw [if_pos (nI_lt (by omega) (by omega)), h9 0 (by decide), h15]
  | d + 1, kf + 1, a, m, h, hkf, h9, hv => by
    have e0 : m 0 15 = nI r := by rw [h9 0 (by decide)]; exact h15
    have hbody : f_X10_canChange_l16 (kf + 1) (nI A) (nI a) m = f_X10_canChange_l16 kf (nI A) (nI (a + 1)) (mst m 9 (501 * r + a) (nI (if a = 0 then 0 else 9999))) := by
      show f_X10_canChange_l16_body (f_X10_canChange_l16 kf) (nI A) (nI a) m = _
      unfold f_X10_canChange_l16_body f_X10_canChange_b46
      rw [if_neg (nI_nlt (by omega) (by omega)), e0, show (501 : Int32) * nI r = nI (501 * r) from pk_mul 501 r, nI_add, chk_t (inb_nI (show 501 * r + a < 6513 by omega) (by omega)), chk_t (inb_nI (show 501 * r + a < 6513 by omega) (by omega)), nI_clamp (show 501 * r + a < 2 ^ 31 by omega), nI_1 a]
      by_cases e : a = 0
      · rw [if_pos (show nI a = 0 by rw [e]; rfl), if_pos e]; rfl
      · rw [if_neg (show ¬ nI a = 0 from nI_ne0 (by omega) (by omega)), if_neg e]; rfl
    rw [hbody]
    refine initM hA hr h15 d kf (a + 1) _ (by omega) (by omega) h9.mst (fun a' ha => ?_)
    rw [mst_at]
    by_cases e : a' = a
    · rw [e, upd_at]
    · rw [upd_ne _ _ (by omega)]; exact hv a' (by omega)
section TAB
variable {A r J : Nat} {mo v cn V c : Nat → Nat}
/-- the least over the coins of one tube -/
theorem minM {k60 : Int32 → Int32 → MW → Option (Int32 × MW)} {k86 : Int32 → Int32 → Int32 → Int32 → MW → Option (Int32 × MW)} {a : Nat} (hA : A ≤ 500) (ha : a ≤ A) (hJ : J < r) (hr : r ≤ 12) (h8 : m 8 J = nI (mo J)) (hmo : mo J < 12) (h10 : m 10 (mo J) = nI (c (11 - J))) (hc : c (11 - J) ≤ 1000) (hV : 0 < V (11 - J)) (hV5 : V (11 - J) ≤ 5000) (hrow : ∀ a', a' ≤ A → m 9 (501 * (J + 1) + a') = nI (optF 9999 V c (11 - J) a')) : ∀ (d kf n : Nat), n + d = mostN (V (11 - J)) (c (11 - J)) a + 1 → d < kf →
    f_X10_canChange_l100 k60 k86 kf (nI A) (nI J) (nI (V (11 - J))) (nI a) (nI (if n = 0 then 9999 else mnF (fun n => n + optF 9999 V c (11 - J) (a - n * V (11 - J))) (n - 1))) (nI n) m = f_X10_canChange_b176 k60 k86 (nI A) (nI J) (nI (V (11 - J))) (nI a) (nI (optF 9999 V c (11 - J + 1) a)) m
  | d, 0, n, _, h => by omega
  | 0, kf + 1, n, h, _ => by
    have hn : ¬ n ≤ mostN (V (11 - J)) (c (11 - J)) a := by omega
    rw [mostN_le hV] at hn
    have hmc := (mostN_mul (Nat.le_refl (mostN (V (11 - J)) (c (11 - J)) a))).2
    show f_X10_canChange_l100_body k60 k86 (f_X10_canChange_l100 k60 k86 kf) (nI A) (nI J) (nI (V (11 - J))) (nI a) _ (nI n) m = _
    unfold f_X10_canChange_l100_body
    have hnV : n * V (11 - J) ≤ 1001 * 5000 := Nat.mul_le_mul (by omega) hV5
    rw [chk_t (inb_nI (by omega) (by omega)), nI_clamp (show J < 2 ^ 31 by omega), h8, chk_t (inb_nI hmo (by omega)), nI_clamp (show mo J < 2 ^ 31 by omega), h10, pk_mul, if_neg (show ¬ n = 0 by omega), opt_succ, show n - 1 = mostN (V (11 - J)) (c (11 - J)) a by omega]
    by_cases q : c (11 - J) < n
    · rw [if_pos (nI_lt q (by omega))]
    · rw [if_neg (nI_nlt (by omega) (by omega)), if_pos (nI_lt (by omega) (by omega))]
  | d + 1, kf + 1, n, h, hkf => by
    have hn : n ≤ mostN (V (11 - J)) (c (11 - J)) a := by omega
    obtain ⟨n1, n2⟩ := (mostN_le hV).mp hn
    obtain ⟨F, hF⟩ : ∃ F : Nat → Nat, F = fun n => n + optF 9999 V c (11 - J) (a - n * V (11 - J)) := ⟨_, rfl⟩
    have hFn : F n = n + optF 9999 V c (11 - J) (a - n * V (11 - J)) := by rw [hF]
    have ho := opt_le (I := 9999) (V := V) (c := c) (11 - J) (a - n * V (11 - J))
    have hnx : (if n + 1 = 0 then 9999 else mnF F (n + 1 - 1)) = mnF F n := by rw [if_neg (by omega), Nat.add_sub_cancel]
    have ih := minM (k60 := k60) (k86 := k86) hA ha hJ hr h8 hmo h10 hc hV hV5 hrow d kf (n + 1) (by omega) (by omega)
    rw [← hF] at ih ⊢
    rw [hnx] at ih
    rw [← ih]
    obtain ⟨X, hX⟩ : ∃ X, X = if n = 0 then 9999 else mnF F (n - 1) := ⟨_, rfl⟩
    have hX1 : X ≤ 9999 := by
      rw [hX]
      by_cases e : n = 0
      · rw [if_pos e]; exact Nat.le_refl _
      · rw [if_neg e]
        have h1 := mn_le F (n - 1) 0 (by omega)
        have h2 : F 0 = 0 + optF 9999 V c (11 - J) (a - 0 * V (11 - J)) := by rw [hF]
        have h3 := opt_le (I := 9999) (V := V) (c := c) (11 - J) (a - 0 * V (11 - J))
        omega
    have hmin : mnF F n = if X ≤ F n then X else F n := by
      by_cases e : n = 0
      · rw [hX, if_pos e, e]
        have h2 : F 0 = 0 + optF 9999 V c (11 - J) (a - 0 * V (11 - J)) := by rw [hF]
        have h3 := opt_le (I := 9999) (V := V) (c := c) (11 - J) (a - 0 * V (11 - J))
        show F 0 = _
        by_cases q : 9999 ≤ F 0
        · rw [if_pos q]; omega
        · rw [if_neg q]
      · obtain ⟨n', rfl⟩ : ∃ n', n = n' + 1 := ⟨n - 1, by omega⟩
        rw [hX, if_neg e, Nat.add_sub_cancel, mn_succ]
        by_cases q : F (n' + 1) < mnF F n'
        · rw [if_pos q, if_neg (by omega)]
        · rw [if_neg q, if_pos (by omega)]
    rw [← hX]
    show f_X10_canChange_l100_body k60 k86 (f_X10_canChange_l100 k60 k86 kf) (nI A) (nI J) (nI (V (11 - J))) (nI a) (nI X) (nI n) m = _
    unfold f_X10_canChange_l100_body f_X10_canChange_b168
    rw [chk_t (inb_nI (by omega) (by omega)), nI_clamp (show J < 2 ^ 31 by omega), h8, chk_t (inb_nI hmo (by omega)), nI_clamp (show mo J < 2 ^ 31 by omega), h10, pk_mul, if_neg (nI_nlt n1 (by omega)), if_neg (nI_nlt n2 (by omega)), show (501 : Int32) * nI J = nI (501 * J) from pk_mul 501 J, show nI (501 * J) + (501 : Int32) = nI (501 * J + 501) from nI_add _ _, nI_add, pk_sub (show n * V (11 - J) ≤ 501 * J + 501 + a by omega), chk_t (inb_nI (show 501 * J + 501 + a - n * V (11 - J) < 6513 by omega) (by omega)), nI_clamp (show 501 * J + 501 + a - n * V (11 - J) < 2 ^ 31 by omega), Option.bind_some, show 501 * J + 501 + a - n * V (11 - J) = 501 * (J + 1) + (a - n * V (11 - J)) by omega, hrow _ (by omega), nI_add, ← hFn, nI_1 n, hmin]
    by_cases q : X ≤ F n
    · rw [if_pos q, if_pos (nI_le q (by omega))]
    · rw [if_neg q, if_neg (nI_ge (by omega) (by omega))]
/-- a row of the table -/
theorem colM {k60 : Int32 → Int32 → MW → Option (Int32 × MW)} (hA : A ≤ 500) (hJ : J < r) (hr : r ≤ 12) (h8 : m0 8 J = nI (mo J)) (hmo : mo J < 12) (h10 : m0 10 (mo J) = nI (c (11 - J))) (hc : c (11 - J) ≤ 1000) (hV : 0 < V (11 - J)) (hV5 : V (11 - J) ≤ 5000) : ∀ (d kf a : Nat) (m : MW), a + d = A + 1 → d < kf → W1m 9 m0 m → (∀ j', J + 1 ≤ j' → j' ≤ r → ∀ a', a' ≤ A → m 9 (501 * j' + a') = nI (optF 9999 V c (12 - j') a')) → (∀ a', a' < a → m 9 (501 * J + a') = nI (optF 9999 V c (12 - J) a')) →
    ∃ m', f_X10_canChange_l86 k60 kf (nI A) (nI J) (nI (V (11 - J))) (nI a) m = k60 (nI A) (nI J - 1) m' ∧ W1m 9 m0 m' ∧ (∀ j', J ≤ j' → j' ≤ r → ∀ a', a' ≤ A → m' 9 (501 * j' + a') = nI (optF 9999 V c (12 - j') a'))
  | d, 0, a, m, _, h, _, _, _ => by omega
  | 0, kf + 1, a, m, h, _, h9, hv, hu => by
    refine ⟨m, ?_, h9, fun j' h1 h2 a' ha => ?_⟩
    · show f_X10_canChange_l86_body k60 (f_X10_canChange_l86 k60 kf) (nI A) (nI J) (nI (V (11 - J))) (nI a) m = _
      unfold f_X10_canChange_l86_body
      rw [if_pos (nI_lt (by omega) (by omega)), Int32.sub_eq_add_neg]
    · by_cases e : j' = J
      · rw [e]; exact hu a' (by omega)
      · exact hv j' (by omega) h2 a' ha
  | d + 1, kf + 1, a, m, h, hkf, h9, hv, hu => by
    have e12 : 12 - J = 11 - J + 1 := by omega
    have hrow : ∀ a', a' ≤ A → m 9 (501 * (J + 1) + a') = nI (optF 9999 V c (11 - J) a') := fun a' ha => by
      have := hv (J + 1) (Nat.le_refl _) (by omega) a' ha
      rw [show 12 - (J + 1) = 11 - J by omega] at this
      exact this
    have hbody : f_X10_canChange_l86 k60 (kf + 1) (nI A) (nI J) (nI (V (11 - J))) (nI a) m = f_X10_canChange_l86 k60 kf (nI A) (nI J) (nI (V (11 - J))) (nI (a + 1)) (mst m 9 (501 * J + a) (nI (optF 9999 V c (12 - J) a))) := by
      show f_X10_canChange_l86_body k60 (f_X10_canChange_l86 k60 kf) (nI A) (nI J) (nI (V (11 - J))) (nI a) m = _
      unfold f_X10_canChange_l86_body
      have hmc := (mostN_mul (Nat.le_refl (mostN (V (11 - J)) (c (11 - J)) a))).2
      rw [if_neg (nI_nlt (by omega) (by omega)), show f_X10_canChange_l100 k60 (f_X10_canChange_l86 k60 kf) FU (nI A) (nI J) (nI (V (11 - J))) (nI a) 9999 0 m = _ from minM (r := r) (mo := mo) (c := c) hA (show a ≤ A by omega) hJ hr (by rw [h9 8 (by decide)]; exact h8) hmo (by rw [h9 10 (by decide)]; exact h10) hc hV hV5 hrow (mostN (V (11 - J)) (c (11 - J)) a + 1) FU 0 (by omega) (by unfold FU; omega)]
      unfold f_X10_canChange_b176
      rw [show (501 : Int32) * nI J = nI (501 * J) from pk_mul 501 J, nI_add, chk_t (inb_nI (show 501 * J + a < 6513 by omega) (by omega)), nI_clamp (show 501 * J + a < 2 ^ 31 by omega), nI_1 a, e12]
    rw [hbody]
    refine colM hA hJ hr h8 hmo h10 hc hV hV5 d kf (a + 1) _ (by omega) (by omega) h9.mst (fun j' h1 h2 a' ha => ?_) (fun a' ha => ?_)
    · rw [mst_at, upd_ne _ _ (by omega)]; exact hv j' h1 h2 a' ha
    · rw [mst_at]
      by_cases e : a' = a
      · rw [e, upd_at]
      · rw [upd_ne _ _ (by omega)]; exact hu a' (by omega)
theorem rowM (hA : A ≤ 500) (hr : r ≤ 12) (h01 : ∀ k, k < 12 → m0 1 (8720 + 2 * k) = nI (v k) ∧ v k ≤ 5000) (h8 : ∀ j, j < r → m0 8 j = nI (mo j)) (hmo : ∀ j, j < r → mo j < 12 ∧ 0 < v (mo j)) (h10 : ∀ k, k < 12 → m0 10 k = nI (cn k) ∧ cn k ≤ 1000) (hVc : ∀ j, j < r → V (11 - j) = v (mo j) ∧ c (11 - j) = cn (mo j)) : ∀ (kf j : Nat) (m : MW), j ≤ r → j < kf → W1m 9 m0 m → (∀ j', j ≤ j' → j' ≤ r → ∀ a', a' ≤ A → m 9 (501 * j' + a') = nI (optF 9999 V c (12 - j') a')) →
    ∃ m', f_X10_canChange_l60 kf (nI A) (nI j - 1) m = (if nI (optF 9999 V c 12 A) < 9999 then f_X10_canChange_l222 FU (nI A) 0 m' else some (0, m')) ∧ W1m 9 m0 m' ∧ (∀ j', j' ≤ r → ∀ a', a' ≤ A → m' 9 (501 * j' + a') = nI (optF 9999 V c (12 - j') a'))
  | 0, j, m, _, h, _, _ => by omega
  | kf + 1, 0, m, _, _, h9, hv => by
    refine ⟨m, ?_, h9, fun j' hj' a' ha => hv j' (by omega) hj' a' ha⟩
    show f_X10_canChange_l60_body (f_X10_canChange_l60 kf) (nI A) (nI 0 - 1) m = _
    unfold f_X10_canChange_l60_body
    have h1 := hv 0 (Nat.le_refl _) (by omega) A (Nat.le_refl _)
    rw [show 501 * 0 + A = A by omega] at h1
    rw [if_pos (by decide), chk_t (inb_nI (show A < 6513 by omega) (by omega)), nI_clamp (show A < 2 ^ 31 by omega), h1]
  | kf + 1, J + 1, m, hj, hkf, h9, hv => by
    obtain ⟨g1, g2⟩ := hmo J (by omega)
    obtain ⟨v1, v2⟩ := hVc J (by omega)
    have e1 : nI (J + 1) - (1 : Int32) = nI J := pk_sub (a := J + 1) (b := 1) (by omega)
    obtain ⟨m', k1, k2, k3⟩ := colM (k60 := f_X10_canChange_l60 kf) (m0 := m0) (A := A) (r := r) (J := J) (mo := mo) (V := V) (c := c) hA (by omega) hr (h8 J (by omega)) g1 (by rw [v2]; exact (h10 _ g1).1) (by rw [v2]; exact (h10 _ g1).2) (by rw [v1]; exact g2) (by rw [v1]; exact (h01 _ g1).2) (A + 1) FU 0 m (by omega) (by unfold FU; omega) h9 hv (fun a' ha => by omega)
    have hbody : f_X10_canChange_l60 (kf + 1) (nI A) (nI (J + 1) - 1) m = f_X10_canChange_l60 kf (nI A) (nI J - 1) m' := by
      rw [← k1]
      show f_X10_canChange_l60_body (f_X10_canChange_l60 kf) (nI A) (nI (J + 1) - 1) m = _
      unfold f_X10_canChange_l60_body
      rw [e1, if_neg (nI_pos (by omega)), chk_t (inb_nI (show J < 12 by omega) (by omega)), nI_clamp (show J < 2 ^ 31 by omega), h9 8 (by decide), h8 J (by omega), ta_s, chk_t (inb_nI (show 8720 + 2 * mo J < 11360 by omega) (by omega)), nI_clamp (show 8720 + 2 * mo J < 2 ^ 31 by omega), h9 1 (by decide), (h01 _ g1).1, Option.bind_some, ← v1]
      rfl
    rw [hbody]
    exact rowM hA hr h01 h8 hmo h10 hVc kf J m' (by omega) (by omega) k2 k3
theorem pickInM {k222 : Int32 → Int32 → MW → Option (Int32 × MW)} {j S : Nat} (hA : A ≤ 500) (hS : S ≤ A) (hj : j < r) (hr : r ≤ 12) (h8 : m 8 j = nI (mo j)) (hmo : mo j < 12) (hV5 : V (11 - j) ≤ 5000) (hrow : ∀ j', j' ≤ r → ∀ a', a' ≤ A → m 9 (501 * j' + a') = nI (optF 9999 V c (12 - j') a')) : ∀ (kf n : Nat), n < kf → n ≤ mostN (V (11 - j)) (c (11 - j)) S → n ≤ 1000 → (∃ x, x ≤ n ∧ optF 9999 V c (11 - j) (S - x * V (11 - j)) + x = optF 9999 V c (11 - j + 1) S) →
    f_X10_canChange_l291 k222 kf (nI S) (nI j) (nI (V (11 - j))) (nI n) m = k222 (nI S - nI (pkD (fun n => decide (optF 9999 V c (11 - j) (S - n * V (11 - j)) + n = optF 9999 V c (11 - j + 1) S)) n) * nI (V (11 - j))) (nI (j + 1)) (mst m 11 (mo j) (nI (pkD (fun n => decide (optF 9999 V c (11 - j) (S - n * V (11 - j)) + n = optF 9999 V c (11 - j + 1) S)) n)))
  | 0, n, h, _, _, _ => by omega
  | kf + 1, n, hkf, hm, hn, hex => by
    obtain ⟨hmul, -⟩ := mostN_mul hm
    have o1 := opt_le (I := 9999) (V := V) (c := c) (11 - j) (S - n * V (11 - j))
    have o2 := opt_le (I := 9999) (V := V) (c := c) (11 - j + 1) S
    have r1 := hrow (j + 1) (by omega) (S - n * V (11 - j)) (by omega)
    have r2 := hrow j (by omega) S hS
    rw [show 12 - (j + 1) = 11 - j by omega] at r1
    rw [show 12 - j = 11 - j + 1 by omega] at r2
    show f_X10_canChange_l291_body k222 (f_X10_canChange_l291 k222 kf) (nI S) (nI j) (nI (V (11 - j))) (nI n) m = _
    unfold f_X10_canChange_l291_body
    rw [show (501 : Int32) * nI j = nI (501 * j) from pk_mul 501 j, show nI (501 * j) + (501 : Int32) = nI (501 * j + 501) from nI_add _ _, nI_add (501 * j + 501) S, nI_add (501 * j) S, pk_mul n (V (11 - j)), pk_sub (show n * V (11 - j) ≤ 501 * j + 501 + S by omega), chk_t (inb_nI (show 501 * j + 501 + S - n * V (11 - j) < 6513 by omega) (by omega)), chk_t (inb_nI (show 501 * j + S < 6513 by omega) (by omega)), nI_clamp (show 501 * j + 501 + S - n * V (11 - j) < 2 ^ 31 by omega), nI_clamp (show 501 * j + S < 2 ^ 31 by omega), show 501 * j + 501 + S - n * V (11 - j) = 501 * (j + 1) + (S - n * V (11 - j)) by omega, r1, r2, nI_add n]
    by_cases q : optF 9999 V c (11 - j) (S - n * V (11 - j)) + n = optF 9999 V c (11 - j + 1) S
    · have hpk : pkD (fun n => decide (optF 9999 V c (11 - j) (S - n * V (11 - j)) + n = optF 9999 V c (11 - j + 1) S)) n = n := by
        cases n with
        | zero => rfl
        | succ n => rw [pkD_succ, if_pos (decide_eq_true q)]
      rw [hpk, if_pos (by rw [← q]; exact congrArg nI (Nat.add_comm _ _)), chk_t (inb_nI (show j < 12 by omega) (by omega)), nI_clamp (show j < 2 ^ 31 by omega), h8, chk_t (inb_nI hmo (by omega)), nI_clamp (show mo j < 2 ^ 31 by omega), nI_1 j, pk_mul n (V (11 - j))]
    · cases n with
      | zero =>
        obtain ⟨x, hx, ex⟩ := hex
        have : x = 0 := by omega
        rw [this] at ex
        exact absurd ex q
      | succ n =>
        rw [if_neg (fun e => q (by have := nI_inj (by omega) (by omega) e; omega)), nI_dec (by omega), Nat.add_sub_cancel, pkD_succ, if_neg (show ¬ decide (optF 9999 V c (11 - j) (S - (n + 1) * V (11 - j)) + (n + 1) = optF 9999 V c (11 - j + 1) S) = true by rw [decide_eq_false q]; decide)]
        refine pickInM hA hS hj hr h8 hmo hV5 hrow kf n (by omega) (by omega) (by omega) ?_
        obtain ⟨x, hx, ex⟩ := hex
        refine ⟨x, ?_, ex⟩
        rcases Nat.lt_or_ge n x with d | d
        · have : x = n + 1 := by omega
          rw [this] at ex
          exact absurd ex q
        · exact d
theorem pickM (hA : A ≤ 500) (hr : r ≤ 12) (hreach : optF 9999 V c 12 A < 9999) (h15 : m0 0 15 = nI r) (h01 : ∀ k, k < 12 → m0 1 (8720 + 2 * k) = nI (v k) ∧ v k ≤ 5000) (h8 : ∀ j, j < r → m0 8 j = nI (mo j)) (hmo : ∀ j, j < r → mo j < 12 ∧ 0 < v (mo j)) (hinj : ∀ i j, i < j → j < r → mo i ≠ mo j) (h10 : ∀ k, k < 12 → m0 10 k = nI (cn k) ∧ cn k ≤ 1000) (hVc : ∀ j, j < r → V (11 - j) = v (mo j) ∧ c (11 - j) = cn (mo j)) (hrow : ∀ j', j' ≤ r → ∀ a', a' ≤ A → m0 9 (501 * j' + a') = nI (optF 9999 V c (12 - j') a')) : ∀ (d kf j : Nat) (m : MW), j + d = r → d < kf → W1m 11 m0 m → (∀ j', j' < j → m 11 (mo j') = nI (NN 9999 V c (11 - j') (SSv 9999 V c A j'))) → (∀ k, (∀ j', j' < j → mo j' ≠ k) → m 11 k = m0 11 k) →
    ∃ m', f_X10_canChange_l222 kf (nI (SSv 9999 V c A j)) (nI j) m = some (1, m') ∧ W1m 11 m0 m' ∧ (∀ j', j' < r → m' 11 (mo j') = nI (NN 9999 V c (11 - j') (SSv 9999 V c A j'))) ∧ (∀ k, (∀ j', j' < r → mo j' ≠ k) → m' 11 k = m0 11 k)
  | d, 0, j, m, _, h, _, _, _ => by omega
  | 0, kf + 1, j, m, h, _, h11, h1, h2 => by
    have hj : j = r := by omega
    rw [hj] at h1 h2 ⊢
    refine ⟨m, ?_, h11, h1, h2⟩
    show f_X10_canChange_l222_body (f_X10_canChange_l222 kf) (nI (SSv 9999 V c A r)) (nI r) m = _
    unfold f_X10_canChange_l222_body
    rw [h11 0 (by decide), h15, if_pos (nI_le (Nat.le_refl _) (by omega))]
  | d + 1, kf + 1, j, m, h, hkf, h11, h1, h2 => by
    have hj : j < r := by omega
    obtain ⟨g1, g2⟩ := hmo j hj
    obtain ⟨v1, v2⟩ := hVc j hj
    obtain ⟨o1, o2⟩ := SS_ok hA hreach j (by omega)
    rw [show 12 - j = 11 - j + 1 by omega] at o1
    have hS := SS_le (I := 9999) (V := V) (c := c) (A := A) j
    obtain ⟨S, hSd⟩ : ∃ S, S = SSv 9999 V c A j := ⟨_, rfl⟩
    rw [← hSd] at o1 hS ⊢
    have hV0 : 0 < V (11 - j) := by rw [v1]; exact g2
    have hV5 : V (11 - j) ≤ 5000 := by rw [v1]; exact (h01 _ g1).2
    have hcb : c (11 - j) ≤ 1000 := by rw [v2]; exact (h10 _ g1).2
    have hle := NN_le (V := V) (c := c) (i := 11 - j) (s := S) 9999
    have hss : SSv 9999 V c A (j + 1) = S - NN 9999 V c (11 - j) S * V (11 - j) := by rw [SS_succ, ← hSd]
    have hmo1 := (mostN_mul (Nat.le_refl (mostN (V (11 - j)) (c (11 - j)) S))).2
    have e8 : m 8 j = nI (mo j) := by rw [h11 8 (by decide)]; exact h8 j hj
    have hdv : nI S / nI (V (11 - j)) = nI (S / V (11 - j)) := pk_div (by omega) hV0 (by omega)
    have hdl : S / V (11 - j) ≤ S := Nat.div_le_self _ _
    have hin : f_X10_canChange_b289 (f_X10_canChange_l222 kf) (nI S) (nI j) (nI (V (11 - j))) (nI (mostN (V (11 - j)) (c (11 - j)) S)) m = f_X10_canChange_l222 kf (nI (SSv 9999 V c A (j + 1))) (nI (j + 1)) (mst m 11 (mo j) (nI (NN 9999 V c (11 - j) S))) := by
      unfold f_X10_canChange_b289
      rw [pickInM (k222 := f_X10_canChange_l222 kf) (A := A) (r := r) (mo := mo) (V := V) (c := c) hA hS hj hr e8 g1 hV5 (fun j' h3 a' h4 => by rw [h11 9 (by decide)]; exact hrow j' h3 a' h4) FU (mostN (V (11 - j)) (c (11 - j)) S) (by unfold FU; omega) (Nat.le_refl _) (by omega) ⟨NN 9999 V c (11 - j) S, pkD_le _ _, NN_ok (by omega) o1⟩]
      show f_X10_canChange_l222 kf (nI S - nI (NN 9999 V c (11 - j) S) * nI (V (11 - j))) (nI (j + 1)) (mst m 11 (mo j) (nI (NN 9999 V c (11 - j) S))) = _
      rw [pk_mul, pk_sub hle.1, ← hss]
    have hbody : f_X10_canChange_l222 (kf + 1) (nI S) (nI j) m = f_X10_canChange_l222 kf (nI (SSv 9999 V c A (j + 1))) (nI (j + 1)) (mst m 11 (mo j) (nI (NN 9999 V c (11 - j) S))) := by
      rw [← hin]
      show f_X10_canChange_l222_body (f_X10_canChange_l222 kf) (nI S) (nI j) m = _
      unfold f_X10_canChange_l222_body
      have e10 : m 10 (mo j) = nI (c (11 - j)) := by rw [h11 10 (by decide), (h10 _ g1).1, v2]
      have ij : inb (nI j) 12 := inb_nI (by omega) (by omega)
      have im : inb (nI (mo j)) 12 := inb_nI g1 (by omega)
      have nz : ¬ nI (V (11 - j)) = 0 := nI_ne0 (by omega) (by omega)
      have e8' : m 8 (nI j).toNatClampNeg = nI (mo j) := by rw [nI_clamp (show j < 2 ^ 31 by omega)]; exact e8
      rw [h11 0 (by decide), h15, if_neg (nI_ge hj (by omega))]
      simp only [chk_t ij]
      rw [e8', ta_s, chk_t (inb_nI (show 8720 + 2 * mo j < 11360 by omega) (by omega)), nI_clamp (show 8720 + 2 * mo j < 2 ^ 31 by omega), h11 1 (by decide), (h01 _ g1).1, ← v1, Option.bind_some]
      simp only [chk_t nz, chk_t im]
      rw [nI_clamp (show mo j < 2 ^ 31 by omega), e10, hdv]
      have hmN : mostN (V (11 - j)) (c (11 - j)) S = if S / V (11 - j) < c (11 - j) then S / V (11 - j) else c (11 - j) := by
        unfold mostN
        rw [if_neg (by omega)]
      rw [hmN]
      by_cases q : S / V (11 - j) < c (11 - j)
      · rw [if_pos q, if_neg (nI_ge q (by omega))]
      · rw [if_neg q, if_pos (nI_le (by omega) (by omega))]
    rw [hbody]
    refine pickM hA hr hreach h15 h01 h8 hmo hinj h10 hVc hrow d kf (j + 1) _ (by omega) (by omega) h11.mst (fun j' hj' => ?_) (fun k hk => ?_)
    · rw [mst_at]
      by_cases e : j' = j
      · rw [e, upd_at, ← hSd]
      · rw [upd_ne _ _ (hinj j' j (by omega) hj)]; exact h1 j' (by omega)
    · rw [mst_at, upd_ne _ _ (fun q => hk j (by omega) q.symm)]
      exact h2 k (fun j' hj' => hk j' (by omega))
end TAB
/-- the reference looks for change -/
theorem find_M {now : Nat → Int32} {A : Nat} (hT : RT now s) (em : m 1 = s) (hp : p < 60) (hA : A ≤ 500) : ∃ m', FMs m m' ∧ ((optF 9999 (fun i => vN s (bvF (vN s) 12 i)) (fun i => cNk s p (bvF (vN s) 12 i)) 12 A < 9999 ∧ f_X10_canChange (nI p) (nI A) m = some (1, m') ∧ (∀ j, j < rF (vN s) 12 → m' 11 (bvF (vN s) 12 (11 - j)) = nI (NN 9999 (fun i => vN s (bvF (vN s) 12 i)) (fun i => cNk s p (bvF (vN s) 12 i)) (11 - j) (SSv 9999 (fun i => vN s (bvF (vN s) 12 i)) (fun i => cNk s p (bvF (vN s) 12 i)) A j))) ∧ ∀ k, k < 12 → (∀ j, j < rF (vN s) 12 → bvF (vN s) 12 (11 - j) ≠ k) → m' 11 k = 0) ∨ (¬ optF 9999 (fun i => vN s (bvF (vN s) 12 i)) (fun i => cNk s p (bvF (vN s) 12 i)) 12 A < 9999 ∧ f_X10_canChange (nI p) (nI A) m = some (0, m'))) := by
  have hd := tubes_d hT
  obtain ⟨t1, t2, t3, t4, t5, t6⟩ := twoO hd 12 (Nat.le_refl _)
  have e0 : (mst m 0 15 0) 1 = s := (mst_ne _ _ _ (by decide)).trans em
  obtain ⟨m1, a1, a2, a3, a4, a5⟩ := orderM (m0 := mst m 0 15 0) hT e0 hp 12 FU 0 (mst m 0 15 0) (by omega) (by unfold FU; omega) (FMs.refl _) (by rw [mst_at, upd_at]; rfl) (fun i hi => by
    have : rF (vN s) 0 = 0 := rfl
    omega) (fun k hk => by omega)
  have f1 : FMs m m1 := FMs.trans ⟨fun q h0 _ => mst_ne _ _ _ h0, fun k hk => by rw [mst_at, upd_ne _ _ hk]⟩ a2
  have em1 : m1 1 = s := (f1.1 1 (by decide) (by decide)).trans em
  obtain ⟨r, hrd⟩ : ∃ r, r = rF (vN s) 12 := ⟨_, rfl⟩
  rw [← hrd] at a3 a4 t1 t5 t6 ⊢
  obtain ⟨V, hV⟩ : ∃ V : Nat → Nat, V = fun i => vN s (bvF (vN s) 12 i) := ⟨_, rfl⟩
  obtain ⟨c, hc⟩ : ∃ c : Nat → Nat, c = fun i => cNk s p (bvF (vN s) 12 i) := ⟨_, rfl⟩
  rw [← hV, ← hc]
  have h01 : ∀ k, k < 12 → m1 1 (8720 + 2 * k) = nI (vN s k) ∧ vN s k ≤ 5000 := fun k hk => by rw [em1]; exact ⟨(tubes_s hT hk).2.1, (tubes_s hT hk).2.2.1⟩
  have hcn : ∀ k, k < 12 → m1 10 k = nI (cNk s p k) ∧ cNk s p k ≤ 1000 := fun k hk => ⟨(a5 k hk).1, by
    have h1 := (tubes_s hT hk).2.2.2.2.2.1
    unfold cNk
    omega⟩
  have h6 : ∀ j, j < r → moF (vN s) 12 j = bvF (vN s) 12 (11 - j) := fun j hj => (t6 j hj).1
  have hmo : ∀ j, j < r → moF (vN s) 12 j < 12 ∧ 0 < vN s (moF (vN s) 12 j) := fun j hj => ⟨by rw [h6 j hj]; exact t2 _ (by omega), (t6 j hj).2⟩
  have hVc : ∀ j, j < r → V (11 - j) = vN s (moF (vN s) 12 j) ∧ c (11 - j) = cNk s p (moF (vN s) 12 j) := fun j hj => by rw [hV, hc, h6 j hj]; exact ⟨rfl, rfl⟩
  have hinj : ∀ i j, i < j → j < r → moF (vN s) 12 i ≠ moF (vN s) 12 j := fun i j h1 h2 => by
    rw [h6 i (by omega), h6 j h2]
    exact (t3 (11 - j) (11 - i) (by omega) (by omega)).2.symm
  have hoz : ∀ a, optF 9999 V c (12 - r) a = if a = 0 then 0 else 9999 := by
    have key : ∀ i, i ≤ 12 - r → ∀ a, optF 9999 V c i a = if a = 0 then 0 else 9999 := by
      intro i
      induction i with
      | zero => intro _ a; rfl
      | succ i ih =>
        intro hi a
        rw [opt_zero (by rw [hV]; exact t5 i (by omega))]
        exact ih (by omega) a
    exact key _ (Nat.le_refl _)
  obtain ⟨m2, b1, b2, b3⟩ := initM (m0 := m1) (A := A) (r := r) hA (by omega) a3 (A + 1) FU 0 m1 (by omega) (by unfold FU; omega) (W1m.refl _) (fun a' ha => by omega)
  obtain ⟨m3, c1, c2, c3⟩ := rowM (m0 := m1) (A := A) (r := r) (mo := moF (vN s) 12) (v := vN s) (cn := cNk s p) (V := V) (c := c) hA (by omega) h01 a4 hmo hcn hVc FU r m2 (Nat.le_refl _) (by unfold FU; omega) b2 (fun j' h1 h2 a' ha => by
    have : j' = r := by omega
    rw [this, hoz]; exact b3 a' ha)
  have hcan : f_X10_canChange (nI p) (nI A) m = if nI (optF 9999 V c 12 A) < 9999 then f_X10_canChange_l222 FU (nI A) 0 m3 else some (0, m3) := by
    unfold f_X10_canChange f_X10_orderTubes
    rw [show f_X10_orderTubes_l7 FU (nI p) 0 (mst m 0 15 0) = _ from a1, Option.bind_some, if_pos (show nI A ≤ (500 : Int32) from nI_le (a := A) (b := 500) hA (by omega)), show f_X10_canChange_l16 FU (nI A) 0 m1 = _ from b1, c1]
  have hol := opt_le (I := 9999) (V := V) (c := c) 12 A
  have f3 : FMs m m3 := f1.trans (c2.fms (by decide))
  by_cases q : optF 9999 V c 12 A < 9999
  · obtain ⟨m4, d1, d2, d3, d4⟩ := pickM (m0 := m3) (A := A) (r := r) (mo := moF (vN s) 12) (v := vN s) (cn := cNk s p) (V := V) (c := c) hA (by omega) q (by rw [c2 0 (by decide)]; exact a3) (fun k hk => by rw [c2 1 (by decide)]; exact h01 k hk) (fun j hj => by rw [c2 8 (by decide)]; exact a4 j hj) hmo hinj (fun k hk => by rw [c2 10 (by decide)]; exact hcn k hk) hVc c3 r FU 0 m3 (by omega) (by unfold FU; omega) (W1m.refl _) (fun j' hj' => by omega) (fun k _ => rfl)
    refine ⟨m4, f3.trans (d2.fms (by decide)), Or.inl ⟨q, ?_, fun j hj => ?_, fun k hk hn => ?_⟩⟩
    · rw [hcan, if_pos (show nI _ < (9999 : Int32) from nI_lt (b := 9999) q (by omega))]
      exact d1
    · rw [← h6 j hj]; exact d3 j hj
    · rw [d4 k (fun j' hj' => by rw [h6 j' hj']; exact hn j' hj'), c2 11 (by decide)]
      exact (a5 k hk).2
  · refine ⟨m3, f3, Or.inr ⟨q, ?_⟩⟩
    rw [hcan, if_neg (show ¬ nI _ < (9999 : Int32) from nI_nlt (b := 9999) (by omega) (by omega))]
theorem find_no {A : Nat} {now : Nat → Int32} (hT : RT now s) (em : m 1 = s) (hp : p < 60) (hA : 500 < A) (hA2 : A < 2 ^ 30) : ∃ m', FMs m m' ∧ f_X10_canChange (nI p) (nI A) m = some (0, m') := by
  have e0 : (mst m 0 15 0) 1 = s := (mst_ne _ _ _ (by decide)).trans em
  obtain ⟨m1, a1, a2, a3, a4, a5⟩ := orderM (m0 := mst m 0 15 0) hT e0 hp 12 FU 0 (mst m 0 15 0) (by omega) (by unfold FU; omega) (FMs.refl _) (by rw [mst_at, upd_at]; rfl) (fun i hi => by
    have : rF (vN s) 0 = 0 := rfl
    omega) (fun k hk => by omega)
  refine ⟨m1, FMs.trans ⟨fun q h0 _ => mst_ne _ _ _ h0, fun k hk => by rw [mst_at, upd_ne _ _ hk]⟩ a2, ?_⟩
  unfold f_X10_canChange f_X10_orderTubes
  rw [show f_X10_orderTubes_l7 FU (nI p) 0 (mst m 0 15 0) = _ from a1, Option.bind_some, if_neg (show ¬ nI A ≤ (500 : Int32) from nI_ge (a := 500) (b := A) (by omega) (by omega))]
end P4
