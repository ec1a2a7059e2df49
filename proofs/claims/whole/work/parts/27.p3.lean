section P3
variable {w w0 : CW} {T p : Nat}
theorem mostOf_s {V c A : Nat} (hV : V ≤ 5000) (hc : c ≤ 1000) (hA : A ≤ 500) : f_X6_mostOf (nI V) (nI c) (nI A) = some (nI (mostN V c A)) := by
  unfold f_X6_mostOf mostN
  by_cases h : V = 0
  · rw [if_pos h, if_neg (show ¬ (0 : Int32) < nI V from nI_nlt (a := 0) (b := V) (by omega) (by omega))]; rfl
  · have hd : nI A / nI V = nI (A / V) := pk_div (by omega) (by omega) (by omega)
    have hle : A / V ≤ A := Nat.div_le_self _ _
    rw [if_neg h, if_pos (show (0 : Int32) < nI V from nI_lt (a := 0) (b := V) (by omega) (by omega)), chk_t (nI_ne0 (by omega) (by omega)), hd]
    have e1 : (if nI (A / V) < nI c then nI (A / V) else nI c) = nI (if A / V < c then A / V else c) := by
      by_cases q : A / V < c
      · rw [if_pos q, if_pos (nI_lt q (by omega))]
      · rw [if_neg q, if_neg (nI_nlt (by omega) (by omega))]
    rw [e1]
    have hb : (if A / V < c then A / V else c) ≤ 1000 := by
      by_cases q : A / V < c
      · rw [if_pos q]; omega
      · rw [if_neg q]; omega
    generalize (if A / V < c then A / V else c) = x at hb ⊢
    by_cases q : 0 < x
    · rw [if_pos (show (0 : Int32) < nI x from nI_lt (a := 0) (b := x) q (by omega))]
    · rw [if_neg (show ¬ (0 : Int32) < nI x from nI_nlt (a := 0) (b := x) (by omega) (by omega)), show x = 0 by omega]; rfl
theorem addLt {x0 A V M : Nat} {O : Nat → Nat} (hx : 25 ≤ x0 ∧ x0 < 38) (hA : A ≤ 500) (hV : 0 < V) (hV5 : V ≤ 5000) (hM : M * V ≤ A) (hO : ∀ s, s ≤ A → O s ≤ 1000000) : ∀ (kf rest t L : Nat) (R : Nat → Nat) (w : CW), rest < kf → rest + t = M → (rest = 0 ∨ L = t + 1) → WR x0 w0 w → (∀ s, s ≤ A → w.1 x0 s = nI (R s) ∧ MnS O V t s (R s)) →
    ∃ (w' : CW) (R' : Nat → Nat), f_X6_addTube_l11 kf x0 (nI V) (nI A) (nI rest) (nI L) w = some w' ∧ WR x0 w0 w' ∧ ∀ s, s ≤ A → w'.1 x0 s = nI (R' s) ∧ MnS O V M s (R' s)
  | 0, rest, t, L, R, w, h, _, _, _, _ => by omega
  | kf + 1, rest, t, L, R, w, hkf, hrt, hL, h7, hR => by
    have hMM : M ≤ M * V := Nat.le_mul_of_pos_right M hV
    by_cases h0 : rest = 0
    · refine ⟨w, R, ?_, h7, by rw [← hrt, h0, Nat.zero_add]; exact hR⟩
      show f_X6_addTube_l11_body (f_X6_addTube_l11 kf) x0 (nI V) (nI A) (nI rest) (nI L) w = _
      unfold f_X6_addTube_l11_body
      rw [if_pos (show nI rest ≤ 0 by rw [h0]; decide)]
    · have hL1 : L = t + 1 := by omega
      obtain ⟨n, hn⟩ : ∃ n, n = if rest < L then rest else L := ⟨_, rfl⟩
      have hn1 : 1 ≤ n ∧ n ≤ rest ∧ n ≤ t + 1 ∧ (rest - n = 0 ∨ L * 2 = t + n + 1) := by
        rw [hn]
        by_cases q : rest < L
        · rw [if_pos q]; omega
        · rw [if_neg q]; omega
      obtain ⟨n1, n2, n3, n4⟩ := hn1
      have hnV : n * V ≤ M * V := Nat.mul_le_mul_right V (by omega)
      have hnV1 : n ≤ n * V := Nat.le_mul_of_pos_right n hV
      have hRb : ∀ s, s ≤ A → R s ≤ 1000000 := fun s hs => by
        have h1 := (hR s hs).2.2 0 (by omega) (by omega)
        have h2 := hO (s - 0 * V) (by omega)
        omega
      have hnI : (if nI rest < nI L then nI rest else nI L) = nI n := by
        rw [hn]
        by_cases q : rest < L
        · rw [if_pos q, if_pos (nI_lt q (by omega))]
        · rw [if_neg q, if_neg (nI_nlt (by omega) (by omega))]
      obtain ⟨w', g1, g2, g3⟩ := lotC (k11 := f_X6_addTube_l11 kf) (w0 := w0) (x0 := x0) (A := A) (n := n) (V := V) (x4 := nI rest) (x5 := nI L) (R := R) hx hA (by omega) hRb (by omega) hV5 FU (A + 1) w (Nat.le_refl _) (by unfold FU; omega) (by unfold FU; omega) h7 (fun s h1 h2 => by omega) (fun s h1 h2 => (hR s h2).1) (by omega)
      have hbody : f_X6_addTube_l11 (kf + 1) x0 (nI V) (nI A) (nI rest) (nI L) w = f_X6_addTube_l11 kf x0 (nI V) (nI A) (nI (rest - n)) (nI (L * 2)) w' := by
        show f_X6_addTube_l11_body (f_X6_addTube_l11 kf) x0 (nI V) (nI A) (nI rest) (nI L) w = _
        unfold f_X6_addTube_l11_body
        rw [if_neg (nI_nle (by omega) (by omega)), if_neg (show ¬ (500 : Int32) < nI L from nI_nlt (a := 500) (b := L) (by omega) (by omega)), hnI, pk_mul]
        have eA : nI (A + 1) - (1 : Int32) = nI A := pk_sub (a := A + 1) (b := 1) (by omega)
        rw [eA] at g1
        rw [g1, pk_sub n2, show nI L * (2 : Int32) = nI (L * 2) from pk_mul L 2]
      rw [hbody]
      exact addLt hx hA hV hV5 hM hO kf (rest - n) (t + n) (L * 2) (fun s => if n * V ≤ s then (if R (s - n * V) + n < R s then R (s - n * V) + n else R s) else R s) w' (by omega) (by omega) n4 g2 (fun s hs => ⟨g3 s hs, MnS.add n3 (fun s' hs' => (hR s' (by omega)).2)⟩)
theorem MnS.most {O : Nat → Nat} {V c A s r : Nat} (hV : 0 < V) (hs : s ≤ A) (h : MnS O V (mostN V c A) s r) : MnS O V c s r := by
  obtain ⟨⟨m, a1, a2, a3⟩, a4⟩ := h
  exact ⟨⟨m, ((mostN_le hV).mp a1).1, a2, a3⟩, fun m h1 h2 => a4 m ((mostN_le hV).mpr ⟨h1, by omega⟩) h2⟩
theorem addC {x0 A i : Nat} {V c : Nat → Nat} (hx : 25 ≤ x0 ∧ x0 < 38) (hA : A ≤ 500) (hV5 : V i ≤ 5000) (hc : c i ≤ 1000) (hw : ∀ s, s ≤ A → w.1 x0 s = nI (optF 1000000 V c i s)) : ∃ w', f_X6_addTube x0 (nI (V i)) (nI (c i)) (nI A) w = some w' ∧ WR x0 w w' ∧ ∀ s, s ≤ A → w'.1 x0 s = nI (optF 1000000 V c (i + 1) s) := by
  unfold f_X6_addTube
  rw [mostOf_s hV5 hc hA, Option.bind_some]
  by_cases h0 : V i = 0
  · refine ⟨w, ?_, ⟨fun _ _ => rfl, rfl⟩, fun s hs => by rw [opt_zero h0]; exact hw s hs⟩
    rw [show mostN (V i) (c i) A = 0 from if_pos h0, show FU = FU - 1 + 1 by unfold FU; rfl]
    show f_X6_addTube_l11_body (f_X6_addTube_l11 (FU - 1)) x0 (nI (V i)) (nI A) (nI 0) 1 w = _
    unfold f_X6_addTube_l11_body
    rw [if_pos (by decide)]
  · have hV : 0 < V i := by omega
    have hM := ((mostN_le (c := c i) (s := A) hV).mp (Nat.le_refl (mostN (V i) (c i) A))).2
    have hMM : mostN (V i) (c i) A ≤ mostN (V i) (c i) A * V i := Nat.le_mul_of_pos_right _ hV
    obtain ⟨w', R', g1, g2, g3⟩ := addLt (w0 := w) hx hA hV hV5 hM (O := optF 1000000 V c i) (fun s _ => opt_le i s) FU (mostN (V i) (c i) A) 0 1 (optF 1000000 V c i) w (by unfold FU; omega) (by omega) (Or.inr rfl) ⟨fun _ _ => rfl, rfl⟩ (fun s hs => ⟨hw s hs, MnS.zero⟩)
    refine ⟨w', g1, g2, fun s hs => ?_⟩
    rw [(g3 s hs).1, MnS.uniq ((g3 s hs).2.most hV hs) (opt_pos hV)]
theorem findL {A : Nat} {bv v cn V c : Nat → Nat} (hA : A ≤ 500) (hb : ∀ i, i < 12 → bv i < 12) (h14 : ∀ i, i < 12 → w0.1 14 i = nI (bv i)) (hv : ∀ k, k < 12 → w0.1 11 (8420 + k) = nI (v k) ∧ v k ≤ 5000) (h15 : ∀ k, k < 12 → w0.1 15 k = nI (cn k) ∧ cn k ≤ 1000) (hVc : ∀ i, V i = v (bv i) ∧ c i = cn (bv i)) : ∀ (d kf i : Nat) (w : CW), i + d = 12 → d < kf → (∀ p, p < 25 → w.1 p = w0.1 p) → w.2 = w0.2 → (∀ i', i' ≤ i → ∀ s, s ≤ A → w.1 (25 + i') s = nI (optF 1000000 V c i' s)) →
    ∃ w', f_X6_findChange_l44 kf (nI A) (nI i) w = f_X6_findChange_l44_body (f_X6_findChange_l44 0) (nI A) (nI 12) w' ∧ (∀ p, p < 25 → w'.1 p = w0.1 p) ∧ w'.2 = w0.2 ∧ (∀ i', i' ≤ 12 → ∀ s, s ≤ A → w'.1 (25 + i') s = nI (optF 1000000 V c i' s))
  | d, 0, i, w, _, h, _, _, _ => by omega
  | 0, kf + 1, i, w, h, _, h1, h2, h3 => by
    have hi : i = 12 := by omega
    rw [hi] at h3 ⊢
    refine ⟨w, ?_, h1, h2, h3⟩
    show f_X6_findChange_l44_body (f_X6_findChange_l44 kf) (nI A) (nI 12) w = _
    unfold f_X6_findChange_l44_body
    rw [if_pos (show (12 : Int32) ≤ nI 12 by decide), if_pos (show (12 : Int32) ≤ nI 12 by decide)]
  | d + 1, kf + 1, i, w, h, hkf, h1, h2, h3 => by
    have hi : i < 12 := by omega
    have hbi := hb i hi
    have e14 : w.1 14 i = nI (bv i) := by rw [h1 14 (by omega)]; exact h14 i hi
    obtain ⟨wc, hwc⟩ : ∃ wc, wc = ca w (25 + (i + 1)) (va_cpy (w.1 (25 + i)) (w.1 (25 + (i + 1))) 0 0 (A + 1)) := ⟨_, rfl⟩
    have cp : ∀ p, p ≠ 25 + (i + 1) → wc.1 p = w.1 p := fun p hp => by rw [hwc, ca_ne _ _ hp]
    have cr : ∀ s, s ≤ A → wc.1 (25 + (i + 1)) s = nI (optF 1000000 V c i s) := fun s hs => by
      rw [hwc, ca_at]
      unfold va_cpy
      rw [if_pos (by omega), Nat.sub_zero, Nat.zero_add]
      exact h3 i (Nat.le_refl _) s hs
    obtain ⟨w1, g1, g2, g3⟩ := addC (w := wc) (x0 := 25 + (i + 1)) (A := A) (i := i) (V := V) (c := c) (by omega) hA (by rw [(hVc i).1]; exact (hv _ hbi).2) (by rw [(hVc i).2]; exact (h15 _ hbi).2) cr
    have hget : f_X1_get (nI (8420 + bv i)) wc = some (nI (V i)) := by rw [get_s (by omega), cp 11 (by omega), h1 11 (by omega), (hv _ hbi).1, (hVc i).1]
    have h15c : wc.1 15 (bv i) = nI (c i) := by rw [cp 15 (by omega), h1 15 (by omega), (h15 _ hbi).1, (hVc i).2]
    have hbody : f_X6_findChange_l44 (kf + 1) (nI A) (nI i) w = f_X6_findChange_l44 kf (nI A) (nI (i + 1)) w1 := by
      show f_X6_findChange_l44_body (f_X6_findChange_l44 kf) (nI A) (nI i) w = _
      unfold f_X6_findChange_l44_body
      rw [if_neg (show ¬ (12 : Int32) ≤ nI i from nI_ge (a := i) (b := 12) (by omega) (by omega)), nI_1 i, nI_1 A]
      simp only [chk_t (inb_nI (show i < 12 by omega) (show 12 < 2 ^ 31 by omega)), chk_t (inb_nI (show i < 13 by omega) (show 13 < 2 ^ 31 by omega)), chk_t (inb_nI (show i + 1 < 13 by omega) (show 13 < 2 ^ 31 by omega))]
      rw [chk_t (show cpok 0 0 (nI (A + 1)) 501 501 by
        refine ⟨by decide, by decide, nI_pos (by omega), ?_, ?_⟩
        · rw [nI_clamp (by omega)]; show 0 + _ ≤ _; omega
        · rw [nI_clamp (by omega)]; show 0 + _ ≤ _; omega), nI_clamp (show i < 2 ^ 31 by omega), nI_clamp (show i + 1 < 2 ^ 31 by omega), nI_clamp (show A + 1 < 2 ^ 31 by omega), Option.bind_some, e14]
      rw [show ((0 : Int32)).toNatClampNeg = 0 from rfl, ← hwc, show (8420 : Int32) + nI (bv i) = nI (8420 + bv i) from nI_add 8420 _, hget, Option.bind_some, chk_t (inb_nI hbi (by omega)), nI_clamp (by omega), h15c, g1, Option.bind_some]
    rw [hbody]
    refine findL hA hb h14 hv h15 hVc d kf (i + 1) w1 (by omega) (by omega) (fun p hp => ?_) ?_ (fun i' hi' s hs => ?_)
    · rw [g2.1 p (by omega), cp p (by omega)]; exact h1 p hp
    · rw [g2.2, hwc]; exact h2
    · by_cases e : i' = i + 1
      · rw [e]; exact g3 s hs
      · rw [g2.1 _ (by omega), cp _ (by omega)]; exact h3 i' (by omega) s hs
theorem pickIn {k5 : Int32 → Int32 → CW → Option CW} {A S i k : Nat} {V c : Nat → Nat} (hA : A ≤ 500) (hS : S ≤ A) (hi : i < 12) (hrow : ∀ i', i' ≤ 12 → ∀ s, s ≤ A → w.1 (25 + i') s = nI (optF 1000000 V c i' s)) (hV5 : V i ≤ 5000) : ∀ (kf n : Nat), n < kf → n ≤ mostN (V i) (c i) S → n ≤ 1000 →
    f_X6_pickCoins_l49 k5 kf (nI S) (nI (i + 1)) (nI k) (nI (V i)) (nI n) w = f_X6_pickCoins_b90 k5 (nI S) (nI (i + 1)) (nI k) (nI (V i)) (nI (pkD (fun n => decide (optF 1000000 V c i (S - n * V i) + n = optF 1000000 V c (i + 1) S)) n)) w
  | 0, n, h, _, _ => by omega
  | kf + 1, n, hkf, hm, hn => by
    show f_X6_pickCoins_l49_body k5 (f_X6_pickCoins_l49 k5 kf) (nI S) (nI (i + 1)) (nI k) (nI (V i)) (nI n) w = _
    unfold f_X6_pickCoins_l49_body
    cases n with
    | zero => rw [if_pos (by decide)]; rfl
    | succ n =>
      obtain ⟨hmul, -⟩ := mostN_mul hm
      have o1 := opt_le (I := 1000000) (V := V) (c := c) i (S - (n + 1) * V i)
      have o2 := opt_le (I := 1000000) (V := V) (c := c) (i + 1) S
      have e1 : nI (i + 1) - (1 : Int32) = nI i := pk_sub (a := i + 1) (b := 1) (by omega)
      rw [if_neg (nI_nle (by omega) (by omega)), e1, pk_mul, pk_sub hmul]
      simp only [chk_t (inb_nI (show i < 13 by omega) (show 13 < 2 ^ 31 by omega)), chk_t (inb_nI (show S - (n + 1) * V i < 501 by omega) (show 501 < 2 ^ 31 by omega)), chk_t (inb_nI (show i + 1 < 13 by omega) (show 13 < 2 ^ 31 by omega)), chk_t (inb_nI (show S < 501 by omega) (show 501 < 2 ^ 31 by omega))]
      rw [nI_clamp (show i < 2 ^ 31 by omega), nI_clamp (show S - (n + 1) * V i < 2 ^ 31 by omega), nI_clamp (show i + 1 < 2 ^ 31 by omega), nI_clamp (show S < 2 ^ 31 by omega), hrow i (by omega) _ (by omega), hrow (i + 1) (by omega) _ hS, nI_add, pkD_succ]
      by_cases q : optF 1000000 V c i (S - (n + 1) * V i) + (n + 1) = optF 1000000 V c (i + 1) S
      · rw [if_pos (by rw [q]), if_pos (decide_eq_true q)]
      · rw [if_neg (fun e => q (nI_inj (by omega) (by omega) e)), if_neg (by rw [decide_eq_false q]; decide), nI_dec (by omega), Nat.add_sub_cancel]
        refine pickIn hA hS hi hrow hV5 kf n (by omega) ?_ (by omega)
        omega
theorem pickL {A : Nat} {bv v cn V c : Nat → Nat} (hA : A ≤ 500) (hb : ∀ i, i < 12 → bv i < 12) (hinj : ∀ i j, i < j → j < 12 → bv i ≠ bv j) (h14 : ∀ i, i < 12 → w0.1 14 i = nI (bv i)) (hv : ∀ k, k < 12 → w0.1 11 (8420 + k) = nI (v k) ∧ v k ≤ 5000) (h15 : ∀ k, k < 12 → w0.1 15 k = nI (cn k) ∧ cn k ≤ 1000) (hVc : ∀ i, V i = v (bv i) ∧ c i = cn (bv i)) (hrow : ∀ i', i' ≤ 12 → ∀ s, s ≤ A → w0.1 (25 + i') s = nI (optF 1000000 V c i' s)) : ∀ (d kf j : Nat) (w : CW), j + d = 12 → d < kf → W16c w0 w → (∀ j', j' < j → w.1 16 (bv (11 - j')) = nI (NN 1000000 V c (11 - j') (SSv 1000000 V c A j'))) →
    ∃ w', f_X6_pickCoins_l5 kf (nI (SSv 1000000 V c A j)) (nI (12 - j)) w = some w' ∧ W16c w0 w' ∧ ∀ j', j' < 12 → w'.1 16 (bv (11 - j')) = nI (NN 1000000 V c (11 - j') (SSv 1000000 V c A j'))
  | d, 0, j, w, _, h, _, _ => by omega
  | 0, kf + 1, j, w, h, _, h7, h1 => by
    have hj : j = 12 := by omega
    refine ⟨w, ?_, h7, fun j' hj' => h1 j' (by omega)⟩
    show f_X6_pickCoins_l5_body (f_X6_pickCoins_l5 kf) (nI (SSv 1000000 V c A j)) (nI (12 - j)) w = _
    unfold f_X6_pickCoins_l5_body
    rw [if_pos (show nI (12 - j) ≤ 0 by rw [hj]; decide)]
  | d + 1, kf + 1, j, w, h, hkf, h7, h1 => by
    have hj : j < 12 := by omega
    obtain ⟨i, hi⟩ : ∃ i, i = 11 - j := ⟨_, rfl⟩
    have hbi := hb i (by omega)
    have hS := SS_le (I := 1000000) (V := V) (c := c) (A := A) j
    have hle := NN_le (V := V) (c := c) (i := i) (s := SSv 1000000 V c A j) 1000000
    have hci : c i ≤ 1000 := by rw [(hVc i).2]; exact (h15 _ hbi).2
    have hVi : V i ≤ 5000 := by rw [(hVc i).1]; exact (hv _ hbi).2
    have hmo : mostN (V i) (c i) (SSv 1000000 V c A j) ≤ 1000 := by have := (mostN_mul (Nat.le_refl (mostN (V i) (c i) (SSv 1000000 V c A j)))).2; omega
    have e14 : w.1 14 i = nI (bv i) := by rw [h7.1 14 (by decide)]; exact h14 i (by omega)
    have hget : f_X1_get (nI (8420 + bv i)) w = some (nI (V i)) := by rw [get_s (by omega), h7.1 11 (by decide), (hv _ hbi).1, (hVc i).1]
    have e15 : w.1 15 (bv i) = nI (c i) := by rw [h7.1 15 (by decide), (h15 _ hbi).1, (hVc i).2]
    have hss : SSv 1000000 V c A (j + 1) = SSv 1000000 V c A j - NN 1000000 V c i (SSv 1000000 V c A j) * V i := by rw [SS_succ, ← hi]
    have hbody : f_X6_pickCoins_l5 (kf + 1) (nI (SSv 1000000 V c A j)) (nI (12 - j)) w = f_X6_pickCoins_l5 kf (nI (SSv 1000000 V c A (j + 1))) (nI (12 - (j + 1))) (cs w 16 (bv i) (nI (NN 1000000 V c i (SSv 1000000 V c A j)))) := by
      show f_X6_pickCoins_l5_body (f_X6_pickCoins_l5 kf) (nI (SSv 1000000 V c A j)) (nI (12 - j)) w = _
      unfold f_X6_pickCoins_l5_body
      have e0 : 12 - j = i + 1 := by omega
      have e1 : nI (i + 1) - (1 : Int32) = nI i := pk_sub (a := i + 1) (b := 1) (by omega)
      rw [e0, if_neg (nI_nle (by omega) (by omega)), e1, chk_t (inb_nI (by omega) (by omega)), nI_clamp (show i < 2 ^ 31 by omega), e14, show (8420 : Int32) + nI (bv i) = nI (8420 + bv i) from nI_add 8420 _, hget, Option.bind_some, chk_t (inb_nI hbi (by omega)), nI_clamp (by omega), e15, mostOf_s hVi hci (by omega), Option.bind_some, pickIn (A := A) (V := V) (c := c) hA hS (by omega) (fun i' h1' s hs => by rw [h7.1 _ (by omega)]; exact hrow i' h1' s hs) hVi FU (mostN (V i) (c i) (SSv 1000000 V c A j)) (by unfold FU; omega) (Nat.le_refl _) hmo]
      unfold f_X6_pickCoins_b90
      rw [chk_t (inb_nI hbi (by omega)), nI_clamp (by omega)]
      show f_X6_pickCoins_l5 kf (nI (SSv 1000000 V c A j) - nI (NN 1000000 V c i (SSv 1000000 V c A j)) * nI (V i)) (nI (i + 1) + -1) (cs w 16 (bv i) (nI (NN 1000000 V c i (SSv 1000000 V c A j)))) = _
      rw [pk_mul, pk_sub hle.1, ← hss, nI_dec (by omega), show i + 1 - 1 = 12 - (j + 1) by omega]
    rw [hbody]
    refine pickL hA hb hinj h14 hv h15 hVc hrow d kf (j + 1) _ (by omega) (by omega) h7.cs (fun j' hj' => ?_)
    rw [cs_at]
    by_cases e : j' = j
    · rw [e, ← hi, upd_at]
    · have hne : bv (11 - j') ≠ bv i := (hinj i (11 - j') (by omega) (by omega)).symm
      rw [upd_ne _ _ hne]; exact h1 j' (by omega)
/-- the class looks for change -/
theorem find_C {s : Nat → Int32} {A : Nat} (hs : Rs (w.1 11) s T) (hp : p < 60) (hA : A ≤ 500) : ∃ w', FCt w w' ∧ ((optF 1000000 (fun i => vN s (bvF (vN s) 12 i)) (fun i => cNk s p (bvF (vN s) 12 i)) 12 A < 1000000 ∧ f_X6_findChange (nI p) (nI A) w = some (1, w') ∧ ∀ j, j < 12 → w'.1 16 (bvF (vN s) 12 (11 - j)) = nI (NN 1000000 (fun i => vN s (bvF (vN s) 12 i)) (fun i => cNk s p (bvF (vN s) 12 i)) (11 - j) (SSv 1000000 (fun i => vN s (bvF (vN s) 12 i)) (fun i => cNk s p (bvF (vN s) 12 i)) A j))) ∨ (¬ optF 1000000 (fun i => vN s (bvF (vN s) 12 i)) (fun i => cNk s p (bvF (vN s) 12 i)) 12 A < 1000000 ∧ f_X6_findChange (nI p) (nI A) w = some (0, w'))) := by
  have hT := hs.2.2.1
  have hv : ∀ k, k < 12 → w.1 11 (8420 + k) = nI (vN s k) ∧ vN s k ≤ 5000 := fun k hk => ⟨(tubes_s hT hk).1, (tubes_s hT hk).2.2.1⟩
  have hd := tubes_d hT
  obtain ⟨t1, t2, t3, t4, t5, t6⟩ := twoO hd 12 (Nat.le_refl _)
  obtain ⟨w1, a1, a2, a3⟩ := sortC (w0 := w) hv hd 12 FU 0 w (by omega) (by unfold FU; omega) ⟨fun _ _ => rfl, rfl⟩ (fun i hi => by omega)
  have hcr : ∀ k, k < 12 → ∀ q, q < 60 → w1.1 11 (78 * q + (36 + k)) = nI (crd s q k) := fun k hk q hq => by
    rw [a2.1 11 (by decide)]
    exact ((hs.1 q hq).2.1.2.1 k hk).trans ((tubes_s hT hk).2.2.2.2.2.2.2.2 q hq)
  obtain ⟨w2, b1, b2, b3⟩ := spareC (w0 := w1) (s := s) (p := p) (by rw [a2.1 11 (by decide)]; exact hT) hcr hp 12 FU 0 w1 (by omega) (by unfold FU; omega) ⟨fun _ _ => rfl, rfl⟩ (fun j hj => by omega)
  obtain ⟨w3, hw3⟩ : ∃ w3, w3 = cs (ca w2 25 (fillf 501 1000000 (w2.1 25))) 25 0 0 := ⟨_, rfl⟩
  have p3 : ∀ q, q ≠ 25 → w3.1 q = w2.1 q := fun q hq => by rw [hw3, cs_ne _ _ _ hq, ca_ne _ _ hq]
  have e23 : w3.2 = w2.2 := by rw [hw3]; rfl
  have p12 : ∀ q, q ≠ 14 → q ≠ 15 → w2.1 q = w.1 q := fun q h14 h15 => (b2.1 q h15).trans (a2.1 q h14)
  have hcn : ∀ k, k < 12 → cNk s p k ≤ 1000 := fun k hk => by
    have h1 := (tubes_s hT hk).2.2.2.2.2.1
    unfold cNk
    omega
  have h14 : ∀ i, i < 12 → w3.1 14 i = nI (bvF (vN s) 12 i) := fun i hi => by rw [p3 14 (by decide), b2.1 14 (by decide)]; exact a3 i hi
  have hv3 : ∀ k, k < 12 → w3.1 11 (8420 + k) = nI (vN s k) ∧ vN s k ≤ 5000 := fun k hk => by rw [p3 11 (by decide), p12 11 (by decide) (by decide)]; exact hv k hk
  have h15 : ∀ k, k < 12 → w3.1 15 k = nI (cNk s p k) ∧ cNk s p k ≤ 1000 := fun k hk => by rw [p3 15 (by decide)]; exact ⟨b3 k hk, hcn k hk⟩
  obtain ⟨w4, c1, c2, c3, c4⟩ := findL (w0 := w3) (A := A) (bv := bvF (vN s) 12) (v := vN s) (cn := cNk s p) (V := fun i => vN s (bvF (vN s) 12 i)) (c := fun i => cNk s p (bvF (vN s) 12 i)) hA t2 h14 hv3 h15 (fun i => ⟨rfl, rfl⟩) 12 FU 0 w3 (by omega) (by unfold FU; omega) (fun _ _ => rfl) rfl (fun i' hi' x hx => by
    have : i' = 0 := by omega
    rw [this, hw3]
    show (cs (ca w2 25 (fillf 501 1000000 (w2.1 25))) 25 0 0).1 25 x = nI (if x = 0 then 0 else 1000000)
    rw [cs_at]
    by_cases e : x = 0
    · rw [e, upd_at, if_pos rfl]; rfl
    · rw [upd_ne _ _ e, if_neg e, ca_at]
      unfold fillf
      rw [if_pos (by omega)]; rfl)
  have frw : ∀ q, q < 25 → q ≠ 14 → q ≠ 15 → w4.1 q = w.1 q := fun q h1 h2 h3 => by rw [c2 q h1, p3 q (by omega), p12 q h2 h3]
  have fr2 : w4.2 = w.2 := by rw [c3, e23, b2.2, a2.2]
  have hfc : f_X6_findChange (nI p) (nI A) w = f_X6_findChange_l44_body (f_X6_findChange_l44 0) (nI A) (nI 12) w4 := by
    rw [← c1, hw3]
    unfold f_X6_findChange f_X6_sortByValue f_X6_countSpare
    rw [within_s, Option.bind_some, gd, if_pos ⟨nI_pos' (by omega), show nI A ≤ nI 500 from nI_le hA (by omega)⟩, show f_X6_sortByValue_l2 FU 0 w = _ from a1, Option.bind_some, show f_X6_countSpare_l2 FU (nI p) 0 w1 = _ from b1, Option.bind_some, chk_t (lit_in (a := 0) (by rfl) (by omega) (by omega))]
    show (some (ca w2 25 (fillf 501 1000000 (w2.1 25)))).bind _ = _
    rw [Option.bind_some, chk_t (lit_in (a := 0) (by rfl) (by omega) (by omega)), chk_t (lit_in (a := 0) (by rfl) (by omega) (by omega))]
    rfl
  have hfin : f_X6_findChange_l44_body (f_X6_findChange_l44 0) (nI A) (nI 12) w4 = if optF 1000000 (fun i => vN s (bvF (vN s) 12 i)) (fun i => cNk s p (bvF (vN s) 12 i)) 12 A < 1000000 then ((f_X6_pickCoins (nI A) w4).bind fun y5 => some ((1 : Int32), y5)) else some (0, w4) := by
    unfold f_X6_findChange_l44_body
    rw [if_pos (by decide), chk_t (lit_in (a := 12) (by rfl) (by omega) (by omega)), chk_t (inb_nI (by omega) (by omega)), nI_clamp (by omega)]
    have e12 : w4.1 (25 + ((12 : Int32)).toNatClampNeg) A = nI (optF 1000000 (fun i => vN s (bvF (vN s) 12 i)) (fun i => cNk s p (bvF (vN s) 12 i)) 12 A) := c4 12 (Nat.le_refl _) A (Nat.le_refl _)
    have hle := opt_le (I := 1000000) (V := fun i => vN s (bvF (vN s) 12 i)) (c := fun i => cNk s p (bvF (vN s) 12 i)) 12 A
    rw [e12]
    by_cases q : optF 1000000 (fun i => vN s (bvF (vN s) 12 i)) (fun i => cNk s p (bvF (vN s) 12 i)) 12 A < 1000000
    · rw [if_pos q, if_pos (show nI _ < (1000000 : Int32) from nI_lt (b := 1000000) q (by omega))]
    · rw [if_neg q, if_neg (show ¬ nI _ < (1000000 : Int32) from nI_nlt (b := 1000000) (by omega) (by omega))]
  rw [hfc, hfin]
  by_cases q : optF 1000000 (fun i => vN s (bvF (vN s) 12 i)) (fun i => cNk s p (bvF (vN s) 12 i)) 12 A < 1000000
  · obtain ⟨w5, d1, d2, d3⟩ := pickL (w0 := w4) (A := A) (bv := bvF (vN s) 12) (v := vN s) (cn := cNk s p) (V := fun i => vN s (bvF (vN s) 12 i)) (c := fun i => cNk s p (bvF (vN s) 12 i)) hA t2 (fun i j h1 h2 => (t3 i j h1 h2).2) (fun i hi => by rw [c2 14 (by omega)]; exact h14 i hi) (fun k hk => by rw [c2 11 (by omega)]; exact hv3 k hk) (fun k hk => by rw [c2 15 (by omega)]; exact h15 k hk) (fun i => ⟨rfl, rfl⟩) c4 12 FU 0 w4 (by omega) (by unfold FU; omega) ⟨fun _ _ => rfl, rfl⟩ (fun j' hj' => by omega)
    refine ⟨w5, ⟨fun r h1 h2 h3 h4 => (d2.1 r h4).trans (frw r h1 h2 h3), d2.2.trans fr2⟩, Or.inl ⟨q, ?_, d3⟩⟩
    rw [if_pos q]
    unfold f_X6_pickCoins
    rw [show f_X6_pickCoins_l5 FU (nI A) 12 w4 = _ from d1, Option.bind_some]
  · refine ⟨w4, ⟨fun r h1 h2 h3 h4 => frw r h1 h2 h3, fr2⟩, Or.inr ⟨q, ?_⟩⟩
    rw [if_neg q]
end P3
