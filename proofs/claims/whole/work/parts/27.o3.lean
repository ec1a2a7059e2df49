section O3
variable {w : CW} {now s : Nat → Int32} {T p : Nat}
/-- the class's cells, with what this minute has used so far -/
def pn (now s : Nat → Int32) : Nat → Int32 := fun j => if 8547 ≤ j ∧ j < 8550 then s (j + 2803) else now j
theorem pn_ne {j : Nat} (h : j < 8547 ∨ 8550 ≤ j) : pn now s j = now j := if_neg (by omega)
theorem pn_in {i : Nat} (h : i < 3) : pn now s (8547 + i) = s (11350 + i) := by
  unfold pn
  rw [if_pos (by omega), show 8547 + i + 2803 = 11350 + i by omega]
theorem nI_dec {a : Nat} (h : 1 ≤ a) : nI a + (-1 : Int32) = nI (a - 1) := by
  have h1 : nI a - nI 1 = nI (a - 1) := pk_sub h
  rw [← h1, Int32.sub_eq_add_neg]
  rfl
theorem neg1_lt {a : Nat} (h : a < 2 ^ 31) : (-1 : Int32) < nI a := by
  apply Int32.lt_iff_toInt_lt.mpr
  rw [nI_toInt h]
  have h2 : ((-1 : Int32)).toInt = -1 := by decide
  rw [h2]
  omega
theorem pn_zero (h : Rs now s T) : Rs (pn now (upd (upd (upd s 11350 0) 11351 0) 11352 0)) (upd (upd (upd s 11350 0) 11351 0) 11352 0) T := by
  have m1 : ∀ j, (j < 11350 ∨ 11353 ≤ j) → upd (upd (upd s 11350 0) 11351 0) 11352 0 j = s j := fun j hj => by rw [upd_ne _ _ (by omega), upd_ne _ _ (by omega), upd_ne _ _ (by omega)]
  generalize upd (upd (upd s 11350 0) 11351 0) 11352 0 = s' at m1 ⊢
  obtain ⟨z1, z2, z3, z4⟩ := h.2.2.2.2.2.1
  refine h.rest (fun j hj => pn_ne (by omega)) (fun j hj => m1 j (by omega)) (h.2.1.congr (pn_ne (by omega)) (m1 _ (by omega)) (fun j h1 h2 => pn_ne (by omega)) (fun j h1 h2 => m1 _ (by omega)) (fun q hq h9 => by rw [m1 _ (by omega)]; exact h9) (fun q hq k hk => pn_ne (by omega))) (h.2.2.1.congr (fun j h1 h2 => pn_ne (by omega)) (fun j h1 h2 => m1 _ (by omega)) (fun q hq k hk => m1 _ (by omega))) (h.2.2.2.1.congr (fun j h1 h2 => pn_ne (by omega)) (fun j h1 h2 => m1 _ (by omega))) (h.2.2.2.2.1.congr (fun j h1 h2 => pn_ne (by omega)) (fun j h1 h2 => m1 _ (by omega))) ⟨fun i hi => ⟨?_, pn_in hi⟩, ?_, ?_, fun i hi => ?_⟩ (m1 _ (by omega))
  · rw [pn_ne (by omega), m1 _ (by omega)]; exact (z1 i hi).1
  · rw [pn_ne (by omega), m1 _ (by omega)]; exact z2
  · rw [m1 _ (by omega)]; exact z3
  · rw [pn_ne (by omega), m1 _ (by omega)]; exact z4 i hi
theorem l90_s {m : MW} {O b Z C : Nat} {hm : Nat → Nat → Int32} (h : HMx m T O b Z C hm) (hb : b + 3 < 120000) (hC : C + 3 < 2 ^ 30) :
    ∃ m', f_X10_oneMinute_l90 FU 0 m = f_X10_oneMinute_l115 FU 0 0 m' ∧ HMx m' T O (b + 3) Z (C + 3) hm ∧ m' 1 = upd (upd (upd (m 1) 11350 0) 11351 0) 11352 0 ∧ FrM m m' := by
  obtain ⟨m1, a1, a2, a3, a4⟩ := w_k (a := 11350) (v := 0) h rfl (by omega) (by omega) (by omega)
  obtain ⟨m2, b1, b2, b3, b4⟩ := w_k (a := 11351) (v := 0) a2 a3 (by omega) (by omega) (by omega)
  obtain ⟨m3, c1, c2, c3, c4⟩ := w_k (a := 11352) (v := 0) b2 b3 (by omega) (by omega) (by omega)
  refine ⟨m3, ?_, c2, c3, a4.trans (b4.trans c4)⟩
  have e0 : f_X10_oneMinute_l90 FU 0 m = f_X10_oneMinute_l90 (FU - 4 + 1 + 1 + 1 + 1) 0 m := by rw [show FU - 4 + 1 + 1 + 1 + 1 = FU by unfold FU; rfl]
  rw [e0]
  show f_X10_oneMinute_l90_body (f_X10_oneMinute_l90 (FU - 4 + 1 + 1 + 1)) 0 m = _
  unfold f_X10_oneMinute_l90_body
  rw [if_neg (by decide), show (11350 : Int32) + 0 = nI 11350 from rfl, a1, Option.bind_some]
  show f_X10_oneMinute_l90_body (f_X10_oneMinute_l90 (FU - 4 + 1 + 1)) (0 + 1) m1 = _
  unfold f_X10_oneMinute_l90_body
  rw [if_neg (by decide), show (11350 : Int32) + (0 + 1) = nI 11351 from rfl, b1, Option.bind_some]
  show f_X10_oneMinute_l90_body (f_X10_oneMinute_l90 (FU - 4 + 1)) (0 + 1 + 1) m2 = _
  unfold f_X10_oneMinute_l90_body
  rw [if_neg (by decide), show (11350 : Int32) + (0 + 1 + 1) = nI 11352 from rfl, c1, Option.bind_some]
  show f_X10_oneMinute_l90_body (f_X10_oneMinute_l90 (FU - 4)) (0 + 1 + 1 + 1) m3 = _
  unfold f_X10_oneMinute_l90_body
  rw [if_pos (by decide)]
/-- the class's arrays but the line -/
def W7 (w w' : CW) : Prop := (∀ p, p ≠ 7 → w'.1 p = w.1 p) ∧ w'.2 = w.2
theorem W7.cs {w w' : CW} {k : Nat} {v : Int32} (h : W7 w w') : W7 w (cs w' 7 k v) := ⟨fun p hp => by rw [cs_ne _ _ _ hp]; exact h.1 p hp, h.2⟩
def wt (s : Nat → Int32) (q : Nat) : Nat := (s (104 * q + 30)).toNatClampNeg
theorem wt_s (h : Rs now s T) (hT : T < 99000) {q : Nat} (hq : q < 60) : s (104 * q + 30) = nI (wt s q) ∧ now (78 * q + 6) = nI (wt s q) ∧ wt s q < T + 1 := by
  obtain ⟨-, -, -, -, -, q6, ⟨v, hv, ev⟩, -⟩ := (h.1 q hq).2.2.2.1
  have e1 : s (104 * q + 30) = nI v := ev
  have e2 : wt s q = v := by unfold wt; rw [e1, nI_clamp (by omega)]
  rw [e2]
  exact ⟨e1, q6.trans ev, hv⟩
/-- a goes before b -/
def bef (f : Nat → Nat) (a b : Nat) : Prop := f b < f a ∨ (f a = f b ∧ a < b)
/-- the runs below q, in their order -/
def Ordr (s : Nat → Int32) (q n : Nat) (od : Nat → Nat) : Prop :=
  (∀ i, i < n → od i < q ∧ s (104 * od i + 26) = 1) ∧ (∀ i j, i < j → j < n → bef (wt s) (od i) (od j)) ∧ (∀ x, x < q → s (104 * x + 26) = 1 → ∃ i, i < n ∧ od i = x)
def insO (od : Nat → Nat) (k x : Nat) : Nat → Nat := fun i => if i < k then od i else if i = k then x else od (i - 1)
theorem insO_lt {od : Nat → Nat} {k x i : Nat} (h : i < k) : insO od k x i = od i := if_pos h
theorem insO_at {od : Nat → Nat} {k x : Nat} : insO od k x k = x := by unfold insO; rw [if_neg (by omega), if_pos rfl]
theorem insO_gt {od : Nat → Nat} {k x i : Nat} (h : k < i) : insO od k x i = od (i - 1) := by unfold insO; rw [if_neg (by omega), if_neg (by omega)]
theorem Ordr.skip {q n : Nat} {od : Nat → Nat} (h : Ordr s q n od) (h26 : ¬ s (104 * q + 26) = 1) : Ordr s (q + 1) n od := by
  obtain ⟨a1, a2, a3⟩ := h
  refine ⟨fun i hi => ⟨by have := (a1 i hi).1; omega, (a1 i hi).2⟩, a2, fun x hx hr => ?_⟩
  by_cases e : x = q
  · subst e; exact absurd hr h26
  · exact a3 x (by omega) hr
theorem Ordr.ins {q n k : Nat} {od : Nat → Nat} (h : Ordr s q n od) (h26 : s (104 * q + 26) = 1) (hk : k ≤ n) (h1 : k = 0 ∨ wt s q ≤ wt s (od (k - 1))) (h2 : ∀ i, k ≤ i → i < n → wt s (od i) < wt s q) : Ordr s (q + 1) (n + 1) (insO od k q) := by
  obtain ⟨a1, a2, a3⟩ := h
  refine ⟨fun i hi => ?_, fun i j hij hj => ?_, fun x hx hr => ?_⟩
  · rcases Nat.lt_trichotomy i k with c | c | c
    · rw [insO_lt c]; exact ⟨by have := (a1 i (by omega)).1; omega, (a1 i (by omega)).2⟩
    · subst c; rw [insO_at]; exact ⟨by omega, h26⟩
    · rw [insO_gt c]; exact ⟨by have := (a1 (i - 1) (by omega)).1; omega, (a1 (i - 1) (by omega)).2⟩
  · rcases Nat.lt_trichotomy j k with c | c | c
    · rw [insO_lt c, insO_lt (by omega)]; exact a2 i j hij (by omega)
    · subst c
      rw [insO_at, insO_lt hij]
      have hlt := (a1 i (by omega)).1
      have hw : wt s q ≤ wt s (od i) := by
        rcases h1 with h1 | h1
        · omega
        · by_cases e : i = j - 1
          · rw [e]; exact h1
          · rcases a2 i (j - 1) (by omega) (by omega) with b | ⟨b, -⟩ <;> omega
      unfold bef
      omega
    · rw [insO_gt c]
      rcases Nat.lt_trichotomy i k with c2 | c2 | c2
      · rw [insO_lt c2]; exact a2 i (j - 1) (by omega) (by omega)
      · subst c2; rw [insO_at]
        exact Or.inl (h2 (j - 1) (by omega) (by omega))
      · rw [insO_gt c2]; exact a2 (i - 1) (j - 1) (by omega) (by omega)
  · by_cases e : x = q
    · subst e
      exact ⟨k, by omega, insO_at⟩
    · obtain ⟨i, hi, ei⟩ := a3 x (by omega) hr
      by_cases c : i < k
      · exact ⟨i, by omega, by rw [insO_lt c]; exact ei⟩
      · exact ⟨i + 1, by omega, by rw [insO_gt (by omega), Nat.add_sub_cancel]; exact ei⟩
theorem insL {w0 : CW} {k4 : Int32 → Int32 → CW → Option (Int32 × CW)} {n x : Nat} {od : Nat → Nat} (hw : ∀ i, i < n → w0.1 11 (78 * od i + 6) = nI (wt s (od i)) ∧ od i < 60) (hb : ∀ i, i < n → wt s (od i) < 100000) (hbx : wt s x < 100000) (hn : n < 60) (hx : x < 60) : ∀ (to kf : Nat) (w : CW), to < kf → to ≤ n → W7 w0 w → (∀ i, i < to → w.1 7 i = nI (od i)) → (∀ i, to < i → i ≤ n → w.1 7 i = nI (od (i - 1))) → (∀ i, to ≤ i → i < n → wt s (od i) < wt s x) →
    ∃ k w', k ≤ n ∧ (k = 0 ∨ wt s x ≤ wt s (od (k - 1))) ∧ (∀ i, k ≤ i → i < n → wt s (od i) < wt s x) ∧ W7 w0 w' ∧ (∀ i, i ≤ n → w'.1 7 i = nI (insO od k x i)) ∧ f_X9_lineUpRuns_l29 k4 kf (nI n) (nI x) (nI (wt s x)) (nI to) w = k4 (nI (n + 1)) (nI (x + 1)) w'
  | to, 0, w, h, _, _, _, _, _ => by omega
  | to, kf + 1, w, hk, hto, h7, h1, h2, h3 => by
    have stop : (to = 0 ∨ wt s x ≤ wt s (od (to - 1))) → f_X9_lineUpRuns_l29 k4 (kf + 1) (nI n) (nI x) (nI (wt s x)) (nI to) w = f_X9_lineUpRuns_b75 k4 (nI n) (nI x) (nI to) w → ∃ k w', k ≤ n ∧ (k = 0 ∨ wt s x ≤ wt s (od (k - 1))) ∧ (∀ i, k ≤ i → i < n → wt s (od i) < wt s x) ∧ W7 w0 w' ∧ (∀ i, i ≤ n → w'.1 7 i = nI (insO od k x i)) ∧ f_X9_lineUpRuns_l29 k4 (kf + 1) (nI n) (nI x) (nI (wt s x)) (nI to) w = k4 (nI (n + 1)) (nI (x + 1)) w' := by
      intro hq he
      refine ⟨to, cs w 7 to (nI x), hto, hq, h3, h7.cs, fun i hi => ?_, ?_⟩
      · rw [cs_at]
        rcases Nat.lt_trichotomy i to with c | c | c
        · rw [upd_ne _ _ (by omega), insO_lt c]; exact h1 i c
        · subst c; rw [upd_at, insO_at]
        · rw [upd_ne _ _ (by omega), insO_gt c]; exact h2 i c hi
      · rw [he]
        unfold f_X9_lineUpRuns_b75 f_X9_lineUpRuns_b86
        rw [chk_t (inb_nI (by omega) (by omega)), nI_clamp (by omega), nI_1 n, nI_1 x]
    cases to with
    | zero =>
      refine stop (Or.inl rfl) ?_
      show f_X9_lineUpRuns_l29_body k4 (f_X9_lineUpRuns_l29 k4 kf) (nI n) (nI x) (nI (wt s x)) (nI 0) w = _
      unfold f_X9_lineUpRuns_l29_body
      rw [if_pos (by decide)]
    | succ t =>
      have ht : t < n := by omega
      have hot := hw t ht
      have hbody : f_X9_lineUpRuns_l29 k4 (kf + 1) (nI n) (nI x) (nI (wt s x)) (nI (t + 1)) w = if nI (wt s x) ≤ nI (wt s (od t)) then f_X9_lineUpRuns_b75 k4 (nI n) (nI x) (nI (t + 1)) w else f_X9_lineUpRuns_l29 k4 kf (nI n) (nI x) (nI (wt s x)) (nI t) (cs w 7 (t + 1) (nI (od t))) := by
        show f_X9_lineUpRuns_l29_body k4 (f_X9_lineUpRuns_l29 k4 kf) (nI n) (nI x) (nI (wt s x)) (nI (t + 1)) w = _
        unfold f_X9_lineUpRuns_l29_body
        have e1 : nI (t + 1) - (1 : Int32) = nI t := pk_sub (a := t + 1) (b := 1) (by omega)
        rw [if_neg (nI_nle (by omega) (by omega)), e1]
        simp only [chk_t (inb_nI (show t < 60 by omega) (show 60 < 2 ^ 31 by omega)), chk_t (inb_nI (show t + 1 < 60 by omega) (show 60 < 2 ^ 31 by omega))]
        rw [nI_clamp (show t < 2 ^ 31 by omega), nI_clamp (show t + 1 < 2 ^ 31 by omega), h1 t (by omega), read_k (k := 6) (by rfl) hot.2 (by omega), Option.bind_some, h7.1 11 (by decide), hot.1, nI_dec (by omega), Nat.add_sub_cancel]
      by_cases hc : wt s x ≤ wt s (od t)
      · refine stop (Or.inr (by rw [Nat.add_sub_cancel]; exact hc)) ?_
        rw [hbody, if_pos (nI_le hc (by have := hb t ht; omega))]
      · rw [hbody, if_neg (nI_ge (by omega) (by omega))]
        refine insL hw hb hbx hn hx t kf (cs w 7 (t + 1) (nI (od t))) (by omega) (by omega) h7.cs (fun i hi => ?_) (fun i h4 h5 => ?_) (fun i h4 h5 => ?_)
        · rw [cs_at, upd_ne _ _ (by omega)]; exact h1 i (by omega)
        · rw [cs_at]
          by_cases e : i = t + 1
          · subst e; rw [upd_at, Nat.add_sub_cancel]
          · rw [upd_ne _ _ e]; exact h2 i (by omega) h5
        · by_cases e : i = t
          · subst e; omega
          · exact h3 i (by omega) h5
theorem lineL {w0 : CW} {m : MW} (hs : Rs (w0.1 11) (m 1) T) (hT : T < 99000) : ∀ (d kf q n : Nat) (od : Nat → Nat) (w : CW), q + d = 60 → d < kf → W7 w0 w → Ordr (m 1) q n od → n = rc (m 1) q → (∀ i, i < n → w.1 7 i = nI (od i)) →
    ∃ w' od', f_X9_lineUpRuns_l4 kf (nI n) (nI q) w = some (nI (rc (m 1) 60), w') ∧ W7 w0 w' ∧ Ordr (m 1) 60 (rc (m 1) 60) od' ∧ (∀ i, i < rc (m 1) 60 → w'.1 7 i = nI (od' i))
  | d, 0, q, n, od, w, _, h, _, _, _, _ => by omega
  | 0, kf + 1, q, n, od, w, h, _, h7, ho, hn, hl => by
    have : q = 60 := by omega
    subst this
    refine ⟨w, od, ?_, h7, by rw [← hn]; exact ho, by rw [← hn]; exact hl⟩
    show f_X9_lineUpRuns_l4_body (f_X9_lineUpRuns_l4 kf) (nI n) (nI 60) w = _
    unfold f_X9_lineUpRuns_l4_body
    rw [if_pos (by decide), hn]
  | d + 1, kf + 1, q, n, od, w, h, hk, h7, ho, hn, hl => by
    have hq : q < 60 := by omega
    have hle := rc_le (s := m 1) q
    have ew : w.1 11 = w0.1 11 := h7.1 11 (by decide)
    have hs' : Rs (w.1 11) (m 1) T := by rw [ew]; exact hs
    obtain ⟨hr1, -⟩ := hasRun_s hs' hq
    have hrc : rc (m 1) (q + 1) = rc (m 1) q + if m 1 (104 * q + 26) = 1 then 1 else 0 := rfl
    have hbody : f_X9_lineUpRuns_l4 (kf + 1) (nI n) (nI q) w = if m 1 (104 * q + 26) = 1 then f_X9_lineUpRuns_l29 (f_X9_lineUpRuns_l4 kf) FU (nI n) (nI q) (nI (wt (m 1) q)) (nI n) w else f_X9_lineUpRuns_l4 kf (nI n) (nI (q + 1)) w := by
      show f_X9_lineUpRuns_l4_body (f_X9_lineUpRuns_l4 kf) (nI n) (nI q) w = _
      unfold f_X9_lineUpRuns_l4_body f_X9_lineUpRuns_b86
      rw [if_neg (show ¬ (60 : Int32) ≤ nI q from nI_ge (a := q) (b := 60) (by omega) (by omega)), hr1, Option.bind_some, gd, read_k (k := 6) (by rfl) hq (by omega), Option.bind_some, (wt_s hs' hT hq).2.1, nI_1 q]
    rw [hbody]
    by_cases h26 : m 1 (104 * q + 26) = 1
    · rw [if_pos h26]
      have hwi : ∀ i, i < n → w0.1 11 (78 * od i + 6) = nI (wt (m 1) (od i)) ∧ od i < 60 := fun i hi => by
        have := (ho.1 i hi).1
        exact ⟨(wt_s hs hT (by omega)).2.1, by omega⟩
      obtain ⟨k, w', g1, g2, g3, g4, g5, g6⟩ := insL (k4 := f_X9_lineUpRuns_l4 kf) (x := q) hwi (fun i hi => by have := (wt_s hs hT (hwi i hi).2).2.2; omega) (by have := (wt_s hs hT hq).2.2; omega) (by omega) hq n FU w (by unfold FU; omega) (Nat.le_refl _) h7 hl (fun i h1 h2 => by omega) (fun i h1 h2 => by omega)
      rw [g6]
      exact lineL hs hT d kf (q + 1) (n + 1) (insO od k q) w' (by omega) (by omega) g4 (ho.ins h26 g1 g2 g3) (by rw [hrc, if_pos h26, hn]) (fun i hi => g5 i (by omega))
    · rw [if_neg h26]
      exact lineL hs hT d kf (q + 1) n od w (by omega) (by omega) h7 (ho.skip h26) (by rw [hrc, if_neg h26, hn]; rfl) hl
/-- the reference's list of waits -/
def W14 (m m' : MW) : Prop := ∀ p, p ≠ 14 → m' p = m p
theorem waitsL {m0 : MW} (hs : Rs now (m0 1) T) : ∀ (d kf q : Nat) (m : MW), q + d = 60 → d < kf → W14 m0 m → (∀ x, x < q → m 14 x = if m0 1 (104 * x + 26) = 1 then m0 1 (104 * x + 30) else -1) →
    ∃ m', f_X10_oneMinute_l115 kf (nI (rc (m0 1) q)) (nI q) m = f_X10_oneMinute_l187 FU (nI (rc (m0 1) 60)) 0 m' ∧ W14 m0 m' ∧ (∀ x, x < 60 → m' 14 x = if m0 1 (104 * x + 26) = 1 then m0 1 (104 * x + 30) else -1)
  | d, 0, q, m, _, h, _, _ => by omega
  | 0, kf + 1, q, m, h, _, h14, hv => by
    have : q = 60 := by omega
    subst this
    refine ⟨m, ?_, h14, hv⟩
    show f_X10_oneMinute_l115_body (f_X10_oneMinute_l115 kf) (nI (rc (m0 1) 60)) (nI 60) m = _
    unfold f_X10_oneMinute_l115_body
    rw [if_pos (by decide)]
  | d + 1, kf + 1, q, m, h, hk, h14, hv => by
    have hq : q < 60 := by omega
    have em : m 1 = m0 1 := h14 1 (by decide)
    have hrc : rc (m0 1) (q + 1) = rc (m0 1) q + if m0 1 (104 * q + 26) = 1 then 1 else 0 := rfl
    have hth : f_X10_isThere (nI q) m = some (if m 1 (104 * q) ≠ 0 then 1 else 0) := isThere_s (w := (fun _ => now, 0)) (T := T) (by show Rs now (m 1) T; rw [em]; exact hs) hq
    have o26 : f_X10_of (nI q) 26 m = some (m 1 (104 * q + 26)) := of_s (k := 26) rfl (by omega)
    have o30 : f_X10_of (nI q) 30 m = some (m 1 (104 * q + 30)) := of_s (k := 30) rfl (by omega)
    have hb166 : ∀ (x3 v : Int32), f_X10_oneMinute_b166 (f_X10_oneMinute_l115 kf) (nI (rc (m0 1) q)) (nI q) x3 (nI q) v m = f_X10_oneMinute_l115 kf (nI (rc (m0 1) q) + if x3 = 0 then 0 else 1) (nI (q + 1)) (mst m 14 q v) := by
      intro x3 v
      unfold f_X10_oneMinute_b166 f_X10_oneMinute_b177
      rw [chk_t (inb_nI hq (by omega)), nI_clamp (by omega), nI_1 q]
      by_cases h3 : x3 = 0
      · rw [if_pos h3, if_pos h3]
      · rw [if_neg h3, if_neg h3]
    have hb0 : f_X10_oneMinute_b145 (f_X10_oneMinute_l115 kf) (nI (rc (m0 1) q)) (nI q) 0 m = f_X10_oneMinute_l115 kf (nI (rc (m0 1) q)) (nI (q + 1)) (mst m 14 q (-1)) := by
      unfold f_X10_oneMinute_b145
      rw [if_pos rfl, hb166, if_pos rfl, Int32.add_zero]
    have hb1 : f_X10_oneMinute_b145 (f_X10_oneMinute_l115 kf) (nI (rc (m0 1) q)) (nI q) 1 m = f_X10_oneMinute_l115 kf (nI (rc (m0 1) q + 1)) (nI (q + 1)) (mst m 14 q (m0 1 (104 * q + 30))) := by
      unfold f_X10_oneMinute_b145
      rw [if_neg (by decide), o30, Option.bind_some, hb166, if_neg (by decide), nI_1, em]
    have hbody : f_X10_oneMinute_l115 (kf + 1) (nI (rc (m0 1) q)) (nI q) m = f_X10_oneMinute_l115 kf (nI (rc (m0 1) (q + 1))) (nI (q + 1)) (mst m 14 q (if m0 1 (104 * q + 26) = 1 then m0 1 (104 * q + 30) else -1)) := by
      show f_X10_oneMinute_l115_body (f_X10_oneMinute_l115 kf) (nI (rc (m0 1) q)) (nI q) m = _
      unfold f_X10_oneMinute_l115_body f_X10_oneMinute_b144
      rw [if_neg (show ¬ (60 : Int32) ≤ nI q from nI_ge (a := q) (b := 60) (by omega) (by omega)), hth, Option.bind_some, gd, o26, Option.bind_some, hb0, hb1, em, hrc]
      by_cases h26 : m0 1 (104 * q + 26) = 1
      · have h0 : m0 1 (104 * q) ≠ 0 := by
          rcases (hs.1 q hq).2.2.1 with ⟨r1, -⟩ | ⟨-, -, r3, -⟩
          · have r1' : m0 1 (104 * q + 26) = 0 := r1
            rw [r1'] at h26; exact absurd h26 (by decide)
          · exact r3
        rw [if_pos h0, if_pos h26, if_pos h26, if_pos h26]
      · rw [if_neg h26, if_neg h26, if_neg h26, Nat.add_zero]
        by_cases h0 : m0 1 (104 * q) ≠ 0
        · rw [if_pos h0]; rfl
        · rw [if_neg h0]; rfl
    rw [hbody]
    refine waitsL hs d kf (q + 1) _ (by omega) (by omega) (fun p hp => by rw [mst_ne _ _ _ hp]; exact h14 p hp) (fun x hx => ?_)
    rw [mst_at]
    by_cases e : x = q
    · subst e; rw [upd_at]
    · rw [upd_ne _ _ e]; exact hv x (by omega)
/-- the reference picks the first of the greatest -/
theorem pick_s {m : MW} {k187 : Int32 → Int32 → MW → Option MW} {x1 x2 : Int32} {a : Nat} (ha : a < 60) (h1 : ∀ q, q < a → m 14 q < m 14 a) (h2 : ∀ q, a < q → q < 60 → m 14 q ≤ m 14 a) : ∀ (d kf j x : Nat), j + d = 60 → d < kf → x < 60 → ((j ≤ a ∧ x < j) ∨ (a < j ∧ x = a)) →
    f_X10_oneMinute_l197 k187 kf x1 x2 (nI x) (nI j) m = (f_X10_goesOrWaits (nI a) (mst m 14 a (-1))).bind fun y3 => k187 x1 (x2 + 1) y3
  | d, 0, j, x, _, h, _, _ => by omega
  | 0, kf + 1, j, x, h, _, hx, hc => by
    have hj : j = 60 := by omega
    have hxa : x = a := by omega
    rw [hj, hxa]
    show f_X10_oneMinute_l197_body k187 (f_X10_oneMinute_l197 k187 kf) x1 x2 (nI a) (nI 60) m = _
    unfold f_X10_oneMinute_l197_body
    rw [if_pos (by decide), chk_t (inb_nI ha (by omega)), nI_clamp (by omega)]
  | d + 1, kf + 1, j, x, h, hk, hx, hc => by
    have hj : j < 60 := by omega
    have hbody : f_X10_oneMinute_l197 k187 (kf + 1) x1 x2 (nI x) (nI j) m = if m 14 j ≤ m 14 x then f_X10_oneMinute_l197 k187 kf x1 x2 (nI x) (nI (j + 1)) m else f_X10_oneMinute_l197 k187 kf x1 x2 (nI j) (nI (j + 1)) m := by
      show f_X10_oneMinute_l197_body k187 (f_X10_oneMinute_l197 k187 kf) x1 x2 (nI x) (nI j) m = _
      unfold f_X10_oneMinute_l197_body f_X10_oneMinute_b226
      rw [if_neg (show ¬ (60 : Int32) ≤ nI j from nI_ge (a := j) (b := 60) (by omega) (by omega)), chk_t (inb_nI hj (by omega)), chk_t (inb_nI hx (by omega)), nI_clamp (show j < 2 ^ 31 by omega), nI_clamp (show x < 2 ^ 31 by omega), nI_1]
    rw [hbody]
    rcases hc with ⟨c1, c2⟩ | ⟨c1, c2⟩
    · by_cases e : j = a
      · rw [if_neg (show ¬ m 14 j ≤ m 14 x by rw [e]; exact Int32.not_le.mpr (h1 x (by omega)))]
        exact pick_s ha h1 h2 d kf (j + 1) j (by omega) (by omega) (by omega) (Or.inr ⟨by omega, e⟩)
      · by_cases q : m 14 j ≤ m 14 x
        · rw [if_pos q]
          exact pick_s ha h1 h2 d kf (j + 1) x (by omega) (by omega) (by omega) (Or.inl ⟨by omega, by omega⟩)
        · rw [if_neg q]
          exact pick_s ha h1 h2 d kf (j + 1) j (by omega) (by omega) (by omega) (Or.inl ⟨by omega, by omega⟩)
    · rw [if_pos (show m 14 j ≤ m 14 x by rw [c2]; exact h2 j c1 hj)]
      exact pick_s ha h1 h2 d kf (j + 1) x (by omega) (by omega) (by omega) (Or.inr ⟨by omega, c2⟩)
end O3
