theorem cs_at (w : CW) (p k : Nat) (v : Int32) : (cs w p k v).1 p = upd (w.1 p) k v := va_up_self _ _ _
theorem cs_ne (w : CW) {p q : Nat} (k : Nat) (v : Int32) (h : q ≠ p) : (cs w p k v).1 q = w.1 q := va_up_ne _ _ h
theorem cs_2 (w : CW) (p k : Nat) (v : Int32) : (cs w p k v).2 = w.2 := rfl
theorem ca_ne (w : CW) {p q : Nat} (f : Nat → Int32) (h : q ≠ p) : (ca w p f).1 q = w.1 q := va_up_ne _ _ h
theorem ca_2 (w : CW) (p : Nat) (f : Nat → Int32) : (ca w p f).2 = w.2 := rfl
theorem mst_at (w : MW) (p k : Nat) (v : Int32) : (mst w p k v) p = upd (w p) k v := va_up_self _ _ _
theorem mst_ne (w : MW) {p q : Nat} (k : Nat) (v : Int32) (h : q ≠ p) : (mst w p k v) q = w q := va_up_ne _ _ h
theorem upd_at (f : Nat → Int32) (k : Nat) (v : Int32) : upd f k v k = v := by simp [upd]
theorem upd_ne (f : Nat → Int32) {k j : Nat} (v : Int32) (h : j ≠ k) : upd f k v j = f j := by simp [upd, h]
theorem upd_upd (f : Nat → Int32) (k : Nat) (v u : Int32) : upd (upd f k v) k u = upd f k u := by
  funext j; by_cases h : j = k <;> simp [upd, h]
theorem upd_same (f : Nat → Int32) (k : Nat) : upd f k (f k) = f := by
  funext j; by_cases h : j = k <;> simp [upd, h]
theorem inb_nI {a n : Nat} (h : a < n) (hn : n < 2 ^ 31) : inb (nI a) n := nI_in h hn
theorem nI_inj {a b : Nat} (ha : a < 2 ^ 31) (hb : b < 2 ^ 31) (h : nI a = nI b) : a = b := (nI_eq ha hb).mp h
theorem if_or {α : Sort _} {c : Prop} [Decidable c] {x y : α} {P : α → Prop} (h1 : c → P x) (h2 : ¬ c → P y) : P (if c then x else y) := by
  by_cases h : c
  · rw [if_pos h]; exact h1 h
  · rw [if_neg h]; exact h2 h
/-- how many entries a minute may log -/
def K1 : Nat := 1330
/-- undo d entries below e -/
def undoC (lg : Nat → Int32) : Nat → (Nat → Int32) → Nat → Nat → Int32
  | 0, now, _ => now
  | d + 1, now, e => undoC lg d (upd now (lg (2 * (e - 1))).toNatClampNeg (lg (2 * (e - 1) + 1))) (e - 1)
theorem undoC_congr {lg lg' : Nat → Int32} : ∀ (d : Nat) (now : Nat → Int32) (e : Nat), d ≤ e → (∀ i, i < 2 * e → lg' i = lg i) → undoC lg' d now e = undoC lg d now e
  | 0, _, _, _, _ => rfl
  | d + 1, now, e, h, hi => by
    show undoC lg' d _ (e - 1) = undoC lg d _ (e - 1)
    rw [hi (2 * (e - 1)) (by omega), hi (2 * (e - 1) + 1) (by omega)]
    exact undoC_congr d _ (e - 1) (by omega) (fun i h => hi i (by omega))
theorem undoC_push {lg : Nat → Int32} {now : Nat → Int32} {a d e : Nat} {v : Int32} (ha : a < 2 ^ 31) (hd : d ≤ e) : undoC (upd (upd lg (2 * e) (nI a)) (2 * e + 1) (now a)) (d + 1) (upd now a v) (e + 1) = undoC lg d now e := by
  show undoC _ d (upd (upd now a v) (upd (upd lg (2 * e) (nI a)) (2 * e + 1) (now a) (2 * (e + 1 - 1))).toNatClampNeg (upd (upd lg (2 * e) (nI a)) (2 * e + 1) (now a) (2 * (e + 1 - 1) + 1))) (e + 1 - 1) = _
  rw [Nat.add_sub_cancel, upd_at, upd_ne _ _ (by omega), upd_at, nI_clamp ha, upd_upd, upd_same]
  exact undoC_congr d now e hd (fun i hi => by rw [upd_ne _ _ (by omega), upd_ne _ _ (by omega)])
theorem undoC_shift {lg lg' : Nat → Int32} {f : Nat} : ∀ (d : Nat) (now : Nat → Int32) (e : Nat), d + f ≤ e → (∀ i, i < 2 * (e - f) → lg' i = lg (2 * f + i)) → undoC lg' d now (e - f) = undoC lg d now e
  | 0, _, _, _, _ => rfl
  | d + 1, now, e, h, hi => by
    show undoC lg' d _ (e - f - 1) = undoC lg d _ (e - 1)
    rw [hi (2 * (e - f - 1)) (by omega), hi (2 * (e - f - 1) + 1) (by omega), show e - f - 1 = e - 1 - f by omega, show 2 * f + 2 * (e - 1 - f) = 2 * (e - 1) by omega, show 2 * f + (2 * (e - 1 - f) + 1) = 2 * (e - 1) + 1 by omega]
    exact undoC_shift d _ (e - 1) (by omega) (fun i h => hi i (by omega))
/-- two undoings, one behind the other -/
theorem undoC_add {lg : Nat → Int32} : ∀ (d1 d2 : Nat) (now : Nat → Int32) (e : Nat), undoC lg (d1 + d2) now e = undoC lg d2 (undoC lg d1 now e) (e - d1)
  | 0, d2, now, e => by rw [Nat.zero_add]; rfl
  | d1 + 1, d2, now, e => by
    rw [show d1 + 1 + d2 = (d1 + d2) + 1 by omega]
    show undoC lg (d1 + d2) _ (e - 1) = undoC lg d2 (undoC lg d1 _ (e - 1)) (e - (d1 + 1))
    rw [undoC_add d1 d2, show e - 1 - d1 = e - (d1 + 1) by omega]
/-- the log of the class: marked up to T, the clock at τ, kept from O on; e entries, f the first that is kept -/
def HC (w : CW) (τ T O b Z : Nat) (hist : Nat → Nat → Int32) (e f d : Nat) (mk : Nat → Nat) : Prop :=
  (w.2 = 2048 * 2 ^ d ∧ d ≤ 9) ∧
  (w.1 1 3 = nI (2 * f) ∧ w.1 1 4 = nI (2 * e) ∧ w.1 1 5 = nI τ ∧ w.1 1 6 = nI O) ∧
  (f ≤ e ∧ 2 * e ≤ w.2 ∧ O ≤ T ∧ T ≤ O + 300 ∧ T < 100000 ∧ mk O = f) ∧
  (∀ t, O ≤ t → t ≤ T → w.1 12 (t % 301) = nI (2 * mk t) ∧ f ≤ mk t ∧ mk t ≤ e ∧ e - mk t ≤ (T - t) * K1 + b ∧ undoC (w.1 13) (e - mk t) (w.1 11) e = hist t) ∧
  (∀ t t', O ≤ t → t ≤ t' → t' ≤ T → mk t ≤ mk t' ∧ mk t' - mk t ≤ (t' - t) * K1 + Z) ∧
  (∀ i, f ≤ i → i < e → ∃ a, a < 8556 ∧ w.1 13 (2 * i) = nI a)
def HCx (w : CW) (τ T O b Z : Nat) (hist : Nat → Nat → Int32) : Prop := ∃ e f d mk, HC w τ T O b Z hist e f d mk
/-- all else stays -/
def Fr (w w' : CW) : Prop := ∀ p, p ≠ 1 → p ≠ 11 → p ≠ 12 → p ≠ 13 → w'.1 p = w.1 p
theorem Fr.refl (w : CW) : Fr w w := fun _ _ _ _ _ => rfl
theorem Fr.trans {a b c : CW} (h1 : Fr a b) (h2 : Fr b c) : Fr a c := fun p a1 a2 a3 a4 => (h2 p a1 a2 a3 a4).trans (h1 p a1 a2 a3 a4)
theorem pow9 {d : Nat} (h : d ≤ 9) : 2 ^ d ≤ 512 ∧ 0 < 2 ^ d := ⟨Nat.le_trans (Nat.pow_le_pow_right (by omega) h) (by decide), Nat.two_pow_pos d⟩
/-- a world with the same log -/
theorem HC.congr {w w' : CW} {τ T O b Z : Nat} {hist : Nat → Nat → Int32} {e f d : Nat} {mk : Nat → Nat} (h : HC w τ T O b Z hist e f d mk) (h2 : w'.2 = w.2) (h1 : w'.1 1 = w.1 1) (h11 : w'.1 11 = w.1 11) (h12 : w'.1 12 = w.1 12) (h13 : w'.1 13 = w.1 13) : HC w' τ T O b Z hist e f d mk := by
  unfold HC at h ⊢
  rw [h2, h1, h11, h12, h13]
  exact h
theorem HC.mono {w : CW} {τ T O b b' Z Z' : Nat} {hist : Nat → Nat → Int32} {e f d : Nat} {mk : Nat → Nat} (h : HC w τ T O b Z hist e f d mk) (hb : b ≤ b') (hZ : Z ≤ Z') : HC w τ T O b' Z' hist e f d mk := by
  obtain ⟨a1, a2, a3, a4, a5, a6⟩ := h
  refine ⟨a1, a2, a3, fun t h1 h2 => ?_, fun t t' h1 h2 h3 => ?_, a6⟩
  · obtain ⟨c1, c2, c3, c4, c5⟩ := a4 t h1 h2
    exact ⟨c1, c2, c3, by omega, c5⟩
  · obtain ⟨c1, c2⟩ := a5 t t' h1 h2 h3
    exact ⟨c1, by omega⟩
theorem HC.live {w : CW} {τ T O b Z : Nat} {hist : Nat → Nat → Int32} {e f d : Nat} {mk : Nat → Nat} (h : HC w τ T O b Z hist e f d mk) : e - f ≤ 399000 + b := by
  obtain ⟨-, -, ⟨h1, h2, h3, h4, h5, h6⟩, a4, -, -⟩ := h
  have := (a4 O (Nat.le_refl _) h3).2.2.2.1
  rw [h6] at this
  have h7 : (T - O) * K1 ≤ 300 * K1 := Nat.mul_le_mul_right _ (by omega)
  have h8 : 300 * K1 = 399000 := by decide
  omega
theorem get_s {w : CW} {a : Nat} (ha : a < 8556) : f_X1_get (nI a) w = some (w.1 11 a) := by
  unfold f_X1_get
  rw [if_neg (nI_pos (by omega)), if_pos (show nI a < Int32.ofNat 8556 from nI_lt (a := a) (b := 8556) ha (by omega)), chk_t (inb_nI ha (by omega)), nI_clamp (by omega)]
theorem grow_s {w : CW} {d : Nat} (h : w.2 = 2048 * 2 ^ d) (hd : d ≤ 8) : f_grow (Int32.ofNat w.2 * 2) w = some ((va_up w.1 13 (growf w), 2 * w.2), 2 ^ d) := by
  have h9 := pow9 (show d ≤ 9 by omega)
  have h8 : 2 ^ d ≤ 256 := Nat.le_trans (Nat.pow_le_pow_right (by omega) hd) (by decide)
  unfold f_grow
  rw [chk_t]
  · congr 2
    omega
  · refine ⟨?_, by omega, by omega, by omega⟩
    rw [show (2 : Int32) = nI 2 from rfl, show Int32.ofNat w.2 = nI w.2 from rfl, pk_mul, Nat.mul_comm]
    rfl
def mx (a : Int32) : Int32 := if 0 < a then a else 0
theorem l45_s : ∀ (n i : Nat) (w : CW), i ≤ 301 → 301 - i < n → f_X1_makeRoom_l45 n (nI i) w = f_X1_makeRoom_b97 (cs (cs (ca w 12 (fun j => if i ≤ j ∧ j < 301 then mx (w.1 12 j - w.1 1 3) else w.1 12 j)) 1 4 (w.1 1 4 - w.1 1 3)) 1 3 0)
  | 0, i, w, _, h => by omega
  | n + 1, i, w, hi, h => by
    show f_X1_makeRoom_l45_body (f_X1_makeRoom_l45 n) (nI i) w = _
    unfold f_X1_makeRoom_l45_body
    by_cases he : i = 301
    · subst he
      rw [if_pos (show (301 : Int32) ≤ nI 301 from nI_le (Nat.le_refl 301) (by omega))]
      have e1 : ca w 12 (fun j => if 301 ≤ j ∧ j < 301 then mx (w.1 12 j - w.1 1 3) else w.1 12 j) = w := by
        rw [show (fun j => if 301 ≤ j ∧ j < 301 then mx (w.1 12 j - w.1 1 3) else w.1 12 j) = w.1 12 from funext fun j => if_neg (by omega)]
        exact ca_self w 12
      rw [e1]
    · rw [if_neg (show ¬ (301 : Int32) ≤ nI i from nI_ge (a := i) (b := 301) (by omega) (by omega)), chk_t (inb_nI (by omega) (by omega)), chk_t (inb_nI (by omega) (by omega)), Option.bind_some, nI_1, nI_clamp (by omega), l45_s n (i + 1) _ (by omega) (by omega)]
      have e2 : cs w 12 i (if (0 : Int32) < w.1 12 i - w.1 1 3 then w.1 12 i - w.1 1 3 else 0) = ca w 12 (upd (w.1 12) i (mx (w.1 12 i - w.1 1 3))) := rfl
      rw [e2, ca_ca, ca_at, ca_ne _ _ (show 1 ≠ 12 by decide)]
      congr 4
      funext j
      by_cases hj : j = i
      · subst hj
        rw [if_neg (by omega), if_pos (by omega), upd_at]
      · rw [upd_ne _ _ hj]
        by_cases h2 : i ≤ j ∧ j < 301
        · rw [if_pos h2, if_pos (by omega)]
        · rw [if_neg h2, if_neg (by omega)]
theorem b97_s {w : CW} {τ T O b Z : Nat} {hist : Nat → Nat → Int32} {e d : Nat} {mk : Nat → Nat} (h : HC w τ T O b Z hist e 0 d mk) (he : e ≤ 524287) :
    ∃ w' n d', f_X1_makeRoom_b97 w = some (w', n) ∧ HC w' τ T O b Z hist e 0 d' mk ∧ 2 * e + 2 ≤ w'.2 ∧ w'.1 11 = w.1 11 ∧ Fr w w' ∧ 4096 * n + 2 * w.2 = 2 * w'.2 := by
  obtain ⟨⟨a1, a2⟩, ⟨b1, b2, b3, b4⟩, ⟨c1, c2, c3, c4, c5, c6⟩, a4, a5, a6⟩ := id h
  have h9 := pow9 a2
  unfold f_X1_makeRoom_b97
  rw [b2, show Int32.ofNat w.2 = nI w.2 from rfl, show (2 : Int32) = nI 2 from rfl, pk_div (by omega) (by omega) (by omega)]
  by_cases h1 : 2 * e ≤ w.2 / 2
  · rw [if_pos (nI_le h1 (by omega))]
    exact ⟨w, 0, d, rfl, h, by omega, rfl, Fr.refl w, by omega⟩
  · rw [if_neg (nI_ge (by omega) (by omega))]
    by_cases h2 : 1048576 ≤ w.2
    · rw [if_pos (show (1048576 : Int32) ≤ nI w.2 from nI_le h2 (by omega))]
      exact ⟨w, 0, d, rfl, h, by omega, rfl, Fr.refl w, by omega⟩
    · rw [if_neg (show ¬ (1048576 : Int32) ≤ nI w.2 from nI_ge (a := w.2) (b := 1048576) (by omega) (by omega))]
      have hd : d ≤ 8 := by
        rcases Nat.lt_or_ge 8 d with q | q
        · have : d = 9 := by omega
          subst this
          omega
        · exact q
      have hg := grow_s a1 hd
      rw [show Int32.ofNat w.2 * 2 = nI w.2 * nI 2 from rfl] at hg
      refine ⟨_, 2 ^ d + 0, d + 1, bnc_of hg rfl, ?_, ?_, rfl, ?_, ?_⟩
      · have e1 : ∀ i, i < 2 * e → growf w i = w.1 13 i := fun i hi => if_pos (by omega)
        refine ⟨⟨?_, by omega⟩, ⟨b1, b2, b3, b4⟩, ⟨c1, ?_, c3, c4, c5, c6⟩, fun t h1 h2 => ?_, a5, fun i h1 h2 => ?_⟩
        · show 2 * w.2 = _
          rw [a1, Nat.pow_succ]; omega
        · show 2 * e ≤ 2 * w.2
          omega
        · obtain ⟨g1, g2, g3, g4, g5⟩ := a4 t h1 h2
          refine ⟨g1, g2, g3, g4, ?_⟩
          show undoC (growf w) _ (w.1 11) e = _
          rw [undoC_congr _ _ _ (by omega) e1]
          exact g5
        · obtain ⟨a, g1, g2⟩ := a6 i h1 h2
          exact ⟨a, g1, by show growf w (2 * i) = _; rw [e1 _ (by omega)]; exact g2⟩
      · show 2 * e + 2 ≤ 2 * w.2
        omega
      · intro p q1 q2 q3 q4
        exact va_up_ne _ _ q4
      · show 4096 * (2 ^ d + 0) + 2 * w.2 = 2 * (2 * w.2)
        omega
theorem makeRoom_s {w : CW} {τ T O b Z : Nat} {hist : Nat → Nat → Int32} {e f d : Nat} {mk : Nat → Nat} (h : HC w τ T O b Z hist e f d mk) (he : e - f ≤ 524287) :
    ∃ w' n e' d' mk', f_X1_makeRoom w = some (w', n) ∧ HC w' τ T O b Z hist e' 0 d' mk' ∧ 2 * e' + 2 ≤ w'.2 ∧ w'.1 11 = w.1 11 ∧ Fr w w' ∧ 4096 * n + 2 * w.2 = 2 * w'.2 := by
  obtain ⟨⟨a1, a2⟩, ⟨b1, b2, b3, b4⟩, ⟨c1, c2, c3, c4, c5, c6⟩, a4, a5, a6⟩ := id h
  have h9 := pow9 a2
  unfold f_X1_makeRoom
  by_cases hf : f = 0
  · subst hf
    rw [if_pos (show w.1 1 3 ≤ 0 by rw [b1]; exact nI_le (a := 2 * 0) (b := 0) (by omega) (by omega))]
    obtain ⟨w', n, d', g1, g2, g3, g4, g5, g6⟩ := b97_s h (by omega)
    exact ⟨w', n, e, d', mk, g1, g2, g3, g4, g5, g6⟩
  · rw [if_neg (show ¬ w.1 1 3 ≤ 0 by rw [b1]; exact nI_nle (by omega) (by omega)), if_neg (show ¬ w.1 1 4 < w.1 1 3 by rw [b1, b2]; exact nI_nlt (by omega) (by omega))]
    have e1 : w.1 1 4 - w.1 1 3 = nI (2 * (e - f)) := by
      rw [b1, b2, pk_sub (by omega)]; congr 1; omega
    rw [e1, chk_t (by
      refine ⟨by rw [b1]; exact nI_pos (by omega), by decide, nI_pos (by omega), ?_, ?_⟩
      · rw [b1, nI_clamp (by omega), nI_clamp (by omega)]; omega
      · rw [nI_clamp (by omega)]; show 0 + _ ≤ _; omega)]
    rw [Option.bind_some, show (0 : Int32) = nI 0 from rfl, l45_s FU 0 _ (by omega) (by unfold FU; omega)]
    rw [b1, nI_clamp (by omega), nI_clamp (show 0 < 2 ^ 31 by omega), nI_clamp (show 2 * (e - f) < 2 ^ 31 by omega)]
    have hcp : ∀ i, i < 2 * (e - f) → va_cpy (w.1 13) (w.1 13) (2 * f) 0 (2 * (e - f)) i = w.1 13 (2 * f + i) := fun i hi => by
      unfold va_cpy; rw [if_pos (by omega), Nat.sub_zero]
    generalize va_cpy (w.1 13) (w.1 13) (2 * f) 0 (2 * (e - f)) = lg at hcp
    have k1 : (ca w 13 lg).1 1 = w.1 1 := ca_ne _ _ (by decide)
    have k12 : (ca w 13 lg).1 12 = w.1 12 := ca_ne _ _ (by decide)
    rw [k1, k12, e1]
    obtain ⟨mk2, hmk2⟩ : ∃ g : Nat → Nat, ∀ t, g t = mk t - f := ⟨fun t => mk t - f, fun _ => rfl⟩
    have H2 : HC (cs (cs (ca (ca w 13 lg) 12 (fun j => if 0 ≤ j ∧ j < 301 then mx (w.1 12 j - w.1 1 3) else w.1 12 j)) 1 4 (nI (2 * (e - f)))) 1 3 (nI 0)) τ T O b Z hist (e - f) 0 d mk2 := by
      have j1 : ∀ k, k ≠ 3 → k ≠ 4 → (cs (cs (ca (ca w 13 lg) 12 (fun j => if 0 ≤ j ∧ j < 301 then mx (w.1 12 j - w.1 1 3) else w.1 12 j)) 1 4 (nI (2 * (e - f)))) 1 3 (nI 0)).1 1 k = w.1 1 k := fun k h3 h4 => by
        rw [cs_at, upd_ne _ _ h3, cs_at, upd_ne _ _ h4, ca_ne _ _ (by decide), k1]
      have j13 : (cs (cs (ca (ca w 13 lg) 12 (fun j => if 0 ≤ j ∧ j < 301 then mx (w.1 12 j - w.1 1 3) else w.1 12 j)) 1 4 (nI (2 * (e - f)))) 1 3 (nI 0)).1 13 = lg := by
        rw [cs_ne _ _ _ (by decide), cs_ne _ _ _ (by decide), ca_ne _ _ (by decide), ca_at]
      have j12 : (cs (cs (ca (ca w 13 lg) 12 (fun j => if 0 ≤ j ∧ j < 301 then mx (w.1 12 j - w.1 1 3) else w.1 12 j)) 1 4 (nI (2 * (e - f)))) 1 3 (nI 0)).1 12 = (fun j => if 0 ≤ j ∧ j < 301 then mx (w.1 12 j - w.1 1 3) else w.1 12 j) := by
        rw [cs_ne _ _ _ (by decide), cs_ne _ _ _ (by decide), ca_at]
      have j11 : (cs (cs (ca (ca w 13 lg) 12 (fun j => if 0 ≤ j ∧ j < 301 then mx (w.1 12 j - w.1 1 3) else w.1 12 j)) 1 4 (nI (2 * (e - f)))) 1 3 (nI 0)).1 11 = w.1 11 := by
        rw [cs_ne _ _ _ (by decide), cs_ne _ _ _ (by decide), ca_ne _ _ (by decide), ca_ne _ _ (by decide)]
      refine ⟨⟨a1, a2⟩, ⟨?_, ?_, ?_, ?_⟩, ⟨by omega, ?_, c3, c4, c5, by rw [hmk2]; omega⟩, fun t h1 h2 => ?_, fun t t' h1 h2 h3 => ?_, fun i h1 h2 => ?_⟩
      · rw [cs_at, upd_at]
      · rw [cs_at, upd_ne _ _ (by decide), cs_at, upd_at]
      · rw [j1 5 (by decide) (by decide)]; exact b3
      · rw [j1 6 (by decide) (by decide)]; exact b4
      · show 2 * (e - f) ≤ w.2
        omega
      · obtain ⟨g1, g2, g3, g4, g5⟩ := a4 t h1 h2
        rw [hmk2]
        refine ⟨?_, by omega, by omega, by omega, ?_⟩
        · rw [j12]
          show (if _ then _ else _) = _
          rw [if_pos ⟨Nat.zero_le _, Nat.mod_lt _ (by omega)⟩, g1, b1, pk_sub (by omega), ← Nat.mul_sub]
          unfold mx
          by_cases h0 : mk t - f = 0
          · rw [h0]; decide
          · rw [if_pos (show (0 : Int32) < nI (2 * (mk t - f)) from nI_lt (a := 0) (b := 2 * (mk t - f)) (by omega) (by omega))]
        · rw [j13, j11, show e - f - (mk t - f) = e - mk t by omega, undoC_shift (e - mk t) (w.1 11) e (by omega) hcp]
          exact g5
      · obtain ⟨g1, g2⟩ := a5 t t' h1 h2 h3
        have g3 := (a4 t h1 (by omega)).2.1
        rw [hmk2, hmk2]
        exact ⟨by omega, by omega⟩
      · obtain ⟨a, g1, g2⟩ := a6 (i + f) (by omega) (by omega)
        exact ⟨a, g1, by rw [j13, hcp _ (by omega), show 2 * f + 2 * i = 2 * (i + f) by omega]; exact g2⟩
    obtain ⟨w', n, d', g1, g2, g3, g4, g5, g6⟩ := b97_s H2 (by omega)
    refine ⟨w', n, e - f, d', _, g1, g2, g3, ?_, ?_, g6⟩
    · rw [g4, cs_ne _ _ _ (by decide), cs_ne _ _ _ (by decide), ca_ne _ _ (by decide), ca_ne _ _ (by decide)]
    · intro p q1 q2 q3 q4
      rw [g5 p q1 q2 q3 q4, cs_ne _ _ _ q1, cs_ne _ _ _ q1, ca_ne _ _ q3, ca_ne _ _ q4]
theorem set_s {w : CW} {τ T O b Z : Nat} {hist : Nat → Nat → Int32} {a : Nat} (v : Int32) (h : HCx w τ T O b Z hist) (ha : a < 8556) (hb : b < 120000) :
    ∃ w' n, f_X1_set (nI a) v w = some (w', n) ∧ HCx w' τ T O (b + 1) Z hist ∧ w'.1 11 = upd (w.1 11) a v ∧ Fr w w' ∧ 4096 * n + 2 * w.2 = 2 * w'.2 := by
  obtain ⟨e, f, d, mk, h⟩ := h
  unfold f_X1_set
  rw [if_neg (nI_pos (by omega)), if_neg (show ¬ Int32.ofNat 8556 ≤ nI a from nI_ge ha (by omega)), chk_t (inb_nI ha (by omega)), nI_clamp (by omega)]
  by_cases hv : w.1 11 a = v
  · rw [if_pos hv]
    exact ⟨w, 0, rfl, ⟨e, f, d, mk, h.mono (by omega) (Nat.le_refl _)⟩, by rw [← hv, upd_same], Fr.refl w, by omega⟩
  · rw [if_neg hv]
    -- the entry is written
    have key : ∀ (w : CW) (e f d : Nat) (mk : Nat → Nat), HC w τ T O b Z hist e f d mk → 2 * e + 2 ≤ w.2 → ∃ w', f_X1_set_b42 (nI a) v w = some (w', 0) ∧ HCx w' τ T O (b + 1) Z hist ∧ w'.1 11 = upd (w.1 11) a v ∧ Fr w w' ∧ w'.2 = w.2 := by
      intro w e f d mk h hr
      obtain ⟨⟨a1, a2⟩, ⟨b1, b2, b3, b4⟩, ⟨c1, c2, c3, c4, c5, c6⟩, a4, a5, a6⟩ := id h
      have h9 := pow9 a2
      unfold f_X1_set_b42
      rw [b2, show Int32.ofNat w.2 - 2 = nI (w.2 - 2) from pk_sub (a := w.2) (b := 2) (by omega), if_neg (nI_nlt (by omega) (by omega)), chk_t (inb_nI (by omega) (by omega)), chk_t (inb_nI ha (by omega)), nI_clamp (by omega), nI_clamp (show a < 2 ^ 31 by omega)]
      have k1 : (cs w 13 (2 * e) (nI a)).1 1 = w.1 1 := cs_ne _ _ _ (by decide)
      have k11 : (cs w 13 (2 * e) (nI a)).1 11 = w.1 11 := cs_ne _ _ _ (by decide)
      rw [k1, k11, b2, cs_2, show nI (2 * e) + (1 : Int32) = nI (2 * e + 1) from nI_1 _, chk_t (inb_nI (by omega) (by omega)), nI_clamp (by omega), Option.bind_some]
      unfold f_X1_set_b93
      rw [chk_t (inb_nI ha (by omega)), nI_clamp (by omega)]
      have m1 : (cs (cs w 13 (2 * e) (nI a)) 13 (2 * e + 1) (w.1 11 a)).1 1 = w.1 1 := by rw [cs_ne _ _ _ (by decide), k1]
      rw [m1, b2, show nI (2 * e) + (2 : Int32) = nI (2 * (e + 1)) from nI_add _ _]
      refine ⟨_, rfl, ⟨e + 1, f, d, mk, ?_⟩, ?_, ?_, rfl⟩
      · have j13 : (cs (cs (cs (cs w 13 (2 * e) (nI a)) 13 (2 * e + 1) (w.1 11 a)) 1 4 (nI (2 * (e + 1)))) 11 a v).1 13 = upd (upd (w.1 13) (2 * e) (nI a)) (2 * e + 1) (w.1 11 a) := by
          rw [cs_ne _ _ _ (by decide), cs_ne _ _ _ (by decide), cs_at, cs_at]
        have j11 : (cs (cs (cs (cs w 13 (2 * e) (nI a)) 13 (2 * e + 1) (w.1 11 a)) 1 4 (nI (2 * (e + 1)))) 11 a v).1 11 = upd (w.1 11) a v := by
          rw [cs_at, cs_ne _ _ _ (by decide), cs_ne _ _ _ (by decide), k11]
        have j12 : (cs (cs (cs (cs w 13 (2 * e) (nI a)) 13 (2 * e + 1) (w.1 11 a)) 1 4 (nI (2 * (e + 1)))) 11 a v).1 12 = w.1 12 := by
          rw [cs_ne _ _ _ (by decide), cs_ne _ _ _ (by decide), cs_ne _ _ _ (by decide), cs_ne _ _ _ (by decide)]
        have j1 : (cs (cs (cs (cs w 13 (2 * e) (nI a)) 13 (2 * e + 1) (w.1 11 a)) 1 4 (nI (2 * (e + 1)))) 11 a v).1 1 = upd (w.1 1) 4 (nI (2 * (e + 1))) := by
          rw [cs_ne _ _ _ (by decide), cs_at, m1]
        refine ⟨⟨a1, a2⟩, ⟨by rw [j1, upd_ne _ _ (by decide)]; exact b1, by rw [j1, upd_at], by rw [j1, upd_ne _ _ (by decide)]; exact b3, by rw [j1, upd_ne _ _ (by decide)]; exact b4⟩, ⟨by omega, by show 2 * (e + 1) ≤ w.2; omega, c3, c4, c5, c6⟩, fun t h1 h2 => ?_, a5, fun i h1 h2 => ?_⟩
        · obtain ⟨g1, g2, g3, g4, g5⟩ := a4 t h1 h2
          refine ⟨by rw [j12]; exact g1, g2, by omega, by omega, ?_⟩
          rw [j13, j11, show e + 1 - mk t = (e - mk t) + 1 by omega, undoC_push (by omega) (by omega)]
          exact g5
        · rw [j13]
          by_cases hi : i = e
          · subst hi
            exact ⟨a, ha, by rw [upd_ne _ _ (by omega), upd_at]⟩
          · obtain ⟨x, g1, g2⟩ := a6 i h1 (by omega)
            exact ⟨x, g1, by rw [upd_ne _ _ (by omega), upd_ne _ _ (by omega)]; exact g2⟩
      · rw [cs_at, cs_ne _ _ _ (by decide), cs_ne _ _ _ (by decide), k11]
      · intro p q1 q2 q3 q4
        rw [cs_ne _ _ _ q2, cs_ne _ _ _ q1, cs_ne _ _ _ q4, cs_ne _ _ _ q4]
    obtain ⟨⟨a1, a2⟩, ⟨b1, b2, b3, b4⟩, ⟨c1, c2, c3, c4, c5, c6⟩, a4, a5, a6⟩ := id h
    have h9 := pow9 a2
    have hl := h.live
    rw [b2, show Int32.ofNat w.2 - 2 = nI (w.2 - 2) from pk_sub (a := w.2) (b := 2) (by omega)]
    by_cases hr : 2 * e ≤ w.2 - 2
    · rw [if_pos (nI_le hr (by omega))]
      obtain ⟨w', g1, g2, g3, g4, g5⟩ := key w e f d mk h (by omega)
      exact ⟨w', 0, g1, g2, g3, g4, by omega⟩
    · rw [if_neg (nI_ge (by omega) (by omega))]
      obtain ⟨w1, n, e1, d1, mk1, g1, g2, g3, g4, g5, g6⟩ := makeRoom_s h (by omega)
      obtain ⟨w', k1, k2, k3, k4, k5⟩ := key w1 e1 0 d1 mk1 g2 g3
      exact ⟨w', n + 0, bnc_of g1 k1, k2, by rw [k3, g4], g5.trans k4, by omega⟩
theorem within_s (x a b : Int32) : f_X9_within x a b = some (if a ≤ x ∧ x ≤ b then 1 else 0) := by
  unfold f_X9_within
  by_cases h1 : x < a
  · rw [if_pos h1, if_neg (fun q => Int32.not_le.mpr h1 q.1)]
  · rw [if_neg h1]
    by_cases h2 : b < x
    · rw [if_pos h2, if_neg (fun q => Int32.not_le.mpr h2 q.2)]
    · rw [if_neg h2, if_pos ⟨Int32.not_lt.mp h1, Int32.not_lt.mp h2⟩]
theorem nI_xor (a b : Nat) : nI a ^^^ nI b = nI (a ^^^ b) := by
  apply Int32.toBitVec_inj.mp
  apply BitVec.eq_of_toNat_eq
  show (BitVec.ofNat 32 a ^^^ BitVec.ofNat 32 b).toNat = (BitVec.ofNat 32 (a ^^^ b)).toNat
  rw [BitVec.toNat_xor, BitVec.toNat_ofNat, BitVec.toNat_ofNat, BitVec.toNat_ofNat, Nat.xor_mod_two_pow]
theorem slot_s {t : Nat} (h : t < 2 ^ 30) : f_X1_slotOf (nI t) = some (nI (t % 301)) := by
  unfold f_X1_slotOf f_J9_floorMod_7cf53
  have e1 : nI t ^^^ (301 : Int32) = nI (t ^^^ 301) := nI_xor t 301
  have e2 : t ^^^ 301 < 2 ^ 30 := Nat.xor_lt_two_pow h (by decide)
  rw [chk_t (by decide), e1, if_pos (nI_pos' (by omega)), Option.bind_some, show (301 : Int32) = nI 301 from rfl, pk_rem (by omega) (by omega) (by omega)]
theorem begin_s {w : CW} {T O b Z : Nat} {hist : Nat → Nat → Int32} (h : HCx w T T O b Z hist) :
    ∃ w' O' hist', f_X1_beginMinute w = some w' ∧ HCx w' (T + 1) T O' b Z hist' ∧ w'.1 11 = w.1 11 ∧ Fr w w' ∧ w'.2 = w.2 ∧ (T = 0 → O' = 0 ∧ hist' 0 = w.1 11) ∧ (T ≠ 0 → O' = O ∧ hist' = hist) := by
  obtain ⟨e, f, d, mk, h⟩ := h
  obtain ⟨⟨a1, a2⟩, ⟨b1, b2, b3, b4⟩, ⟨c1, c2, c3, c4, c5, c6⟩, a4, a5, a6⟩ := id h
  unfold f_X1_beginMinute f_X1_beginMinute_b29
  by_cases hT : T = 0
  · subst hT
    rw [if_pos (show w.1 1 5 = 0 from b3), chk_t (show inb (0 : Int32) 301 by decide), Option.bind_some]
    refine ⟨_, 0, fun _ => w.1 11, rfl, ⟨0, 0, d, fun _ => 0, ⟨⟨a1, a2⟩, ⟨?_, ?_, ?_, ?_⟩, ⟨Nat.le_refl _, by omega, Nat.le_refl _, by omega, by omega, rfl⟩, fun t h1 h2 => ?_, fun t t' h1 h2 h3 => ⟨Nat.le_refl _, by show 0 - 0 ≤ _; omega⟩, fun i h1 h2 => by omega⟩⟩, ?_, ?_, rfl, fun _ => ⟨rfl, rfl⟩, fun q => absurd rfl q⟩
    · rw [cs_at, upd_ne _ _ (by decide), cs_ne _ _ _ (by decide), cs_at, upd_ne _ _ (by decide), cs_at, upd_ne _ _ (by decide), cs_at, upd_at]; rfl
    · rw [cs_at, upd_ne _ _ (by decide), cs_ne _ _ _ (by decide), cs_at, upd_ne _ _ (by decide), cs_at, upd_at]; rfl
    · rw [cs_at, upd_at, cs_ne _ _ _ (by decide), cs_at, upd_ne _ _ (by decide), cs_at, upd_ne _ _ (by decide), cs_at, upd_ne _ _ (by decide), b3]; rfl
    · rw [cs_at, upd_ne _ _ (by decide), cs_ne _ _ _ (by decide), cs_at, upd_at]; rfl
    · have : t = 0 := by omega
      subst this
      refine ⟨?_, Nat.le_refl _, Nat.le_refl _, by omega, ?_⟩
      · rw [cs_ne _ _ _ (by decide), cs_at]
        exact upd_at _ _ _
      · show (cs _ 1 5 _).1 11 = _
        rw [cs_ne _ _ _ (by decide), cs_ne _ _ _ (by decide), cs_ne _ _ _ (by decide), cs_ne _ _ _ (by decide), cs_ne _ _ _ (by decide)]
    · rw [cs_ne _ _ _ (by decide), cs_ne _ _ _ (by decide), cs_ne _ _ _ (by decide), cs_ne _ _ _ (by decide), cs_ne _ _ _ (by decide)]
    · intro p q1 q2 q3 q4
      rw [cs_ne _ _ _ q1, cs_ne _ _ _ q3, cs_ne _ _ _ q1, cs_ne _ _ _ q1, cs_ne _ _ _ q1]
  · rw [if_neg (show ¬ w.1 1 5 = 0 by rw [b3]; exact nI_ne0 (by omega) (by omega))]
    refine ⟨_, O, hist, rfl, ⟨e, f, d, mk, ⟨⟨a1, a2⟩, ⟨?_, ?_, ?_, ?_⟩, ⟨c1, c2, c3, c4, c5, c6⟩, fun t h1 h2 => ?_, a5, fun i h1 h2 => ?_⟩⟩, cs_ne _ _ _ (by decide), ?_, rfl, fun q => absurd q hT, fun _ => ⟨rfl, rfl⟩⟩
    · rw [cs_at, upd_ne _ _ (by decide)]; exact b1
    · rw [cs_at, upd_ne _ _ (by decide)]; exact b2
    · rw [cs_at, upd_at, b3]; exact nI_1 T
    · rw [cs_at, upd_ne _ _ (by decide)]; exact b4
    · rw [cs_ne _ _ _ (show 12 ≠ 1 by decide), cs_ne _ _ _ (show 13 ≠ 1 by decide), cs_ne _ _ _ (show 11 ≠ 1 by decide)]
      exact a4 t h1 h2
    · rw [cs_ne _ _ _ (show 13 ≠ 1 by decide)]
      exact a6 i h1 h2
    · intro p q1 q2 q3 q4
      exact cs_ne _ _ _ q1
theorem end_s {w : CW} {T O b Z : Nat} {hist : Nat → Nat → Int32} (h : HCx w (T + 1) T O b Z hist) (hb : b ≤ Z + K1) (hT : T < 99000) :
    ∃ w' O', f_X1_endMinute w = some w' ∧ HCx w' (T + 1) (T + 1) O' Z Z (fun t => if t = T + 1 then w.1 11 else hist t) ∧ w'.1 11 = w.1 11 ∧ Fr w w' ∧ w'.2 = w.2 ∧ O' = (if O + 300 < T + 1 then T + 1 - 300 else O) := by
  obtain ⟨e, f, d, mk, h⟩ := h
  obtain ⟨⟨a1, a2⟩, ⟨b1, b2, b3, b4⟩, ⟨c1, c2, c3, c4, c5, c6⟩, a4, a5, a6⟩ := id h
  have h9 := pow9 a2
  obtain ⟨O', hO', eO⟩ : ∃ O', O' = (if O + 300 < T + 1 then T + 1 - 300 else O) ∧ (if w.1 1 6 < w.1 1 5 - (300 : Int32) then w.1 1 5 - (300 : Int32) else w.1 1 6) = nI O' := by
    refine ⟨_, rfl, ?_⟩
    rw [b3, b4]
    by_cases h3 : 300 ≤ T + 1
    · rw [show (300 : Int32) = nI 300 from rfl, pk_sub h3]
      by_cases h4 : O + 300 < T + 1
      · rw [if_pos h4, if_pos (nI_lt (by omega) (by omega))]
      · rw [if_neg h4, if_neg (nI_nlt (by omega) (by omega))]
    · rw [if_neg (show ¬ O + 300 < T + 1 by omega), if_neg]
      intro q
      have q1 := Int32.lt_iff_toInt_lt.mp q
      rw [show (300 : Int32) = nI 300 from rfl, pk_sub_toInt (by omega) (by omega), nI_toInt (by omega)] at q1
      omega
  have hOb : O ≤ O' ∧ O' ≤ T ∧ T + 1 ≤ O' + 300 := by
    rw [hO']
    by_cases h4 : O + 300 < T + 1
    · rw [if_pos h4]; omega
    · rw [if_neg h4]; omega
  unfold f_X1_endMinute
  rw [eO, Option.bind_some, cs_at, upd_ne _ _ (by decide), b3, slot_s (by omega), Option.bind_some, chk_t (inb_nI (Nat.mod_lt _ (by omega)) (by omega)), nI_clamp (by omega), upd_ne _ _ (by decide), b2]
  have k6 : (cs (cs w 1 6 (nI O')) 12 ((T + 1) % 301) (nI (2 * e))).1 1 = upd (w.1 1) 6 (nI O') := by rw [cs_ne _ _ _ (by decide), cs_at]
  have k12 : (cs (cs w 1 6 (nI O')) 12 ((T + 1) % 301) (nI (2 * e))).1 12 = upd (w.1 12) ((T + 1) % 301) (nI (2 * e)) := by rw [cs_at, cs_ne _ _ _ (by decide)]
  rw [k6, k12, upd_at, slot_s (by omega), Option.bind_some, chk_t (inb_nI (Nat.mod_lt _ (by omega)) (by omega)), nI_clamp (show O' % 301 < 2 ^ 31 by omega), Option.bind_some]
  have hne : ∀ t, O' ≤ t → t ≤ T → t % 301 ≠ (T + 1) % 301 := fun t h1 h2 => by omega
  rw [upd_ne _ _ (hne O' (Nat.le_refl _) (by omega)), (a4 O' (by omega) (by omega)).1]
  have k11 : (cs (cs (cs w 1 6 (nI O')) 12 ((T + 1) % 301) (nI (2 * e))) 1 3 (nI (2 * mk O'))).1 11 = w.1 11 := by
    rw [cs_ne _ _ _ (by decide), cs_ne _ _ _ (by decide), cs_ne _ _ _ (by decide)]
  have k13 : (cs (cs (cs w 1 6 (nI O')) 12 ((T + 1) % 301) (nI (2 * e))) 1 3 (nI (2 * mk O'))).1 13 = w.1 13 := by
    rw [cs_ne _ _ _ (by decide), cs_ne _ _ _ (by decide), cs_ne _ _ _ (by decide)]
  have k12' : (cs (cs (cs w 1 6 (nI O')) 12 ((T + 1) % 301) (nI (2 * e))) 1 3 (nI (2 * mk O'))).1 12 = upd (w.1 12) ((T + 1) % 301) (nI (2 * e)) := by
    rw [cs_ne _ _ _ (by decide), k12]
  have k1 : (cs (cs (cs w 1 6 (nI O')) 12 ((T + 1) % 301) (nI (2 * e))) 1 3 (nI (2 * mk O'))).1 1 = upd (upd (w.1 1) 6 (nI O')) 3 (nI (2 * mk O')) := by
    rw [cs_at, k6]
  have hK : ∀ t, t ≤ T → (T + 1 - t) * K1 = (T - t) * K1 + K1 := fun t ht => by
    rw [show T + 1 - t = (T - t) + 1 by omega, Nat.succ_mul]
  refine ⟨_, O', rfl, ⟨e, mk O', d, fun t => if t = T + 1 then e else mk t, ⟨⟨a1, a2⟩, ⟨?_, ?_, ?_, ?_⟩, ⟨(a4 O' (by omega) (by omega)).2.2.1, c2, by omega, by omega, by omega, ?_⟩, fun t h1 h2 => ?_, fun t t' h1 h2 h3 => ?_, fun i h1 h2 => ?_⟩⟩, k11, ?_, rfl, hO'⟩
  · rw [k1, upd_at]
  · rw [k1, upd_ne _ _ (by decide), upd_ne _ _ (by decide)]; exact b2
  · rw [k1, upd_ne _ _ (by decide), upd_ne _ _ (by decide)]; exact b3
  · rw [k1, upd_ne _ _ (by decide), upd_at]
  · show (if O' = T + 1 then e else mk O') = mk O'
    rw [if_neg (by omega)]
  · rw [k12', k13, k11]
    by_cases ht : t = T + 1
    · subst ht
      simp only [if_pos]
      refine ⟨upd_at _ _ _, (a4 O' (by omega) (by omega)).2.2.1, Nat.le_refl _, by omega, ?_⟩
      rw [Nat.sub_self]; rfl
    · obtain ⟨g1, g2, g3, g4, g5⟩ := a4 t (by omega) (by omega)
      simp only [if_neg ht]
      refine ⟨by rw [upd_ne _ _ (hne t h1 (by omega))]; exact g1, (a5 O' t (by omega) h1 (by omega)).1, g3, ?_, g5⟩
      have := hK t (by omega)
      omega
  · by_cases ht' : t' = T + 1
    · subst ht'
      by_cases ht : t = T + 1
      · subst ht
        simp only [if_pos]
        exact ⟨Nat.le_refl _, by omega⟩
      · simp only [if_pos, if_neg ht]
        obtain ⟨g1, g2, g3, g4, g5⟩ := a4 t (by omega) (by omega)
        have := hK t (by omega)
        exact ⟨g3, by omega⟩
    · show (if t = T + 1 then e else mk t) ≤ (if t' = T + 1 then e else mk t') ∧ (if t' = T + 1 then e else mk t') - (if t = T + 1 then e else mk t) ≤ _
      rw [if_neg (show t ≠ T + 1 by omega), if_neg ht']
      exact a5 t t' (by omega) h2 (by omega)
  · rw [k13]
    exact a6 i (by have := (a4 O' (by omega) (by omega)).2.1; omega) h2
  · intro p q1 q2 q3 q4
    rw [cs_ne _ _ _ q1, cs_ne _ _ _ q3, cs_ne _ _ _ q1]
theorem undoL_s {x : Nat} : ∀ (n e : Nat) (w : CW), w.1 1 4 = nI (2 * e) → x ≤ e → e - x < n → 2 * e ≤ w.2 → w.2 < 2 ^ 30 → (∀ i, x ≤ i → i < e → ∃ a, a < 8556 ∧ w.1 13 (2 * i) = nI a) →
    f_X1_undoMinutes_l23 n (nI (2 * x)) w = some (ca (cs w 1 4 (nI (2 * x))) 11 (undoC (w.1 13) (e - x) (w.1 11) e))
  | 0, e, w, _, _, h, _, _, _ => by omega
  | n + 1, e, w, h4, hx, hn, he, hl, hv => by
    show f_X1_undoMinutes_l23_body (f_X1_undoMinutes_l23 n) (nI (2 * x)) w = _
    unfold f_X1_undoMinutes_l23_body f_X1_undoMinutes_b91
    rw [h4]
    by_cases hxe : x = e
    · subst hxe
      rw [if_pos (nI_le (Nat.le_refl _) (by omega)), Nat.sub_self]
      have e1 : cs w 1 4 (nI (2 * x)) = w := by rw [ca_cs, ← h4, upd_same, ca_self]
      rw [e1]
      show some w = some (ca w 11 (w.1 11))
      rw [ca_self]
    · obtain ⟨a, ha, hla⟩ := hv (e - 1) (by omega) (by omega)
      rw [if_neg (nI_ge (by omega) (by omega)), if_neg (show ¬ nI (2 * e) < (2 : Int32) from nI_nlt (a := 2 * e) (b := 2) (by omega) (by omega)), show nI (2 * e) - (2 : Int32) = nI (2 * (e - 1)) by rw [show (2 : Int32) = nI 2 from rfl, pk_sub (by omega)]; congr 1; omega]
      rw [cs_at, upd_at, cs_2, chk_t (inb_nI (by omega) (by omega)), nI_clamp (by omega), cs_ne _ _ _ (show 13 ≠ 1 by decide), hla, Option.bind_some, within_s, if_pos ⟨nI_pos' (by omega), show nI a ≤ nI 8555 from nI_le (by omega) (by omega)⟩, Option.bind_some, if_neg (by decide), show nI (2 * (e - 1)) + (1 : Int32) = nI (2 * (e - 1) + 1) from nI_1 _, chk_t (inb_nI (by omega) (by omega)), chk_t (inb_nI ha (by omega)), Option.bind_some, nI_clamp (by omega), nI_clamp (by omega)]
      generalize hw9 : cs (cs w 1 4 (nI (2 * (e - 1)))) 11 a (w.1 13 (2 * (e - 1) + 1)) = w9
      have g4 : w9.1 1 = upd (w.1 1) 4 (nI (2 * (e - 1))) := by rw [← hw9, cs_ne _ _ _ (by decide), cs_at]
      have g13 : w9.1 13 = w.1 13 := by rw [← hw9, cs_ne _ _ _ (by decide), cs_ne _ _ _ (by decide)]
      have g11 : w9.1 11 = upd (w.1 11) a (w.1 13 (2 * (e - 1) + 1)) := by rw [← hw9, cs_at, cs_ne _ _ _ (by decide)]
      have g2 : w9.2 = w.2 := by rw [← hw9]; rfl
      rw [undoL_s n (e - 1) w9 (by rw [g4, upd_at]) (by omega) (by omega) (by rw [g2]; omega) (by rw [g2]; exact hl) (fun i h1 h2 => by rw [g13]; exact hv i h1 (by omega))]
      rw [g13, g11, show e - x = (e - 1 - x) + 1 by omega]
      show _ = some (ca _ 11 (undoC (w.1 13) (e - 1 - x) (upd (w.1 11) (w.1 13 (2 * (e - 1))).toNatClampNeg (w.1 13 (2 * (e - 1) + 1))) (e - 1)))
      rw [hla, nI_clamp (by omega)]
      congr 1
      generalize undoC (w.1 13) (e - 1 - x) (upd (w.1 11) a (w.1 13 (2 * (e - 1) + 1))) (e - 1) = z
      rw [← hw9]
      unfold ca cs
      refine Prod.ext ?_ rfl
      funext q
      by_cases h11 : q = 11
      · subst h11; simp [va_up]
      · by_cases h1 : q = 1
        · subst h1; simp [va_up, upd_upd]
        · simp [va_up, h11, h1]
theorem undo_s {w : CW} {T O b Z n : Nat} {hist : Nat → Nat → Int32} (h : HCx w T T O b Z hist) (hn : 1 ≤ n) (hO : n ≤ T - O) :
    ∃ w', f_X1_undoMinutes (nI n) w = some w' ∧ HCx w' (T - n) (T - n) O Z Z hist ∧ w'.1 11 = hist (T - n) ∧ Fr w w' ∧ w'.2 = w.2 := by
  obtain ⟨e, f, d, mk, h⟩ := h
  obtain ⟨⟨a1, a2⟩, ⟨b1, b2, b3, b4⟩, ⟨c1, c2, c3, c4, c5, c6⟩, a4, a5, a6⟩ := id h
  have h9 := pow9 a2
  obtain ⟨g1, g2, g3, g4, g5⟩ := a4 (T - n) (by omega) (by omega)
  unfold f_X1_undoMinutes
  rw [cs_at, upd_at, b3, pk_sub (by omega), slot_s (by omega), Option.bind_some, chk_t (inb_nI (Nat.mod_lt _ (by omega)) (by omega)), nI_clamp (by omega), cs_ne _ _ _ (show 12 ≠ 1 by decide), g1, Option.bind_some]
  have k4 : (cs w 1 5 (nI (T - n))).1 1 4 = nI (2 * e) := by rw [cs_at, upd_ne _ _ (by decide)]; exact b2
  have k13 : (cs w 1 5 (nI (T - n))).1 13 = w.1 13 := cs_ne _ _ _ (by decide)
  have k11 : (cs w 1 5 (nI (T - n))).1 11 = w.1 11 := cs_ne _ _ _ (by decide)
  rw [undoL_s FU e _ k4 g3 (by unfold FU; omega) c2 (by show w.2 < _; omega) (fun i h1 h2 => by rw [k13]; exact a6 i (by omega) h2), k13, k11, g5]
  refine ⟨_, rfl, ⟨mk (T - n), f, d, mk, ⟨⟨a1, a2⟩, ⟨?_, ?_, ?_, ?_⟩, ⟨g2, by show 2 * mk (T - n) ≤ w.2; omega, by omega, by omega, by omega, c6⟩, fun t h1 h2 => ?_, fun t t' h1 h2 h3 => a5 t t' h1 h2 (by omega), fun i h1 h2 => ?_⟩⟩, ca_at _ _ _, ?_, rfl⟩
  · rw [ca_ne _ _ (by decide), cs_at, upd_ne _ _ (by decide), cs_at, upd_ne _ _ (by decide)]; exact b1
  · rw [ca_ne _ _ (by decide), cs_at, upd_at]
  · rw [ca_ne _ _ (by decide), cs_at, upd_ne _ _ (by decide), cs_at, upd_at]
  · rw [ca_ne _ _ (by decide), cs_at, upd_ne _ _ (by decide), cs_at, upd_ne _ _ (by decide)]; exact b4
  · obtain ⟨q1, q2, q3, q4, q5⟩ := a4 t h1 (by omega)
    obtain ⟨p1, p2⟩ := a5 t (T - n) h1 h2 (by omega)
    refine ⟨by rw [ca_ne _ _ (by decide), cs_ne _ _ _ (by decide), cs_ne _ _ _ (by decide)]; exact q1, q2, p1, p2, ?_⟩
    rw [ca_ne _ _ (show 13 ≠ 11 by decide), cs_ne _ _ _ (by decide), cs_ne _ _ _ (by decide), ca_at, ← g5, ← q5, show e - mk t = (e - mk (T - n)) + (mk (T - n) - mk t) by omega, undoC_add, show e - (e - mk (T - n)) = mk (T - n) by omega]
  · rw [ca_ne _ _ (show 13 ≠ 11 by decide), cs_ne _ _ _ (by decide), cs_ne _ _ _ (by decide)]
    exact a6 i h1 (by omega)
  · intro p q1 q2 q3 q4
    rw [ca_ne _ _ q2, cs_ne _ _ _ q1, cs_ne _ _ _ q1]
