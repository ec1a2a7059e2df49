theorem in_s (x a b : Int32) : f_X10_in x a b = some (if a ≤ x ∧ x ≤ b then 1 else 0) := by
  unfold f_X10_in
  by_cases h1 : x < a
  · rw [if_pos h1, if_neg (fun q => Int32.not_le.mpr h1 q.1)]
  · rw [if_neg h1]
    by_cases h2 : b < x
    · rw [if_pos h2, if_neg (fun q => Int32.not_le.mpr h2 q.2)]
    · rw [if_neg h2, if_pos ⟨Int32.not_lt.mp h1, Int32.not_lt.mp h2⟩]
theorem bz01 (c : Prop) [Decidable c] : (if c then (1 : Int32) else 0) = 0 ∨ (if c then (1 : Int32) else 0) = 1 := by
  by_cases h : c
  · rw [if_pos h]; exact Or.inr rfl
  · rw [if_neg h]; exact Or.inl rfl
theorem isPlace_s (x : Int32) : f_X9_isPlace x = some (if (0 : Int32) ≤ x ∧ x ≤ 59 then 1 else 0) := by
  unfold f_X9_isPlace; rw [within_s, Option.bind_some, chk_t (bz01 _)]
theorem isProgram_s (x : Int32) : f_X9_isProgram x = some (if (0 : Int32) ≤ x ∧ x ≤ 39 then 1 else 0) := by
  unfold f_X9_isProgram; rw [within_s, Option.bind_some, chk_t (bz01 _)]
theorem isTube_s (x : Int32) : f_X9_isTube x = some (if (0 : Int32) ≤ x ∧ x ≤ 11 then 1 else 0) := by
  unfold f_X9_isTube; rw [within_s, Option.bind_some, chk_t (bz01 _)]
theorem isColour_s (x : Int32) : f_X9_isColour x = some (if (0 : Int32) ≤ x ∧ x ≤ 9 then 1 else 0) := by
  unfold f_X9_isColour; rw [within_s, Option.bind_some, chk_t (bz01 _)]
theorem misPlace_s (x : Int32) : f_X10_isPlace x = some (if (0 : Int32) ≤ x ∧ x ≤ 59 then 1 else 0) := by
  unfold f_X10_isPlace; rw [in_s, Option.bind_some, chk_t (bz01 _)]
theorem misProgram_s (x : Int32) : f_X10_isProgram x = some (if (0 : Int32) ≤ x ∧ x ≤ 39 then 1 else 0) := by
  unfold f_X10_isProgram; rw [in_s, Option.bind_some, chk_t (bz01 _)]
theorem misTube_s (x : Int32) : f_X10_isTube x = some (if (0 : Int32) ≤ x ∧ x ≤ 11 then 1 else 0) := by
  unfold f_X10_isTube; rw [in_s, Option.bind_some, chk_t (bz01 _)]
/-- a number in range is a number -/
theorem rng {x : Int32} {n : Nat} (hn : n < 2 ^ 31) (h : (0 : Int32) ≤ x ∧ x ≤ nI n) : ∃ j, j ≤ n ∧ x = nI j := nI_of2 (M := nI n) (nI_toInt hn) (Int32.not_lt.mpr h.1) h.2
theorem rng2 {x : Int32} {a n : Nat} (hn : n < 2 ^ 31) (ha : a ≤ n) (h : nI a ≤ x ∧ x ≤ nI n) : ∃ j, a ≤ j ∧ j ≤ n ∧ x = nI j := by
  obtain ⟨j, h1, rfl⟩ := rng hn ⟨Int32.le_trans (nI_pos' (show a < 2 ^ 31 by omega)) h.1, h.2⟩
  exact ⟨j, (nI_leI (by omega) (by omega)).mp h.1, h1, rfl⟩
theorem cell_s {p k : Nat} : nI p * (78 : Int32) + nI k = nI (78 * p + k) := by
  rw [show (78 : Int32) = nI 78 from rfl, pk_mul, nI_add, Nat.mul_comm]
theorem read_s {w : CW} {p k : Nat} (hp : p < 60) (hk : k < 78) : f_X9_read (nI p) (nI k) w = some (w.1 11 (78 * p + k)) := by
  unfold f_X9_read
  rw [cell_s, get_s (by omega), Option.bind_some]
def OkV (x : Option (CW × Nat)) (w : CW) (τ T O b Z : Nat) (hist : Nat → Nat → Int32) (now' : Nat → Int32) : Prop :=
  ∃ w' n, x = some (w', n) ∧ HCx w' τ T O b Z hist ∧ w'.1 11 = now' ∧ Fr w w' ∧ 4096 * n + 2 * w.2 = 2 * w'.2
def OkI (x : Option ((Int32 × CW) × Nat)) (w : CW) (τ T O b Z : Nat) (hist : Nat → Nat → Int32) (r : Int32) (now' : Nat → Int32) : Prop :=
  ∃ w' n, x = some ((r, w'), n) ∧ HCx w' τ T O b Z hist ∧ w'.1 11 = now' ∧ Fr w w' ∧ 4096 * n + 2 * w.2 = 2 * w'.2
section OK
variable {w : CW} {τ T O b b1 b2 Z : Nat} {hist : Nat → Nat → Int32} {n1 n2 : Nat → Int32}
theorem OkV.bv {x : Option (CW × Nat)} {f : CW → Option (CW × Nat)} (h : OkV x w τ T O b1 Z hist n1) (k : ∀ w1, HCx w1 τ T O b1 Z hist → w1.1 11 = n1 → Fr w w1 → OkV (f w1) w1 τ T O b2 Z hist n2) : OkV (bnc x f) w τ T O b2 Z hist n2 := by
  obtain ⟨w1, m1, e1, h1, h2, h3, h4⟩ := h
  obtain ⟨w2, m2, e2, k1, k2, k3, k4⟩ := k w1 h1 h2 h3
  exact ⟨w2, m1 + m2, bnc_of e1 e2, k1, k2, h3.trans k3, by omega⟩
theorem OkV.bi {x : Option (CW × Nat)} {f : CW → Option ((Int32 × CW) × Nat)} {r : Int32} (h : OkV x w τ T O b1 Z hist n1) (k : ∀ w1, HCx w1 τ T O b1 Z hist → w1.1 11 = n1 → Fr w w1 → OkI (f w1) w1 τ T O b2 Z hist r n2) : OkI (bnc x f) w τ T O b2 Z hist r n2 := by
  obtain ⟨w1, m1, e1, h1, h2, h3, h4⟩ := h
  obtain ⟨w2, m2, e2, k1, k2, k3, k4⟩ := k w1 h1 h2 h3
  exact ⟨w2, m1 + m2, bnc_of e1 e2, k1, k2, h3.trans k3, by omega⟩
theorem OkV.done (h : HCx w τ T O b Z hist) : OkV (some (w, 0)) w τ T O b Z hist (w.1 11) := ⟨w, 0, rfl, h, rfl, Fr.refl w, by omega⟩
theorem OkI.done {r : Int32} (h : HCx w τ T O b Z hist) : OkI (some ((r, w), 0)) w τ T O b Z hist r (w.1 11) := ⟨w, 0, rfl, h, rfl, Fr.refl w, by omega⟩
theorem OkV.to {x : Option (CW × Nat)} (h : OkV x w τ T O b Z hist n1) (e : n1 = n2) : OkV x w τ T O b Z hist n2 := e ▸ h
theorem OkI.to {x : Option ((Int32 × CW) × Nat)} {r : Int32} (h : OkI x w τ T O b Z hist r n1) (e : n1 = n2) : OkI x w τ T O b Z hist r n2 := e ▸ h
theorem HCx.mono {b' Z' : Nat} (h : HCx w τ T O b Z hist) (hb : b ≤ b') (hZ : Z ≤ Z') : HCx w τ T O b' Z' hist := by
  obtain ⟨e, f, d, mk, h⟩ := h
  exact ⟨e, f, d, mk, h.mono hb hZ⟩
theorem HCx.congr {w' : CW} (h : HCx w τ T O b Z hist) (h2 : w'.2 = w.2) (h1 : w'.1 1 = w.1 1) (h11 : w'.1 11 = w.1 11) (h12 : w'.1 12 = w.1 12) (h13 : w'.1 13 = w.1 13) : HCx w' τ T O b Z hist := by
  obtain ⟨e, f, d, mk, h⟩ := h
  exact ⟨e, f, d, mk, h.congr h2 h1 h11 h12 h13⟩
/-- an array that isn't the log's is written -/
theorem HCx.cs {p k : Nat} {v : Int32} (h : HCx w τ T O b Z hist) (h1 : p ≠ 1) (h11 : p ≠ 11) (h12 : p ≠ 12) (h13 : p ≠ 13) : HCx (cs w p k v) τ T O b Z hist :=
  h.congr rfl (cs_ne _ _ _ h1.symm) (cs_ne _ _ _ h11.symm) (cs_ne _ _ _ h12.symm) (cs_ne _ _ _ h13.symm)
theorem OkV.mono {x : Option (CW × Nat)} {b' : Nat} (h : OkV x w τ T O b Z hist n1) (hb : b ≤ b') : OkV x w τ T O b' Z hist n1 := by
  obtain ⟨w1, m1, e1, h1, h2, h3, h4⟩ := h
  exact ⟨w1, m1, e1, h1.mono hb (Nat.le_refl _), h2, h3, h4⟩
theorem set_ok {a : Nat} {v : Int32} (h : HCx w τ T O b Z hist) (ha : a < 8556) (hb : b < 120000) : OkV (f_X1_set (nI a) v w) w τ T O (b + 1) Z hist (upd (w.1 11) a v) := set_s v h ha hb
theorem write_ok {p k : Nat} {v : Int32} (h : HCx w τ T O b Z hist) (hp : p < 60) (hk : k < 78) (hb : b < 120000) : OkV (f_X9_write (nI p) (nI k) v w) w τ T O (b + 1) Z hist (upd (w.1 11) (78 * p + k) v) := by
  unfold f_X9_write
  rw [cell_s]
  exact (set_ok h (by omega) hb).bv (fun w1 h1 e1 _ => (OkV.done h1).to e1)
theorem add_ok {a : Nat} {v : Int32} (h : HCx w τ T O b Z hist) (ha : a < 8556) (hb : b < 120000) : OkV (f_X1_add (nI a) v w) w τ T O (b + 1) Z hist (upd (w.1 11) a (w.1 11 a + v)) := by
  unfold f_X1_add
  rw [get_s ha, Option.bind_some]
  exact (set_ok h ha hb).bv (fun w1 h1 e1 _ => (OkV.done h1).to e1)
theorem growP_ok {p k : Nat} {v : Int32} (h : HCx w τ T O b Z hist) (hp : p < 60) (hk : k < 78) (hb : b < 120000) : OkV (f_X9_grow (nI p) (nI k) v w) w τ T O (b + 1) Z hist (upd (w.1 11) (78 * p + k) (w.1 11 (78 * p + k) + v)) := by
  unfold f_X9_grow
  rw [cell_s]
  exact (add_ok h (by omega) hb).bv (fun w1 h1 e1 _ => (OkV.done h1).to e1)
end OK
