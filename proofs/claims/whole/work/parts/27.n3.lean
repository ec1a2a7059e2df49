section N3
variable {n : Nat} {w : CW} {wm : MW} {T p : Nat}
def nL (a : Nat) : Int64 := Int64.ofNat a
theorem nL_toInt {a : Nat} (h : a < 2 ^ 63) : (nL a).toInt = a := Int64.toInt_ofNat_of_lt h
theorem nI_nL {a : Nat} (h : a < 2 ^ 31) : (nI a).toInt64 = nL a := by
  apply Int64.toInt_inj.mp
  rw [Int32.toInt_toInt64, nI_toInt h, nL_toInt (by omega)]
theorem nL_mul (a b : Nat) : nL a * nL b = nL (a * b) := (Int64.ofNat_mul a b).symm
theorem nL_add (a b : Nat) : nL a + nL b = nL (a + b) := (Int64.ofNat_add a b).symm
theorem nL_sub {a b : Nat} (h : b ≤ a) : nL a - nL b = nL (a - b) := (Int64.ofNat_sub a b h).symm
theorem nL_div {a d : Nat} (ha : a < 2 ^ 62) (h0 : 0 < d) (hd : d < 2 ^ 62) : nL a / nL d = nL (a / d) := by
  apply Int64.toInt_inj.mp
  have hle : a / d ≤ a := Nat.div_le_self a d
  rw [Int64.toInt_div_of_ne_right _ _ (fun q => by
    have := congrArg Int64.toInt q
    rw [nL_toInt (by omega)] at this
    have h2 : (-1 : Int64).toInt = -1 := by decide
    omega), nL_toInt (by omega), nL_toInt (by omega), nL_toInt (by omega)]
  exact (Int.ofNat_tdiv a d).symm
theorem nL_rem {a d : Nat} (ha : a < 2 ^ 62) (h0 : 0 < d) (hd : d < 2 ^ 62) : nL a - nL a / nL d * nL d = nL (a % d) := by
  rw [nL_div ha h0 hd, nL_mul, nL_sub (Nat.div_mul_le_self a d)]
  congr 1
  have := Nat.div_add_mod a d
  rw [Nat.mul_comm] at this
  omega
theorem nL_ne {a : Nat} (h0 : 0 < a) (h : a < 2 ^ 62) : ¬ nL a = 0 := fun q => by
  have := congrArg Int64.toInt q
  rw [nL_toInt (by omega)] at this
  have h2 : (0 : Int64).toInt = 0 := by decide
  omega
theorem nL_cmp {a b : Nat} (ha : a < 2 ^ 62) (hb : b < 2 ^ 62) : lg_cmp (nL a) (nL b) = if b < a then 1 else if a = b then 0 else -1 := by
  unfold lg_cmp
  by_cases h1 : b < a
  · rw [if_pos h1, if_pos]
    show nL b < nL a
    rw [Int64.lt_iff_toInt_lt, nL_toInt (by omega), nL_toInt (by omega)]
    omega
  · rw [if_neg h1, if_neg]
    · by_cases h2 : a = b
      · rw [if_pos h2, if_pos (by rw [h2])]
      · rw [if_neg h2, if_neg]
        intro q
        have := congrArg Int64.toInt q
        rw [nL_toInt (by omega), nL_toInt (by omega)] at this
        omega
    · show ¬ nL b < nL a
      rw [Int64.lt_iff_toInt_lt, nL_toInt (by omega), nL_toInt (by omega)]
      omega
def cN1 (A t : Nat) (wt : Nat → Nat) (W i : Nat) : Nat := if (A * wt t) % W < (A * wt i) % W ∨ (i < t ∧ (A * wt i) % W = (A * wt t) % W) then 1 else 0
def shV (A t : Nat) (wt : Nat → Nat) (W N : Nat) : Nat := A * wt t / W + if A - smN (fun i => A * wt i / W) N ≤ smN (cN1 A t wt W) N then 0 else 1
theorem smN_ext {f g : Nat → Nat} : ∀ (n : Nat), (∀ i, i < n → f i = g i) → smN f n = smN g n
  | 0, _ => rfl
  | n + 1, h => by
    show smN f n + f n = smN g n + g n
    rw [smN_ext n (fun i hi => h i (by omega)), h n (by omega)]
theorem smN_z {f : Nat → Nat} {d : Nat} : ∀ (k : Nat), (∀ i, d ≤ i → i < d + k → f i = 0) → smN f (d + k) = smN f d
  | 0, _ => rfl
  | k + 1, h => by
    show smN f (d + k) + f (d + k) = smN f d
    rw [smN_z k (fun i h1 h2 => h i h1 (by omega)), h (d + k) (by omega) (by omega), Nat.add_zero]
theorem smN_mono {f : Nat → Nat} : ∀ {a b : Nat}, a ≤ b → smN f a ≤ smN f b := by
  intro a b h
  obtain ⟨k, rfl⟩ : ∃ k, b = a + k := ⟨b - a, by omega⟩
  clear h
  induction k with
  | zero => exact Nat.le_refl _
  | succ k ih => show smN f a ≤ smN f (a + k) + f (a + k); omega
theorem fl_sum {A W : Nat} {wt : Nat → Nat} : ∀ (n : Nat), W * smN (fun i => A * wt i / W) n + smN (fun i => (A * wt i) % W) n = A * smN wt n
  | 0 => rfl
  | n + 1 => by
    show W * (smN (fun i => A * wt i / W) n + A * wt n / W) + (smN (fun i => (A * wt i) % W) n + (A * wt n) % W) = A * (smN wt n + wt n)
    have := fl_sum (A := A) (W := W) (wt := wt) n
    have h2 := Nat.div_add_mod (A * wt n) W
    rw [Nat.mul_add, Nat.mul_add]
    omega
theorem fl_le {A W n N : Nat} {wt : Nat → Nat} (hW : W = smN wt N) (h0 : 0 < W) (hn : n ≤ N) : smN (fun i => A * wt i / W) n ≤ A := by
  have h1 := fl_sum (A := A) (W := W) (wt := wt) n
  have h2 : smN wt n ≤ W := by rw [hW]; exact smN_mono hn
  have h3 : A * smN wt n ≤ A * W := Nat.mul_le_mul_left A h2
  have h4 : W * smN (fun i => A * wt i / W) n ≤ W * A := by rw [Nat.mul_comm W A]; omega
  exact Nat.le_of_mul_le_mul_left h4 h0
theorem shC {A t : Nat} {wt : Nat → Nat} (hw : ∀ i, i < 60 → w.1 8 i = nI (wt i)) (hb : ∀ i, i < 60 → wt i < 2 ^ 20) (hA : A ≤ 1000000) (ht : t < 60) (hW : 0 < smN wt 60) : f_X9_shareOf (nI A) (nI t) w = some (nI (shV A t wt (smN wt 60) 60)) := by
  obtain ⟨W, eW⟩ : ∃ W, W = smN wt 60 := ⟨_, rfl⟩
  have hW2 : W ≤ 60 * 2 ^ 20 := by rw [eW]; exact smN_le 60 (fun i hi => Nat.le_of_lt (hb i hi))
  have hAw : ∀ i, i < 60 → A * wt i < 2 ^ 42 := fun i hi => by
    have := Nat.mul_le_mul hA (Nat.le_of_lt (hb i hi))
    omega
  rw [← eW] at hW ⊢
  have eA : (nI A).toInt64 = nL A := nI_nL (by omega)
  have ei : ∀ i, i < 60 → (nI (wt i)).toInt64 = nL (wt i) := fun i hi => nI_nL (by have := hb i hi; omega)
  have l16 : f_X9_shareOf (nI A) (nI t) w = f_X9_shareOf_l16_body (f_X9_shareOf_l16 0) (nI A) (nI t) (nL W) (nI 60) (nI 60) w := by
    unfold f_X9_shareOf
    have := loop_FU (L := fun n i => f_X9_shareOf_l16 n (nI A) (nI t) (nL (smN wt i)) (nI 60) (nI i) w) (N := 60) (res := f_X9_shareOf_l16_body (f_X9_shareOf_l16 0) (nI A) (nI t) (nL W) (nI 60) (nI 60) w) (by omega) (fun n i hi => ?_) (fun n => ?_)
    · exact this
    · show f_X9_shareOf_l16_body (f_X9_shareOf_l16 n) (nI A) (nI t) (nL (smN wt i)) (nI 60) (nI i) w = f_X9_shareOf_l16 n (nI A) (nI t) (nL (smN wt i + wt i)) (nI 60) (nI (i + 1)) w
      unfold f_X9_shareOf_l16_body
      rw [if_neg (nI_ge hi (by omega)), chk_t (inb_nI hi (by omega)), nI_clamp (by omega), hw i hi, ei i hi, nL_add, nI_1]
    · show f_X9_shareOf_l16_body (f_X9_shareOf_l16 n) (nI A) (nI t) (nL (smN wt 60)) (nI 60) (nI 60) w = _
      unfold f_X9_shareOf_l16_body
      rw [if_pos (nI_le (Nat.le_refl _) (by omega)), if_pos (nI_le (Nat.le_refl _) (by omega)), eW]
  rw [l16]
  unfold f_X9_shareOf_l16_body
  rw [if_pos (nI_le (Nat.le_refl _) (by omega)), show (0 : Int64) = nL 0 from rfl, nL_cmp (by omega) (by omega), if_pos hW, if_neg (by decide), isPlace_s, Option.bind_some, gd, if_pos ⟨nI_pos' (by omega), show nI t ≤ nI 59 from nI_le (by omega) (by omega)⟩, chk_t (inb_nI ht (by omega)), nI_clamp (by omega), hw t ht, ei t ht, eA, nL_mul]
  have key := loop_FU (L := fun n i => f_X9_shareOf_l79 n (nI A) (nI t) (nL W) (nL (A * wt t)) (nL (A - smN (fun i => A * wt i / W) i)) (nI (smN (cN1 A t wt W) i)) (nI i) w) (N := 60) (res := some (nI (shV A t wt W 60))) (by omega) (fun n i hi => ?_) (fun n => ?_)
  · exact key
  · show f_X9_shareOf_l79_body (f_X9_shareOf_l79 n) (nI A) (nI t) (nL W) (nL (A * wt t)) (nL (A - smN (fun i => A * wt i / W) i)) (nI (smN (cN1 A t wt W) i)) (nI i) w = f_X9_shareOf_l79 n (nI A) (nI t) (nL W) (nL (A * wt t)) (nL (A - (smN (fun i => A * wt i / W) i + A * wt i / W))) (nI (smN (cN1 A t wt W) i + cN1 A t wt W i)) (nI (i + 1)) w
    unfold f_X9_shareOf_l79_body f_X9_shareOf_b130 f_X9_shareOf_b131 f_X9_shareOf_b150 f_X9_shareOf_b153
    have hle : smN (fun i => A * wt i / W) i + A * wt i / W ≤ A := fl_le (n := i + 1) (N := 60) eW hW (by omega)
    have hrt : (A * wt t) % W < W := Nat.mod_lt _ hW
    have hri : (A * wt i) % W < W := Nat.mod_lt _ hW
    have hne := nL_ne hW (show W < 2 ^ 62 by omega)
    have h1 := hAw i hi
    have h2 := hAw t ht
    rw [if_neg (show ¬ (60 : Int32) ≤ nI i from nI_ge (a := i) (b := 60) hi (by omega)), chk_t (inb_nI hi (by omega)), nI_clamp (by omega), hw i hi, ei i hi, eA, nL_mul]
    simp only [chk_t hne, Option.bind_some]
    rw [nL_rem (by omega) hW (by omega), nL_rem (by omega) hW (by omega), nL_div (by omega) hW (by omega), nL_sub (by omega), nL_cmp (by omega) (by omega), nI_1, nI_1]
    rw [show cN1 A t wt W i = if (A * wt t) % W < (A * wt i) % W ∨ (i < t ∧ (A * wt i) % W = (A * wt t) % W) then 1 else 0 from rfl, show A - smN (fun i => A * wt i / W) i - A * wt i / W = A - (smN (fun i => A * wt i / W) i + A * wt i / W) by omega]
    by_cases g1 : (A * wt t) % W < (A * wt i) % W
    · rw [if_pos g1, if_pos (show (0 : Int32) < 1 by decide), if_pos (show (0 : Int32) < 1 by decide), if_neg (show ¬ (1 : Int32) = 0 by decide), if_pos (Or.inl g1), ite_self]
    · rw [if_neg g1]
      by_cases g2 : (A * wt i) % W = (A * wt t) % W
      · rw [if_pos g2, if_neg (show ¬ (0 : Int32) < 0 by decide), if_neg (show ¬ (0 : Int32) < 0 by decide), if_pos True.intro, if_neg (show ¬ (1 : Int32) = 0 by decide)]
        by_cases g3 : i < t
        · rw [if_neg (nI_ge g3 (by omega)), if_pos (Or.inr ⟨g3, g2⟩), if_pos (show (0 : Int32) = 0 from rfl)]
        · rw [if_pos (nI_le (by omega) (by omega)), if_neg (by rintro (q | q); exact g1 q; exact g3 q.1)]
          rfl
      · rw [if_neg g2, if_neg (show ¬ (0 : Int32) < -1 by decide), if_neg (show ¬ (0 : Int32) < -1 by decide), if_neg (show ¬ (-1 : Int32) = 0 by decide), if_pos True.intro, ite_self, if_neg (by rintro (q | q); exact g1 q; exact g2 q.2)]
        rfl
  · show f_X9_shareOf_l79_body (f_X9_shareOf_l79 n) (nI A) (nI t) (nL W) (nL (A * wt t)) (nL (A - smN (fun i => A * wt i / W) 60)) (nI (smN (cN1 A t wt W) 60)) (nI 60) w = _
    unfold f_X9_shareOf_l79_body shV
    have hcn : smN (cN1 A t wt W) 60 ≤ 60 * 1 := smN_le 60 (fun i hi => by unfold cN1; split <;> omega)
    have h2 := hAw t ht
    have hq : A * wt t / W ≤ A := by
      have := smN_ge (f := fun i => A * wt i / W) 60 t ht
      have h3 := fl_le (A := A) (n := 60) (N := 60) eW hW (by omega)
      exact Nat.le_trans this h3
    rw [if_pos (by decide), chk_t (nL_ne hW (by omega)), nI_nL (by omega), nL_cmp (by omega) (by omega), nL_div (by omega) hW (by omega), show (nL (A * wt t / W)).toInt32 = nI (A * wt t / W) from Int64.toInt32_ofNat']
    by_cases g1 : A - smN (fun i => A * wt i / W) 60 ≤ smN (cN1 A t wt W) 60
    · rw [if_pos g1, if_pos (by split <;> (try split) <;> first | decide | omega)]
      exact congrArg some (nI_add _ 0)
    · rw [if_neg g1, if_neg (by rw [if_neg (by omega), if_neg (by omega)]; decide)]
      exact congrArg some (nI_add _ 1)
theorem shM {m : MW} {A t N : Nat} {wt : Nat → Nat} (hN : N ≤ 60) (hw : ∀ i, i < N → m 12 i = nI (wt i)) (hb : ∀ i, i < N → wt i < 2 ^ 20) (hA : A ≤ 1000000) (ht : t < N) (hW : 0 < smN wt N) : f_X10_shareOf (nI A) (nI N) (nI t) m = some (nI (shV A t wt (smN wt N) N)) := by
  obtain ⟨W, eW⟩ : ∃ W, W = smN wt N := ⟨_, rfl⟩
  have hW2 : W ≤ 60 * 2 ^ 20 := by
    have : W ≤ N * 2 ^ 20 := by rw [eW]; exact smN_le N (fun i hi => Nat.le_of_lt (hb i hi))
    exact Nat.le_trans this (Nat.mul_le_mul_right _ hN)
  have hAw : ∀ i, i < N → A * wt i < 2 ^ 42 := fun i hi => by
    have := Nat.mul_le_mul hA (Nat.le_of_lt (hb i hi))
    omega
  rw [← eW] at hW ⊢
  have eA : (nI A).toInt64 = nL A := nI_nL (by omega)
  have ei : ∀ i, i < N → (nI (wt i)).toInt64 = nL (wt i) := fun i hi => nI_nL (by have := hb i hi; omega)
  have h2 := hAw t ht
  have hne := nL_ne hW (show W < 2 ^ 62 by omega)
  have hrt : (A * wt t) % W < W := Nat.mod_lt _ hW
  have l6 : f_X10_shareOf (nI A) (nI N) (nI t) m = f_X10_shareOf_l56 FU (nI A) (nI N) (nI t) (nL W) (nL A) (nL ((A * wt t) % W)) 0 0 m := by
    unfold f_X10_shareOf
    have := loop_FU (L := fun n i => f_X10_shareOf_l6 n (nI A) (nI N) (nI t) (nL (smN wt i)) (nI i) m) (N := N) (res := f_X10_shareOf_l56 FU (nI A) (nI N) (nI t) (nL W) (nL A) (nL ((A * wt t) % W)) 0 0 m) (by omega) (fun n i hi => ?_) (fun n => ?_)
    · exact this
    · show f_X10_shareOf_l6_body (f_X10_shareOf_l6 n) (nI A) (nI N) (nI t) (nL (smN wt i)) (nI i) m = f_X10_shareOf_l6 n (nI A) (nI N) (nI t) (nL (smN wt i + wt i)) (nI (i + 1)) m
      unfold f_X10_shareOf_l6_body
      rw [if_neg (nI_ge hi (by omega)), chk_t (inb_nI (by omega) (by omega)), nI_clamp (by omega), hw i hi, ei i hi, nL_add, nI_1]
    · show f_X10_shareOf_l6_body (f_X10_shareOf_l6 n) (nI A) (nI N) (nI t) (nL (smN wt N)) (nI N) m = _
      unfold f_X10_shareOf_l6_body
      rw [if_pos (nI_le (Nat.le_refl _) (by omega)), chk_t (inb_nI (by omega) (by omega)), nI_clamp (by omega), hw t ht, ei t ht, eA, nL_mul, ← eW, chk_t hne, Option.bind_some, nL_rem (by omega) hW (by omega)]
  rw [l6]
  have key := loop_FU (L := fun n i => f_X10_shareOf_l56 n (nI A) (nI N) (nI t) (nL W) (nL (A - smN (fun i => A * wt i / W) i)) (nL ((A * wt t) % W)) (nI (smN (cN1 A t wt W) i)) (nI i) m) (N := N) (res := some (nI (shV A t wt W N))) (by omega) (fun n i hi => ?_) (fun n => ?_)
  · exact key
  · show f_X10_shareOf_l56_body (f_X10_shareOf_l56 n) (nI A) (nI N) (nI t) (nL W) (nL (A - smN (fun i => A * wt i / W) i)) (nL ((A * wt t) % W)) (nI (smN (cN1 A t wt W) i)) (nI i) m = f_X10_shareOf_l56 n (nI A) (nI N) (nI t) (nL W) (nL (A - (smN (fun i => A * wt i / W) i + A * wt i / W))) (nL ((A * wt t) % W)) (nI (smN (cN1 A t wt W) i + cN1 A t wt W i)) (nI (i + 1)) m
    unfold f_X10_shareOf_l56_body f_X10_shareOf_b125 f_X10_shareOf_b121 f_X10_shareOf_b126
    have hle : smN (fun i => A * wt i / W) i + A * wt i / W ≤ A := fl_le (n := i + 1) (N := N) eW hW (by omega)
    have hri : (A * wt i) % W < W := Nat.mod_lt _ hW
    have h1 := hAw i hi
    have hib : inb (nI i) 60 := inb_nI (by omega) (by omega)
    have hcl : (nI i).toNatClampNeg = i := nI_clamp (by omega)
    simp only [chk_t hne, chk_t hib, hcl, Option.bind_some]
    rw [if_neg (nI_ge hi (by omega)), hw i hi, ei i hi, eA, nL_mul, nL_rem (by omega) hW (by omega), nL_div (by omega) hW (by omega), nL_sub (by omega), nL_cmp (by omega) (by omega), nI_1 i]
    rw [show cN1 A t wt W i = if (A * wt t) % W < (A * wt i) % W ∨ (i < t ∧ (A * wt i) % W = (A * wt t) % W) then 1 else 0 from rfl, show A - smN (fun i => A * wt i / W) i - A * wt i / W = A - (smN (fun i => A * wt i / W) i + A * wt i / W) by omega]
    by_cases g1 : (A * wt t) % W < (A * wt i) % W
    · rw [if_pos g1, if_pos (show (0 : Int32) < 1 by decide), if_pos (Or.inl g1)]
      exact congrArg (fun z => f_X10_shareOf_l56 n (nI A) (nI N) (nI t) (nL W) (nL (A - (smN (fun i => A * wt i / W) i + A * wt i / W))) (nL ((A * wt t) % W)) z (nI (i + 1)) m) (nI_add _ 1)
    · rw [if_neg g1]
      by_cases g2 : (A * wt i) % W = (A * wt t) % W
      · rw [if_pos g2, if_neg (show ¬ (0 : Int32) < 0 by decide), if_pos (show (0 : Int32) = 0 from rfl)]
        by_cases g3 : i < t
        · rw [if_neg (nI_ge g3 (by omega)), if_pos (Or.inr ⟨g3, g2⟩)]
          exact congrArg (fun z => f_X10_shareOf_l56 n (nI A) (nI N) (nI t) (nL W) (nL (A - (smN (fun i => A * wt i / W) i + A * wt i / W))) (nL ((A * wt t) % W)) z (nI (i + 1)) m) (nI_add _ 1)
        · rw [if_pos (nI_le (by omega) (by omega)), if_neg (by rintro (q | q); exact g1 q; exact g3 q.1)]
          exact congrArg (fun z => f_X10_shareOf_l56 n (nI A) (nI N) (nI t) (nL W) (nL (A - (smN (fun i => A * wt i / W) i + A * wt i / W))) (nL ((A * wt t) % W)) z (nI (i + 1)) m) (nI_add _ 0)
      · rw [if_neg g2, if_neg (show ¬ (0 : Int32) < -1 by decide), if_neg (show ¬ (-1 : Int32) = 0 by decide), if_neg (by rintro (q | q); exact g1 q; exact g2 q.2)]
        exact congrArg (fun z => f_X10_shareOf_l56 n (nI A) (nI N) (nI t) (nL W) (nL (A - (smN (fun i => A * wt i / W) i + A * wt i / W))) (nL ((A * wt t) % W)) z (nI (i + 1)) m) (nI_add _ 0)
  · show f_X10_shareOf_l56_body (f_X10_shareOf_l56 n) (nI A) (nI N) (nI t) (nL W) (nL (A - smN (fun i => A * wt i / W) N)) (nL ((A * wt t) % W)) (nI (smN (cN1 A t wt W) N)) (nI N) m = _
    unfold f_X10_shareOf_l56_body shV
    have hcn : smN (cN1 A t wt W) N ≤ N * 1 := smN_le N (fun i hi => by unfold cN1; split <;> omega)
    have hq : A * wt t / W ≤ A := by
      have := smN_ge (f := fun i => A * wt i / W) N t ht
      have h3 := fl_le (A := A) (n := N) (N := N) eW hW (by omega)
      exact Nat.le_trans this h3
    rw [if_pos (nI_le (Nat.le_refl _) (by omega)), chk_t (inb_nI (by omega) (by omega)), chk_t hne, nI_clamp (by omega), hw t ht, ei t ht, eA, nL_mul, nI_nL (by omega), nL_cmp (by omega) (by omega), nL_div (by omega) hW (by omega), show (nL (A * wt t / W)).toInt32 = nI (A * wt t / W) from Int64.toInt32_ofNat']
    by_cases g1 : A - smN (fun i => A * wt i / W) N ≤ smN (cN1 A t wt W) N
    · rw [if_pos g1, if_pos (by split <;> (try split) <;> first | decide | omega)]
      exact congrArg some (nI_add _ 0)
    · rw [if_neg g1, if_neg (by rw [if_neg (by omega), if_neg (by omega)]; decide)]
      exact congrArg some (nI_add _ 1)
theorem shV_z {A t d : Nat} {wt : Nat → Nat} (hd : d ≤ 60) (ht : t < d) (hz : ∀ i, d ≤ i → i < 60 → wt i = 0) : smN wt 60 = smN wt d ∧ shV A t wt (smN wt d) 60 = shV A t wt (smN wt d) d := by
  have e1 : ∀ (f : Nat → Nat), (∀ i, d ≤ i → i < 60 → f i = 0) → smN f 60 = smN f d := fun f hf => by
    have := smN_z (f := f) (d := d) (60 - d) (fun i h1 h2 => hf i h1 (by omega))
    rw [show d + (60 - d) = 60 by omega] at this
    exact this
  refine ⟨e1 wt hz, ?_⟩
  unfold shV
  rw [e1 (fun i => A * wt i / smN wt d) (fun i h1 h2 => by show A * wt i / _ = 0; rw [hz i h1 h2, Nat.mul_zero, Nat.zero_div]), e1 (cN1 A t wt (smN wt d)) (fun i h1 h2 => by
    unfold cN1
    rw [hz i h1 h2, Nat.mul_zero, Nat.zero_mod]
    exact if_neg (by rintro (q | q) <;> omega))]
theorem shV_0 {A t N : Nat} {wt : Nat → Nat} (ht : wt t = 0) (hW : 0 < smN wt N) : shV A t wt (smN wt N) N = 0 := by
  unfold shV
  rw [ht, Nat.mul_zero, Nat.zero_div, Nat.zero_add, if_pos]
  have h1 := fl_sum (A := A) (W := smN wt N) (wt := wt) N
  have h2 : ∀ n, smN (fun i => (A * wt i) % smN wt N) n ≤ smN wt N * smN (cN1 A t wt (smN wt N)) n := by
    intro n
    induction n with
    | zero => exact Nat.zero_le _
    | succ n ih =>
      show smN (fun i => (A * wt i) % smN wt N) n + (A * wt n) % smN wt N ≤ smN wt N * (smN (cN1 A t wt (smN wt N)) n + cN1 A t wt (smN wt N) n)
      rw [Nat.mul_add]
      have h3 : (A * wt n) % smN wt N < smN wt N := Nat.mod_lt _ hW
      have h4 : (A * wt n) % smN wt N ≤ smN wt N * cN1 A t wt (smN wt N) n := by
        unfold cN1
        rw [ht, Nat.mul_zero, Nat.zero_mod]
        by_cases q : 0 < (A * wt n) % smN wt N
        · rw [if_pos (Or.inl q), Nat.mul_one]; omega
        · have : (A * wt n) % smN wt N = 0 := by omega
          rw [this]; exact Nat.zero_le _
      omega
  have h3 := h2 N
  have h5 : smN wt N * A ≤ smN wt N * (smN (fun i => A * wt i / smN wt N) N + smN (cN1 A t wt (smN wt N)) N) := by
    rw [Nat.mul_add, Nat.mul_comm (smN wt N) A]
    omega
  have := Nat.le_of_mul_le_mul_left h5 hW
  omega
end N3
