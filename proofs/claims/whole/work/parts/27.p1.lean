section P1
def mnF (f : Nat → Nat) : Nat → Nat
  | 0 => f 0
  | n + 1 => if f (n + 1) < mnF f n then f (n + 1) else mnF f n
theorem mn_succ (f : Nat → Nat) (n : Nat) : mnF f (n + 1) = if f (n + 1) < mnF f n then f (n + 1) else mnF f n := rfl
theorem mn_ex (f : Nat → Nat) : ∀ n, ∃ m, m ≤ n ∧ mnF f n = f m
  | 0 => ⟨0, Nat.le_refl _, rfl⟩
  | n + 1 => by
    obtain ⟨m, h1, h2⟩ := mn_ex f n
    rw [mn_succ]
    by_cases h : f (n + 1) < mnF f n
    · rw [if_pos h]; exact ⟨n + 1, Nat.le_refl _, rfl⟩
    · rw [if_neg h]; exact ⟨m, by omega, h2⟩
theorem mn_le (f : Nat → Nat) : ∀ n m, m ≤ n → mnF f n ≤ f m
  | 0, m, h => by
    have : m = 0 := by omega
    rw [this]; exact Nat.le_refl _
  | n + 1, m, h => by
    rw [mn_succ]
    by_cases e : m = n + 1
    · rw [e]
      by_cases h : f (n + 1) < mnF f n
      · rw [if_pos h]; exact Nat.le_refl _
      · rw [if_neg h]; omega
    · have h1 := mn_le f n m (by omega)
      by_cases h : f (n + 1) < mnF f n
      · rw [if_pos h]; omega
      · rw [if_neg h]; exact h1
theorem mn_eq {f : Nat → Nat} {n r : Nat} (h1 : ∃ m, m ≤ n ∧ r = f m) (h2 : ∀ m, m ≤ n → r ≤ f m) : mnF f n = r := by
  obtain ⟨m, a1, a2⟩ := mn_ex f n
  obtain ⟨m', b1, b2⟩ := h1
  have c1 := mn_le f n m' b1
  have c2 := h2 m a1
  omega
/-- the least number of coins, up to t of them of the value V -/
def MnS (O : Nat → Nat) (V t s r : Nat) : Prop := (∃ m, m ≤ t ∧ m * V ≤ s ∧ r = m + O (s - m * V)) ∧ ∀ m, m ≤ t → m * V ≤ s → r ≤ m + O (s - m * V)
theorem MnS.uniq {O : Nat → Nat} {V t s r r' : Nat} (h : MnS O V t s r) (h' : MnS O V t s r') : r = r' := by
  obtain ⟨⟨m, a1, a2, a3⟩, a4⟩ := h
  obtain ⟨⟨m', b1, b2, b3⟩, b4⟩ := h'
  have c1 := a4 m' b1 b2
  have c2 := b4 m a1 a2
  omega
theorem MnS.zero {O : Nat → Nat} {V s : Nat} : MnS O V 0 s (O s) := by
  refine ⟨⟨0, Nat.le_refl _, by omega, by rw [Nat.zero_mul, Nat.sub_zero, Nat.zero_add]⟩, fun m h1 h2 => ?_⟩
  have : m = 0 := by omega
  rw [this, Nat.zero_mul, Nat.sub_zero, Nat.zero_add]
  exact Nat.le_refl _
theorem MnS.add {O R : Nat → Nat} {V t n s : Nat} (hn : n ≤ t + 1) (hR : ∀ s', s' ≤ s → MnS O V t s' (R s')) : MnS O V (t + n) s (if n * V ≤ s then (if R (s - n * V) + n < R s then R (s - n * V) + n else R s) else R s) := by
  obtain ⟨⟨m1, a1, a2, a3⟩, a4⟩ := hR s (Nat.le_refl _)
  by_cases h : n * V ≤ s
  · obtain ⟨⟨m2, b1, b2, b3⟩, b4⟩ := hR (s - n * V) (by omega)
    rw [if_pos h]
    have ex2 : (n + m2) * V = n * V + m2 * V := Nat.add_mul _ _ _
    have hall : ∀ m, m ≤ t + n → m * V ≤ s → (R s ≤ m + O (s - m * V) ∨ R (s - n * V) + n ≤ m + O (s - m * V)) := by
      intro m h1 h2
      by_cases hm : m ≤ t
      · exact Or.inl (a4 m hm h2)
      · obtain ⟨m', rfl⟩ : ∃ m', m = n + m' := ⟨m - n, by omega⟩
        have e1 : (n + m') * V = n * V + m' * V := Nat.add_mul _ _ _
        have c := b4 m' (by omega) (by omega)
        rw [Nat.sub_sub, ← e1] at c
        exact Or.inr (by omega)
    by_cases hc : R (s - n * V) + n < R s
    · rw [if_pos hc]
      refine ⟨⟨n + m2, by omega, by omega, ?_⟩, fun m h1 h2 => ?_⟩
      · rw [b3, Nat.sub_sub, ← ex2]; omega
      · rcases hall m h1 h2 with c | c <;> omega
    · rw [if_neg hc]
      refine ⟨⟨m1, by omega, a2, a3⟩, fun m h1 h2 => ?_⟩
      rcases hall m h1 h2 with c | c <;> omega
  · rw [if_neg h]
    refine ⟨⟨m1, by omega, a2, a3⟩, fun m h1 h2 => a4 m ?_ h2⟩
    have hlt : m < n := by
      rcases Nat.lt_or_ge m n with c | c
      · exact c
      · have := Nat.mul_le_mul_right V c
        omega
    omega
def mostN (V c s : Nat) : Nat := if V = 0 then 0 else if s / V < c then s / V else c
theorem mostN_le {V c s m : Nat} (hV : 0 < V) : m ≤ mostN V c s ↔ m ≤ c ∧ m * V ≤ s := by
  unfold mostN
  rw [if_neg (by omega), ← Nat.le_div_iff_mul_le hV]
  by_cases h : s / V < c
  · rw [if_pos h]; omega
  · rw [if_neg h]; omega
def optF (I : Nat) (V c : Nat → Nat) : Nat → Nat → Nat
  | 0, s => if s = 0 then 0 else I
  | i + 1, s => mnF (fun n => n + optF I V c i (s - n * V i)) (mostN (V i) (c i) s)
section OPT
variable {I i s : Nat} {V c : Nat → Nat}
theorem opt_succ : optF I V c (i + 1) s = mnF (fun n => n + optF I V c i (s - n * V i)) (mostN (V i) (c i) s) := rfl
theorem opt_pos (hV : 0 < V i) : MnS (optF I V c i) (V i) (c i) s (optF I V c (i + 1) s) := by
  rw [opt_succ]
  refine ⟨?_, fun m h1 h2 => mn_le (fun n => n + optF I V c i (s - n * V i)) _ m ((mostN_le hV).mpr ⟨h1, h2⟩)⟩
  obtain ⟨m, a1, a2⟩ := mn_ex (fun n => n + optF I V c i (s - n * V i)) (mostN (V i) (c i) s)
  obtain ⟨a3, a4⟩ := (mostN_le hV).mp a1
  exact ⟨m, a3, a4, a2⟩
theorem opt_zero (hV : V i = 0) : optF I V c (i + 1) s = optF I V c i s := by
  rw [opt_succ, show mostN (V i) (c i) s = 0 from if_pos hV]
  show 0 + optF I V c i (s - 0 * V i) = _
  rw [Nat.zero_mul, Nat.sub_zero, Nat.zero_add]
theorem opt_le : ∀ (i s : Nat), optF I V c i s ≤ I
  | 0, s => by
    show (if s = 0 then 0 else I) ≤ I
    by_cases h : s = 0
    · rw [if_pos h]; omega
    · rw [if_neg h]; exact Nat.le_refl _
  | i + 1, s => by
    rw [opt_succ]
    have h1 := mn_le (fun n => n + optF I V c i (s - n * V i)) (mostN (V i) (c i) s) 0 (by omega)
    have h2 := opt_le i (s - 0 * V i)
    have h3 : mnF (fun n => n + optF I V c i (s - n * V i)) (mostN (V i) (c i) s) ≤ 0 + optF I V c i (s - 0 * V i) := h1
    omega
/-- two signs for 'never' -/
def NvR (x y s : Nat) : Prop := (x < 9999 ∧ x ≤ s ∧ y = x) ∨ (x = 9999 ∧ y = 1000000)
theorem opt_rel : ∀ (i s : Nat), s ≤ 500 → NvR (optF 9999 V c i s) (optF 1000000 V c i s) s
  | 0, s, hs => by
    show NvR (if s = 0 then 0 else 9999) (if s = 0 then 0 else 1000000) s
    by_cases h : s = 0
    · rw [if_pos h, if_pos h]; exact Or.inl ⟨by omega, by omega, rfl⟩
    · rw [if_neg h, if_neg h]; exact Or.inr ⟨rfl, rfl⟩
  | i + 1, s, hs => by
    by_cases hV : V i = 0
    · rw [opt_zero hV, opt_zero hV]; exact opt_rel i s hs
    · have hV0 : 0 < V i := by omega
      obtain ⟨⟨m1, a1, a2, a3⟩, a4⟩ := opt_pos (I := 9999) (c := c) (s := s) hV0
      obtain ⟨⟨m2, b1, b2, b3⟩, b4⟩ := opt_pos (I := 1000000) (c := c) (s := s) hV0
      have hb : ∀ m, m * V i ≤ s → m ≤ m * V i := fun m _ => Nat.le_mul_of_pos_right m hV0
      have r1 := opt_rel i (s - m1 * V i) (by omega)
      have r2 := opt_rel i (s - m2 * V i) (by omega)
      have c1 := a4 m2 b1 b2
      have c2 := b4 m1 a1 a2
      have c3 := a4 0 (by omega) (by omega)
      have c4 := b4 0 (by omega) (by omega)
      have r0 := opt_rel i (s - 0 * V i) (by omega)
      have l1 := opt_le (I := 9999) (V := V) (c := c) (i + 1) s
      have l2 := opt_le (I := 1000000) (V := V) (c := c) (i + 1) s
      have h1 := hb m1 a2
      have h2 := hb m2 b2
      unfold NvR at r0 r1 r2 ⊢
      omega
end OPT
def pkD (P : Nat → Bool) : Nat → Nat
  | 0 => 0
  | n + 1 => if P (n + 1) = true then n + 1 else pkD P n
theorem pkD_succ (P : Nat → Bool) (n : Nat) : pkD P (n + 1) = if P (n + 1) = true then n + 1 else pkD P n := rfl
theorem pkD_le (P : Nat → Bool) : ∀ n, pkD P n ≤ n
  | 0 => Nat.le_refl _
  | n + 1 => by
    rw [pkD_succ]
    have := pkD_le P n
    by_cases h : P (n + 1) = true
    · rw [if_pos h]; exact Nat.le_refl _
    · rw [if_neg h]; omega
theorem pkD_at {P : Nat → Bool} : ∀ n, (∃ m, m ≤ n ∧ P m = true) → P (pkD P n) = true
  | 0, ⟨m, h1, h2⟩ => by
    have : m = 0 := by omega
    rw [this] at h2; exact h2
  | n + 1, ⟨m, h1, h2⟩ => by
    rw [pkD_succ]
    by_cases h : P (n + 1) = true
    · rw [if_pos h]; exact h
    · rw [if_neg h]
      refine pkD_at n ⟨m, ?_, h2⟩
      rcases Nat.lt_or_ge n m with c | c
      · have : m = n + 1 := by omega
        rw [this] at h2; exact absurd h2 h
      · exact c
theorem pkD_congr {P Q : Nat → Bool} : ∀ n, (∀ m, m ≤ n → P m = Q m) → pkD P n = pkD Q n
  | 0, _ => rfl
  | n + 1, h => by rw [pkD_succ, pkD_succ, h (n + 1) (Nat.le_refl _), pkD_congr n (fun m hm => h m (by omega))]
/-- how many coins of the tube at rank i are picked for the sum s -/
def NN (I : Nat) (V c : Nat → Nat) (i s : Nat) : Nat := pkD (fun n => decide (optF I V c i (s - n * V i) + n = optF I V c (i + 1) s)) (mostN (V i) (c i) s)
section NNS
variable {i s : Nat} {V c : Nat → Nat}
theorem mostN_mul {V c s m : Nat} (h : m ≤ mostN V c s) : m * V ≤ s ∧ m ≤ c := by
  by_cases hV : V = 0
  · unfold mostN at h
    rw [if_pos hV] at h
    have : m = 0 := by omega
    rw [this]; omega
  · obtain ⟨a, b⟩ := (mostN_le (by omega)).mp h
    exact ⟨b, a⟩
theorem NN_le (I : Nat) : NN I V c i s * V i ≤ s ∧ NN I V c i s ≤ c i := mostN_mul (pkD_le _ _)
theorem NN_eq (hs : s ≤ 500) (hr : optF 9999 V c (i + 1) s < 9999) : NN 1000000 V c i s = NN 9999 V c i s := by
  unfold NN
  refine pkD_congr _ (fun m hm => ?_)
  have r1 := opt_rel (V := V) (c := c) (i + 1) s hs
  have r2 := opt_rel (V := V) (c := c) i (s - m * V i) (by omega)
  unfold NvR at r1 r2
  have hm2 := (mostN_mul hm).1
  have hiff : (optF 1000000 V c i (s - m * V i) + m = optF 1000000 V c (i + 1) s) ↔ (optF 9999 V c i (s - m * V i) + m = optF 9999 V c (i + 1) s) := by omega
  exact decide_eq_decide.mpr hiff
theorem NN_ok (hs : s ≤ 500) (hr : optF 9999 V c (i + 1) s < 9999) : optF 9999 V c i (s - NN 9999 V c i s * V i) + NN 9999 V c i s = optF 9999 V c (i + 1) s := by
  have h1 := pkD_at (P := fun n => decide (optF 9999 V c i (s - n * V i) + n = optF 9999 V c (i + 1) s)) (mostN (V i) (c i) s) (by
    obtain ⟨m, a1, a2⟩ := mn_ex (fun n => n + optF 9999 V c i (s - n * V i)) (mostN (V i) (c i) s)
    refine ⟨m, a1, decide_eq_true ?_⟩
    rw [opt_succ, a2]
    exact Nat.add_comm _ _)
  exact of_decide_eq_true h1
end NNS
/-- what is left of A when the ranks above i are served -/
def SSv (I : Nat) (V c : Nat → Nat) (A : Nat) : Nat → Nat
  | 0 => A
  | j + 1 => SSv I V c A j - NN I V c (11 - j) (SSv I V c A j) * V (11 - j)
theorem SS_succ (I : Nat) (V c : Nat → Nat) (A j : Nat) : SSv I V c A (j + 1) = SSv I V c A j - NN I V c (11 - j) (SSv I V c A j) * V (11 - j) := rfl
theorem SS_le {I : Nat} {V c : Nat → Nat} {A : Nat} : ∀ j, SSv I V c A j ≤ A
  | 0 => Nat.le_refl _
  | j + 1 => by
    rw [SS_succ]
    have := SS_le (I := I) (V := V) (c := c) (A := A) j
    omega
theorem SS_ok {V c : Nat → Nat} {A : Nat} (hA : A ≤ 500) (hr : optF 9999 V c 12 A < 9999) : ∀ j, j ≤ 12 → optF 9999 V c (12 - j) (SSv 9999 V c A j) < 9999 ∧ SSv 1000000 V c A j = SSv 9999 V c A j
  | 0, _ => ⟨hr, rfl⟩
  | j + 1, h => by
    obtain ⟨a1, a2⟩ := SS_ok hA hr j (by omega)
    have hle := SS_le (I := 9999) (V := V) (c := c) (A := A) j
    have e1 : 12 - j = (11 - j) + 1 := by omega
    rw [e1] at a1
    have h1 := NN_ok (by omega) a1
    have h2 := NN_eq (s := SSv 9999 V c A j) (by omega) a1
    rw [SS_succ, SS_succ, a2, h2, show 12 - (j + 1) = 11 - j by omega]
    exact ⟨by omega, rfl⟩
/-- down to the first that isn't to be passed -/
def ds (P : Nat → Bool) : Nat → Nat
  | 0 => 0
  | t + 1 => if P t = true then ds P t else t + 1
theorem ds_succ (P : Nat → Bool) (t : Nat) : ds P (t + 1) = if P t = true then ds P t else t + 1 := rfl
theorem ds_spec (P : Nat → Bool) : ∀ n, ds P n ≤ n ∧ (ds P n = 0 ∨ P (ds P n - 1) = false) ∧ ∀ i, ds P n ≤ i → i < n → P i = true
  | 0 => ⟨Nat.le_refl _, Or.inl rfl, fun i _ h => by omega⟩
  | t + 1 => by
    obtain ⟨a1, a2, a3⟩ := ds_spec P t
    rw [ds_succ]
    by_cases h : P t = true
    · rw [if_pos h]
      refine ⟨by omega, a2, fun i h1 h2 => ?_⟩
      by_cases e : i = t
      · rw [e]; exact h
      · exact a3 i h1 (by omega)
    · rw [if_neg h]
      exact ⟨Nat.le_refl _, Or.inr (by rw [Nat.add_sub_cancel]; exact eq_false_of_ne_true h), fun i h1 h2 => by omega⟩
def bvF (v : Nat → Nat) : Nat → Nat → Nat
  | 0 => fun _ => 0
  | q + 1 => insO (bvF v q) (ds (fun t => decide (v q < v (bvF v q t))) q) q
def rF (v : Nat → Nat) : Nat → Nat
  | 0 => 0
  | q + 1 => if v q = 0 then rF v q else rF v q + 1
def moF (v : Nat → Nat) : Nat → Nat → Nat
  | 0 => fun _ => 0
  | q + 1 => if v q = 0 then moF v q else insO (moF v q) (ds (fun t => decide (v (moF v q t) < v q)) (rF v q)) q
theorem rF_le (v : Nat → Nat) : ∀ q, rF v q ≤ q
  | 0 => Nat.le_refl _
  | q + 1 => by
    have := rF_le v q
    show (if v q = 0 then rF v q else rF v q + 1) ≤ q + 1
    by_cases h : v q = 0
    · rw [if_pos h]; omega
    · rw [if_neg h]; omega
/-- the two orders of the tubes -/
def TwoO (v : Nat → Nat) (q r : Nat) (bv mo : Nat → Nat) : Prop :=
  r ≤ q ∧ (∀ i, i < q → bv i < q) ∧ (∀ i j, i < j → j < q → v (bv i) ≤ v (bv j) ∧ bv i ≠ bv j) ∧ (∀ x, x < q → ∃ i, i < q ∧ bv i = x) ∧ (∀ i, i < q - r → v (bv i) = 0) ∧ (∀ j, j < r → mo j = bv (q - 1 - j) ∧ 0 < v (mo j))
theorem twoO {v : Nat → Nat} (hd : ∀ i j, i < 12 → j < 12 → i ≠ j → v i = v j → v i = 0) : ∀ q, q ≤ 12 → TwoO v q (rF v q) (bvF v q) (moF v q)
  | 0, _ => ⟨Nat.le_refl _, fun i h => by omega, fun i j h1 h2 => by omega, fun x h => by omega, fun i h => by omega, fun j h => by
    have : rF v 0 = 0 := rfl
    omega⟩
  | q + 1, h => by
    obtain ⟨t1, t2, t3, t4, t5, t6⟩ := twoO hd q (by omega)
    obtain ⟨a1, a2, a3⟩ := ds_spec (fun t => decide (v q < v (bvF v q t))) q
    show TwoO v (q + 1) (if v q = 0 then rF v q else rF v q + 1) (insO (bvF v q) (ds (fun t => decide (v q < v (bvF v q t))) q) q) (if v q = 0 then moF v q else insO (moF v q) (ds (fun t => decide (v (moF v q t) < v q)) (rF v q)) q)
    generalize hk : ds (fun t => decide (v q < v (bvF v q t))) q = k at a1 a2 a3 ⊢
    generalize hl : ds (fun t => decide (v (moF v q t) < v q)) (rF v q) = l
    have hl' := ds_spec (fun t => decide (v (moF v q t) < v q)) (rF v q)
    rw [hl] at hl'
    obtain ⟨b1, b2, b3⟩ := hl'
    have a2' : k = 0 ∨ v (bvF v q (k - 1)) ≤ v q := by
      rcases a2 with c | c
      · exact Or.inl c
      · exact Or.inr (by have := of_decide_eq_false c; omega)
    have a3' : ∀ i, k ≤ i → i < q → v q < v (bvF v q i) := fun i h1 h2 => of_decide_eq_true (a3 i h1 h2)
    have b2' : l = 0 ∨ v q ≤ v (moF v q (l - 1)) := by
      rcases b2 with c | c
      · exact Or.inl c
      · exact Or.inr (by have := of_decide_eq_false c; omega)
    have b3' : ∀ i, l ≤ i → i < rF v q → v (moF v q i) < v q := fun i h1 h2 => of_decide_eq_true (b3 i h1 h2)
    clear a2 a3 b2 b3 hk hl
    generalize bvF v q = bv at t2 t3 t4 t5 t6 a2' a3' ⊢
    generalize moF v q = mo at t6 b2' b3' ⊢
    generalize rF v q = r at t1 t5 t6 b1 b3' ⊢
    have mono : ∀ i j, i ≤ j → j < q → v (bv i) ≤ v (bv j) := fun i j h1 h2 => by
      by_cases e : i = j
      · rw [e]; exact Nat.le_refl _
      · exact (t3 i j (by omega) h2).1
    have hins : (∀ i, i < q + 1 → insO bv k q i < q + 1) ∧ (∀ i j, i < j → j < q + 1 → v (insO bv k q i) ≤ v (insO bv k q j) ∧ insO bv k q i ≠ insO bv k q j) ∧ (∀ x, x < q + 1 → ∃ i, i < q + 1 ∧ insO bv k q i = x) := by
      refine ⟨fun i hi => ?_, fun i j hij hj => ?_, fun x hx => ?_⟩
      · rcases Nat.lt_trichotomy i k with c | c | c
        · rw [insO_lt c]; have := t2 i (by omega); omega
        · rw [c, insO_at]; omega
        · rw [insO_gt c]; have := t2 (i - 1) (by omega); omega
      · rcases Nat.lt_trichotomy j k with c | c | c
        · rw [insO_lt c, insO_lt (by omega)]; exact t3 i j hij (by omega)
        · rw [c, insO_at, insO_lt (by omega)]
          have h1 := t2 i (by omega)
          refine ⟨?_, by omega⟩
          rcases a2' with h2 | h2
          · omega
          · exact Nat.le_trans (mono i (k - 1) (by omega) (by omega)) h2
        · rw [insO_gt c]
          rcases Nat.lt_trichotomy i k with c2 | c2 | c2
          · rw [insO_lt c2]; exact t3 i (j - 1) (by omega) (by omega)
          · rw [c2, insO_at]
            have h1 := t2 (j - 1) (by omega)
            have h2 := a3' (j - 1) (by omega) (by omega)
            exact ⟨by omega, by omega⟩
          · rw [insO_gt c2]; exact t3 (i - 1) (j - 1) (by omega) (by omega)
      · by_cases e : x = q
        · exact ⟨k, by omega, by rw [insO_at, e]⟩
        · obtain ⟨i, hi, ei⟩ := t4 x (by omega)
          by_cases c : i < k
          · exact ⟨i, by omega, by rw [insO_lt c]; exact ei⟩
          · exact ⟨i + 1, by omega, by rw [insO_gt (by omega), Nat.add_sub_cancel]; exact ei⟩
    by_cases hv : v q = 0
    · rw [if_pos hv, if_pos hv]
      have hkz : q - r ≤ k := by
        rcases Nat.lt_or_ge k (q - r) with c | c
        · have := a3' k (Nat.le_refl _) (by omega)
          rw [t5 k c] at this; omega
        · exact c
      have hkq : k ≤ q - r := by
        rcases a2' with c | c
        · omega
        · rcases Nat.lt_or_ge (q - r) k with d | d
          · have hj := t6 (q - 1 - (k - 1)) (by omega)
            rw [show q - 1 - (q - 1 - (k - 1)) = k - 1 by omega] at hj
            have := hj.2
            rw [hj.1] at this
            omega
          · exact d
      refine ⟨by omega, hins.1, hins.2.1, hins.2.2, fun i hi => ?_, fun j hj => ?_⟩
      · by_cases e : i = k
        · rw [e, insO_at]; exact hv
        · rw [insO_lt (by omega)]; exact t5 i (by omega)
      · rw [insO_gt (by omega), show q + 1 - 1 - j - 1 = q - 1 - j by omega]
        exact t6 j hj
    · rw [if_neg hv, if_neg hv]
      have hkl : k + l = q := by
        rcases Nat.lt_trichotomy (k + l) q with c | c | c
        · exfalso
          by_cases d : l < r
          · have h1 := b3' l (Nat.le_refl _) d
            rw [(t6 l d).1] at h1
            have h2 := a3' (q - 1 - l) (by omega) (by omega)
            omega
          · have h2 := a3' (q - 1 - r) (by omega) (by omega)
            have h3 := t5 (q - 1 - r)
            by_cases e : q - 1 - r < q - r
            · rw [h3 e] at h2; omega
            · omega
        · exact c
        · exfalso
          rcases b2' with d | d
          · omega
          · have h1 := (t6 (l - 1) (by omega)).1
            rw [h1] at d
            rw [show q - 1 - (l - 1) = q - l by omega] at d
            rcases a2' with e | e
            · omega
            · have h2 := mono (q - l) (k - 1) (by omega) (by omega)
              have h3 := t2 (q - l) (by omega)
              have h4 := hd (bv (q - l)) q (by omega) (by omega) (by omega) (by omega)
              omega
      refine ⟨by omega, hins.1, hins.2.1, hins.2.2, fun i hi => ?_, fun j hj => ?_⟩
      · have hik : i < k := by
          rcases Nat.lt_or_ge i k with c | c
          · exact c
          · have := a3' i c (by omega)
            rw [t5 i (by omega)] at this; omega
        rw [insO_lt hik]; exact t5 i (by omega)
      · rcases Nat.lt_trichotomy j l with c | c | c
        · rw [insO_lt c, insO_gt (by omega), show q + 1 - 1 - j - 1 = q - 1 - j by omega]
          exact t6 j (by omega)
        · rw [c, insO_at, show q + 1 - 1 - l = k by omega, insO_at]
          exact ⟨rfl, by omega⟩
        · rw [insO_gt c, insO_lt (by omega), show q + 1 - 1 - j = q - 1 - (j - 1) by omega]
          exact t6 (j - 1) (by omega)
end P1
