/-- a place: kind, price, drums, rooms -/
def RPa (c m : Nat → Int32) : Prop :=
  (∃ k, k ≤ 5 ∧ m 0 = nI k) ∧ c 0 = m 0 ∧ c 1 = m 2 ∧ c 8 = m 7 ∧
  (∃ d, d ≤ 6 ∧ m 7 = nI d ∧ (m 0 ≠ nI 5 → d = 0) ∧ (∀ i, d ≤ i → i < 6 → m (8 + i) = 0) ∧ ∀ i, i < d → m (8 + i) ≠ 0) ∧
  (m 0 = nI 5 → ∀ i, i < 6 → c (13 + i) = m (8 + i)) ∧
  (m 0 ≠ nI 5 → c 13 = m 1 ∧ ∀ i, 1 ≤ i → i < 6 → c (13 + i) = 0) ∧
  (∀ i, i < 6 → ∃ r, r ≤ 20000 ∧ m (8 + i) = nI r) ∧ (∃ r, r ≤ 20000 ∧ m 1 = nI r) ∧ (∃ r, r ≤ 5000 ∧ m 2 = nI r)
/-- a place: its books and credit -/
def RPb (B : Nat) (c m : Nat → Int32) : Prop :=
  (∀ i, i < 9 → c (27 + i) = m (32 + i)) ∧ (∀ k, k < 12 → c (36 + k) = m (14 + k)) ∧ (∃ g, g < B ∧ m 32 = nI g)
/-- a place: its run -/
def RPr (c m : Nat → Int32) : Prop :=
  (m 26 = 0 ∧ c 10 = 0 ∧ c 11 = 0 ∧ c 12 = 0 ∧ m 30 = 0) ∨
  (m 26 = 1 ∧ m 101 = 0 ∧ m 0 ≠ 0 ∧ ∃ n a l, 1 ≤ n ∧ n ≤ 30 ∧ a < n ∧ 1 ≤ l ∧ l ≤ 200 ∧ m 27 = nI n ∧ c 10 = nI n ∧ m 28 = nI a ∧ c 11 = nI a ∧ m 29 = nI l ∧ c 12 = nI l ∧
    ∀ i, i < n → ∃ k u, k ≤ 4 ∧ 1 ≤ u ∧ u ≤ 200 ∧ m (41 + i) = nI k ∧ m (71 + i) = nI u ∧ c (48 + i) = nI (1000 * k + u))
/-- a place: door, lamp, water, paid, waited, break-down -/
def RPc (B : Nat) (c m : Nat → Int32) : Prop :=
  c 2 = m 3 ∧ c 3 = m 4 ∧ c 4 = m 5 ∧ c 5 = m 6 ∧ (m 6 = 0 ∨ m 6 = 1) ∧ c 6 = m 30 ∧ (∃ v, v < B ∧ m 30 = nI v) ∧ c 7 = m 31 ∧
  ((m 101 = 1 ∧ m 4 = 4) ∨ (m 101 = 0 ∧ m 4 ≠ 4))
def RPe (c m : Nat → Int32) : Prop := m 0 = 0 → (∀ k, k < 78 → c k = 0) ∧ ∀ k, k < 104 → m k = 0
def RPl (B : Nat) (c m : Nat → Int32) : Prop := RPa c m ∧ RPb B c m ∧ RPr c m ∧ RPc B c m ∧ RPe c m
def cv (now : Nat → Int32) (p k : Nat) : Int32 := now (78 * p + k)
def mv (s : Nat → Int32) (p k : Nat) : Int32 := s (104 * p + k)
def whr (s : Nat → Int32) (l : Nat) : Int32 := s (8844 + 5 * l + 3)
def inP (s : Nat → Int32) (n p : Nat) : List Nat := (List.range n).filter (fun l => decide (whr s l = nI p))
def RLd (now s : Nat → Int32) : Prop := ∃ n, n ≤ 500 ∧ now 8550 = nI n ∧ s 11345 = nI n ∧ (∀ l, l < 500 → ∀ k, k < 5 → now (5920 + 5 * l + k) = s (8844 + 5 * l + k)) ∧
  (∀ l, l < n → (whr s l = -1 ∨ whr s l = -2 ∨ ∃ p, p < 60 ∧ whr s l = nI p ∧ s (104 * p) ≠ 0) ∧ (∃ x, x ≤ 20000 ∧ s (8844 + 5 * l + 1) = nI x) ∧ ∃ x, x ≤ 9 ∧ s (8844 + 5 * l + 2) = nI x) ∧
  ∀ p, p < 60 → ∃ Ls : List Nat, Ls.length ≤ 8 ∧ now (78 * p + 9) = nI Ls.length ∧ (∀ i x, Ls[i]? = some x → now (78 * p + (19 + i)) = nI x) ∧ Ls.Perm (inP s n p)
def crd (s : Nat → Int32) (p k : Nat) : Nat := (s (104 * p + (14 + k))).toNatClampNeg
def crs (s : Nat → Int32) (k : Nat) : Nat → Nat
  | 0 => 0
  | p + 1 => crs s k p + crd s p k
def RT (now s : Nat → Int32) : Prop := (∀ k, k < 12 → now (8420 + k) = s (8720 + 2 * k) ∧ now (8432 + k) = s (8720 + 2 * k + 1) ∧
    ∃ v x, v ≤ 5000 ∧ x ≤ 1000 ∧ s (8720 + 2 * k) = nI v ∧ s (8720 + 2 * k + 1) = nI x ∧ (∀ p, p < 60 → s (104 * p + (14 + k)) = nI (crd s p k)) ∧ crs s k 60 ≤ x ∧ (v = 0 → x = 0)) ∧
  ∀ i j, i < 12 → j < 12 → i ≠ j → s (8720 + 2 * i) = s (8720 + 2 * j) → s (8720 + 2 * i) = 0
def RG (now s : Nat → Int32) : Prop := ∀ g, g < 40 → (s (6240 + 62 * g) = 0 ∧ now (4680 + 31 * g) = 0) ∨
  (s (6240 + 62 * g) = 1 ∧ ∃ n, n ≤ 30 ∧ s (6240 + 62 * g + 1) = nI n ∧ now (4680 + 31 * g) = nI (n + 1) ∧ ∀ i, i < n → ∃ k u, k ≤ 4 ∧ 1 ≤ u ∧ u ≤ 200 ∧ s (6240 + 62 * g + 2 + i) = nI k ∧ s (6240 + 62 * g + 32 + i) = nI u ∧ now (4680 + 31 * g + 1 + i) = nI (1000 * k + u))
def RX (now s : Nat → Int32) : Prop := ∀ i, i < 100 → now (8444 + i) = s (8744 + i) ∧ (s (8744 + i) = 0 ∨ s (8744 + i) = 1)
def RZ (now s : Nat → Int32) : Prop := (∀ i, i < 3 → now (8544 + i) = s (11353 + i) ∧ now (8547 + i) = s (11350 + i)) ∧ now 8551 = s 11356 ∧ (s 11356 = 0 ∨ s 11356 = 1) ∧ ∀ i, i < 4 → now (8552 + i) = s (11346 + i)
/-- the states: the class's cells, the reference's -/
def Rs (now s : Nat → Int32) (T : Nat) : Prop := (∀ p, p < 60 → RPl (T + 1) (cv now p) (mv s p)) ∧ RLd now s ∧ RT now s ∧ RG now s ∧ RX now s ∧ RZ now s ∧ s 11344 = nI T
/-- what no state holds: touches, the trace, the change given, tickets, findings -/
def Ax (w : CW) (m : MW) (n : Nat) : Prop :=
  (∀ p, p < 60 → w.1 5 p = m 6 p ∧ w.1 6 p = m 6 p) ∧
  (∃ tr, tr ≤ n * 1000000 ∧ m 0 11 = nI tr ∧ w.1 3 2 = nI (tr % 30) ∧ w.1 3 1 = nI (if tr < 30 then tr else 30) ∧ ∀ i, i < 30 → w.1 19 i = m 5 i) ∧
  (∀ k, k < 12 → w.1 17 k = m 7 k) ∧ w.1 0 10 = m 0 7 ∧ w.1 0 11 = m 0 8 ∧ w.1 0 12 = m 0 9
def Rl (n : Nat) (w : CW) (m : MW) : Prop := ∃ T O hc hm, n ≤ 513 ∧ T ≤ 60 * n ∧ HCx w T T O (200 * n) (200 * n) hc ∧ HMx m T O (200 * n) (200 * n) (100000 * n) hm ∧ Rs (w.1 11) (m 1) T ∧ (T ≠ 0 → ∀ t, O ≤ t → t ≤ T → Rs (hc t) (hm t) t) ∧ Ax w m n
theorem HMx.mono {m : MW} {T O b Z C b' Z' C' : Nat} {hist : Nat → Nat → Int32} (h : HMx m T O b Z C hist) (hb : b ≤ b') (hZ : Z ≤ Z') (hC : C ≤ C') : HMx m T O b' Z' C' hist := by
  obtain ⟨c, mk, h⟩ := h
  exact ⟨c, mk, h.mono hb hZ hC⟩
theorem Ax.mono {w : CW} {m : MW} {n n' : Nat} (h : Ax w m n) (hn : n ≤ n') : Ax w m n' := by
  obtain ⟨a1, ⟨tr, b1, b2⟩, a3⟩ := h
  exact ⟨a1, ⟨tr, Nat.le_trans b1 (Nat.mul_le_mul_right _ hn), b2⟩, a3⟩
theorem hRl_bound {n : Nat} {w : CW} {m : MW} (h : Rl n w m) : w.2 ≤ 1048576 := by
  obtain ⟨T, O, hc, hm, -, -, ⟨e, f, d, mk, ⟨⟨a1, a2⟩, -⟩⟩, -⟩ := h
  have := pow9 a2
  omega
theorem Rl_next {n : Nat} {w : CW} {m : MW} (h : Rl n w m) (hn : n < 513) : Rl (n + 1) w m := by
  obtain ⟨T, O, hc, hm, b1, b2, h1, h2, h3, h4, h5⟩ := h
  exact ⟨T, O, hc, hm, by omega, by omega, h1.mono (by omega) (by omega), h2.mono (by omega) (by omega) (by omega), h3, h4, h5.mono (by omega)⟩
def wm0 : MW := fun p => if p = 1 then upd (upd (upd (fun _ => 0) 11353 100) 11354 100) 11355 100 else fun _ => 0
