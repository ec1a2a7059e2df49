section LOOPS
theorem loop_up {α : Sort _} (L : Nat → Nat → α) (res : α) (N : Nat) (hs : ∀ n i, i < N → L (n + 1) i = L n (i + 1)) (he : ∀ n, L (n + 1) N = res) : ∀ (d n i : Nat), i + d = N → d < n → L n i = res
  | d, 0, i, _, h2 => by omega
  | 0, n + 1, i, h, _ => by
    have : i = N := by omega
    subst this
    exact he n
  | d + 1, n + 1, i, h, h2 => by
    rw [hs n i (by omega)]
    exact loop_up L res N hs he d n (i + 1) (by omega) (by omega)
theorem loop_FU {α : Sort _} {L : Nat → Nat → α} {res : α} {N : Nat} (hN : N < 1000000) (hs : ∀ n i, i < N → L (n + 1) i = L n (i + 1)) (he : ∀ n, L (n + 1) N = res) : L FU 0 = res :=
  loop_up L res N hs he N FU 0 (by omega) (by unfold FU; omega)
def sm (f : Nat → Int32) : Nat → Int32
  | 0 => 0
  | n + 1 => sm f n + f n
theorem sm_ext {f g : Nat → Int32} : ∀ (n : Nat), (∀ i, i < n → f i = g i) → sm f n = sm g n
  | 0, _ => rfl
  | n + 1, h => by
    show sm f n + f n = sm g n + g n
    rw [sm_ext n (fun i hi => h i (by omega)), h n (by omega)]
theorem sm_z {f : Nat → Int32} {d : Nat} : ∀ (k : Nat), (∀ i, d ≤ i → i < d + k → f i = 0) → sm f (d + k) = sm f d
  | 0, _ => rfl
  | k + 1, h => by
    show sm f (d + k) + f (d + k) = sm f d
    rw [sm_z k (fun i h1 h2 => h i h1 (by omega)), h (d + k) (by omega) (by omega), Int32.add_zero]
theorem rem_s {a d : Nat} {x : Int32} (hx : x = nI d) (ha : a < 2 ^ 31) (h0 : 0 < d) (hd : d < 2 ^ 31) : nI a - nI a / x * x = nI (a % d) := by
  have h1 : a / d * d ≤ a := Nat.div_mul_le_self a d
  rw [hx, pk_div ha h0 hd, pk_mul, pk_sub h1]
  congr 1
  have := Nat.div_add_mod a d
  rw [Nat.mul_comm] at this
  omega
variable {w : CW} {m : MW} {T p g : Nat}
def crF (s : Nat → Int32) (p k : Nat) : Int32 := s (104 * p + (14 + k)) * s (8720 + 2 * k)
theorem ccell_s {k : Nat} : f_X6_creditCell (nI p) (nI k) = some (nI (78 * p + (36 + k))) := by
  unfold f_X6_creditCell
  rw [show (36 : Int32) = nI 36 from rfl, cell_s, nI_add, Nat.add_assoc]
theorem creditOf_s (h : Rs (w.1 11) (m 1) T) (hp : p < 60) : f_X6_creditOf (nI p) w = some (sm (crF (m 1) p) 12) := by
  unfold f_X6_creditOf
  refine loop_FU (L := fun n i => f_X6_creditOf_l4 n (nI p) (sm (crF (m 1) p) i) (nI i) w) (N := 12) (by omega) (fun n i hi => ?_) (fun n => ?_)
  · show f_X6_creditOf_l4_body (f_X6_creditOf_l4 n) (nI p) (sm (crF (m 1) p) i) (nI i) w = _
    unfold f_X6_creditOf_l4_body
    rw [if_neg (show ¬ (12 : Int32) ≤ nI i from nI_ge (a := i) (b := 12) hi (by omega)), ccell_s, Option.bind_some, get_s (by omega), Option.bind_some, show (8420 : Int32) + nI i = nI (8420 + i) from nI_add _ _, get_s (by omega), Option.bind_some, nI_1, (h.2.2.1.1 i hi).1, show w.1 11 (78 * p + (36 + i)) = m 1 (104 * p + (14 + i)) from (h.1 p hp).2.1.2.1 i hi]
    rfl
  · show f_X6_creditOf_l4_body (f_X6_creditOf_l4 n) (nI p) (sm (crF (m 1) p) 12) (nI 12) w = _
    unfold f_X6_creditOf_l4_body
    rw [if_pos (by decide)]
theorem mcreditOf_s (hp : p < 60) : f_X10_creditOf (nI p) m = some (sm (crF (m 1) p) 12) := by
  unfold f_X10_creditOf
  refine loop_FU (L := fun n i => f_X10_creditOf_l4 n (nI p) (sm (crF (m 1) p) i) (nI i) m) (N := 12) (by omega) (fun n i hi => ?_) (fun n => ?_)
  · show f_X10_creditOf_l4_body (f_X10_creditOf_l4 n) (nI p) (sm (crF (m 1) p) i) (nI i) m = _
    unfold f_X10_creditOf_l4_body
    rw [if_neg (show ¬ (12 : Int32) ≤ nI i from nI_ge (a := i) (b := 12) hi (by omega)), of_s (k := 14 + i) (by exact nI_add 14 i) (by omega), Option.bind_some, ta_s, chk_t (inb_nI (by omega) (by omega)), Option.bind_some, nI_clamp (by omega), nI_1]
    rfl
  · show f_X10_creditOf_l4_body (f_X10_creditOf_l4 n) (nI p) (sm (crF (m 1) p) 12) (nI 12) m = _
    unfold f_X10_creditOf_l4_body
    rw [if_pos (by decide)]
/-- room of a machine -/
def rmF (s : Nat → Int32) (p : Nat) : Int32 := if s (104 * p) = nI 5 then sm (fun i => s (104 * p + (8 + i))) 6 else s (104 * p + 1)
theorem kind_ex (h : Rs (w.1 11) (m 1) T) (hp : p < 60) (h0 : m 1 (104 * p) ≠ 0) : ∃ k, k ≤ 4 ∧ m 1 (104 * p) = nI (k + 1) := by
  obtain ⟨⟨⟨k, hk, e1⟩, -⟩, -⟩ := h.1 p hp
  have e4 : m 1 (104 * p) = nI k := e1
  cases k with
  | zero => exact absurd e4 h0
  | succ k => exact ⟨k, by omega, e4⟩
theorem kindOf_s {k : Nat} (hp : p < 60) (hk : k ≤ 4) (e : m 1 (104 * p) = nI (k + 1)) : f_X10_kindOf (nI p) m = some (nI k) := by
  unfold f_X10_kindOf
  rw [of_s (k := 0) (by rfl) (by omega), Option.bind_some, Nat.add_zero, e, show nI (k + 1) - (1 : Int32) = nI (k + 1 - 1) from pk_sub (a := k + 1) (b := 1) (by omega), Nat.add_sub_cancel]
theorem kindAt_s {k : Nat} (h : Rs (w.1 11) (m 1) T) (hp : p < 60) (hk : k ≤ 4) (e : m 1 (104 * p) = nI (k + 1)) : f_X9_kindAt (nI p) w = some k := by
  unfold f_X9_kindAt
  have e0 : w.1 11 (78 * p + 0) = nI (k + 1) := (h.1 p hp).1.2.1.trans e
  rw [read_k (k := 0) (by rfl) hp (by omega), Option.bind_some, e0, show nI (k + 1) - (1 : Int32) = nI (k + 1 - 1) from pk_sub (a := k + 1) (b := 1) (by omega), Nat.add_sub_cancel, within_s, Option.bind_some, gd, if_pos ⟨nI_pos' (by omega), show nI k ≤ nI 4 from nI_le hk (by omega)⟩, chk_t (inb_nI (by omega) (by omega)), nI_clamp (by omega)]
theorem roomOf_s (h : Rs (w.1 11) (m 1) T) (hp : p < 60) : f_X9_roomOf (nI p) w = some (rmF (m 1) p) := by
  obtain ⟨a1, a2, a3, a4, ⟨d, d1, d2, d3, d4, d5⟩, a6, a7, a8, a9, a10⟩ := (h.1 p hp).1
  have e1 : f_X9_roomOf (nI p) w = some (sm (fun i => w.1 11 (78 * p + (13 + i))) 6) := by
    unfold f_X9_roomOf
    refine loop_FU (L := fun n i => f_X9_roomOf_l4 n (nI p) (sm (fun i => w.1 11 (78 * p + (13 + i))) i) (nI i) w) (N := 6) (by omega) (fun n i hi => ?_) (fun n => ?_)
    · show f_X9_roomOf_l4_body (f_X9_roomOf_l4 n) (nI p) _ (nI i) w = _
      unfold f_X9_roomOf_l4_body
      rw [if_neg (show ¬ (6 : Int32) ≤ nI i from nI_ge (a := i) (b := 6) hi (by omega)), read_k (k := 13 + i) (by exact nI_add 13 i) hp (by omega), Option.bind_some, nI_1]
      rfl
    · show f_X9_roomOf_l4_body (f_X9_roomOf_l4 n) (nI p) _ (nI 6) w = _
      unfold f_X9_roomOf_l4_body
      rw [if_pos (by decide)]
  rw [e1]
  unfold rmF
  by_cases hk : m 1 (104 * p) = nI 5
  · rw [if_pos hk]
    exact congrArg some (sm_ext 6 (fun i hi => a6 hk i hi))
  · rw [if_neg hk]
    obtain ⟨q1, q2⟩ := a7 hk
    refine (congrArg some (sm_z (f := fun i => w.1 11 (78 * p + (13 + i))) (d := 1) 5 (fun i h1 h2 => q2 i h1 (by omega)))).trans ?_
    show some ((0 : Int32) + w.1 11 (78 * p + (13 + 0))) = _
    rw [Int32.zero_add]
    exact congrArg some q1
theorem mroomOf_s (h : Rs (w.1 11) (m 1) T) (hp : p < 60) (h0 : m 1 (104 * p) ≠ 0) : f_X10_roomOf (nI p) m = some (rmF (m 1) p) := by
  obtain ⟨k, hk, ek⟩ := kind_ex h hp h0
  obtain ⟨a1, a2, a3, a4, ⟨d, d1, d2, d3, d4, d5⟩, a6, a7, a8, a9, a10⟩ := (h.1 p hp).1
  have d2' : m 1 (104 * p + 7) = nI d := d2
  have e1 : f_X10_roomOf (nI p) m = if nI k = (4 : Int32) then some (sm (fun i => m 1 (104 * p + (8 + i))) d) else some (m 1 (104 * p + 1)) := by
    unfold f_X10_roomOf
    refine loop_FU (L := fun n i => f_X10_roomOf_l4 n (nI p) (sm (fun i => m 1 (104 * p + (8 + i))) i) (nI i) m) (N := d) (by omega) (fun n i hi => ?_) (fun n => ?_)
    · show f_X10_roomOf_l4_body (f_X10_roomOf_l4 n) (nI p) _ (nI i) m = _
      unfold f_X10_roomOf_l4_body
      rw [of_s (k := 7) (by rfl) (by omega), Option.bind_some, d2', if_neg (nI_ge hi (by omega)), of_s (k := 8 + i) (by exact nI_add 8 i) (by omega), Option.bind_some, nI_1]
      rfl
    · show f_X10_roomOf_l4_body (f_X10_roomOf_l4 n) (nI p) _ (nI d) m = _
      unfold f_X10_roomOf_l4_body
      rw [of_s (k := 7) (by rfl) (by omega), Option.bind_some, d2', if_pos (nI_le (Nat.le_refl _) (by omega)), kindOf_s hp hk ek, Option.bind_some, of_s (k := 1) (by rfl) (by omega), Option.bind_some]
  rw [e1]
  unfold rmF
  by_cases h4 : k = 4
  · subst h4
    rw [if_pos (by decide), if_pos ek]
    have hz := sm_z (f := fun i => m 1 (104 * p + (8 + i))) (d := d) (6 - d) (fun i h1 h2 => d4 i h1 (by omega))
    rw [show d + (6 - d) = 6 by omega] at hz
    rw [hz]
  · rw [if_neg (show ¬ nI k = (4 : Int32) from fun q => h4 (nI_inj (b := 4) (by omega) (by omega) q)), if_neg (fun q => h4 (by rw [ek] at q; have := nI_inj (by omega) (by omega) q; omega))]
theorem inP_succ (s : Nat → Int32) (i p : Nat) : (inP s (i + 1) p).length = (inP s i p).length + if whr s i = nI p then 1 else 0 := by
  unfold inP
  rw [List.range_succ, List.filter_append, List.length_append]
  by_cases h : whr s i = nI p
  · rw [if_pos h, List.filter_cons_of_pos (by simp [h])]; rfl
  · rw [if_neg h, List.filter_cons_of_neg (by simp [h])]; rfl
theorem inP_le (s : Nat → Int32) (i p : Nat) : (inP s i p).length ≤ i := by
  unfold inP
  exact Nat.le_trans (List.length_filter_le _ _) (by rw [List.length_range]; exact Nat.le_refl _)
theorem la3_s : (8844 : Int32) + 5 * nI g + 3 = nI (8844 + 5 * g + 3) := by rw [lb_s]; exact nI_add _ 3
theorem loadsIn_s {N : Nat} (hN : N ≤ 500) (e : m 1 11345 = nI N) : f_X10_loadsIn (nI p) m = some (nI (inP (m 1) N p).length) := by
  unfold f_X10_loadsIn
  refine loop_FU (L := fun n i => f_X10_loadsIn_l4 n (nI p) (nI (inP (m 1) i p).length) (nI i) m) (N := N) (by omega) (fun n i hi => ?_) (fun n => ?_)
  · show f_X10_loadsIn_l4_body (f_X10_loadsIn_l4 n) (nI p) _ (nI i) m = _
    unfold f_X10_loadsIn_l4_body f_X10_loadsIn_b40
    rw [chk_t (lit_in (a := 11345) (by rfl) (by omega) (by omega)), lit_cl (x := 11345) (a := 11345) (by rfl) (by omega), e, if_neg (nI_ge hi (by omega)), la3_s, chk_t (inb_nI (by omega) (by omega)), nI_clamp (by omega), inP_succ]
    show (if whr (m 1) i = nI p then _ else _) = _
    by_cases h : whr (m 1) i = nI p
    · rw [if_pos h, if_pos h, nI_1, nI_1]
    · rw [if_neg h, if_neg h, nI_1]; exact congrArg (fun z => f_X10_loadsIn_l4 n (nI p) z (nI (i + 1)) m) (nI_add _ 0)
  · show f_X10_loadsIn_l4_body (f_X10_loadsIn_l4 n) (nI p) _ (nI N) m = _
    unfold f_X10_loadsIn_l4_body
    rw [chk_t (lit_in (a := 11345) (by rfl) (by omega) (by omega)), lit_cl (x := 11345) (a := 11345) (by rfl) (by omega), e, if_pos (nI_le (Nat.le_refl _) (by omega))]
theorem cell9_s {N : Nat} (h : Rs (w.1 11) (m 1) T) (hp : p < 60) (hN : N ≤ 500) (e : m 1 11345 = nI N) : w.1 11 (78 * p + 9) = nI (inP (m 1) N p).length ∧ (inP (m 1) N p).length ≤ 8 := by
  obtain ⟨N', l1, l2, l3, l4, l5, l6⟩ := h.2.1
  obtain ⟨Ls, c1, c2, c3, c4⟩ := l6 p hp
  have : N = N' := nI_inj (by omega) (by omega) (e.symm.trans l3)
  subst this
  rw [c2, c4.length_eq]
  exact ⟨rfl, by rw [← c4.length_eq]; exact c1⟩
end LOOPS
