section M9
variable {n : Nat} {w : CW} {wm : MW} {now s : Nat → Int32} {T p : Nat}
def itL (F : Nat → Int64 → Int64) (a : Int64) : Nat → Int64
  | 0 => a
  | n + 1 => F n (itL F a n)
theorem eq_digest (hR : Rl n w wm) (hn : n < 513) : ∃ r wm2, f_X9_digest w = some r ∧ f_X10_digest wm = some (r, wm2) ∧ Rl (n + 1) w wm2 := by
  have hR1 : Rl n w (mst wm 0 0 0) := hR.thr
  unfold f_X9_digest f_X10_digest
  generalize mst wm 0 0 0 = m at hR1 ⊢
  obtain ⟨T, O, hc, hm, b1, b2, g1, g2, g3, g4, g5⟩ := id hR1
  have ht : w.1 1 5 = nI T := by
    obtain ⟨e, f, d, mk, -, ⟨-, -, q, q2⟩, -⟩ := g1
    exact q
  have hs : m 1 11344 = nI T := g3.2.2.2.2.2.2
  obtain ⟨N, l1, l2, l3, l4, l5, l6⟩ := g3.2.1
  obtain ⟨L, hL⟩ : ∃ L : Nat → Int32, ∀ q, q < 60 → f_X9_minutesLeft (nI q) w = some (L q) ∧ f_X10_leftOf (nI q) m = some (L q) := by
    refine ⟨fun q => (f_X10_leftOf (nI q) m).getD 0, fun q hq => ?_⟩
    obtain ⟨r, e1, e2⟩ := left_s g3 hq
    show f_X9_minutesLeft (nI q) w = some ((f_X10_leftOf (nI q) m).getD 0) ∧ f_X10_leftOf (nI q) m = some ((f_X10_leftOf (nI q) m).getD 0)
    rw [e1, e2]; exact ⟨rfl, rfl⟩
  obtain ⟨F1, hF1⟩ : ∃ F1 : Nat → Int64 → Int64, F1 = fun q a => if m 1 (104 * q) ≠ 0 then ((((((a * 31 + (m 1 (104 * q) - 1).toInt64) * 31 + (m 1 (104 * q + 5)).toInt64) * 31 + (m 1 (104 * q + 4)).toInt64) * 31 + (L q).toInt64) * 31 + (nI (inP (m 1) N q).length).toInt64) * 31 + (sm (crF (m 1) q) 12).toInt64) else a * 31 + (m 1 (104 * q) - 1).toInt64 := ⟨_, rfl⟩
  obtain ⟨F2, hF2⟩ : ∃ F2 : Nat → Int64 → Int64, F2 = fun q a => a * 31 + (m 1 (8720 + 2 * q + 1)).toInt64 := ⟨_, rfl⟩
  obtain ⟨F3, hF3⟩ : ∃ F3 : Nat → Int64 → Int64, F3 = fun q a => a * 31 + (whr (m 1) q).toInt64 := ⟨_, rfl⟩
  have c3 : ∀ a, f_X9_digest_l177 FU a (nI N) 0 w = some (itL F3 a N) := by
    intro a
    refine loop_FU (L := fun n i => f_X9_digest_l177 n (itL F3 a i) (nI N) (nI i) w) (N := N) (by omega) (fun n i hi => ?_) (fun n => ?_)
    · show f_X9_digest_l177_body (f_X9_digest_l177 n) _ (nI N) (nI i) w = f_X9_digest_l177 n (F3 i (itL F3 a i)) (nI N) (nI (i + 1)) w
      unfold f_X9_digest_l177_body
      rw [if_neg (nI_ge hi (by omega)), lcell_s (k := 3) (by rfl), Option.bind_some, get_s (by omega), Option.bind_some, nI_1, l4 i (by omega) 3 (by omega), hF3]
      rfl
    · show f_X9_digest_l177_body (f_X9_digest_l177 n) _ (nI N) (nI N) w = _
      unfold f_X9_digest_l177_body
      rw [if_pos (nI_le (Nat.le_refl _) (by omega))]
  have m3 : ∀ a, f_X10_digest_l159 FU a 0 m = some (itL F3 a N, m) := by
    intro a
    refine loop_FU (L := fun n i => f_X10_digest_l159 n (itL F3 a i) (nI i) m) (N := N) (by omega) (fun n i hi => ?_) (fun n => ?_)
    · show f_X10_digest_l159_body (f_X10_digest_l159 n) _ (nI i) m = f_X10_digest_l159 n (F3 i (itL F3 a i)) (nI (i + 1)) m
      unfold f_X10_digest_l159_body
      rw [chk_t (lit_in (a := 11345) (by rfl) (by omega) (by omega)), lit_cl (x := 11345) (a := 11345) (by rfl) (by omega), l3, if_neg (nI_ge hi (by omega)), la3_s, chk_t (inb_nI (by omega) (by omega)), nI_clamp (by omega), Option.bind_some, nI_1, hF3]
      rfl
    · show f_X10_digest_l159_body (f_X10_digest_l159 n) _ (nI N) m = _
      unfold f_X10_digest_l159_body
      rw [chk_t (lit_in (a := 11345) (by rfl) (by omega) (by omega)), lit_cl (x := 11345) (a := 11345) (by rfl) (by omega), l3, if_pos (nI_le (Nat.le_refl _) (by omega))]
  have c2 : ∀ a, f_X9_digest_l131 FU a 0 w = some (itL F3 (itL F2 a 12) N) := by
    intro a
    refine loop_FU (L := fun n i => f_X9_digest_l131 n (itL F2 a i) (nI i) w) (N := 12) (by omega) (fun n i hi => ?_) (fun n => ?_)
    · show f_X9_digest_l131_body (f_X9_digest_l131 n) _ (nI i) w = f_X9_digest_l131 n (F2 i (itL F2 a i)) (nI (i + 1)) w
      unfold f_X9_digest_l131_body
      rw [if_neg (show ¬ (12 : Int32) ≤ nI i from nI_ge (a := i) (b := 12) hi (by omega)), show (8432 : Int32) + nI i = nI (8432 + i) from nI_add _ _, get_s (by omega), Option.bind_some, nI_1, (g3.2.2.1.1 i hi).2.1, hF2]
    · show f_X9_digest_l131_body (f_X9_digest_l131 n) _ (nI 12) w = _
      unfold f_X9_digest_l131_body
      rw [if_pos (by decide), gl_k (a := 8550) (by rfl) (by omega), Option.bind_some, l2]
      exact c3 _
  have m2 : ∀ a, f_X10_digest_l123 FU a 0 m = some (itL F3 (itL F2 a 12) N, m) := by
    intro a
    refine loop_FU (L := fun n i => f_X10_digest_l123 n (itL F2 a i) (nI i) m) (N := 12) (by omega) (fun n i hi => ?_) (fun n => ?_)
    · show f_X10_digest_l123_body (f_X10_digest_l123 n) _ (nI i) m = f_X10_digest_l123 n (F2 i (itL F2 a i)) (nI (i + 1)) m
      unfold f_X10_digest_l123_body
      rw [if_neg (show ¬ (12 : Int32) ≤ nI i from nI_ge (a := i) (b := 12) hi (by omega)), ta_s, show nI (8720 + 2 * i) + (1 : Int32) = nI (8720 + 2 * i + 1) from nI_add _ _, chk_t (inb_nI (by omega) (by omega)), nI_clamp (by omega), Option.bind_some, nI_1, hF2]
    · show f_X10_digest_l123_body (f_X10_digest_l123 n) _ (nI 12) m = _
      unfold f_X10_digest_l123_body
      rw [if_pos (by decide)]
      exact m3 _
  have c1 : ∀ a, f_X9_digest_l21 FU a 0 w = some (itL F3 (itL F2 (itL F1 a 60) 12) N) := by
    intro a
    refine loop_FU (L := fun n i => f_X9_digest_l21 n (itL F1 a i) (nI i) w) (N := 60) (by omega) (fun n i hi => ?_) (fun n => ?_)
    · show f_X9_digest_l21_body (f_X9_digest_l21 n) _ (nI i) w = f_X9_digest_l21 n (F1 i (itL F1 a i)) (nI (i + 1)) w
      unfold f_X9_digest_l21_body f_X9_digest_b123
      obtain ⟨pa, pb, pr, pc, pe⟩ := g3.1 i hi
      rw [if_neg (show ¬ (60 : Int32) ≤ nI i from nI_ge (a := i) (b := 60) hi (by omega)), read_k (k := 0) (by rfl) hi (by omega), read_k (k := 4) (by rfl) hi (by omega), read_k (k := 3) (by rfl) hi (by omega), read_k (k := 9) (by rfl) hi (by omega), hasMachine_s g3 hi, (hL i hi).1, creditOf_s g3 hi]
      simp only [Option.bind_some, gd]
      rw [nI_1, hF1, show w.1 11 (78 * i + 0) = m 1 (104 * i) from pa.2.1, show w.1 11 (78 * i + 4) = m 1 (104 * i + 5) from pc.2.2.1, show w.1 11 (78 * i + 3) = m 1 (104 * i + 4) from pc.2.1, (cell9_s g3 hi l1 l3).1]
      show _ = f_X9_digest_l21 n (if m 1 (104 * i) ≠ 0 then _ else _) (nI (i + 1)) w
      by_cases h0 : m 1 (104 * i) ≠ 0
      · rw [if_pos h0, if_pos h0]
      · rw [if_neg h0, if_neg h0]
    · show f_X9_digest_l21_body (f_X9_digest_l21 n) _ (nI 60) w = _
      unfold f_X9_digest_l21_body
      rw [if_pos (by decide)]
      exact c2 _
  have m1 : ∀ a, f_X10_digest_l21 FU a 0 m = some (itL F3 (itL F2 (itL F1 a 60) 12) N, m) := by
    intro a
    refine loop_FU (L := fun n i => f_X10_digest_l21 n (itL F1 a i) (nI i) m) (N := 60) (by omega) (fun n i hi => ?_) (fun n => ?_)
    · show f_X10_digest_l21_body (f_X10_digest_l21 n) _ (nI i) m = f_X10_digest_l21 n (F1 i (itL F1 a i)) (nI (i + 1)) m
      unfold f_X10_digest_l21_body f_X10_digest_b115
      have hk : f_X10_kindOf (nI i) m = some (m 1 (104 * i) - 1) := by
        unfold f_X10_kindOf
        rw [of_s (k := 0) (by rfl) (by omega), Option.bind_some, Nat.add_zero]
      rw [if_neg (show ¬ (60 : Int32) ≤ nI i from nI_ge (a := i) (b := 60) hi (by omega)), hk, isThere_s g3 hi, of_s (k := 5) (by rfl) (by omega), of_s (k := 4) (by rfl) (by omega), (hL i hi).2, loadsIn_s l1 l3, mcreditOf_s hi]
      simp only [Option.bind_some, gd]
      rw [nI_1, hF1]
      show _ = f_X10_digest_l21 n (if m 1 (104 * i) ≠ 0 then _ else _) (nI (i + 1)) m
      by_cases h0 : m 1 (104 * i) ≠ 0
      · rw [if_pos h0, if_pos h0]
      · rw [if_neg h0, if_neg h0]
    · show f_X10_digest_l21_body (f_X10_digest_l21 n) _ (nI 60) m = _
      unfold f_X10_digest_l21_body
      rw [if_pos (by decide)]
      exact m2 _
  rw [show f_X1_time w = some (w.1 1 5) from rfl, Option.bind_some, ht, c1, chk_t (lit_in (a := 11344) (by rfl) (by omega) (by omega)), lit_cl (x := 11344) (a := 11344) (by rfl) (by omega), Option.bind_some, hs, m1, show (17 : Int64) * 31 = 527 by decide]
  exact ⟨_, m, rfl, rfl, Rl_next hR1 hn⟩
/-- lists of loads -/
def lsum (f : Nat → Int32) : List Nat → Int32
  | [] => 0
  | x :: l => f x + lsum f l
theorem lsum_append (f : Nat → Int32) : ∀ (a b : List Nat), lsum f (a ++ b) = lsum f a + lsum f b
  | [], b => by show lsum f b = 0 + lsum f b; rw [Int32.zero_add]
  | x :: a, b => by
    show f x + lsum f (a ++ b) = f x + lsum f a + lsum f b
    rw [lsum_append f a b, Int32.add_assoc]
theorem lsum_perm (f : Nat → Int32) {a b : List Nat} (h : a.Perm b) : lsum f a = lsum f b := by
  induction h with
  | nil => rfl
  | cons x _ ih => show f x + _ = f x + _; rw [ih]
  | swap x y l =>
    show f y + (f x + lsum f l) = f x + (f y + lsum f l)
    rw [← Int32.add_assoc, ← Int32.add_assoc, Int32.add_comm (f y)]
  | trans _ _ ih1 ih2 => exact ih1.trans ih2
theorem inP_snoc (s : Nat → Int32) (i p : Nat) : inP s (i + 1) p = inP s i p ++ if whr s i = nI p then [i] else [] := by
  unfold inP
  rw [List.range_succ, List.filter_append]
  by_cases h : whr s i = nI p
  · rw [if_pos h, List.filter_cons_of_pos (by simp [h])]; rfl
  · rw [if_neg h, List.filter_cons_of_neg (by simp [h])]; rfl
theorem inP_nodup (s : Nat → Int32) (N p : Nat) : (inP s N p).Nodup := List.Nodup.sublist List.filter_sublist List.nodup_range
theorem mem_inP {N l : Nat} : l ∈ inP s N p ↔ l < N ∧ whr s l = nI p := by
  unfold inP
  rw [List.mem_filter, List.mem_range, decide_eq_true_eq]
/-- the list of a place, in the class's order -/
theorem lst_ex {N : Nat} (h : RLd now s) (hp : p < 60) (hN : N ≤ 500) (e : s 11345 = nI N) : ∃ Ls : List Nat, Ls.length ≤ 8 ∧ now (78 * p + 9) = nI Ls.length ∧ (∀ i, ∀ hi : i < Ls.length, now (78 * p + (19 + i)) = nI Ls[i]) ∧ Ls.Perm (inP s N p) ∧ Ls.Nodup ∧ ∀ x, x ∈ Ls → x < N ∧ whr s x = nI p := by
  obtain ⟨N', l1, l2, l3, l4, l5, l6⟩ := h
  have : N = N' := nI_inj (by omega) (by omega) (e.symm.trans l3)
  subst this
  obtain ⟨Ls, y1, y2, y3, y4⟩ := l6 p hp
  exact ⟨Ls, y1, y2, fun i hi => y3 i Ls[i] (List.getElem?_eq_getElem hi), y4, y4.symm.nodup (inP_nodup _ _ _), fun x hx => mem_inP.mp (y4.mem_iff.mp hx)⟩
theorem weight_s {Ls : List Nat} {N : Nat} (hp : p < 60) (hN : N ≤ 500) (h8 : Ls.length ≤ 8) (h9 : w.1 11 (78 * p + 9) = nI Ls.length) (hc : ∀ i, ∀ hi : i < Ls.length, w.1 11 (78 * p + (19 + i)) = nI Ls[i]) (hl : ∀ x, x ∈ Ls → x < N) : f_X9_weightInside (nI p) w = some (lsum (fun l => w.1 11 (5920 + 5 * l + 1)) Ls) := by
  unfold f_X9_weightInside
  rw [read_k (k := 9) (by rfl) hp (by omega), Option.bind_some, h9]
  have := loop_FU (L := fun n i => f_X9_weightInside_l13 n (nI p) (lsum (fun l => w.1 11 (5920 + 5 * l + 1)) (Ls.take i)) (nI Ls.length) (nI i) w) (N := Ls.length) (res := some (lsum (fun l => w.1 11 (5920 + 5 * l + 1)) Ls)) (by omega) (fun n i hi => ?_) (fun n => ?_)
  · exact this
  · show f_X9_weightInside_l13_body (f_X9_weightInside_l13 n) (nI p) _ (nI Ls.length) (nI i) w = f_X9_weightInside_l13 n (nI p) (lsum _ (Ls.take (i + 1))) (nI Ls.length) (nI (i + 1)) w
    unfold f_X9_weightInside_l13_body
    have hx := hl Ls[i] (List.getElem_mem hi)
    rw [if_neg (nI_ge hi (by omega)), read_k (k := 19 + i) (by exact nI_add 19 i) hp (by omega), Option.bind_some, hc i hi, lcell_s (k := 1) (by rfl), Option.bind_some, get_s (by omega), Option.bind_some, nI_1, ← List.take_append_getElem hi, lsum_append]
    show _ = f_X9_weightInside_l13 n (nI p) (lsum _ (Ls.take i) + (_ + 0)) _ _ w
    rw [Int32.add_zero]
  · show f_X9_weightInside_l13_body (f_X9_weightInside_l13 n) (nI p) _ (nI Ls.length) (nI Ls.length) w = _
    unfold f_X9_weightInside_l13_body
    rw [if_pos (nI_le (Nat.le_refl _) (by omega)), List.take_length]
def okM (s : Nat → Int32) (c l : Nat) : Bool := decide (s (8744 + 10 * c + (s (8844 + 5 * l + 2)).toNatClampNeg) = 0)
theorem mixes_s {m : MW} {Ls : List Nat} {N c : Nat} (h : Rs (w.1 11) (m 1) T) (hp : p < 60) (hc10 : c < 10) (hN : N ≤ 500) (h8 : Ls.length ≤ 8) (h9 : w.1 11 (78 * p + 9) = nI Ls.length) (hc : ∀ i, ∀ hi : i < Ls.length, w.1 11 (78 * p + (19 + i)) = nI Ls[i]) (hl : ∀ x, x ∈ Ls → x < N) (eN : m 1 11345 = nI N) : f_X9_mixesInside (nI p) (nI c) w = some (fl (Ls.all (okM (m 1) c))) := by
  unfold f_X9_mixesInside
  rw [read_k (k := 9) (by rfl) hp (by omega), Option.bind_some, h9]
  obtain ⟨N', l1, l2, l3, l4, l5, l6⟩ := h.2.1
  have : N = N' := nI_inj (by omega) (by omega) (eN.symm.trans l3)
  subst this
  have key : ∀ (d n i : Nat), i + d = Ls.length → d < n → f_X9_mixesInside_l11 n (nI p) (nI c) (nI Ls.length) (nI i) w = some (fl ((Ls.drop i).all (okM (m 1) c))) := by
    intro d
    induction d with
    | zero =>
      intro n i hi hn
      cases n with
      | zero => omega
      | succ n =>
        show f_X9_mixesInside_l11_body (f_X9_mixesInside_l11 n) (nI p) (nI c) (nI Ls.length) (nI i) w = _
        unfold f_X9_mixesInside_l11_body
        rw [if_pos (nI_le (by omega) (by omega)), List.drop_eq_nil_of_le (by omega)]; rfl
    | succ d ih =>
      intro n i hi hn
      cases n with
      | zero => omega
      | succ n =>
        show f_X9_mixesInside_l11_body (f_X9_mixesInside_l11 n) (nI p) (nI c) (nI Ls.length) (nI i) w = _
        unfold f_X9_mixesInside_l11_body f_X9_mayMix
        have hi' : i < Ls.length := by omega
        have hx := hl Ls[i] (List.getElem_mem hi')
        obtain ⟨-, -, x2, hx2, ex2⟩ := l5 Ls[i] hx
        have hX := h.2.2.2.2.1 (10 * c + x2) (by omega)
        have hok : okM (m 1) c Ls[i] = decide (w.1 11 (8444 + 10 * c + x2) = 0) := by
          unfold okM
          rw [ex2, nI_clamp (by omega), show 8444 + 10 * c + x2 = 8444 + (10 * c + x2) by omega, hX.1, show 8744 + (10 * c + x2) = 8744 + 10 * c + x2 by omega]
        rw [if_neg (nI_ge hi' (by omega)), read_k (k := 19 + i) (by exact nI_add 19 i) hp (by omega), Option.bind_some, hc i hi', lcell_s (k := 2) (by rfl), Option.bind_some, get_s (by omega), Option.bind_some, l4 Ls[i] (by omega) 2 (by omega), ex2, barred_s, Option.bind_some, get_s (by omega), Option.bind_some, List.drop_eq_getElem_cons hi', List.all_cons, hok, nI_1]
        by_cases hz : w.1 11 (8444 + 10 * c + x2) = 0
        · rw [if_pos hz, Option.bind_some, if_neg (by decide), ih n (i + 1) (by omega) (by omega), decide_eq_true hz, Bool.true_and]
        · rw [if_neg hz, Option.bind_some, if_pos rfl, decide_eq_false hz, Bool.false_and]; rfl
  exact key Ls.length FU 0 (by omega) (by unfold FU; omega)
end M9
