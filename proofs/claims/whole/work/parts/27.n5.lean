section N5
variable {n : Nat} {w : CW} {wm : MW} {T p : Nat}
/-- the trace -/
def TR (w : CW) (m : MW) (tr : Nat) : Prop := m 0 11 = nI tr ∧ w.1 3 2 = nI (tr % 30) ∧ w.1 3 1 = nI (if tr < 30 then tr else 30) ∧ ∀ i, i < 30 → w.1 19 i = m 5 i
def FT (w w' : CW) : Prop := (∀ p, p ≠ 3 → p ≠ 19 → w'.1 p = w.1 p) ∧ w'.2 = w.2
def FTM (m m' : MW) : Prop := (∀ p, p ≠ 0 → p ≠ 5 → m' p = m p) ∧ ∀ k, k ≠ 11 → m' 0 k = m 0 k
theorem FT.refl (w : CW) : FT w w := ⟨fun _ _ _ => rfl, rfl⟩
theorem FTM.refl (m : MW) : FTM m m := ⟨fun _ _ _ => rfl, fun _ _ => rfl⟩
theorem FT.trans {a b c : CW} (h1 : FT a b) (h2 : FT b c) : FT a c := ⟨fun p q1 q2 => (h2.1 p q1 q2).trans (h1.1 p q1 q2), h2.2.trans h1.2⟩
theorem FTM.trans {a b c : MW} (h1 : FTM a b) (h2 : FTM b c) : FTM a c := ⟨fun p q1 q2 => (h2.1 p q1 q2).trans (h1.1 p q1 q2), fun k hk => (h2.2 k hk).trans (h1.2 k hk)⟩
theorem note_s {w : CW} {m : MW} {tr : Nat} (a b : Int32) (h : TR w m tr) (ht : tr < 2 ^ 30) : ∃ w' m', f_X7_begin a b w = some w' ∧ f_X10_note a b m = some m' ∧ TR w' m' (tr + 1) ∧ FT w w' ∧ FTM m m' := by
  obtain ⟨h1, h2, h3, h4⟩ := h
  have t30 : tr % 30 < 30 := Nat.mod_lt _ (by omega)
  have ec : f_X7_begin a b w = some (cs (cs (cs w 19 (tr % 30) (10 * a + b)) 3 2 (nI ((tr + 1) % 30))) 3 1 (nI (if tr + 1 < 30 then tr + 1 else 30))) := by
    unfold f_X7_begin
    have e32 : (cs w 19 (tr % 30) (10 * a + b)).1 3 2 = nI (tr % 30) := by rw [cs_ne _ _ _ (by decide)]; exact h2
    rw [h2, chk_t (inb_nI t30 (by omega)), nI_clamp (by omega), e32, nI_1, rem_s (d := 30) (by rfl) (by omega) (by omega) (by omega), show (tr % 30 + 1) % 30 = (tr + 1) % 30 by omega, Option.bind_some, Option.bind_some, cs_at, upd_ne _ _ (by decide), cs_ne _ _ _ (by decide), h3, nI_1]
    congr 2
    by_cases q : tr < 29
    · rw [if_pos (show tr < 30 by omega), if_neg (show ¬ (30 : Int32) < nI (tr + 1) from nI_nlt (a := 30) (by omega) (by omega)), if_pos (by omega)]
    · by_cases q2 : tr = 29
      · subst q2; decide
      · rw [if_neg (show ¬ tr < 30 by omega), if_pos (by decide), if_neg (by omega)]; rfl
  have em : f_X10_note a b m = some (mst (mst m 5 (tr % 30) (10 * a + b)) 0 11 (nI (tr + 1))) := by
    unfold f_X10_note
    rw [h1, rem_s (d := 30) (by rfl) (by omega) (by omega) (by omega), chk_t (inb_nI t30 (by omega)), nI_clamp (by omega), Option.bind_some, mst_ne _ _ _ (show 0 ≠ 5 by decide), h1, nI_1]
  refine ⟨_, _, ec, em, ⟨by rw [mst_at, upd_at], by rw [cs_at, upd_ne _ _ (by decide), cs_at, upd_at], by rw [cs_at, upd_at], fun i hi => ?_⟩, ⟨fun p q1 q2 => by rw [cs_ne _ _ _ q1, cs_ne _ _ _ q1, cs_ne _ _ _ q2], rfl⟩, ⟨fun p q1 q2 => by rw [mst_ne _ _ _ q1, mst_ne _ _ _ q2], fun k hk => by rw [mst_at, upd_ne _ _ hk, mst_ne _ _ _ (by decide)]⟩⟩
  rw [cs_ne _ _ _ (by decide), cs_ne _ _ _ (by decide), cs_at, mst_ne _ _ _ (by decide), mst_at]
  by_cases e : i = tr % 30
  · subst e; rw [upd_at, upd_at]
  · rw [upd_ne _ _ e, upd_ne _ _ e]; exact h4 i hi
def Nt (d : Nat) (x : Option (Int32 × CW)) (y : Option (Int32 × MW)) (w : CW) (m : MW) (tr : Nat) : Prop := tr + d < 2 ^ 30 → ∃ r w' m' tr', x = some (r, w') ∧ y = some (r, m') ∧ tr' ≤ tr + d ∧ TR w' m' tr' ∧ FT w w' ∧ FTM m m'
section NT
variable {m : MW} {tr d d1 d2 : Nat} {x x' : Option (Int32 × CW)} {y y' : Option (Int32 × MW)} {a b r : Int32}
theorem Nt.nb {f : CW → Option (Int32 × CW)} {g : MW → Option (Int32 × MW)} (h : TR w m tr) (k : ∀ w1 m1, TR w1 m1 (tr + 1) → Nt d (f w1) (g m1) w1 m1 (tr + 1)) : Nt (d + 1) ((f_X7_begin a b w).bind f) ((f_X10_note a b m).bind g) w m tr := by
  intro ht
  obtain ⟨w1, m1, e1, e2, h1, h2, h3⟩ := note_s a b h (by omega)
  obtain ⟨r, w', m', tr', q1, q2, q3, q4, q5, q6⟩ := k w1 m1 h1 (by omega)
  exact ⟨r, w', m', tr', by rw [e1]; exact q1, by rw [e2]; exact q2, by omega, q4, h2.trans q5, h3.trans q6⟩
theorem Nt.ret (h : TR w m tr) : Nt d (some (r, w)) (some (r, m)) w m tr := fun _ => ⟨r, w, m, tr, rfl, rfl, by omega, h, FT.refl w, FTM.refl m⟩
theorem Nt.bd {f : Int32 × CW → Option (Int32 × CW)} {g : Int32 × MW → Option (Int32 × MW)} (h : Nt d1 x y w m tr) (k : ∀ r w1 m1 tr1, TR w1 m1 tr1 → Nt d2 (f (r, w1)) (g (r, m1)) w1 m1 tr1) : Nt (d1 + d2) (x.bind f) (y.bind g) w m tr := by
  intro ht
  obtain ⟨r, w1, m1, tr1, e1, e2, e3, h1, h2, h3⟩ := h (by omega)
  obtain ⟨r', w', m', tr', q1, q2, q3, q4, q5, q6⟩ := k r w1 m1 tr1 h1 (by omega)
  exact ⟨r', w', m', tr', by rw [e1]; exact q1, by rw [e2]; exact q2, by omega, q4, h2.trans q5, h3.trans q6⟩
theorem Nt.ite {c : Prop} [Decidable c] (h1 : c → Nt d x y w m tr) (h2 : ¬ c → Nt d x' y' w m tr) : Nt d (if c then x else x') (if c then y else y') w m tr := by
  by_cases h : c
  · rw [if_pos h, if_pos h]; exact h1 h
  · rw [if_neg h, if_neg h]; exact h2 h
theorem Nt.mono (h : Nt d1 x y w m tr) (hd : d1 ≤ d) : Nt d x y w m tr := fun ht => by
  obtain ⟨r, w', m', tr', q1, q2, q3, q4⟩ := h (by omega)
  exact ⟨r, w', m', tr', q1, q2, by omega, q4⟩
theorem eta_c : (x.bind fun y => some (y.1, y.2)) = x := by cases x <;> rfl
theorem eta_m : (y.bind fun z => some (z.1, z.2)) = y := by cases y <;> rfl
variable {κ : Nat} {x3 c8 : Int32}
theorem pl0 (h : TR w m tr) : Nt 1 (f_X3_water κ x3 c8 w) (f_X10_plain 0 m) w m tr := by
  unfold f_X3_water f_X10_plain
  exact Nt.nb h fun w1 m1 h1 => by rw [if_neg (by decide)]; exact Nt.ret h1
theorem pl1 (h : TR w m tr) : Nt 1 (f_X3_heat κ x3 c8 w) (f_X10_plain 1 m) w m tr := by
  unfold f_X3_heat f_X10_plain
  exact Nt.nb h fun w1 m1 h1 => by rw [if_neg (by decide)]; exact Nt.ret h1
theorem pl2 (h : TR w m tr) : Nt 1 (f_X3_power κ x3 c8 w) (f_X10_plain 2 m) w m tr := by
  unfold f_X3_power f_X10_plain
  exact Nt.nb h fun w1 m1 h1 => by rw [if_pos rfl]; exact Nt.ret h1
theorem wa0 (h : TR w m tr) : Nt 2 (f_X8_water κ x3 c8 w) (f_X10_washers 0 x3 m) w m tr := by
  unfold f_X8_water f_X10_washers
  refine Nt.nb h fun w1 m1 h1 => ?_
  rw [if_pos rfl, eta_c, eta_m]
  exact Nt.ite (fun _ => Nt.ret h1) (fun _ => pl0 h1)
theorem wa1 (h : TR w m tr) : Nt 2 (f_X8_heat κ x3 c8 w) (f_X10_washers 1 x3 m) w m tr := by
  unfold f_X8_heat f_X10_washers
  refine Nt.nb h fun w1 m1 h1 => ?_
  rw [if_neg (show ¬ (1 : Int32) = 0 by decide), if_pos (show (1 : Int32) = 1 from rfl), eta_c, eta_m]
  exact Nt.ite (fun _ => Nt.ret h1) (fun _ => pl1 h1)
theorem wa2 (h : TR w m tr) : Nt 2 (f_X8_power κ x3 c8 w) (f_X10_washers 2 x3 m) w m tr := by
  unfold f_X8_power f_X10_washers
  refine Nt.nb h fun w1 m1 h1 => ?_
  rw [if_neg (show ¬ (2 : Int32) = 0 by decide), if_neg (show ¬ (2 : Int32) = 1 by decide), if_pos (show (2 : Int32) = 2 from rfl)]
  exact Nt.bd (d2 := 0) (pl2 h1) fun r w2 m2 t2 h2 => Nt.ite (fun _ => Nt.ret h2) (fun _ => Nt.ite (fun _ => Nt.ret h2) (fun _ => Nt.ret h2))
theorem wa3 (h : TR w m tr) : Nt 1 (f_X8_speed κ w) (f_X10_washers 3 x3 m) w m tr := by
  unfold f_X8_speed f_X10_washers
  refine Nt.nb h fun w1 m1 h1 => ?_
  rw [if_neg (show ¬ (3 : Int32) = 0 by decide), if_neg (show ¬ (3 : Int32) = 1 by decide), if_neg (show ¬ (3 : Int32) = 2 by decide)]
  exact Nt.ret h1
theorem dr1 (h : TR w m tr) : Nt 2 (f_X2_heat κ x3 c8 w) (f_X10_dryers 1 x3 m) w m tr := by
  unfold f_X2_heat f_X10_dryers
  refine Nt.nb h fun w1 m1 h1 => ?_
  rw [if_pos (show (1 : Int32) = 1 from rfl), eta_c, eta_m]
  exact Nt.ite (fun _ => Nt.ret h1) (fun _ => Nt.ite (fun _ => Nt.ret h1) (fun _ => pl1 h1))
theorem dr2 (h : TR w m tr) : Nt 2 (f_X2_power κ x3 c8 w) (f_X10_dryers 2 x3 m) w m tr := by
  unfold f_X2_power f_X10_dryers
  refine Nt.nb h fun w1 m1 h1 => ?_
  rw [if_neg (show ¬ (2 : Int32) = 1 by decide), if_pos (show (2 : Int32) = 2 from rfl)]
  exact Nt.bd (d2 := 0) (pl2 h1) fun r w2 m2 t2 h2 => Nt.ite (fun _ => Nt.ret h2) (fun _ => Nt.ret h2)
theorem dr3 (h : TR w m tr) : Nt 1 (f_X2_speed κ w) (f_X10_dryers 3 x3 m) w m tr := by
  unfold f_X2_speed f_X10_dryers
  refine Nt.nb h fun w1 m1 h1 => ?_
  rw [if_neg (show ¬ (3 : Int32) = 1 by decide), if_neg (show ¬ (3 : Int32) = 2 by decide)]
  exact Nt.ret h1
theorem wish0 {k : Nat} (h : TR w m tr) (hp : p < 60) (hk : k ≤ 4) (ek : m 1 (104 * p) = nI (k + 1)) (e8 : m 1 (104 * p + 7) = c8) : Nt 4 (fv_water k x3 c8 w) (f_X10_wishOf (nI p) 0 x3 m) w m tr := by
  unfold f_X10_wishOf
  rw [kindOf_s hp hk ek, Option.bind_some, of_s (k := 7) (by rfl) (by omega), Option.bind_some, e8]
  rcases (by omega : k = 0 ∨ k = 1 ∨ k = 2 ∨ k = 3 ∨ k = 4) with rfl | rfl | rfl | rfl | rfl
  · rw [if_pos (by decide), eta_m]; exact (wa0 (κ := 0) (x3 := x3) (c8 := c8) h).mono (by omega)
  · rw [if_neg (by decide), if_pos (by decide), if_pos rfl, eta_m]; exact (wa0 (κ := 1) (x3 := x3) (c8 := c8) h).mono (by omega)
  · rw [if_neg (by decide), if_neg (by decide), if_pos (by decide), if_pos rfl, eta_m]; exact (pl0 (κ := 2) (x3 := x3) (c8 := c8) h).mono (by omega)
  · rw [if_neg (by decide), if_neg (by decide), if_neg (by decide), if_pos (by decide), if_neg (by decide), if_pos rfl, eta_m]; exact (pl0 (κ := 3) (x3 := x3) (c8 := c8) h).mono (by omega)
  · rw [if_neg (by decide), if_neg (by decide), if_neg (by decide), if_neg (by decide), if_neg (by decide)]
    show Nt 4 (f_X0_water 4 x3 c8 w) _ w m tr
    unfold f_X0_water
    refine (Nt.nb (d := 2) h fun w1 m1 h1 => Nt.bd (d2 := 0) (wa0 h1) fun r w2 m2 t2 h2 => ?_).mono (by omega)
    rw [if_neg (by decide)]; exact Nt.ret h2
theorem wish1 {k : Nat} (h : TR w m tr) (hp : p < 60) (hk : k ≤ 4) (ek : m 1 (104 * p) = nI (k + 1)) (e8 : m 1 (104 * p + 7) = c8) : Nt 4 (fv_heat k x3 c8 w) (f_X10_wishOf (nI p) 1 x3 m) w m tr := by
  unfold f_X10_wishOf
  rw [kindOf_s hp hk ek, Option.bind_some, of_s (k := 7) (by rfl) (by omega), Option.bind_some, e8]
  rcases (by omega : k = 0 ∨ k = 1 ∨ k = 2 ∨ k = 3 ∨ k = 4) with rfl | rfl | rfl | rfl | rfl
  · rw [if_pos (by decide), eta_m]; exact (wa1 (κ := 0) (x3 := x3) (c8 := c8) h).mono (by omega)
  · rw [if_neg (by decide), if_pos (by decide), if_neg (by decide)]
    show Nt 4 (f_X5_heat 1 x3 c8 w) _ w m tr
    unfold f_X5_heat
    refine (Nt.nb (d := 2) h fun w1 m1 h1 => Nt.bd (d2 := 0) (wa1 h1) fun r w2 m2 t2 h2 => ?_).mono (by omega)
    rw [if_pos rfl]; exact Nt.ret h2
  · rw [if_neg (by decide), if_neg (by decide), if_pos (by decide), if_neg (by decide), eta_m]; exact (dr1 (κ := 2) (x3 := x3) (c8 := c8) h).mono (by omega)
  · rw [if_neg (by decide), if_neg (by decide), if_neg (by decide), if_pos (by decide), if_pos rfl]
    show Nt 4 (f_X4_heat 3 x3 c8 w) _ w m tr
    unfold f_X4_heat
    refine (Nt.nb (d := 2) h fun w1 m1 h1 => ?_).mono (by omega)
    rw [eta_c, eta_m]
    exact Nt.ite (fun _ => Nt.ret h1) (fun _ => dr1 h1)
  · rw [if_neg (by decide), if_neg (by decide), if_neg (by decide), if_neg (by decide), if_neg (by decide)]
    show Nt 4 (f_X0_heat 4 x3 c8 w) _ w m tr
    unfold f_X0_heat
    refine (Nt.nb (d := 2) h fun w1 m1 h1 => Nt.bd (d2 := 0) (wa1 h1) fun r w2 m2 t2 h2 => ?_).mono (by omega)
    rw [if_neg (by decide)]; exact Nt.ret h2
theorem wish2 {k : Nat} (h : TR w m tr) (hp : p < 60) (hk : k ≤ 4) (ek : m 1 (104 * p) = nI (k + 1)) (e8 : m 1 (104 * p + 7) = c8) : Nt 4 (fv_power k x3 c8 w) (f_X10_wishOf (nI p) 2 x3 m) w m tr := by
  unfold f_X10_wishOf
  rw [kindOf_s hp hk ek, Option.bind_some, of_s (k := 7) (by rfl) (by omega), Option.bind_some, e8]
  rcases (by omega : k = 0 ∨ k = 1 ∨ k = 2 ∨ k = 3 ∨ k = 4) with rfl | rfl | rfl | rfl | rfl
  · rw [if_pos (by decide), eta_m]; exact (wa2 (κ := 0) (x3 := x3) (c8 := c8) h).mono (by omega)
  · rw [if_neg (by decide), if_pos (by decide), if_neg (by decide)]
    show Nt 4 (f_X5_power 1 x3 c8 w) _ w m tr
    unfold f_X5_power
    refine (Nt.nb (d := 2) h fun w1 m1 h1 => Nt.bd (d2 := 0) (wa2 h1) fun r w2 m2 t2 h2 => ?_).mono (by omega)
    rw [if_neg (by decide), if_pos rfl]; exact Nt.ret h2
  · rw [if_neg (by decide), if_neg (by decide), if_pos (by decide), if_neg (by decide), eta_m]; exact (dr2 (κ := 2) (x3 := x3) (c8 := c8) h).mono (by omega)
  · rw [if_neg (by decide), if_neg (by decide), if_neg (by decide), if_pos (by decide), if_neg (by decide), if_neg (by decide), eta_m]; exact (dr2 (κ := 3) (x3 := x3) (c8 := c8) h).mono (by omega)
  · rw [if_neg (by decide), if_neg (by decide), if_neg (by decide), if_neg (by decide), if_neg (by decide)]
    show Nt 4 (f_X0_power 4 x3 c8 w) _ w m tr
    unfold f_X0_power
    refine (Nt.nb (d := 2) h fun w1 m1 h1 => Nt.bd (d2 := 0) (wa2 h1) fun r w2 m2 t2 h2 => ?_).mono (by omega)
    rw [if_pos rfl]; exact Nt.ret h2
theorem wish3 {k : Nat} (h : TR w m tr) (hp : p < 60) (hk : k ≤ 4) (ek : m 1 (104 * p) = nI (k + 1)) : Nt 4 (fv_speed k w) (f_X10_wishOf (nI p) 3 x3 m) w m tr := by
  unfold f_X10_wishOf
  rw [kindOf_s hp hk ek, Option.bind_some, of_s (k := 7) (by rfl) (by omega), Option.bind_some]
  rcases (by omega : k = 0 ∨ k = 1 ∨ k = 2 ∨ k = 3 ∨ k = 4) with rfl | rfl | rfl | rfl | rfl
  · rw [if_pos (by decide), eta_m]; exact (wa3 (κ := 0) (x3 := x3) h).mono (by omega)
  · rw [if_neg (by decide), if_pos (by decide), if_neg (by decide)]
    show Nt 4 (f_X5_speed 1 w) _ w m tr
    unfold f_X5_speed
    refine (Nt.nb (d := 1) h fun w1 m1 h1 => Nt.bd (d2 := 0) (wa3 h1) fun r w2 m2 t2 h2 => ?_).mono (by omega)
    rw [if_neg (by decide), if_neg (by decide)]; exact Nt.ret h2
  · rw [if_neg (by decide), if_neg (by decide), if_pos (by decide), if_neg (by decide), eta_m]; exact (dr3 (κ := 2) (x3 := x3) h).mono (by omega)
  · rw [if_neg (by decide), if_neg (by decide), if_neg (by decide), if_pos (by decide), if_neg (by decide), if_neg (by decide), eta_m]; exact (dr3 (κ := 3) (x3 := x3) h).mono (by omega)
  · rw [if_neg (by decide), if_neg (by decide), if_neg (by decide), if_neg (by decide), if_pos rfl, eta_m]
    exact (wa3 (κ := 4) (x3 := x3) h).mono (by omega)
theorem wear_s {k : Nat} (h : TR w m tr) (hp : p < 60) (hk : k ≤ 4) (ek : m 1 (104 * p) = nI (k + 1)) : Nt 5 (fv_wear k x3 w) (f_X10_wearOf (nI p) x3 m) w m tr := by
  have e : fv_wear k x3 w = f_X3_wear k x3 w := by
    rcases (by omega : k = 0 ∨ k = 1 ∨ k = 2 ∨ k = 3 ∨ k = 4) with rfl | rfl | rfl | rfl | rfl <;> rfl
  rw [e]
  unfold f_X3_wear f_X10_wearOf
  intro ht
  obtain ⟨w1, m1, e1, e2, h1, h2, h3⟩ := note_s 6 4 h (by omega)
  rw [e1, e2, Option.bind_some, Option.bind_some, chk_t (by omega)]
  obtain ⟨r, w', m', tr', q1, q2, q3, q4, q5, q6⟩ := wish3 (x3 := 0) h1 hp hk (by rw [h3.1 1 (by decide) (by decide)]; exact ek) (by omega)
  rw [q1, q2, Option.bind_some, Option.bind_some]
  exact ⟨_, w', m', tr', rfl, rfl, by omega, q4, h2.trans q5, h3.trans q6⟩
end NT
/-- the trace grew -/
theorem Rl.tr {w w' : CW} {m m' : MW} {tr' : Nat} (h : Rl n w m) (hn : n < 513) (h1 : TR w' m' tr') (hb : tr' ≤ (n + 1) * 1000000) (h2 : FT w w') (h3 : FTM m m') : Rl (n + 1) w' m' := by
  obtain ⟨T, O, hc, hm, b1, b2, g1, ⟨c, mk, g2⟩, g3, g4, ⟨a1, a2, a3, a4, a5, a6⟩⟩ := Rl_next h hn
  refine ⟨T, O, hc, hm, b1, b2, g1.congr h2.2 (h2.1 1 (by decide) (by decide)) (h2.1 11 (by decide) (by decide)) (h2.1 12 (by decide) (by decide)) (h2.1 13 (by decide) (by decide)), ⟨c, mk, g2.congr (h3.2 4 (by decide)) (h3.2 6 (by decide)) (h3.1 1 (by decide) (by decide)) (h3.1 2 (by decide) (by decide)) (h3.1 3 (by decide) (by decide)) (h3.1 4 (by decide) (by decide))⟩, ?_, g4, ?_⟩
  · rw [h2.1 11 (by decide) (by decide), h3.1 1 (by decide) (by decide)]; exact g3
  · unfold Ax
    rw [h2.1 5 (by decide) (by decide), h2.1 6 (by decide) (by decide), h2.1 17 (by decide) (by decide), h2.1 0 (by decide) (by decide), h3.1 6 (by decide) (by decide), h3.1 7 (by decide) (by decide), h3.2 7 (by decide), h3.2 8 (by decide), h3.2 9 (by decide)]
    exact ⟨a1, ⟨tr', hb, h1⟩, a3, a4, a5, a6⟩
theorem Rl.TR {w : CW} {m : MW} (h : Rl n w m) : ∃ tr, tr ≤ n * 1000000 ∧ n ≤ 513 ∧ TR w m tr := by
  obtain ⟨T, O, hc, hm, b1, b2, g1, g2, g3, g4, ⟨a1, ⟨tr, t1, t2⟩, a3⟩⟩ := h
  exact ⟨tr, t1, b1, t2⟩
theorem Eq0.nt {m : MW} {tr d : Nat} {x : Option (Int32 × CW)} {y : Option (Int32 × MW)} (h : Rl n w m) (hn : n < 513) (htr : tr ≤ n * 1000000) (hd : d ≤ 1000) (k : Nt d x y w m tr) : Eq0 n w x y := by
  obtain ⟨r, w', m', tr', q1, q2, q3, q4, q5, q6⟩ := k (by omega)
  exact ⟨r, w', m', q1, q2, h.tr hn q4 (by omega) q5 q6, q5.2⟩
theorem isWish_s (x0 x1 : Int32) : f_X9_isWish x0 x1 = some (if x0 = 4 then (if (0 : Int32) ≤ x1 ∧ x1 ≤ 1000 then 1 else 0) else if x0 = 3 then 1 else if (0 : Int32) ≤ x0 ∧ x0 ≤ 2 then (if (0 : Int32) ≤ x1 ∧ x1 ≤ 4 then 1 else 0) else 0) := by
  unfold f_X9_isWish
  by_cases h4 : x0 = 4
  · rw [if_pos h4, if_pos h4, within_s, Option.bind_some, chk_t (bz01 _)]
  · rw [if_neg h4, if_neg h4]
    by_cases h3 : x0 = 3
    · rw [if_pos h3, if_pos h3]
    · rw [if_neg h3, if_neg h3, within_s, Option.bind_some, gd]
      by_cases h2 : (0 : Int32) ≤ x0 ∧ x0 ≤ 2
      · rw [if_pos h2, if_pos h2, within_s, Option.bind_some, gd]
        by_cases h1 : (0 : Int32) ≤ x1 ∧ x1 ≤ 4
        · rw [if_pos h1, if_pos h1]
        · rw [if_neg h1, if_neg h1]
      · rw [if_neg h2, if_neg h2]
theorem eq_wish (hR : Rl n w wm) (hn : n < 513) (a1 a2 a3 : Int32) : ∃ r w2 wm2, f_X9_wish a1 a2 a3 w = some (r, w2) ∧ f_X10_wish a1 a2 a3 wm = some (r, wm2) ∧ Rl (n + 1) w2 wm2 ∧ w2.2 = w.2 := by
  have hR1 : Rl n w (mst wm 0 0 0) := hR.thr
  unfold f_X9_wish f_X10_wish
  generalize mst wm 0 0 0 = m at hR1 ⊢
  show Eq0 n w _ _
  rw [isWish_s]
  simp only [isPlace_s, misPlace_s, within_s, in_s, Option.bind_some, gd]
  refine Eq0.ite (fun h => ?_) (fun _ => Eq0.ret hR1 hn)
  obtain ⟨p, hp, rfl⟩ := rng (n := 59) (by omega) h
  obtain ⟨T, O, hc, hm, b1, b2, g1, g2, g3, g4, g5⟩ := id hR1
  obtain ⟨tr, t1, t2, t3⟩ := hR1.TR
  have key : ∀ j, j ≤ 4 → a2 = nI j → Eq0 n w ((f_X9_hasMachine (nI p) w).bind fun y20 => if y20 = 0 then ((f_X9_found 1 w).bind fun y28 => some (y28.1, y28.2)) else ((f_X9_kindAt (nI p) w).bind fun y22 => if a2 < 3 then f_X9_wish_b60 (nI p) a2 a3 y22 w else chk (y22 < 5) ((fv_turns y22 w).bind fun y24 => if y24 = 0 then ((f_X9_found 5 w).bind fun y27 => some (y27.1, y27.2)) else f_X9_wish_b60 (nI p) a2 a3 y22 w))) (f_X10_wish_b56 (nI p) a2 a3 m) := by
    intro j hj ej
    subst ej
    unfold f_X10_wish_b56
    rw [hasMachine_s g3 (by omega), isThere_s g3 (by omega), Option.bind_some, Option.bind_some, gd, gd]
    refine Eq0.ite (fun h3 => ?_) (fun _ => Eq0.fnd hR1 hn)
    obtain ⟨k, hk, ek⟩ := kind_ex g3 (show p < 60 by omega) h3
    have e8 : m 1 (104 * p + 7) = w.1 11 (78 * p + 8) := mv7 g3 (by omega)
    have kb : Eq0 n w (f_X9_wish_b60 (nI p) (nI j) a3 k w) (f_X10_wish_b93 (nI p) (nI j) a3 m) := by
      unfold f_X9_wish_b60 f_X10_wish_b93
      rw [read_k (k := 8) (by rfl) (by omega) (by omega), Option.bind_some]
      simp only [chk_t (show k < 5 by omega), eta_c, eta_m]
      rcases (by omega : j = 0 ∨ j = 1 ∨ j = 2 ∨ j = 3 ∨ j = 4) with rfl | rfl | rfl | rfl | rfl
      · rw [if_pos (by decide), if_neg (by decide)]
        exact Eq0.nt hR1 hn t1 (by omega) (wish0 t3 (by omega) hk ek e8)
      · rw [if_neg (by decide), if_pos (by decide), if_neg (by decide)]
        exact Eq0.nt hR1 hn t1 (by omega) (wish1 t3 (by omega) hk ek e8)
      · rw [if_neg (by decide), if_neg (by decide), if_pos (by decide), if_neg (by decide)]
        exact Eq0.nt hR1 hn t1 (by omega) (wish2 t3 (by omega) hk ek e8)
      · rw [if_neg (by decide), if_neg (by decide), if_neg (by decide), if_pos (by decide), if_neg (by decide)]
        exact Eq0.nt hR1 hn t1 (by omega) (wish3 t3 (by omega) hk ek)
      · rw [if_neg (by decide), if_neg (by decide), if_neg (by decide), if_neg (by decide), if_pos (by decide)]
        exact Eq0.nt hR1 hn t1 (by omega) (wear_s t3 (by omega) hk ek)
    rw [kindAt_s g3 (by omega) hk ek, Option.bind_some, kindOf_s (by omega) hk ek, Option.bind_some, chk_t (show k < 5 by omega), turns_s k (by omega), face1_s k (by omega), Option.bind_some, Option.bind_some]
    by_cases hj3 : j < 3
    · rw [if_pos (show nI j < (3 : Int32) from nI_lt (a := j) (b := 3) hj3 (by omega)), if_pos (show nI j ≤ (2 : Int32) from nI_le (a := j) (b := 2) (by omega) (by omega))]
      exact kb
    · rw [if_neg (show ¬ nI j < (3 : Int32) from nI_nlt (a := j) (b := 3) (by omega) (by omega)), if_neg (show ¬ nI j ≤ (2 : Int32) from nI_ge (a := 2) (b := j) (by omega) (by omega))]
      exact Eq0.ite (fun _ => Eq0.fnd hR1 hn) (fun _ => kb)
  by_cases h2 : (0 : Int32) ≤ a2 ∧ a2 ≤ 4
  · obtain ⟨j, hj, ej⟩ := rng (n := 4) (by omega) h2
    rw [if_pos h2]
    unfold f_X10_wish_b37
    simp only [in_s, Option.bind_some, gd]
    have kj := key j hj ej
    rcases (by omega : j ≤ 2 ∨ j = 3 ∨ j = 4) with q | q | q
    · have n4 : ¬ a2 = 4 := fun e => by rw [ej] at e; have := nI_inj (b := 4) (by omega) (by omega) e; omega
      have n3 : ¬ a2 = 3 := fun e => by rw [ej] at e; have := nI_inj (b := 3) (by omega) (by omega) e; omega
      have l2 : (0 : Int32) ≤ a2 ∧ a2 ≤ 2 := ⟨h2.1, by rw [ej]; exact nI_le (a := j) (b := 2) q (by omega)⟩
      have n33 : ¬ (3 : Int32) ≤ a2 := by rw [ej]; exact nI_ge (a := j) (b := 3) (by omega) (by omega)
      rw [if_neg n4, if_neg n3, if_pos l2, if_neg n33, if_neg n4, gd]
      exact Eq0.ite (fun _ => kj) (fun _ => Eq0.ret hR1 hn)
    · have n4 : ¬ a2 = 4 := fun e => by rw [ej] at e; have := nI_inj (b := 4) (by omega) (by omega) e; omega
      have n3 : a2 = 3 := by rw [ej, q]; rfl
      have n33 : (3 : Int32) ≤ a2 := by rw [n3]; decide
      rw [if_neg n4, if_pos n3, if_pos n33, if_neg n4, if_neg (by decide)]
      exact kj
    · have n4 : a2 = 4 := by rw [ej, q]; rfl
      have n33 : (3 : Int32) ≤ a2 := by rw [n4]; decide
      rw [if_pos n4, if_pos n33, if_pos n4, gd]
      exact Eq0.ite (fun _ => kj) (fun _ => Eq0.ret hR1 hn)
  · have n4 : ¬ a2 = 4 := fun e => h2 (by rw [e]; decide)
    have n3 : ¬ a2 = 3 := fun e => h2 (by rw [e]; decide)
    have l2 : ¬ ((0 : Int32) ≤ a2 ∧ a2 ≤ 2) := fun q => h2 ⟨q.1, Int32.le_trans q.2 (by decide)⟩
    rw [if_neg h2, if_neg n4, if_neg n3, if_neg l2, if_pos rfl]
    exact Eq0.ret hR1 hn
end N5
