section OKM
def OkM (x : Option MW) (m : MW) (T O b Z C : Nat) (hist : Nat → Nat → Int32) (s' : Nat → Int32) : Prop :=
  ∃ m', x = some m' ∧ HMx m' T O b Z C hist ∧ m' 1 = s' ∧ FrM m m'
def OkMI (x : Option (Int32 × MW)) (m : MW) (T O b Z C : Nat) (hist : Nat → Nat → Int32) (r : Int32) (s' : Nat → Int32) : Prop :=
  ∃ m', x = some (r, m') ∧ HMx m' T O b Z C hist ∧ m' 1 = s' ∧ FrM m m'
variable {m : MW} {T O b b1 b2 Z C C1 C2 : Nat} {hist : Nat → Nat → Int32} {n1 n2 now : Nat → Int32} {r : Int32}
theorem OkM.bv {x : Option MW} {f : MW → Option MW} (h : OkM x m T O b1 Z C1 hist n1) (k : ∀ m1, HMx m1 T O b1 Z C1 hist → m1 1 = n1 → FrM m m1 → OkM (f m1) m1 T O b2 Z C2 hist n2) : OkM (x.bind f) m T O b2 Z C2 hist n2 := by
  obtain ⟨m1, e1, h1, h2, h3⟩ := h
  obtain ⟨m2, e2, k1, k2, k3⟩ := k m1 h1 h2 h3
  exact ⟨m2, by rw [e1]; exact e2, k1, k2, h3.trans k3⟩
theorem OkM.bi {x : Option MW} {f : MW → Option (Int32 × MW)} (h : OkM x m T O b1 Z C1 hist n1) (k : ∀ m1, HMx m1 T O b1 Z C1 hist → m1 1 = n1 → FrM m m1 → OkMI (f m1) m1 T O b2 Z C2 hist r n2) : OkMI (x.bind f) m T O b2 Z C2 hist r n2 := by
  obtain ⟨m1, e1, h1, h2, h3⟩ := h
  obtain ⟨m2, e2, k1, k2, k3⟩ := k m1 h1 h2 h3
  exact ⟨m2, by rw [e1]; exact e2, k1, k2, h3.trans k3⟩
theorem OkM.dn (h : HMx m T O b Z C hist) (e : m 1 = now) : OkM (some m) m T O b Z C hist now := ⟨m, rfl, h, e, FrM.refl m⟩
theorem OkMI.dn (h : HMx m T O b Z C hist) (e : m 1 = now) : OkMI (some (r, m)) m T O b Z C hist r now := ⟨m, rfl, h, e, FrM.refl m⟩
theorem w_k {a : Nat} {v : Int32} (h : HMx m T O b Z C hist) (e : m 1 = now) (ha : a < 11360) (hb : b < 120000) (hC : C < 2 ^ 30) : OkM (f_X10_w (nI a) v m) m T O (b + 1) Z (C + 1) hist (upd now a v) := by
  rw [← e]; exact w_s v h ha hb hC
theorem mcell_s {p k : Nat} : (104 : Int32) * nI p + nI k = nI (104 * p + k) := by
  rw [show (104 : Int32) = nI 104 from rfl, pk_mul, nI_add]
theorem let_k {p k : Nat} {x v : Int32} (hx : x = nI k) (h : HMx m T O b Z C hist) (e : m 1 = now) (ha : 104 * p + k < 11360) (hb : b < 120000) (hC : C < 2 ^ 30) : OkM (f_X10_let (nI p) x v m) m T O (b + 1) Z (C + 1) hist (upd now (104 * p + k) v) := by
  unfold f_X10_let
  rw [hx, mcell_s]
  exact (w_k h e ha hb hC).bv (fun _ h1 e1 _ => OkM.dn h1 e1)
theorem of_s {p k : Nat} {x : Int32} (hx : x = nI k) (ha : 104 * p + k < 11360) : f_X10_of (nI p) x m = some (m 1 (104 * p + k)) := by
  unfold f_X10_of
  rw [hx, mcell_s, chk_t (inb_nI ha (by omega)), nI_clamp (by omega)]
end OKM
section OKC
variable {w : CW} {τ T O b b1 b2 Z : Nat} {hist : Nat → Nat → Int32} {n1 n2 now : Nat → Int32} {r : Int32}
theorem OkV.dn (h : HCx w τ T O b Z hist) (e : w.1 11 = now) : OkV (some (w, 0)) w τ T O b Z hist now := ⟨w, 0, rfl, h, e, Fr.refl w, by omega⟩
theorem OkI.dn (h : HCx w τ T O b Z hist) (e : w.1 11 = now) : OkI (some ((r, w), 0)) w τ T O b Z hist r now := ⟨w, 0, rfl, h, e, Fr.refl w, by omega⟩
theorem set_k {a : Nat} {v : Int32} (h : HCx w τ T O b Z hist) (e : w.1 11 = now) (ha : a < 8556) (hb : b < 120000) : OkV (f_X1_set (nI a) v w) w τ T O (b + 1) Z hist (upd now a v) := by
  rw [← e]; exact set_ok h ha hb
theorem add_k {a : Nat} {v : Int32} (h : HCx w τ T O b Z hist) (e : w.1 11 = now) (ha : a < 8556) (hb : b < 120000) : OkV (f_X1_add (nI a) v w) w τ T O (b + 1) Z hist (upd now a (now a + v)) := by
  rw [← e]; exact add_ok h ha hb
theorem write_k {p k : Nat} {x v : Int32} (hx : x = nI k) (h : HCx w τ T O b Z hist) (e : w.1 11 = now) (hp : p < 60) (hk : k < 78) (hb : b < 120000) : OkV (f_X9_write (nI p) x v w) w τ T O (b + 1) Z hist (upd now (78 * p + k) v) := by
  rw [hx, ← e]; exact write_ok h hp hk hb
theorem grow_k {p k : Nat} {x v : Int32} (hx : x = nI k) (h : HCx w τ T O b Z hist) (e : w.1 11 = now) (hp : p < 60) (hk : k < 78) (hb : b < 120000) : OkV (f_X9_grow (nI p) x v w) w τ T O (b + 1) Z hist (upd now (78 * p + k) (now (78 * p + k) + v)) := by
  rw [hx, ← e]; exact growP_ok h hp hk hb
theorem read_k {p k : Nat} {x : Int32} (hx : x = nI k) (hp : p < 60) (hk : k < 78) : f_X9_read (nI p) x w = some (w.1 11 (78 * p + k)) := by
  rw [hx]; exact read_s hp hk
theorem OkI.mono {x : Option ((Int32 × CW) × Nat)} {b' : Nat} (h : OkI x w τ T O b Z hist r n1) (hb : b ≤ b') : OkI x w τ T O b' Z hist r n1 := by
  obtain ⟨w1, m1, e1, h1, h2, h3, h4⟩ := h
  exact ⟨w1, m1, e1, h1.mono hb (Nat.le_refl _), h2, h3, h4⟩
end OKC
theorem Ax.fr {w w' : CW} {m m' : MW} {n : Nat} (h : Ax w m n) (f1 : Fr w w') (f2 : FrM m m') : Ax w' m' n := by
  unfold Ax
  rw [f1 5 (by decide) (by decide) (by decide) (by decide), f1 6 (by decide) (by decide) (by decide) (by decide), f1 3 (by decide) (by decide) (by decide) (by decide), f1 19 (by decide) (by decide) (by decide) (by decide), f1 17 (by decide) (by decide) (by decide) (by decide), f1 0 (by decide) (by decide) (by decide) (by decide), f2.1 6 (by decide) (by decide) (by decide) (by decide), f2.1 5 (by decide) (by decide) (by decide) (by decide), f2.1 7 (by decide) (by decide) (by decide) (by decide), f2.2 11 (by decide), f2.2 7 (by decide), f2.2 8 (by decide), f2.2 9 (by decide)]
  exact h
def EqR (n : Nat) (w : CW) (x : Option Int32) (y : Option (Int32 × MW)) : Prop := ∃ r wm2, x = some r ∧ y = some (r, wm2) ∧ Rl (n + 1) w wm2
def Eq0 (n : Nat) (w : CW) (x : Option (Int32 × CW)) (y : Option (Int32 × MW)) : Prop := ∃ r w2 wm2, x = some (r, w2) ∧ y = some (r, wm2) ∧ Rl (n + 1) w2 wm2 ∧ w2.2 = w.2
def Eq1 (n : Nat) (w : CW) (x : Option ((Int32 × CW) × Nat)) (y : Option (Int32 × MW)) : Prop := ∃ r w2 wm2 n2, x = some ((r, w2), n2) ∧ y = some (r, wm2) ∧ Rl (n + 1) w2 wm2 ∧ 4096 * n2 + 2 * w.2 = 2 * w2.2
theorem gd {α : Sort _} (c : Prop) [Decidable c] (x y : α) : (if (if c then (1 : Int32) else 0) = 0 then x else y) = if c then y else x := by
  by_cases h : c
  · rw [if_pos h, if_pos h, if_neg (by decide)]
  · rw [if_neg h, if_neg h, if_pos rfl]
section EQS
variable {n : Nat} {w : CW} {m : MW} {r : Int32}
theorem EqR.ite {c : Prop} [Decidable c] {x x' : Option Int32} {y y' : Option (Int32 × MW)} (h1 : c → EqR n w x y) (h2 : ¬ c → EqR n w x' y') : EqR n w (if c then x else x') (if c then y else y') := by
  by_cases h : c
  · rw [if_pos h, if_pos h]; exact h1 h
  · rw [if_neg h, if_neg h]; exact h2 h
theorem Eq0.ite {c : Prop} [Decidable c] {x x' : Option (Int32 × CW)} {y y' : Option (Int32 × MW)} (h1 : c → Eq0 n w x y) (h2 : ¬ c → Eq0 n w x' y') : Eq0 n w (if c then x else x') (if c then y else y') := by
  by_cases h : c
  · rw [if_pos h, if_pos h]; exact h1 h
  · rw [if_neg h, if_neg h]; exact h2 h
theorem Eq1.ite {c : Prop} [Decidable c] {x x' : Option ((Int32 × CW) × Nat)} {y y' : Option (Int32 × MW)} (h1 : c → Eq1 n w x y) (h2 : ¬ c → Eq1 n w x' y') : Eq1 n w (if c then x else x') (if c then y else y') := by
  by_cases h : c
  · rw [if_pos h, if_pos h]; exact h1 h
  · rw [if_neg h, if_neg h]; exact h2 h
theorem EqR.ret (h : Rl n w m) (hn : n < 513) : EqR n w (some r) (some (r, m)) := ⟨r, m, rfl, rfl, Rl_next h hn⟩
theorem Eq0.ret (h : Rl n w m) (hn : n < 513) : Eq0 n w (some (r, w)) (some (r, m)) := ⟨r, w, m, rfl, rfl, Rl_next h hn, rfl⟩
theorem Eq1.ret (h : Rl n w m) (hn : n < 513) : Eq1 n w (some ((r, w), 0)) (some (r, m)) := ⟨r, w, m, 0, rfl, rfl, Rl_next h hn, by omega⟩
theorem Eq0.fnd {k : Int32} (h : Rl n w m) (hn : n < 513) : Eq0 n w ((f_X9_found k w).bind fun y => some (y.1, y.2)) ((f_X10_found k m).bind fun y => some (y.1, y.2)) :=
  ⟨_, _, _, rfl, rfl, Rl_next h.found hn, rfl⟩
theorem Eq1.fnd {k : Int32} (h : Rl n w m) (hn : n < 513) : Eq1 n w ((f_X9_found k w).bind fun y => some ((y.1, y.2), 0)) ((f_X10_found k m).bind fun y => some (y.1, y.2)) :=
  ⟨_, _, _, 0, rfl, rfl, Rl_next h.found hn, by show 4096 * 0 + 2 * w.2 = 2 * w.2; omega⟩
theorem Rl.fin {w' : CW} {m' : MW} {T O b bm C : Nat} {hc hm : Nat → Nat → Int32} (hn : n < 513) (b2 : T ≤ 60 * n) (g4 : T ≠ 0 → ∀ t, O ≤ t → t ≤ T → Rs (hc t) (hm t) t) (ha : Ax w' m' n) (h1 : HCx w' T T O b (200 * n) hc) (h2 : HMx m' T O bm (200 * n) C hm) (hb : b ≤ 200 * (n + 1)) (hbm : bm ≤ 200 * (n + 1)) (hC : C ≤ 100000 * (n + 1)) (hs : Rs (w'.1 11) (m' 1) T) : Rl (n + 1) w' m' :=
  ⟨T, O, hc, hm, by omega, by omega, h1.mono hb (by omega), h2.mono hbm (by omega) hC, hs, g4, ha.mono (by omega)⟩
theorem Eq1.fin {x : Option ((Int32 × CW) × Nat)} {y : Option (Int32 × MW)} {T O b bm C : Nat} {hc hm : Nat → Nat → Int32} {now' s' : Nat → Int32} (hn : n < 513) (b2 : T ≤ 60 * n) (g4 : T ≠ 0 → ∀ t, O ≤ t → t ≤ T → Rs (hc t) (hm t) t) (g5 : Ax w m n) (hx : OkI x w T T O b (200 * n) hc r now') (hy : OkMI y m T O bm (200 * n) C hm r s') (hb : b ≤ 200 * (n + 1)) (hbm : bm ≤ 200 * (n + 1)) (hC : C ≤ 100000 * (n + 1)) (hs : Rs now' s' T) : Eq1 n w x y := by
  obtain ⟨w', k, e1, q1, q2, q3, q4⟩ := hx
  obtain ⟨m', e2, p1, p2, p3⟩ := hy
  exact ⟨r, w', m', k, e1, e2, Rl.fin hn b2 g4 (g5.fr q3 p3) q1 p1 hb hbm hC (by rw [q2, p2]; exact hs), q4⟩
end EQS
section CONGR
variable {c c' m m' now now' s s' : Nat → Int32}
theorem RPa.congr (h : RPa c m) (hc : ∀ k, (k ≤ 1 ∨ k = 8 ∨ (13 ≤ k ∧ k < 19)) → c' k = c k) (hm : ∀ k, (k ≤ 2 ∨ (7 ≤ k ∧ k < 14)) → m' k = m k) : RPa c' m' := by
  obtain ⟨a1, a2, a3, a4, ⟨d, d1, d2, d3, d4, d5⟩, a6, a7, a8, a9, a10⟩ := h
  unfold RPa
  rw [hc 0 (by omega), hc 1 (by omega), hc 8 (by omega), hm 0 (by omega), hm 2 (by omega), hm 7 (by omega), hm 1 (by omega), hc 13 (by omega)]
  exact ⟨a1, a2, a3, a4, ⟨d, d1, d2, d3, fun i h1 h2 => by rw [hm _ (by omega)]; exact d4 i h1 h2, fun i h1 => by rw [hm _ (by omega)]; exact d5 i h1⟩, fun h i hi => by rw [hc _ (by omega), hm _ (by omega)]; exact a6 h i hi, fun h => ⟨(a7 h).1, fun i h1 h2 => by rw [hc _ (by omega)]; exact (a7 h).2 i h1 h2⟩, fun i hi => by rw [hm _ (by omega)]; exact a8 i hi, a9, a10⟩
theorem RPb.congr {B : Nat} (h : RPb B c m) (hc : ∀ k, (27 ≤ k ∧ k < 48) → c' k = c k) (hm : ∀ k, ((14 ≤ k ∧ k < 26) ∨ (32 ≤ k ∧ k < 41)) → m' k = m k) : RPb B c' m' := by
  obtain ⟨a1, a2, a3⟩ := h
  exact ⟨fun i hi => by rw [hc _ (by omega), hm _ (by omega)]; exact a1 i hi, fun i hi => by rw [hc _ (by omega), hm _ (by omega)]; exact a2 i hi, by rw [hm 32 (by omega)]; exact a3⟩
theorem RPr.congr (h : RPr c m) (hc : ∀ k, ((10 ≤ k ∧ k < 13) ∨ (48 ≤ k ∧ k < 78)) → c' k = c k) (hm : ∀ k, (k = 0 ∨ (26 ≤ k ∧ k ≤ 30) ∨ (41 ≤ k ∧ k ≤ 101)) → m' k = m k) : RPr c' m' := by
  unfold RPr
  rw [hc 10 (by omega), hc 11 (by omega), hc 12 (by omega), hm 0 (by omega), hm 26 (by omega), hm 27 (by omega), hm 28 (by omega), hm 29 (by omega), hm 30 (by omega), hm 101 (by omega)]
  rcases h with h | ⟨h1, h2, h3, n, a, l, q1, q2, q3, q4, q5, q6, q7, q8, q9, q10, q11, q12⟩
  · exact Or.inl h
  · refine Or.inr ⟨h1, h2, h3, n, a, l, q1, q2, q3, q4, q5, q6, q7, q8, q9, q10, q11, fun i hi => ?_⟩
    rw [hm _ (by omega), hm _ (by omega), hc _ (by omega)]
    exact q12 i hi
theorem RPc.congr {B : Nat} (h : RPc B c m) (hc : ∀ k, (2 ≤ k ∧ k < 8) → c' k = c k) (hm : ∀ k, ((3 ≤ k ∧ k < 7) ∨ k = 30 ∨ k = 31 ∨ k = 101) → m' k = m k) : RPc B c' m' := by
  unfold RPc
  rw [hc 2 (by omega), hc 3 (by omega), hc 4 (by omega), hc 5 (by omega), hc 6 (by omega), hc 7 (by omega), hm 3 (by omega), hm 4 (by omega), hm 5 (by omega), hm 6 (by omega), hm 30 (by omega), hm 31 (by omega), hm 101 (by omega)]
  exact h
theorem RPe.congr (h : RPe c m) (hc : ∀ k, k < 78 → c' k = c k) (hm : ∀ k, k < 104 → m' k = m k) : RPe c' m' := by
  intro h0
  rw [hm 0 (by omega)] at h0
  exact ⟨fun k hk => (hc k hk).trans ((h h0).1 k hk), fun k hk => (hm k hk).trans ((h h0).2 k hk)⟩
theorem RPl.congr {B : Nat} (h : RPl B c m) (hc : ∀ k, k < 78 → c' k = c k) (hm : ∀ k, k < 104 → m' k = m k) : RPl B c' m' :=
  ⟨h.1.congr (fun k _ => hc k (by omega)) (fun k _ => hm k (by omega)), h.2.1.congr (fun k _ => hc k (by omega)) (fun k _ => hm k (by omega)), h.2.2.1.congr (fun k _ => hc k (by omega)) (fun k _ => hm k (by omega)), h.2.2.2.1.congr (fun k _ => hc k (by omega)) (fun k _ => hm k (by omega)), h.2.2.2.2.congr hc hm⟩
theorem RPe.of (h : m 0 ≠ 0) : RPe c m := fun q => absurd q h
theorem RLd.congr (h : RLd now s) (h1 : now' 8550 = now 8550) (h2 : s' 11345 = s 11345) (h3 : ∀ j, 5920 ≤ j → j < 8420 → now' j = now j) (h4 : ∀ j, 8844 ≤ j → j < 11344 → s' j = s j) (h5 : ∀ p, p < 60 → s (104 * p) ≠ 0 → s' (104 * p) ≠ 0) (h6 : ∀ p, p < 60 → ∀ k, (k = 9 ∨ (19 ≤ k ∧ k < 27)) → now' (78 * p + k) = now (78 * p + k)) : RLd now' s' := by
  obtain ⟨n, a1, a2, a3, a4, a5, a6⟩ := h
  have hw : ∀ l, l < 500 → whr s' l = whr s l := fun l hl => h4 (8844 + 5 * l + 3) (by omega) (by omega)
  have hin : ∀ p, inP s' n p = inP s n p := fun p => by
    unfold inP
    apply List.filter_congr
    intro l hl
    rw [hw l (by have := List.mem_range.mp hl; omega)]
  refine ⟨n, a1, h1.trans a2, h2.trans a3, fun l hl k hk => ?_, fun l hl => ?_, fun p hp => ?_⟩
  · rw [h3 _ (by omega) (by omega), h4 _ (by omega) (by omega)]; exact a4 l hl k hk
  · obtain ⟨c1, c2⟩ := a5 l hl
    rw [hw l (by omega), h4 (8844 + 5 * l + 1) (by omega) (by omega), h4 (8844 + 5 * l + 2) (by omega) (by omega)]
    refine ⟨?_, c2⟩
    rcases c1 with c1 | c1 | ⟨p, q1, q2, q3⟩
    · exact Or.inl c1
    · exact Or.inr (Or.inl c1)
    · exact Or.inr (Or.inr ⟨p, q1, q2, h5 p q1 q3⟩)
  · obtain ⟨Ls, c1, c2, c3, c4⟩ := a6 p hp
    refine ⟨Ls, c1, by rw [h6 p hp 9 (Or.inl rfl)]; exact c2, fun i x hx => ?_, by rw [hin p]; exact c4⟩
    have hi : i < Ls.length := (List.getElem?_eq_some_iff.mp hx).1
    rw [h6 p hp (19 + i) (Or.inr (by omega))]
    exact c3 i x hx
theorem crs_congr {k : Nat} : ∀ (n : Nat), (∀ p, p < n → s' (104 * p + (14 + k)) = s (104 * p + (14 + k))) → crs s' k n = crs s k n
  | 0, _ => rfl
  | n + 1, h => by
    show crs s' k n + crd s' n k = crs s k n + crd s n k
    rw [crs_congr n (fun p hp => h p (by omega))]
    unfold crd
    rw [h n (by omega)]
theorem RT.congr (h : RT now s) (h1 : ∀ j, 8420 ≤ j → j < 8444 → now' j = now j) (h2 : ∀ j, 8720 ≤ j → j < 8744 → s' j = s j) (h3 : ∀ p, p < 60 → ∀ k, k < 12 → s' (104 * p + (14 + k)) = s (104 * p + (14 + k))) : RT now' s' := by
  obtain ⟨a1, a2⟩ := h
  refine ⟨fun k hk => ?_, fun i j hi hj hij => ?_⟩
  · rw [h1 _ (by omega) (by omega), h1 _ (by omega) (by omega), h2 _ (by omega) (by omega), h2 _ (by omega) (by omega), crs_congr 60 (fun p hp => h3 p hp k hk)]
    obtain ⟨c1, c2, v, x, c3, c4, c5, c6, c7, c8, c9⟩ := a1 k hk
    refine ⟨c1, c2, v, x, c3, c4, c5, c6, fun p hp => ?_, c8, c9⟩
    unfold crd
    rw [h3 p hp k hk]
    exact c7 p hp
  · rw [h2 _ (by omega) (by omega), h2 _ (by omega) (by omega)]
    exact a2 i j hi hj hij
theorem RG.congr (h : RG now s) (h1 : ∀ j, 4680 ≤ j → j < 5920 → now' j = now j) (h2 : ∀ j, 6240 ≤ j → j < 8720 → s' j = s j) : RG now' s' := by
  intro g hg
  rw [h1 (4680 + 31 * g) (by omega) (by omega), h2 (6240 + 62 * g) (by omega) (by omega), h2 (6240 + 62 * g + 1) (by omega) (by omega)]
  rcases h g hg with h | ⟨q1, n, q2, q3, q4, q5⟩
  · exact Or.inl h
  · refine Or.inr ⟨q1, n, q2, q3, q4, fun i hi => ?_⟩
    rw [h1 _ (by omega) (by omega), h2 _ (by omega) (by omega), h2 _ (by omega) (by omega)]
    exact q5 i hi
theorem RX.congr (h : RX now s) (h1 : ∀ j, 8444 ≤ j → j < 8544 → now' j = now j) (h2 : ∀ j, 8744 ≤ j → j < 8844 → s' j = s j) : RX now' s' := by
  intro i hi
  rw [h1 _ (by omega) (by omega), h2 _ (by omega) (by omega)]
  exact h i hi
theorem RZ.congr (h : RZ now s) (h1 : ∀ j, 8544 ≤ j → j < 8556 → j ≠ 8550 → now' j = now j) (h2 : ∀ j, 11346 ≤ j → j < 11357 → s' j = s j) : RZ now' s' := by
  obtain ⟨a1, a2, a3, a4⟩ := h
  refine ⟨fun i hi => ?_, ?_, ?_, fun i hi => ?_⟩
  · rw [h1 _ (by omega) (by omega) (by omega), h1 _ (by omega) (by omega) (by omega), h2 _ (by omega) (by omega), h2 _ (by omega) (by omega)]; exact a1 i hi
  · rw [h1 _ (by omega) (by omega) (by omega), h2 _ (by omega) (by omega)]; exact a2
  · rw [h2 _ (by omega) (by omega)]; exact a3
  · rw [h1 _ (by omega) (by omega) (by omega), h2 _ (by omega) (by omega)]; exact a4 i hi
/-- a place is changed: neither its loads nor its credit -/
theorem Rs.place {T p : Nat} (h : Rs now s T) (hp : p < 60) (hc : ∀ j, (j < 78 * p ∨ 78 * p + 78 ≤ j) → now' j = now j) (hm : ∀ j, (j < 104 * p ∨ 104 * p + 104 ≤ j) → s' j = s j) (hP : RPl (T + 1) (cv now' p) (mv s' p)) (h0 : s (104 * p) ≠ 0 → s' (104 * p) ≠ 0) (hL : ∀ k, (k = 9 ∨ (19 ≤ k ∧ k < 27)) → now' (78 * p + k) = now (78 * p + k)) (hK : ∀ k, k < 12 → s' (104 * p + (14 + k)) = s (104 * p + (14 + k))) : Rs now' s' T := by
  obtain ⟨a1, a2, a3, a4, a5, a6, a7⟩ := h
  refine ⟨fun q hq => ?_, a2.congr (hc _ (by omega)) (hm _ (by omega)) (fun j h1 h2 => hc _ (by omega)) (fun j h1 h2 => hm _ (by omega)) (fun q hq h9 => ?_) (fun q hq k hk => ?_), a3.congr (fun j h1 h2 => hc _ (by omega)) (fun j h1 h2 => hm _ (by omega)) (fun q hq k hk => ?_), a4.congr (fun j h1 h2 => hc _ (by omega)) (fun j h1 h2 => hm _ (by omega)), a5.congr (fun j h1 h2 => hc _ (by omega)) (fun j h1 h2 => hm _ (by omega)), a6.congr (fun j h1 h2 _ => hc _ (by omega)) (fun j h1 h2 => hm _ (by omega)), (hm _ (by omega)).trans a7⟩
  · by_cases hqp : q = p
    · rw [hqp]; exact hP
    · exact (a1 q hq).congr (fun k hk => hc _ (by omega)) (fun k hk => hm _ (by omega))
  · by_cases hqp : q = p
    · rw [hqp] at h9 ⊢; exact h0 h9
    · rw [hm _ (by omega)]; exact h9
  · by_cases hqp : q = p
    · rw [hqp]; exact hL k hk
    · exact hc _ (by omega)
  · by_cases hqp : q = p
    · rw [hqp]; exact hK k hk
    · exact hm _ (by omega)
/-- no place is changed -/
theorem Rs.rest {T : Nat} (h : Rs now s T) (hc : ∀ j, j < 4680 → now' j = now j) (hm : ∀ j, j < 6240 → s' j = s j) (hL : RLd now' s') (hT : RT now' s') (hG : RG now' s') (hX : RX now' s') (hZ : RZ now' s') (ht : s' 11344 = s 11344) : Rs now' s' T :=
  ⟨fun q hq => (h.1 q hq).congr (fun k hk => hc _ (by omega)) (fun k hk => hm _ (by omega)), hL, hT, hG, hX, hZ, ht.trans h.2.2.2.2.2.2⟩
theorem cv_upd (p k : Nat) (v : Int32) : cv (upd now (78 * p + k) v) p = upd (cv now p) k v := by
  funext j
  unfold cv upd
  by_cases h : j = k
  · rw [if_pos (by omega), if_pos h]
  · rw [if_neg (by omega), if_neg h]
theorem mv_upd (p k : Nat) (v : Int32) : mv (upd s (104 * p + k) v) p = upd (mv s p) k v := by
  funext j
  unfold mv upd
  by_cases h : j = k
  · rw [if_pos (by omega), if_pos h]
  · rw [if_neg (by omega), if_neg h]
end CONGR
section HAS
variable {w : CW} {m : MW} {T p g : Nat}
theorem hasMachine_s (h : Rs (w.1 11) (m 1) T) (hp : p < 60) : f_X9_hasMachine (nI p) w = some (if m 1 (104 * p) ≠ 0 then 1 else 0) := by
  obtain ⟨⟨⟨k, hk, e1⟩, e2, -⟩, -⟩ := h.1 p hp
  unfold f_X9_hasMachine
  rw [read_k (k := 0) (by rfl) hp (by omega), Option.bind_some]
  have e3 : w.1 11 (78 * p + 0) = nI k := e2.trans e1
  have e4 : m 1 (104 * p) = nI k := e1
  rw [e3, e4]
  by_cases h0 : k = 0
  · subst h0; rw [if_pos (by decide), if_neg (by decide)]
  · rw [if_neg (nI_nle (by omega) (by omega)), if_pos (show nI k ≠ 0 from fun q => h0 (nI_inj (b := 0) (by omega) (by omega) q))]
theorem isThere_s (h : Rs (w.1 11) (m 1) T) (hp : p < 60) : f_X10_isThere (nI p) m = some (if m 1 (104 * p) ≠ 0 then 1 else 0) := by
  obtain ⟨⟨⟨k, hk, e1⟩, -⟩, -⟩ := h.1 p hp
  unfold f_X10_isThere
  rw [of_s (k := 0) (by rfl) (by omega), Option.bind_some]
  have e4 : m 1 (104 * p) = nI k := e1
  rw [Nat.add_zero, e4]
  by_cases h0 : k = 0
  · subst h0; rw [if_pos (by decide), if_neg (by decide)]
  · rw [if_neg (nI_nle (by omega) (by omega)), if_pos (show nI k ≠ 0 from fun q => h0 (nI_inj (b := 0) (by omega) (by omega) q))]
theorem pcell_s : f_X9_programCell (nI g) = some (nI (4680 + 31 * g)) := by
  unfold f_X9_programCell
  rw [show (31 : Int32) = nI 31 from rfl, pk_mul, show (4680 : Int32) = nI 4680 from rfl, nI_add, Nat.mul_comm]
theorem stepCell_s {i : Nat} : f_X9_stepCell (nI g) (nI i) = some (nI (4680 + 31 * g + 1 + i)) := by
  unfold f_X9_stepCell
  rw [pcell_s, Option.bind_some, show (1 : Int32) = nI 1 from rfl, nI_add, nI_add]
theorem pa_s : (6240 : Int32) + 62 * nI g = nI (6240 + 62 * g) := by
  rw [show (62 : Int32) = nI 62 from rfl, pk_mul, show (6240 : Int32) = nI 6240 from rfl, nI_add]
theorem hasProgram_s (h : Rs (w.1 11) (m 1) T) (hg : g < 40) : f_X9_hasProgram (nI g) w = some (if m 1 (6240 + 62 * g) ≠ 0 then 1 else 0) := by
  unfold f_X9_hasProgram
  rw [pcell_s, Option.bind_some, get_s (by omega), Option.bind_some]
  rcases h.2.2.2.1 g hg with ⟨q1, q2⟩ | ⟨q1, n, q2, q3, q4, q5⟩
  · rw [q1, q2, if_pos (by decide), if_neg (by decide)]
  · rw [q1, q4, if_neg (nI_nle (by omega) (by omega)), if_pos (by decide)]
theorem ta_s : (8720 : Int32) + 2 * nI g = nI (8720 + 2 * g) := by
  rw [show (2 : Int32) = nI 2 from rfl, pk_mul, show (8720 : Int32) = nI 8720 from rfl, nI_add]
theorem xa_s {a c : Nat} : (8744 : Int32) + 10 * nI a + nI c = nI (8744 + 10 * a + c) := by
  rw [show (10 : Int32) = nI 10 from rfl, pk_mul, show (8744 : Int32) = nI 8744 from rfl, nI_add, nI_add]
theorem lb_s : (8844 : Int32) + 5 * nI g = nI (8844 + 5 * g) := by
  rw [show (5 : Int32) = nI 5 from rfl, pk_mul, show (8844 : Int32) = nI 8844 from rfl, nI_add]
theorem lcell_s {k : Nat} {x : Int32} (hx : x = nI k) : f_X9_loadCell (nI g) x = some (nI (5920 + 5 * g + k)) := by
  unfold f_X9_loadCell
  rw [hx, show (5 : Int32) = nI 5 from rfl, pk_mul, show (5920 : Int32) = nI 5920 from rfl, nI_add, nI_add, Nat.mul_comm]
theorem barred_s {a c : Nat} : f_X9_barredCell (nI a) (nI c) = some (nI (8444 + 10 * a + c)) := by
  unfold f_X9_barredCell
  rw [show (10 : Int32) = nI 10 from rfl, pk_mul, show (8444 : Int32) = nI 8444 from rfl, nI_add, nI_add, Nat.mul_comm]
theorem isLoad_s {n : Nat} (x : Int32) (h : w.1 11 8550 = nI n) : f_X9_isLoad x w = some (if (0 : Int32) ≤ x ∧ x ≤ nI n - 1 then 1 else 0) := by
  unfold f_X9_isLoad
  rw [show f_X1_get 8550 w = _ from get_s (a := 8550) (by omega), Option.bind_some, h, within_s, Option.bind_some, chk_t (bz01 _)]
theorem misLoad_s {n : Nat} (x : Int32) (h : m 1 11345 = nI n) : f_X10_isLoad x m = some (if (0 : Int32) ≤ x ∧ x ≤ nI n - 1 then 1 else 0) := by
  unfold f_X10_isLoad
  rw [chk_t (show inb (11345 : Int32) 11360 from inb_nI (a := 11345) (by omega) (by omega)), show (11345 : Int32).toNatClampNeg = 11345 from nI_clamp (n := 11345) (by omega), h, in_s, Option.bind_some, chk_t (bz01 _)]
theorem rngL {x : Int32} {n : Nat} (hn : n < 2 ^ 30) (h : (0 : Int32) ≤ x ∧ x ≤ nI n - 1) : ∃ j, j < n ∧ x = nI j := by
  by_cases h0 : n = 0
  · subst h0
    exact absurd (Int32.le_trans h.1 h.2) (by decide)
  · rw [show nI n - 1 = nI (n - 1) from pk_sub (a := n) (b := 1) (by omega)] at h
    obtain ⟨j, h1, h2⟩ := rng (by omega) h
    exact ⟨j, by omega, h2⟩
end HAS
theorem lit_in {x : Int32} {a N : Nat} (hx : x = nI a) (h : a < N) (hN : N < 2 ^ 31) : inb x N := by rw [hx]; exact inb_nI h hN
theorem lit_cl {x : Int32} {a : Nat} (hx : x = nI a) (h : a < 2 ^ 31) : x.toNatClampNeg = a := by rw [hx]; exact nI_clamp h
theorem gl_k {w : CW} {x : Int32} {a : Nat} (hx : x = nI a) (ha : a < 8556) : f_X1_get x w = some (w.1 11 a) := by rw [hx]; exact get_s ha
theorem sl_k {w : CW} {τ T O b Z : Nat} {hist : Nat → Nat → Int32} {now : Nat → Int32} {x v : Int32} {a : Nat} (hx : x = nI a) (h : HCx w τ T O b Z hist) (e : w.1 11 = now) (ha : a < 8556) (hb : b < 120000) : OkV (f_X1_set x v w) w τ T O (b + 1) Z hist (upd now a v) := by rw [hx]; exact set_k h e ha hb
theorem wl_k {m : MW} {T O b Z C : Nat} {hist : Nat → Nat → Int32} {now : Nat → Int32} {x v : Int32} {a : Nat} (hx : x = nI a) (h : HMx m T O b Z C hist) (e : m 1 = now) (ha : a < 11360) (hb : b < 120000) (hC : C < 2 ^ 30) : OkM (f_X10_w x v m) m T O (b + 1) Z (C + 1) hist (upd now a v) := by rw [hx]; exact w_k h e ha hb hC
