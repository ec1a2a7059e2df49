def undoM (wh wa : Nat → Int32) : Nat → (Nat → Int32) → Nat → Nat → Int32
  | 0, s, _ => s
  | d + 1, s, c => undoM wh wa d (upd s (wh ((c - 1) % 524288)).toNatClampNeg (wa ((c - 1) % 524288))) (c - 1)
theorem undoM_congr {wh wh' wa wa' : Nat → Int32} : ∀ (d : Nat) (s : Nat → Int32) (c : Nat), d ≤ c → (∀ i, c - d ≤ i → i < c → wh' (i % 524288) = wh (i % 524288) ∧ wa' (i % 524288) = wa (i % 524288)) → undoM wh' wa' d s c = undoM wh wa d s c
  | 0, _, _, _, _ => rfl
  | d + 1, s, c, h, hi => by
    show undoM wh' wa' d _ (c - 1) = undoM wh wa d _ (c - 1)
    rw [(hi (c - 1) (by omega) (by omega)).1, (hi (c - 1) (by omega) (by omega)).2]
    exact undoM_congr d _ (c - 1) (by omega) (fun i h1 h2 => hi i (by omega) (by omega))
theorem undoM_add {wh wa : Nat → Int32} : ∀ (d1 d2 : Nat) (s : Nat → Int32) (c : Nat), undoM wh wa (d1 + d2) s c = undoM wh wa d2 (undoM wh wa d1 s c) (c - d1)
  | 0, d2, s, c => by rw [Nat.zero_add]; rfl
  | d1 + 1, d2, s, c => by
    rw [show d1 + 1 + d2 = (d1 + d2) + 1 by omega]
    show undoM wh wa (d1 + d2) _ (c - 1) = undoM wh wa d2 (undoM wh wa d1 _ (c - 1)) (c - (d1 + 1))
    rw [undoM_add d1 d2, show c - 1 - d1 = c - (d1 + 1) by omega]
theorem undoM_push {wh wa s : Nat → Int32} {a d c : Nat} {v : Int32} (ha : a < 2 ^ 31) (hd : d ≤ c) (hN : d < 524288) : undoM (upd wh (c % 524288) (nI a)) (upd wa (c % 524288) (s a)) (d + 1) (upd s a v) (c + 1) = undoM wh wa d s c := by
  show undoM _ _ d (upd (upd s a v) (upd wh (c % 524288) (nI a) ((c + 1 - 1) % 524288)).toNatClampNeg (upd wa (c % 524288) (s a) ((c + 1 - 1) % 524288))) (c + 1 - 1) = _
  rw [Nat.add_sub_cancel, upd_at, upd_at, nI_clamp ha, upd_upd, upd_same]
  exact undoM_congr d s c hd (fun i h1 h2 => ⟨upd_ne _ _ (by omega), upd_ne _ _ (by omega)⟩)
/-- the log of the reference -/
def HM (m : MW) (T O b Z C : Nat) (hist : Nat → Nat → Int32) (c : Nat) (mk : Nat → Nat) : Prop :=
  (m 0 4 = nI c ∧ c ≤ C ∧ m 0 6 = nI O) ∧
  (O ≤ T ∧ T ≤ O + 300 ∧ T < 100000) ∧
  (∀ t, O ≤ t → t ≤ T → m 4 (t % 301) = nI (mk t) ∧ mk O ≤ mk t ∧ mk t ≤ c ∧ c - mk t ≤ (T - t) * K1 + b ∧ undoM (m 2) (m 3) (c - mk t) (m 1) c = hist t) ∧
  (∀ t t', O ≤ t → t ≤ t' → t' ≤ T → mk t ≤ mk t' ∧ mk t' - mk t ≤ (t' - t) * K1 + Z) ∧
  (∀ i, mk O ≤ i → i < c → ∃ a, a < 11360 ∧ m 2 (i % 524288) = nI a)
def HMx (m : MW) (T O b Z C : Nat) (hist : Nat → Nat → Int32) : Prop := ∃ c mk, HM m T O b Z C hist c mk
def FrM (m m' : MW) : Prop := (∀ p, p ≠ 0 → p ≠ 1 → p ≠ 2 → p ≠ 3 → m' p = m p) ∧ ∀ k, k ≠ 4 → m' 0 k = m 0 k
theorem FrM.refl (m : MW) : FrM m m := ⟨fun _ _ _ _ _ => rfl, fun _ _ => rfl⟩
theorem FrM.trans {a b c : MW} (h1 : FrM a b) (h2 : FrM b c) : FrM a c := ⟨fun p a1 a2 a3 a4 => (h2.1 p a1 a2 a3 a4).trans (h1.1 p a1 a2 a3 a4), fun k h => (h2.2 k h).trans (h1.2 k h)⟩
theorem HM.mono {m : MW} {T O b b' Z Z' C C' : Nat} {hist : Nat → Nat → Int32} {c : Nat} {mk : Nat → Nat} (h : HM m T O b Z C hist c mk) (hb : b ≤ b') (hZ : Z ≤ Z') (hC : C ≤ C') : HM m T O b' Z' C' hist c mk := by
  obtain ⟨⟨a1, a2, a3⟩, b1, a4, a5, a6⟩ := h
  refine ⟨⟨a1, by omega, a3⟩, b1, fun t h1 h2 => ?_, fun t t' h1 h2 h3 => ?_, a6⟩
  · obtain ⟨c1, c2, c3, c4, c5⟩ := a4 t h1 h2
    exact ⟨c1, c2, c3, by omega, c5⟩
  · obtain ⟨c1, c2⟩ := a5 t t' h1 h2 h3
    exact ⟨c1, by omega⟩
theorem HM.congr {m m' : MW} {T O b Z C : Nat} {hist : Nat → Nat → Int32} {c : Nat} {mk : Nat → Nat} (h : HM m T O b Z C hist c mk) (h4 : m' 0 4 = m 0 4) (h6 : m' 0 6 = m 0 6) (h1 : m' 1 = m 1) (h2 : m' 2 = m 2) (h3 : m' 3 = m 3) (hm : m' 4 = m 4) : HM m' T O b Z C hist c mk := by
  unfold HM at h ⊢
  rw [h4, h6, h1, h2, h3, hm]
  exact h
theorem HM.live {m : MW} {T O b Z C : Nat} {hist : Nat → Nat → Int32} {c : Nat} {mk : Nat → Nat} (h : HM m T O b Z C hist c mk) : ∀ t, O ≤ t → t ≤ T → c - mk t ≤ 399000 + b := by
  intro t h1 h2
  obtain ⟨-, ⟨b1, b2, b3⟩, a4, -, -⟩ := h
  have := (a4 t h1 h2).2.2.2.1
  have h7 : (T - t) * K1 ≤ 300 * K1 := Nat.mul_le_mul_right _ (by omega)
  have h8 : 300 * K1 = 399000 := by decide
  omega
theorem mask_s {c : Nat} (h : c < 2 ^ 31) : nI c &&& (524287 : Int32) = nI (c % 524288) := pk_andN (k := 19) (by omega) (by decide)
theorem w_s {m : MW} {T O b Z C : Nat} {hist : Nat → Nat → Int32} {a : Nat} (v : Int32) (h : HMx m T O b Z C hist) (ha : a < 11360) (hb : b < 120000) (hC : C < 2 ^ 30) :
    ∃ m', f_X10_w (nI a) v m = some m' ∧ HMx m' T O (b + 1) Z (C + 1) hist ∧ m' 1 = upd (m 1) a v ∧ FrM m m' := by
  obtain ⟨c, mk, h⟩ := h
  obtain ⟨⟨a1, a2, a3⟩, ⟨b1, b2, b3⟩, a4, a5, a6⟩ := id h
  unfold f_X10_w
  have ea : (nI a).toNatClampNeg = a := nI_clamp (by omega)
  rw [chk_t (inb_nI ha (by omega))]
  by_cases hv : m 1 a = v
  · rw [if_pos (show m 1 (nI a).toNatClampNeg = v by rw [ea]; exact hv)]
    exact ⟨m, rfl, ⟨c, mk, h.mono (by omega) (Nat.le_refl _) (by omega)⟩, by rw [← hv, upd_same], FrM.refl m⟩
  · have hm := Nat.mod_lt c (show 524288 > 0 by omega)
    have ec : (nI (c % 524288)).toNatClampNeg = c % 524288 := nI_clamp (by omega)
    rw [if_neg (show ¬ m 1 (nI a).toNatClampNeg = v by rw [ea]; exact hv), a1, mask_s (by omega), chk_t (inb_nI hm (by omega)), chk_t (inb_nI ha (by omega)), mst_ne _ _ _ (show 0 ≠ 2 by decide), a1, mask_s (by omega), chk_t (inb_nI hm (by omega)), mst_ne _ _ _ (show 1 ≠ 2 by decide), Option.bind_some, chk_t (inb_nI ha (by omega)), ea, ec]
    have k0 : (mst (mst m 2 (c % 524288) (nI a)) 3 (c % 524288) (m 1 a)) 0 = m 0 := by rw [mst_ne _ _ _ (by decide), mst_ne _ _ _ (by decide)]
    rw [k0, a1, show nI c + (1 : Int32) = nI (c + 1) from nI_1 c]
    generalize hm' : mst (mst (mst (mst m 2 (c % 524288) (nI a)) 3 (c % 524288) (m 1 a)) 0 4 (nI (c + 1))) 1 a v = m'
    have j0 : m' 0 = upd (m 0) 4 (nI (c + 1)) := by rw [← hm', mst_ne _ _ _ (by decide), mst_at, k0]
    have j1 : m' 1 = upd (m 1) a v := by rw [← hm', mst_at, mst_ne _ _ _ (by decide), mst_ne _ _ _ (by decide), mst_ne _ _ _ (by decide)]
    have j2 : m' 2 = upd (m 2) (c % 524288) (nI a) := by rw [← hm', mst_ne _ _ _ (by decide), mst_ne _ _ _ (by decide), mst_ne _ _ _ (by decide), mst_at]
    have j3 : m' 3 = upd (m 3) (c % 524288) (m 1 a) := by rw [← hm', mst_ne _ _ _ (by decide), mst_ne _ _ _ (by decide), mst_at, mst_ne _ _ _ (by decide)]
    have j4 : ∀ p, p ≠ 0 → p ≠ 1 → p ≠ 2 → p ≠ 3 → m' p = m p := fun p q0 q1 q2 q3 => by rw [← hm', mst_ne _ _ _ q1, mst_ne _ _ _ q0, mst_ne _ _ _ q3, mst_ne _ _ _ q2]
    refine ⟨m', rfl, ⟨c + 1, mk, ⟨⟨by rw [j0, upd_at], by omega, by rw [j0, upd_ne _ _ (by decide)]; exact a3⟩, ⟨b1, b2, b3⟩, fun t h1 h2 => ?_, a5, fun i h1 h2 => ?_⟩⟩, j1, ⟨j4, fun k hk => by rw [j0, upd_ne _ _ hk]⟩⟩
    · obtain ⟨g1, g2, g3, g4, g5⟩ := a4 t h1 h2
      have hl := h.live t h1 h2
      refine ⟨by rw [j4 4 (by decide) (by decide) (by decide) (by decide)]; exact g1, g2, by omega, by omega, ?_⟩
      rw [j1, j2, j3, show c + 1 - mk t = (c - mk t) + 1 by omega, undoM_push (by omega) (by omega) (by omega)]
      exact g5
    · rw [j2]
      have hl := h.live O (Nat.le_refl _) b1
      by_cases hi : i = c
      · subst hi
        exact ⟨a, ha, upd_at _ _ _⟩
      · obtain ⟨x, g1, g2⟩ := a6 i h1 (by omega)
        exact ⟨x, g1, by rw [upd_ne _ _ (by omega)]; exact g2⟩
theorem backL_s {x : Nat} : ∀ (n c : Nat) (m : MW), m 0 4 = nI c → x ≤ c → c - x < n → c < 2 ^ 30 → (∀ i, x ≤ i → i < c → ∃ a, a < 11360 ∧ m 2 (i % 524288) = nI a) →
    ∃ m', f_X10_back_l70 n (nI x) m = some (m' 1 11344, m') ∧ m' 1 = undoM (m 2) (m 3) (c - x) (m 1) c ∧ (∀ p, p ≠ 0 → p ≠ 1 → m' p = m p) ∧ m' 0 4 = nI x ∧ ∀ k, k ≠ 4 → m' 0 k = m 0 k
  | 0, c, m, _, _, h, _, _ => by omega
  | n + 1, c, m, h4, hx, hn, hc, hv => by
    show ∃ m', f_X10_back_l70_body (f_X10_back_l70 n) (nI x) m = _ ∧ _
    unfold f_X10_back_l70_body
    rw [h4]
    by_cases hxc : x = c
    · subst hxc
      rw [if_pos (nI_le (Nat.le_refl _) (by omega)), chk_t (show inb (11344 : Int32) 11360 from inb_nI (a := 11344) (by omega) (by omega)), Nat.sub_self]
      exact ⟨m, rfl, rfl, fun _ _ _ => rfl, h4, fun _ _ => rfl⟩
    · obtain ⟨a, ha, hla⟩ := hv (c - 1) (by omega) (by omega)
      have hm := Nat.mod_lt (c - 1) (show 524288 > 0 by omega)
      rw [if_neg (nI_ge (by omega) (by omega)), show nI c - (1 : Int32) = nI (c - 1) from pk_sub (a := c) (b := 1) (by omega), mst_at, upd_at, mask_s (by omega), chk_t (inb_nI hm (by omega)), chk_t (inb_nI hm (by omega)), nI_clamp (by omega), mst_ne _ _ _ (show 2 ≠ 0 by decide), mst_ne _ _ _ (show 3 ≠ 0 by decide), hla, chk_t (inb_nI ha (by omega)), Option.bind_some, nI_clamp (by omega)]
      generalize hm6 : mst (mst m 0 4 (nI (c - 1))) 1 a (m 3 ((c - 1) % 524288)) = m6
      have g0 : m6 0 = upd (m 0) 4 (nI (c - 1)) := by rw [← hm6, mst_ne _ _ _ (by decide), mst_at]
      have g1 : m6 1 = upd (m 1) a (m 3 ((c - 1) % 524288)) := by rw [← hm6, mst_at, mst_ne _ _ _ (by decide)]
      have gp : ∀ p, p ≠ 0 → p ≠ 1 → m6 p = m p := fun p q0 q1 => by rw [← hm6, mst_ne _ _ _ q1, mst_ne _ _ _ q0]
      obtain ⟨m', k1, k2, k3, k4, k5⟩ := backL_s (x := x) n (c - 1) m6 (by rw [g0, upd_at]) (by omega) (by omega) (by omega) (fun i h1 h2 => by rw [gp 2 (by decide) (by decide)]; exact hv i h1 (by omega))
      refine ⟨m', k1, ?_, fun p q0 q1 => (k3 p q0 q1).trans (gp p q0 q1), k4, fun k hk => by rw [k5 k hk, g0, upd_ne _ _ hk]⟩
      rw [k2, gp 2 (by decide) (by decide), gp 3 (by decide) (by decide), g1, show c - x = (c - 1 - x) + 1 by omega]
      show _ = undoM (m 2) (m 3) (c - 1 - x) (upd (m 1) (m 2 ((c - 1) % 524288)).toNatClampNeg (m 3 ((c - 1) % 524288))) (c - 1)
      rw [hla, nI_clamp (by omega)]
