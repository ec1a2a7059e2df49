section O1
/-- what the marks leave alone -/
def FrK (m m' : MW) : Prop := (∀ p, p ≠ 0 → p ≠ 1 → p ≠ 2 → p ≠ 3 → p ≠ 4 → m' p = m p) ∧ ∀ k, k ≠ 4 → k ≠ 6 → m' 0 k = m 0 k
theorem FrK.trans {a b c : MW} (h1 : FrK a b) (h2 : FrK b c) : FrK a c := ⟨fun p a1 a2 a3 a4 a5 => (h2.1 p a1 a2 a3 a4 a5).trans (h1.1 p a1 a2 a3 a4 a5), fun k h h6 => (h2.2 k h h6).trans (h1.2 k h h6)⟩
theorem FrM.fk {a b : MW} (h : FrM a b) : FrK a b := ⟨fun p a1 a2 a3 a4 _ => h.1 p a1 a2 a3 a4, fun k h1 _ => h.2 k h1⟩
theorem mbegin_s {m : MW} {T O b Z C : Nat} {hm : Nat → Nat → Int32} (h : HMx m T O b Z C hm) (e : m 1 11344 = nI T) (hT : T < 99000) (hb : b < 120000) (hC : C < 2 ^ 30) :
    ∃ m1 O' hm', f_X10_oneMinute m = f_X10_oneMinute_l45 FU 0 m1 ∧ HMx m1 T O' (b + 1) Z (C + 1) hm' ∧ m1 1 = upd (m 1) 11344 (nI (T + 1)) ∧ FrK m m1 ∧ (T = 0 → O' = 0 ∧ hm' 0 = m 1) ∧ (T ≠ 0 → O' = O ∧ hm' = hm) := by
  have i44 : inb (11344 : Int32) 11360 := lit_in (a := 11344) rfl (by omega) (by omega)
  have l44 : (11344 : Int32).toNatClampNeg = 11344 := lit_cl (a := 11344) rfl (by omega)
  have kb : ∀ (m0 : MW) (O0 : Nat) (h0 : Nat → Nat → Int32), HMx m0 T O0 b Z C h0 → m0 1 = m 1 → ∃ m1, f_X10_oneMinute_b26 m0 = f_X10_oneMinute_l45 FU 0 m1 ∧ HMx m1 T O0 (b + 1) Z (C + 1) h0 ∧ m1 1 = upd (m 1) 11344 (nI (T + 1)) ∧ FrM m0 m1 := by
    intro m0 O0 h0 g1 g2
    obtain ⟨m1, q1, q2, q3, q4⟩ := wl_k (x := 11344) (v := m0 1 11344 + 1) (a := 11344) rfl g1 g2 (by omega) hb hC
    refine ⟨m1, ?_, q2, ?_, q4⟩
    · unfold f_X10_oneMinute_b26
      simp only [chk_t i44, l44]
      rw [q1, Option.bind_some]
    · rw [q3, g2, e, nI_1]
  unfold f_X10_oneMinute
  simp only [chk_t i44, l44, chk_t (show inb (0 : Int32) 301 by decide)]
  rw [e]
  by_cases h0 : T = 0
  · subst h0
    obtain ⟨c, mk, ⟨⟨a1, a2, a3⟩, b1, a4, a5, a6⟩⟩ := h
    rw [if_pos (show nI 0 = (0 : Int32) from rfl), a1]
    generalize hm' : mst (mst m 4 ((0 : Int32)).toNatClampNeg (nI c)) 0 6 ((0 : Int32)) = m'
    have j0 : m' 0 = upd (m 0) 6 0 := by rw [← hm', mst_at, mst_ne _ _ _ (by decide)]
    have j4 : m' 4 = upd (m 4) 0 (nI c) := by rw [← hm', mst_ne _ _ _ (by decide), mst_at]; rfl
    have jp : ∀ p, p ≠ 0 → p ≠ 4 → m' p = m p := fun p q0 q4 => by rw [← hm', mst_ne _ _ _ q0, mst_ne _ _ _ q4]
    have hx : HMx m' 0 0 b Z C (fun _ => m 1) := by
      refine ⟨c, fun _ => c, ⟨⟨?_, a2, ?_⟩, ⟨Nat.le_refl _, by omega, by omega⟩, fun t h1 h2 => ?_, fun t t' h1 h2 h3 => ⟨Nat.le_refl _, by show c - c ≤ _; omega⟩, fun i h1 h2 => absurd h1 (by show ¬ c ≤ i; omega)⟩⟩
      · rw [j0, upd_ne _ _ (by decide)]; exact a1
      · rw [j0, upd_at]; rfl
      · have : t = 0 := by omega
        subst this
        refine ⟨?_, Nat.le_refl _, Nat.le_refl _, by show c - c ≤ _; omega, ?_⟩
        · rw [j4]; exact upd_at _ _ _
        · show undoM (m' 2) (m' 3) (c - c) (m' 1) c = m 1
          rw [Nat.sub_self]
          exact jp 1 (by decide) (by decide)
    obtain ⟨m1, q1, q2, q3, q4⟩ := kb m' 0 _ hx (jp 1 (by decide) (by decide))
    refine ⟨m1, 0, _, q1, q2, q3, ?_, fun _ => ⟨rfl, rfl⟩, fun q => absurd rfl q⟩
    refine FrK.trans ⟨fun p p0 p1 p2 p3 p4 => jp p p0 p4, fun k k4 k6 => ?_⟩ q4.fk
    rw [j0, upd_ne _ _ k6]
  · rw [if_neg (show ¬ nI T = 0 from nI_ne0 (by omega) (by omega))]
    obtain ⟨m1, q1, q2, q3, q4⟩ := kb m O hm h rfl
    exact ⟨m1, O, hm, q1, q2, q3, q4.fk, fun q => absurd q h0, fun _ => ⟨rfl, rfl⟩⟩
theorem mend_s {m : MW} {T O b Z C : Nat} {hm : Nat → Nat → Int32} (h : HMx m T O b Z C hm) (e : m 1 11344 = nI (T + 1)) (hb : b ≤ Z + K1) (hT : T < 99000) (kf R : Nat) (hR : R ≤ 60) :
    ∃ m' O', f_X10_oneMinute_l187 (kf + 1) (nI R) (nI R) m = some m' ∧ HMx m' (T + 1) O' Z Z C (fun t => if t = T + 1 then m 1 else hm t) ∧ m' 1 = m 1 ∧ FrK m m' ∧ O' = (if O + 300 < T + 1 then T + 1 - 300 else O) := by
  obtain ⟨c, mk, ⟨⟨a1, a2, a3⟩, ⟨b1, b2, b3⟩, a4, a5, a6⟩⟩ := h
  obtain ⟨O', hO'⟩ : ∃ O', O' = (if O + 300 < T + 1 then T + 1 - 300 else O) := ⟨_, rfl⟩
  have hOb : O ≤ O' ∧ O' ≤ T ∧ T + 1 ≤ O' + 300 := by
    rw [hO']
    by_cases h4 : O + 300 < T + 1
    · rw [if_pos h4]; omega
    · rw [if_neg h4]; omega
  have i44 : inb (11344 : Int32) 11360 := lit_in (a := 11344) rfl (by omega) (by omega)
  have l44 : (11344 : Int32).toNatClampNeg = 11344 := lit_cl (a := 11344) rfl (by omega)
  have hmod : (T + 1) % 301 < 301 := Nat.mod_lt _ (by omega)
  have er : f_X10_oneMinute_l187 (kf + 1) (nI R) (nI R) m = some (mst (mst m 4 ((T + 1) % 301) (nI c)) 0 6 (nI O')) := by
    show f_X10_oneMinute_l187_body (f_X10_oneMinute_l187 kf) (nI R) (nI R) m = _
    unfold f_X10_oneMinute_l187_body
    rw [if_pos (nI_le (Nat.le_refl R) (by omega))]
    simp only [chk_t i44, l44]
    rw [e, rem_s (d := 301) (by rfl) (by omega) (by omega) (by omega), chk_t (inb_nI hmod (by omega)), nI_clamp (show (T + 1) % 301 < 2 ^ 31 by omega), a1, Option.bind_some]
    have k0 : (mst m 4 ((T + 1) % 301) (nI c)) 0 = m 0 := mst_ne _ _ _ (by decide)
    have k1 : (mst m 4 ((T + 1) % 301) (nI c)) 1 = m 1 := mst_ne _ _ _ (by decide)
    rw [k0, k1, e, a3, pk_sub (show O ≤ T + 1 by omega), show (300 : Int32) = nI 300 from rfl]
    by_cases h4 : O + 300 < T + 1
    · rw [if_neg (nI_ge (by omega) (by omega)), hO', if_pos h4, pk_sub (show 300 ≤ T + 1 by omega)]
    · rw [if_pos (nI_le (by omega) (by omega)), hO', if_neg h4]
  rw [er]
  generalize hm' : mst (mst m 4 ((T + 1) % 301) (nI c)) 0 6 (nI O') = m'
  have j0 : m' 0 = upd (m 0) 6 (nI O') := by rw [← hm', mst_at, mst_ne _ _ _ (by decide)]
  have j4 : m' 4 = upd (m 4) ((T + 1) % 301) (nI c) := by rw [← hm', mst_ne _ _ _ (by decide), mst_at]
  have jp : ∀ p, p ≠ 0 → p ≠ 4 → m' p = m p := fun p q0 q4 => by rw [← hm', mst_ne _ _ _ q0, mst_ne _ _ _ q4]
  have j1 : m' 1 = m 1 := jp 1 (by decide) (by decide)
  have j2 : m' 2 = m 2 := jp 2 (by decide) (by decide)
  have j3 : m' 3 = m 3 := jp 3 (by decide) (by decide)
  have hne : ∀ t, O' ≤ t → t ≤ T → t % 301 ≠ (T + 1) % 301 := fun t h1 h2 => by omega
  have hK : ∀ t, t ≤ T → (T + 1 - t) * K1 = (T - t) * K1 + K1 := fun t ht => by
    rw [show T + 1 - t = (T - t) + 1 by omega, Nat.succ_mul]
  refine ⟨m', O', rfl, ⟨c, fun t => if t = T + 1 then c else mk t, ⟨⟨?_, a2, ?_⟩, ⟨by omega, by omega, by omega⟩, fun t h1 h2 => ?_, fun t t' h1 h2 h3 => ?_, fun i h1 h2 => ?_⟩⟩, j1, ⟨fun p p0 p1 p2 p3 p4 => jp p p0 p4, fun k k4 k6 => by rw [j0, upd_ne _ _ k6]⟩, hO'⟩
  · rw [j0, upd_ne _ _ (by decide)]; exact a1
  · rw [j0, upd_at]
  · rw [j4, j2, j3, j1]
    have hO1 : (if O' = T + 1 then c else mk O') = mk O' := if_neg (by omega)
    by_cases ht : t = T + 1
    · subst ht
      simp only [if_pos, hO1]
      refine ⟨upd_at _ _ _, (a4 O' (by omega) (by omega)).2.2.1, Nat.le_refl _, by omega, ?_⟩
      rw [Nat.sub_self]; rfl
    · obtain ⟨g1, g2, g3, g4, g5⟩ := a4 t (by omega) (by omega)
      simp only [if_neg ht, hO1]
      refine ⟨by rw [upd_ne _ _ (hne t h1 (by omega))]; exact g1, (a5 O' t (by omega) h1 (by omega)).1, g3, ?_, g5⟩
      have := hK t (by omega)
      omega
  · by_cases ht' : t' = T + 1
    · subst ht'
      by_cases ht : t = T + 1
      · subst ht
        simp only [if_pos]
        exact ⟨Nat.le_refl _, by omega⟩
      · simp only [if_pos, if_neg ht]
        obtain ⟨g1, g2, g3, g4, g5⟩ := a4 t (by omega) (by omega)
        have := hK t (by omega)
        exact ⟨g3, by omega⟩
    · show (if t = T + 1 then c else mk t) ≤ (if t' = T + 1 then c else mk t') ∧ (if t' = T + 1 then c else mk t') - (if t = T + 1 then c else mk t) ≤ _
      rw [if_neg (show t ≠ T + 1 by omega), if_neg ht']
      exact a5 t t' (by omega) h2 (by omega)
  · rw [j2]
    have h1' : (if O' = T + 1 then c else mk O') ≤ i := h1
    rw [if_neg (show O' ≠ T + 1 by omega)] at h1'
    exact a6 i (by have := (a4 O' (by omega) (by omega)).2.1; omega) h2
section RM
variable {c m now s : Nat → Int32} {T B B' : Nat}
theorem RPl.mono (h : RPl B c m) (hB : B ≤ B') : RPl B' c m := by
  obtain ⟨pa, ⟨b1, b2, g, hg, eg⟩, pr, ⟨q1, q2, q3, q4, q5, q6, ⟨v, hv, ev⟩, q8, q9⟩, pe⟩ := h
  exact ⟨pa, ⟨b1, b2, g, by omega, eg⟩, pr, ⟨q1, q2, q3, q4, q5, q6, ⟨v, by omega, ev⟩, q8, q9⟩, pe⟩
/-- the clock goes on -/
theorem Rs.clock (h : Rs now s T) : Rs now (upd s 11344 (nI (T + 1))) (T + 1) := by
  have m1 : ∀ j, j ≠ 11344 → upd s 11344 (nI (T + 1)) j = s j := fun j hj => upd_ne _ _ hj
  exact ⟨fun p hp => ((h.1 p hp).mono (by omega)).congr (fun k hk => rfl) (fun k hk => m1 _ (by omega)), h.2.1.congr rfl (m1 _ (by omega)) (fun j _ _ => rfl) (fun j h1 h2 => m1 _ (by omega)) (fun q hq h9 => by rw [m1 _ (by omega)]; exact h9) (fun q hq k hk => rfl), h.2.2.1.congr (fun j _ _ => rfl) (fun j h1 h2 => m1 _ (by omega)) (fun q hq k hk => m1 _ (by omega)), h.2.2.2.1.congr (fun j _ _ => rfl) (fun j h1 h2 => m1 _ (by omega)), h.2.2.2.2.1.congr (fun j _ _ => rfl) (fun j h1 h2 => m1 _ (by omega)), h.2.2.2.2.2.1.congr (fun j _ _ _ => rfl) (fun j h1 h2 => m1 _ (by omega)), upd_at _ _ _⟩
end RM
end O1
