section M4
variable {n : Nat} {w : CW} {wm : MW} {now s : Nat → Int32} {T p : Nat}
theorem addl_k {τ O b Z : Nat} {hist : Nat → Nat → Int32} {x v : Int32} {a : Nat} (hx : x = nI a) (h : HCx w τ T O b Z hist) (e : w.1 11 = now) (ha : a < 8556) (hb : b < 120000) : OkV (f_X1_add x v w) w τ T O (b + 1) Z hist (upd now a (now a + v)) := by rw [hx]; exact add_k h e ha hb
def endN (now : Nat → Int32) (p : Nat) : Nat → Int32 := upd (upd (upd (upd (upd (upd (upd (upd (upd now 8555 (now 8555 + now (78 * p + 4))) (78 * p + 4) 0) (78 * p + 2) 1) (78 * p + 3) 1) (78 * p + 5) 0) (78 * p + 6) 0) (78 * p + 10) 0) (78 * p + 11) 0) (78 * p + 12) 0
def endS (s : Nat → Int32) (p : Nat) : Nat → Int32 := upd (upd (upd (upd (upd (upd (upd s 11349 (s 11349 + s (104 * p + 5))) (104 * p + 5) 0) (104 * p + 3) 1) (104 * p + 4) 1) (104 * p + 6) 0) (104 * p + 26) 0) (104 * p + 30) 0
theorem endRun_k {τ O b Z : Nat} {hist : Nat → Nat → Int32} (h : HCx w τ T O b Z hist) (e : w.1 11 = now) (hp : p < 60) (hb : b + 9 < 120000) : OkV (f_X9_endRun (nI p) w) w τ T O (b + 9) Z hist (endN now p) := by
  have hd : OkV (f_X9_drainOff (nI p) w) w τ T O (b + 2) Z hist (upd (upd now 8555 (now 8555 + now (78 * p + 4))) (78 * p + 4) 0) := by
    unfold f_X9_drainOff
    rw [read_k (k := 4) (by rfl) hp (by omega), Option.bind_some, e]
    exact (addl_k (a := 8555) rfl h e (by omega) (by omega)).bv fun _ h1 e1 _ => (write_k (k := 4) rfl h1 e1 hp (by omega) (by omega)).bv fun _ h1 e1 _ => OkV.dn h1 e1
  unfold f_X9_endRun
  exact hd.bv fun _ h1 e1 _ => (write_k (k := 2) rfl h1 e1 hp (by omega) (by omega)).bv fun _ h1 e1 _ => (write_k (k := 3) rfl h1 e1 hp (by omega) (by omega)).bv fun _ h1 e1 _ => (write_k (k := 5) rfl h1 e1 hp (by omega) (by omega)).bv fun _ h1 e1 _ => (write_k (k := 6) rfl h1 e1 hp (by omega) (by omega)).bv fun _ h1 e1 _ => (write_k (k := 10) rfl h1 e1 hp (by omega) (by omega)).bv fun _ h1 e1 _ => (write_k (k := 11) rfl h1 e1 hp (by omega) (by omega)).bv fun _ h1 e1 _ => (write_k (k := 12) rfl h1 e1 hp (by omega) (by omega)).bv fun _ h1 e1 _ => OkV.dn h1 e1
theorem ends_k {m : MW} {O b Z C : Nat} {hist : Nat → Nat → Int32} (h : HMx m T O b Z C hist) (e : m 1 = s) (hp : p < 60) (hb : b + 7 < 120000) (hC : C + 7 < 2 ^ 30) : OkM (f_X10_ends (nI p) m) m T O (b + 7) Z (C + 7) hist (endS s p) := by
  unfold f_X10_ends
  rw [chk_t (lit_in (a := 11349) (by rfl) (by omega) (by omega)), lit_cl (x := 11349) (a := 11349) (by rfl) (by omega), of_s (k := 5) (by rfl) (by omega), Option.bind_some, e]
  exact (wl_k (a := 11349) rfl h e (by omega) (by omega) (by omega)).bv fun _ h1 e1 _ => (let_k (k := 5) rfl h1 e1 (by omega) (by omega) (by omega)).bv fun _ h1 e1 _ => (let_k (k := 3) rfl h1 e1 (by omega) (by omega) (by omega)).bv fun _ h1 e1 _ => (let_k (k := 4) rfl h1 e1 (by omega) (by omega) (by omega)).bv fun _ h1 e1 _ => (let_k (k := 6) rfl h1 e1 (by omega) (by omega) (by omega)).bv fun _ h1 e1 _ => (let_k (k := 26) rfl h1 e1 (by omega) (by omega) (by omega)).bv fun _ h1 e1 _ => (let_k (k := 30) rfl h1 e1 (by omega) (by omega) (by omega)).bv fun _ h1 e1 _ => OkM.dn h1 e1
theorem endN_ne {j : Nat} (h : j ≠ 8555 ∧ (j < 78 * p + 2 ∨ (78 * p + 7 ≤ j ∧ j < 78 * p + 10) ∨ 78 * p + 13 ≤ j)) : endN now p j = now j := by
  unfold endN
  rw [upd_ne _ _ (by omega), upd_ne _ _ (by omega), upd_ne _ _ (by omega), upd_ne _ _ (by omega), upd_ne _ _ (by omega), upd_ne _ _ (by omega), upd_ne _ _ (by omega), upd_ne _ _ (by omega), upd_ne _ _ (by omega)]
theorem endS_ne {j : Nat} (h : j ≠ 11349 ∧ (j < 104 * p + 3 ∨ (104 * p + 7 ≤ j ∧ j ≠ 104 * p + 26 ∧ j ≠ 104 * p + 30))) : endS s p j = s j := by
  unfold endS
  rw [upd_ne _ _ (by omega), upd_ne _ _ (by omega), upd_ne _ _ (by omega), upd_ne _ _ (by omega), upd_ne _ _ (by omega), upd_ne _ _ (by omega), upd_ne _ _ (by omega)]
theorem end_rs (h : Rs now s T) (hp : p < 60) (h0 : s (104 * p) ≠ 0) (h101 : s (104 * p + 101) = 0) : Rs (endN now p) (endS s p) T := by
  obtain ⟨pa, pb, pr, pc, pe⟩ := h.1 p hp
  obtain ⟨q1, q2, q3, q4, q5, q6, q7, q8, q9⟩ := id pc
  obtain ⟨z1, z2, z3, z4⟩ := h.2.2.2.2.2.1
  have q3' : now (78 * p + 4) = s (104 * p + 5) := q3
  have v2 : endN now p (78 * p + 2) = 1 := by unfold endN upd; repeat (first | rw [if_neg (by omega)] | rw [if_pos (by omega)])
  have v3 : endN now p (78 * p + 3) = 1 := by unfold endN upd; repeat (first | rw [if_neg (by omega)] | rw [if_pos (by omega)])
  have v4 : endN now p (78 * p + 4) = 0 := by unfold endN upd; repeat (first | rw [if_neg (by omega)] | rw [if_pos (by omega)])
  have v5 : endN now p (78 * p + 5) = 0 := by unfold endN upd; repeat (first | rw [if_neg (by omega)] | rw [if_pos (by omega)])
  have v6 : endN now p (78 * p + 6) = 0 := by unfold endN upd; repeat (first | rw [if_neg (by omega)] | rw [if_pos (by omega)])
  have v10 : endN now p (78 * p + 10) = 0 := by unfold endN upd; repeat (first | rw [if_neg (by omega)] | rw [if_pos (by omega)])
  have v11 : endN now p (78 * p + 11) = 0 := by unfold endN upd; repeat (first | rw [if_neg (by omega)] | rw [if_pos (by omega)])
  have v12 : endN now p (78 * p + 12) = 0 := by unfold endN upd; repeat (first | rw [if_neg (by omega)] | rw [if_pos (by omega)])
  have v55 : endN now p 8555 = now 8555 + now (78 * p + 4) := by unfold endN upd; repeat (first | rw [if_neg (by omega)] | rw [if_pos (by omega)])
  have u3 : endS s p (104 * p + 3) = 1 := by unfold endS upd; repeat (first | rw [if_neg (by omega)] | rw [if_pos (by omega)])
  have u4 : endS s p (104 * p + 4) = 1 := by unfold endS upd; repeat (first | rw [if_neg (by omega)] | rw [if_pos (by omega)])
  have u5 : endS s p (104 * p + 5) = 0 := by unfold endS upd; repeat (first | rw [if_neg (by omega)] | rw [if_pos (by omega)])
  have u6 : endS s p (104 * p + 6) = 0 := by unfold endS upd; repeat (first | rw [if_neg (by omega)] | rw [if_pos (by omega)])
  have u26 : endS s p (104 * p + 26) = 0 := by unfold endS upd; repeat (first | rw [if_neg (by omega)] | rw [if_pos (by omega)])
  have u30 : endS s p (104 * p + 30) = 0 := by unfold endS upd; repeat (first | rw [if_neg (by omega)] | rw [if_pos (by omega)])
  have u49 : endS s p 11349 = s 11349 + s (104 * p + 5) := by unfold endS upd; repeat (first | rw [if_neg (by omega)] | rw [if_pos (by omega)])
  have u101 : endS s p (104 * p + 101) = 0 := by rw [endS_ne (by omega)]; exact h101
  refine h.placeG hp (fun j hj => endN_ne (by omega)) (fun j hj => endS_ne (by omega)) ⟨fun i hi => ?_, ?_, ?_, fun i hi => ?_⟩ ⟨pa.congr (fun k hk => show endN now p (78 * p + k) = now (78 * p + k) from endN_ne (by omega)) (fun k hk => show endS s p (104 * p + k) = s (104 * p + k) from endS_ne (by omega)), pb.congr (fun k hk => show endN now p (78 * p + k) = now (78 * p + k) from endN_ne (by omega)) (fun k hk => show endS s p (104 * p + k) = s (104 * p + k) from endS_ne (by omega)), Or.inl ⟨u26, v10, v11, v12, u30⟩, ⟨v2.trans u3.symm, v3.trans u4.symm, v4.trans u5.symm, v5.trans u6.symm, Or.inl u6, v6.trans u30.symm, ⟨0, by omega, u30⟩, ?_, Or.inr ⟨u101, ?_⟩⟩, RPe.of ?_⟩ (fun q => by rw [endS_ne (by omega)]; exact q) (fun k hk => endN_ne (by omega)) (fun k hk => endS_ne (by omega))
  · rw [endN_ne (by omega), endN_ne (by omega), endS_ne (by omega), endS_ne (by omega)]; exact z1 i hi
  · rw [endN_ne (by omega), endS_ne (by omega)]; exact z2
  · rw [endS_ne (by omega)]; exact z3
  · by_cases h3 : i = 3
    · subst h3
      show endN now p 8555 = endS s p 11349
      rw [v55, u49, q3', show now 8555 = s 11349 from z4 3 (by omega)]
    · rw [endN_ne (by omega), endS_ne (by omega)]; exact z4 i hi
  · show endN now p (78 * p + 7) = endS s p (104 * p + 31)
    rw [endN_ne (by omega), endS_ne (by omega)]; exact q8
  · show endS s p (104 * p + 4) ≠ 4
    rw [u4]; decide
  · show endS s p (104 * p + 0) ≠ 0
    rw [endS_ne (by omega)]; exact h0
/-- a book grows -/
theorem book_rs {i : Nat} (h : Rs now s T) (hp : p < 60) (h0 : s (104 * p) ≠ 0) (hi : 1 ≤ i ∧ i < 9) (v : Int32) : Rs (upd now (78 * p + (27 + i)) v) (upd s (104 * p + (32 + i)) v) T := by
  obtain ⟨pa, pb, pr, pc, pe⟩ := h.1 p hp
  refine h.place hp (fun j hj => upd_ne _ _ (by omega)) (fun j hj => upd_ne _ _ (by omega)) ?_ (fun q => by rw [upd_ne _ _ (by omega)]; exact q) (fun k hk => upd_ne _ _ (by omega)) (fun k hk => upd_ne _ _ (by omega))
  rw [cv_upd, mv_upd]
  refine ⟨pa.congr (fun k hk => upd_ne _ _ (by omega)) (fun k hk => upd_ne _ _ (by omega)), ⟨fun j hj => ?_, fun k hk => ?_, ?_⟩, pr.congr (fun k hk => upd_ne _ _ (by omega)) (fun k hk => upd_ne _ _ (by omega)), pc.congr (fun k hk => upd_ne _ _ (by omega)) (fun k hk => upd_ne _ _ (by omega)), RPe.of (by rw [upd_ne _ _ (by omega)]; exact h0)⟩
  · by_cases e : j = i
    · subst e; rw [upd_at, upd_at]
    · rw [upd_ne _ _ (by omega), upd_ne _ _ (by omega)]; exact pb.1 j hj
  · rw [upd_ne _ _ (by omega), upd_ne _ _ (by omega)]; exact pb.2.1 k hk
  · rw [upd_ne _ _ (by omega)]; exact pb.2.2
theorem hasRun_s {m : MW} (h : Rs (w.1 11) (m 1) T) (hp : p < 60) : f_X9_hasRun (nI p) w = some (if m 1 (104 * p + 26) = 1 then 1 else 0) ∧ (m 1 (104 * p + 26) = 0 ∨ (m 1 (104 * p + 26) = 1 ∧ m 1 (104 * p + 101) = 0)) := by
  unfold f_X9_hasRun
  rw [read_k (k := 12) (by rfl) hp (by omega), Option.bind_some]
  rcases (h.1 p hp).2.2.1 with ⟨q1, q2, q3, q4, q5⟩ | ⟨q1, q2, -, N, a, l, r1, r2, r3, r4, r5, r6, r7, r8, r9, r10, r11, r12⟩
  · rw [show w.1 11 (78 * p + 12) = 0 from q4, show m 1 (104 * p + 26) = 0 from q1, if_pos (by decide), if_neg (by decide)]
    exact ⟨rfl, Or.inl rfl⟩
  · rw [show w.1 11 (78 * p + 12) = nI l from r11, show m 1 (104 * p + 26) = 1 from q1, if_neg (nI_nle (by omega) (by omega)), if_pos rfl]
    exact ⟨rfl, Or.inr ⟨rfl, q2⟩⟩
theorem eq_stop (hR : Rl n w wm) (hn : n < 513) (a1 : Int32) : ∃ r w2 wm2 n2, f_X9_stop a1 w = some ((r, w2), n2) ∧ f_X10_stop a1 wm = some (r, wm2) ∧ Rl (n + 1) w2 wm2 ∧ 4096 * n2 + 2 * w.2 = 2 * w2.2 := by
  have hR1 : Rl n w (mst wm 0 0 0) := hR.thr
  unfold f_X9_stop f_X10_stop
  generalize mst wm 0 0 0 = m at hR1 ⊢
  show Eq1 n w _ _
  simp only [isPlace_s, misPlace_s, Option.bind_some, gd]
  refine Eq1.ite (fun h => ?_) (fun _ => Eq1.ret hR1 hn)
  obtain ⟨p, hp, rfl⟩ := rng (n := 59) (by omega) h
  obtain ⟨T0, O0, hc0, hm0, -, -, -, -, g30, -, -⟩ := id hR1
  rw [hasMachine_s g30 (by omega), isThere_s g30 (by omega), Option.bind_some, Option.bind_some, gd, gd]
  refine Eq1.ite (fun h3 => ?_) (fun _ => Eq1.fnd hR1 hn)
  rw [enter_s (by omega), mtouch_s (by omega), Option.bind_some, Option.bind_some, mv7 g30 (by omega)]
  obtain ⟨v, hv⟩ : ∃ v, v = 1 + w.1 11 (78 * p + 8) := ⟨_, rfl⟩
  rw [← hv]
  have hRt := hR1.touch (p := p) (v := v)
  have ew : (enC w p v).1 11 = w.1 11 := enC_ne (by decide)
  have em : (toM m p v) 1 = m 1 := toM_ne (by decide)
  obtain ⟨T, O, hc, hm, b1, b2, g1, g2, g3, g4, g5⟩ := id hRt
  have g3' : Rs (w.1 11) (m 1) T := by rw [lvC_ne (by decide), ew, em] at g3; exact g3
  have g3'' : Rs ((enC w p v).1 11) ((toM m p v) 1) T := by rw [ew, em]; exact g3'
  obtain ⟨hr1, hr2⟩ := hasRun_s g3'' (show p < 60 by omega)
  rw [em] at hr1 hr2
  rw [hr1, Option.bind_some, gd, of_s (k := 26) (by rfl) (by omega), Option.bind_some, em]
  rcases hr2 with hr2 | ⟨hr2, hr3⟩
  · rw [hr2, if_neg (by decide), if_pos rfl]
    unfold f_X9_stop_b58
    rw [leave_s (by omega), Option.bind_some, ew, ← hv]
    exact ⟨-3, _, _, 0, rfl, rfl, Rl_next hRt hn, by show 4096 * 0 + 2 * w.2 = 2 * w.2; omega⟩
  · rw [hr2, if_pos rfl, if_neg (by decide)]
    obtain ⟨r, e1, e2⟩ := left_s g3'' (show p < 60 by omega)
    rw [e1, e2, Option.bind_some, Option.bind_some]
    have hx : OkI (bnc (f_X9_grow (nI p) 34 1 (enC w p v)) fun y10 => bnc (f_X9_endRun (nI p) y10) fun y11 => some ((r, y11), 0)) (enC w p v) T T O (200 * n + 1 + 9) (200 * n) hc r (endN (upd (w.1 11) (78 * p + 34) (w.1 11 (78 * p + 34) + 1)) p) := (grow_k (k := 34) rfl g1.vl ew (by omega) (by omega) (by omega)).bi fun _ h1 e1 _ => (endRun_k h1 e1 (by omega) (by omega)).bi fun _ h1 e1 _ => OkI.dn h1 e1
    have hy : OkMI ((f_X10_ends (nI p) (toM m p v)).bind fun y9 => (f_X10_of (nI p) 39 y9).bind fun y10 => (f_X10_let (nI p) 39 (y10 + 1) y9).bind fun y11 => some (r, y11)) (toM m p v) T O (200 * n + 7 + 1) (200 * n) (100000 * n + 7 + 1) hm r (upd (endS (m 1) p) (104 * p + 39) (m 1 (104 * p + 39) + 1)) := (ends_k g2 em (by omega) (by omega) (by omega)).bi fun m1 h1 e1 _ => by
      rw [of_s (k := 39) (by rfl) (by omega), Option.bind_some, e1, endS_ne (by omega)]
      exact (let_k (k := 39) rfl h1 e1 (by omega) (by omega) (by omega)).bi fun _ h1 e1 _ => OkMI.dn h1 e1
    have hrs : Rs (endN (upd (w.1 11) (78 * p + 34) (w.1 11 (78 * p + 34) + 1)) p) (upd (endS (m 1) p) (104 * p + 39) (m 1 (104 * p + 39) + 1)) T := by
      have h1 := book_rs (i := 7) g3' (show p < 60 by omega) h3 (by omega) (w.1 11 (78 * p + 34) + 1)
      have h2 := end_rs h1 (show p < 60 by omega) (by rw [upd_ne _ _ (by omega)]; exact h3) (by rw [upd_ne _ _ (by omega)]; exact hr3)
      have e3 : upd (endS (m 1) p) (104 * p + 39) (m 1 (104 * p + 39) + 1) = endS (upd (m 1) (104 * p + (32 + 7)) (w.1 11 (78 * p + 34) + 1)) p := by
        rw [show w.1 11 (78 * p + 34) = m 1 (104 * p + 39) from (g3'.1 p (by omega)).2.1.1 7 (by omega)]
        funext j
        by_cases hj : j = 104 * p + 39
        · subst hj
          rw [upd_at, endS_ne (by omega), upd_at]
        · rw [upd_ne _ _ hj]
          unfold endS
          rw [upd_ne (j := 11349) _ _ (by omega), upd_ne (j := 104 * p + 5) _ _ (by omega)]
          unfold upd
          rw [if_neg (show ¬ j = 104 * p + (32 + 7) by omega)]
      rw [e3]; exact h2
    obtain ⟨r', w2, m2, k, e3, e4, h1, h8, h2⟩ := Eq1E.fin (p := p) (v := v) hn b2 g4 g5 hx hy (by omega) (by omega) (by omega) hrs (by rw [endN_ne (by omega), upd_ne _ _ (by omega), ew])
    rw [ew] at h8
    obtain ⟨y10, na, nb, e5, e6, e7⟩ := bnc_some e3
    obtain ⟨y11, nc, nd, e8, e9, e10⟩ := bnc_some e6
    obtain ⟨f1, f2⟩ := Prod.mk.inj (Option.some.inj e9)
    obtain ⟨f3, f4⟩ := Prod.mk.inj f1
    subst f4
    subst f3
    have hb : f_X9_stop_b58 (nI p) r y11 = some ((r, lvC y11 p v), nd) := by
      unfold f_X9_stop_b58
      rw [leave_s (by omega), Option.bind_some, h8, ← hv, ← f2]
    refine ⟨r, lvC y11 p v, m2, k, ?_, e4, h1, h2⟩
    rw [e7, bnc_of e5 (bnc_of e8 hb), e10]
/-- sums of numbers -/
def smN (f : Nat → Nat) : Nat → Nat
  | 0 => 0
  | n + 1 => smN f n + f n
theorem smN_le {f : Nat → Nat} {B : Nat} : ∀ (n : Nat), (∀ i, i < n → f i ≤ B) → smN f n ≤ n * B
  | 0, _ => by show 0 ≤ _; omega
  | n + 1, h => by
    have h1 := smN_le n (fun i hi => h i (by omega))
    have h2 := h n (by omega)
    rw [Nat.add_mul, Nat.one_mul]
    exact Nat.add_le_add h1 h2
theorem smN_ge {f : Nat → Nat} : ∀ (n i : Nat), i < n → f i ≤ smN f n
  | 0, i, h => by omega
  | n + 1, i, h => by
    show f i ≤ smN f n + f n
    by_cases e : i = n
    · subst e; omega
    · have := smN_ge (f := f) n i (by omega); omega
theorem sm_nI {f : Nat → Int32} {g : Nat → Nat} : ∀ (n : Nat), (∀ i, i < n → f i = nI (g i)) → sm f n = nI (smN g n)
  | 0, _ => rfl
  | n + 1, h => by
    show sm f n + f n = nI (smN g n + g n)
    rw [sm_nI n (fun i hi => h i (by omega)), h n (by omega), nI_add]
theorem crd_le (k : Nat) : ∀ (N q : Nat), q < N → crd s q k ≤ crs s k N
  | 0, q, h => by omega
  | N + 1, q, h => by
    show crd s q k ≤ crs s k N + crd s N k
    by_cases e : q = N
    · subst e; omega
    · have := crd_le k N q (by omega); omega
def vN (s : Nat → Int32) (k : Nat) : Nat := (s (8720 + 2 * k)).toNatClampNeg
theorem crF_s (h : RT now s) (hp : p < 60) {k : Nat} (hk : k < 12) : crF s p k = nI (crd s p k * vN s k) ∧ crd s p k ≤ 1000 ∧ vN s k ≤ 5000 ∧ (vN s k = 0 → crd s p k = 0) ∧ s (8720 + 2 * k) = nI (vN s k) := by
  obtain ⟨-, -, v, x, c3, c4, c5, c6, c7, c8, c9⟩ := h.1 k hk
  have hv : vN s k = v := by unfold vN; rw [c5, nI_clamp (by omega)]
  have hc := crd_le (s := s) k 60 p hp
  refine ⟨?_, by omega, by omega, fun q => ?_, by rw [hv]; exact c5⟩
  · unfold crF
    rw [c7 p hp, c5, pk_mul, hv]
  · have := c9 (by omega); omega
theorem crSum (h : RT now s) (hp : p < 60) : sm (crF s p) 12 = nI (smN (fun k => crd s p k * vN s k) 12) ∧ smN (fun k => crd s p k * vN s k) 12 ≤ 60000000 := by
  refine ⟨sm_nI 12 (fun k hk => (crF_s h hp hk).1), ?_⟩
  have := smN_le (f := fun k => crd s p k * vN s k) (B := 5000000) 12 (fun k hk => by
    obtain ⟨-, h1, h2, -⟩ := crF_s h hp hk
    exact Nat.le_trans (Nat.mul_le_mul h1 h2) (by omega))
  omega
theorem cr_zero (h : RT now s) (hp : p < 60) (h0 : sm (crF s p) 12 ≤ 0) {k : Nat} (hk : k < 12) : crd s p k = 0 := by
  obtain ⟨e1, e2⟩ := crSum h hp
  have hz : smN (fun k => crd s p k * vN s k) 12 = 0 := by
    rcases Nat.eq_zero_or_pos (smN (fun k => crd s p k * vN s k) 12) with q | q
    · exact q
    · exact absurd h0 (by rw [e1]; exact nI_nle q (by omega))
  have h1 := smN_ge (f := fun k => crd s p k * vN s k) 12 k hk
  have h2 : crd s p k * vN s k = 0 := by
    have : crd s p k * vN s k ≤ 0 := by rw [← hz]; exact h1
    omega
  rcases Nat.mul_eq_zero.mp h2 with q | q
  · exact q
  · exact (crF_s h hp hk).2.2.2.1 q
end M4
