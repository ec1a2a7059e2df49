section O4
variable {w : CW} {now s : Nat → Int32} {T p : Nat}
/-- a place is changed in the minute, and the water that went -/
theorem pn_place {now' s' : Nat → Int32} (h : Rs (pn now s) s T) (hp : p < 60) (hc : ∀ j, (j < 78 * p ∨ (78 * p + 78 ≤ j ∧ j < 8547) ∨ (8550 ≤ j ∧ j < 8555)) → now' j = now j) (hm : ∀ j, (j < 104 * p ∨ (104 * p + 104 ≤ j ∧ j < 11349) ∨ 11353 ≤ j) → s' j = s j) (h55 : now' 8555 = s' 11349) (hP : RPl (T + 1) (cv now' p) (mv s' p)) (h0 : s (104 * p) ≠ 0 → s' (104 * p) ≠ 0) (hL : ∀ k, (k = 9 ∨ (19 ≤ k ∧ k < 27)) → now' (78 * p + k) = now (78 * p + k)) (hK : ∀ k, k < 12 → s' (104 * p + (14 + k)) = s (104 * p + (14 + k))) : Rs (pn now' s') s' T := by
  obtain ⟨z1, z2, z3, z4⟩ := h.2.2.2.2.2.1
  refine h.placeG hp (fun j hj => by rw [pn_ne (by omega), pn_ne (by omega)]; exact hc j (by omega)) (fun j hj => hm j (by omega)) ⟨fun i hi => ⟨?_, pn_in hi⟩, ?_, ?_, fun i hi => ?_⟩ (hP.congr (fun k hk => pn_ne (by omega)) (fun k hk => rfl)) h0 (fun k hk => by rw [pn_ne (by omega), pn_ne (by omega)]; exact hL k hk) hK
  · rw [pn_ne (by omega), hc _ (by omega), hm _ (by omega), ← (z1 i hi).1, pn_ne (by omega)]
  · rw [pn_ne (by omega), hc _ (by omega), hm _ (by omega), ← z2, pn_ne (by omega)]
  · rw [hm _ (by omega)]; exact z3
  · by_cases e : i = 3
    · subst e
      show pn now' s' 8555 = s' 11349
      rw [pn_ne (by omega)]; exact h55
    · rw [pn_ne (by omega), hc _ (by omega), hm _ (by omega), ← z4 i hi, pn_ne (by omega)]
theorem go_rs {X Y : Nat → Int32} {a' l' g : Nat} (h : Rs (pn now s) s (T + 1)) (hp : p < 60) (h26 : s (104 * p + 26) = 1) (ha : ∀ N, N ≤ 30 → s (104 * p + 27) = nI N → a' < N) (hl1 : 1 ≤ l') (hl2 : l' ≤ 200) (hg : g < T + 2)
    (c1 : ∀ j, (j < 78 * p + 3 ∨ j = 78 * p + 5 ∨ (78 * p + 7 ≤ j ∧ j < 78 * p + 11) ∨ (78 * p + 13 ≤ j ∧ j < 78 * p + 27) ∨ j = 78 * p + 28 ∨ (78 * p + 33 ≤ j ∧ j < 8555)) → X j = now j)
    (m1 : ∀ j, (j < 104 * p + 4 ∨ (104 * p + 6 ≤ j ∧ j < 104 * p + 28) ∨ j = 104 * p + 31 ∨ j = 104 * p + 33 ∨ (104 * p + 38 ≤ j ∧ j < 11349) ∨ 11353 ≤ j) → Y j = s j)
    (e29 : ∀ i, i < 3 → X (78 * p + (29 + i)) = Y (104 * p + (34 + i))) (e32 : X (78 * p + 32) = Y (104 * p + 37)) (e4 : X (78 * p + 4) = Y (104 * p + 5)) (e55 : X 8555 = Y 11349) (x27 : X (78 * p + 27) = nI g) (y32 : Y (104 * p + 32) = nI g) (x6 : X (78 * p + 6) = 0) (y30 : Y (104 * p + 30) = 0) (x3 : X (78 * p + 3) = 2) (y4 : Y (104 * p + 4) = 2) (x11 : X (78 * p + 11) = nI a') (y28 : Y (104 * p + 28) = nI a') (x12 : X (78 * p + 12) = nI l') (y29 : Y (104 * p + 29) = nI l') : Rs (pn X Y) Y (T + 1) := by
  obtain ⟨pa, pb, pr, pc, pe⟩ := h.1 p hp
  obtain ⟨q1, q2, q3, q4, q5, q6, q7, q8, q9⟩ := id pc
  have kc : ∀ k, k < 78 → cv (pn now s) p k = now (78 * p + k) := fun k hk => pn_ne (by omega)
  obtain ⟨r101, r0, N, hN, r27, r10, rst⟩ : s (104 * p + 101) = 0 ∧ s (104 * p + 0) ≠ 0 ∧ ∃ N, N ≤ 30 ∧ s (104 * p + 27) = nI N ∧ now (78 * p + 10) = nI N ∧ ∀ i, i < N → ∃ k u, k ≤ 4 ∧ 1 ≤ u ∧ u ≤ 200 ∧ s (104 * p + (41 + i)) = nI k ∧ s (104 * p + (71 + i)) = nI u ∧ now (78 * p + (48 + i)) = nI (1000 * k + u) := by
    rcases pr with ⟨r1, -⟩ | ⟨r1, r2, r3, N, a, l, t1, t2, t3, t4, t5, t6, t7, t8, t9, t10, t11, t12⟩
    · have r1' : s (104 * p + 26) = 0 := r1
      rw [r1'] at h26; exact absurd h26 (by decide)
    · refine ⟨r2, r3, N, t2, t6, (kc 10 (by omega)).symm.trans t7, fun i hi => ?_⟩
      obtain ⟨k, u, u1, u2, u3, u4, u5, u6⟩ := t12 i hi
      exact ⟨k, u, u1, u2, u3, u4, u5, (kc (48 + i) (by omega)).symm.trans u6⟩
  have kb : ∀ k, k < 78 → (k < 3 ∨ k = 5 ∨ (7 ≤ k ∧ k < 11) ∨ (13 ≤ k ∧ k < 27) ∨ k = 28 ∨ 33 ≤ k) → cv X p k = cv (pn now s) p k := fun k hk h2 => (c1 (78 * p + k) (by omega)).trans (kc k hk).symm
  have km : ∀ k, k < 104 → (k < 4 ∨ (6 ≤ k ∧ k < 28) ∨ k = 31 ∨ k = 33 ∨ 38 ≤ k) → mv Y p k = mv s p k := fun k hk h2 => m1 (104 * p + k) (by omega)
  have e0 : Y (104 * p + 0) ≠ 0 := by rw [m1 _ (by omega)]; exact r0
  refine pn_place h hp (fun j hj => c1 j (by omega)) (fun j hj => m1 j (by omega)) e55 ⟨pa.congr (fun k hk => kb k (by omega) (by omega)) (fun k hk => km k (by omega) (by omega)), ⟨fun i hi => ?_, fun i hi => ?_, ⟨g, by omega, y32⟩⟩, Or.inr ⟨(m1 (104 * p + 26) (by omega)).trans h26, (m1 (104 * p + 101) (by omega)).trans r101, e0, N, a', l', ?_, hN, ha N hN r27, hl1, hl2, (m1 (104 * p + 27) (by omega)).trans r27, (c1 (78 * p + 10) (by omega)).trans r10, y28, x11, y29, x12, fun i hi => ?_⟩, ⟨?_, x3.trans y4.symm, e4, ?_, ?_, x6.trans y30.symm, ⟨0, by omega, y30⟩, ?_, Or.inr ⟨(m1 (104 * p + 101) (by omega)).trans r101, by show Y (104 * p + 4) ≠ 4; rw [y4]; decide⟩⟩, RPe.of e0⟩ (fun _ => e0) (fun k hk => c1 _ (by omega)) (fun k hk => m1 _ (by omega))
  · rcases (by omega : i = 0 ∨ i = 1 ∨ i = 2 ∨ i = 3 ∨ i = 4 ∨ i = 5 ∨ 6 ≤ i) with rfl | rfl | rfl | rfl | rfl | rfl | h6
    · exact x27.trans y32.symm
    · show X (78 * p + 28) = Y (104 * p + 33)
      rw [c1 _ (by omega), m1 _ (by omega)]; exact (kc 28 (by omega)).symm.trans (pb.1 1 (by omega))
    · exact e29 0 (by omega)
    · exact e29 1 (by omega)
    · exact e29 2 (by omega)
    · exact e32
    · rw [kb (27 + i) (by omega) (by omega), km (32 + i) (by omega) (by omega)]; exact pb.1 i hi
  · rw [kb (36 + i) (by omega) (by omega), km (14 + i) (by omega) (by omega)]; exact pb.2.1 i hi
  · have := ha N hN r27; omega
  · obtain ⟨k, u, u1, u2, u3, u4, u5, u6⟩ := rst i hi
    exact ⟨k, u, u1, u2, u3, (m1 (104 * p + (41 + i)) (by omega)).trans u4, (m1 (104 * p + (71 + i)) (by omega)).trans u5, (c1 (78 * p + (48 + i)) (by omega)).trans u6⟩
  · rw [kb 2 (by omega) (by omega), km 3 (by omega) (by omega)]; exact q1
  · rw [kb 5 (by omega) (by omega), km 6 (by omega) (by omega)]; exact q4
  · rw [km 6 (by omega) (by omega)]; exact q5
  · rw [kb 7 (by omega) (by omega), km 31 (by omega) (by omega)]; exact q8
theorem wait_rs {X Y : Nat → Int32} {v : Nat} (h : Rs (pn now s) s (T + 1)) (hp : p < 60) (h26 : s (104 * p + 26) = 1) (hv : v + 1 < T + 2)
    (c1 : ∀ j, j ≠ 78 * p + 3 → j ≠ 78 * p + 6 → j ≠ 78 * p + 28 → X j = now j) (m1 : ∀ j, j ≠ 104 * p + 4 → j ≠ 104 * p + 30 → j ≠ 104 * p + 33 → Y j = s j)
    (x6 : X (78 * p + 6) = nI (v + 1)) (y30 : Y (104 * p + 30) = nI (v + 1)) (x28 : X (78 * p + 28) = Y (104 * p + 33)) (x3 : X (78 * p + 3) = 3) (y4 : Y (104 * p + 4) = 3) : Rs (pn X Y) Y (T + 1) := by
  obtain ⟨pa, pb, pr, pc, pe⟩ := h.1 p hp
  obtain ⟨q1, q2, q3, q4, q5, q6, q7, q8, q9⟩ := id pc
  have kc : ∀ k, k < 78 → cv (pn now s) p k = now (78 * p + k) := fun k hk => pn_ne (by omega)
  have kb : ∀ k, k < 78 → (k ≠ 3 ∧ k ≠ 6 ∧ k ≠ 28) → cv X p k = cv (pn now s) p k := fun k hk h2 => (c1 (78 * p + k) (by omega) (by omega) (by omega)).trans (kc k hk).symm
  have km : ∀ k, k < 104 → (k ≠ 4 ∧ k ≠ 30 ∧ k ≠ 33) → mv Y p k = mv s p k := fun k hk h2 => m1 (104 * p + k) (by omega) (by omega) (by omega)
  obtain ⟨z1, z2, z3, z4⟩ := h.2.2.2.2.2.1
  rcases pr with ⟨r1, -⟩ | ⟨r1, r2, r3, N, a, l, t1, t2, t3, t4, t5, t6, t7, t8, t9, t10, t11, t12⟩
  · have r1' : s (104 * p + 26) = 0 := r1
    rw [r1'] at h26; exact absurd h26 (by decide)
  have e0 : mv Y p 0 ≠ 0 := by rw [km 0 (by omega) (by omega)]; exact r3
  have e55 : X 8555 = Y 11349 := by
    have h1 : pn now s (8552 + 3) = s (11346 + 3) := z4 3 (by omega)
    rw [pn_ne (by omega)] at h1
    rw [c1 _ (by omega) (by omega) (by omega), m1 _ (by omega) (by omega) (by omega)]
    exact h1
  refine pn_place h hp (fun j hj => c1 j (by omega) (by omega) (by omega)) (fun j hj => m1 j (by omega) (by omega) (by omega)) e55 ⟨pa.congr (fun k hk => kb k (by omega) (by omega)) (fun k hk => km k (by omega) (by omega)), ⟨fun i hi => ?_, fun i hi => ?_, ?_⟩, Or.inr ⟨?_, ?_, e0, N, a, l, t1, t2, t3, t4, t5, ?_, ?_, ?_, ?_, ?_, ?_, fun i hi => ?_⟩, ⟨?_, x3.trans y4.symm, ?_, ?_, ?_, x6.trans y30.symm, ⟨v + 1, by omega, y30⟩, ?_, Or.inr ⟨?_, by show Y (104 * p + 4) ≠ 4; rw [y4]; decide⟩⟩, RPe.of e0⟩ (fun _ => e0) (fun k hk => c1 _ (by omega) (by omega) (by omega)) (fun k hk => m1 _ (by omega) (by omega) (by omega))
  · by_cases e : i = 1
    · subst e; exact x28
    · rw [kb (27 + i) (by omega) (by omega), km (32 + i) (by omega) (by omega)]; exact pb.1 i hi
  · rw [kb (36 + i) (by omega) (by omega), km (14 + i) (by omega) (by omega)]; exact pb.2.1 i hi
  · rw [km 32 (by omega) (by omega)]; exact pb.2.2
  · rw [km 26 (by omega) (by omega)]; exact r1
  · rw [km 101 (by omega) (by omega)]; exact r2
  · rw [km 27 (by omega) (by omega)]; exact t6
  · rw [kb 10 (by omega) (by omega)]; exact t7
  · rw [km 28 (by omega) (by omega)]; exact t8
  · rw [kb 11 (by omega) (by omega)]; exact t9
  · rw [km 29 (by omega) (by omega)]; exact t10
  · rw [kb 12 (by omega) (by omega)]; exact t11
  · rw [km (41 + i) (by omega) (by omega), km (71 + i) (by omega) (by omega), kb (48 + i) (by omega) (by omega)]; exact t12 i hi
  · rw [kb 2 (by omega) (by omega), km 3 (by omega) (by omega)]; exact q1
  · rw [kb 4 (by omega) (by omega), km 5 (by omega) (by omega)]; exact q3
  · rw [kb 5 (by omega) (by omega), km 6 (by omega) (by omega)]; exact q4
  · rw [km 6 (by omega) (by omega)]; exact q5
  · rw [kb 7 (by omega) (by omega), km 31 (by omega) (by omega)]; exact q8
  · rw [km 101 (by omega) (by omega)]; exact r2
theorem endN_pn (hp : p < 60) : endN (pn now s) p = pn (endN now p) (endS s p) := by
  funext j
  by_cases h : 8547 ≤ j ∧ j < 8550
  · obtain ⟨i, rfl⟩ : ∃ i, j = 8547 + i := ⟨j - 8547, by omega⟩
    rw [pn_in (by omega), endN_ne (by omega), pn_in (by omega), endS_ne (by omega)]
  · rw [pn_ne (by omega)]
    unfold endN
    rw [pn_ne (j := 8555) (by omega), pn_ne (j := 78 * p + 4) (by omega)]
    exact upd_cg (upd_cg (upd_cg (upd_cg (upd_cg (upd_cg (upd_cg (upd_cg (upd_cg (pn_ne (by omega))))))))))
/-- a run has ended: its steps don't matter -/
theorem loose_rs {s' : Nat → Int32} (h : Rs (pn now s) s T) (hp : p < 60) (h26 : s (104 * p + 26) = 0) (h0 : s (104 * p) ≠ 0) (m1 : ∀ j, j ≠ 104 * p + 28 → j ≠ 104 * p + 29 → s' j = s j) : Rs (pn now s') s' T := by
  obtain ⟨pa, pb, pr, pc, pe⟩ := h.1 p hp
  have kc : ∀ k, k < 78 → cv now p k = cv (pn now s) p k := fun k hk => (pn_ne (j := 78 * p + k) (by omega)).symm
  have km : ∀ k, k < 104 → (k ≠ 28 ∧ k ≠ 29) → mv s' p k = mv s p k := fun k hk h2 => m1 (104 * p + k) (by omega) (by omega)
  obtain ⟨z1, z2, z3, z4⟩ := h.2.2.2.2.2.1
  have e0 : mv s' p 0 ≠ 0 := by rw [km 0 (by omega) (by omega)]; exact h0
  have e55 : now 8555 = s' 11349 := by
    have h1 : pn now s (8552 + 3) = s (11346 + 3) := z4 3 (by omega)
    rw [pn_ne (by omega)] at h1
    rw [m1 _ (by omega) (by omega)]
    exact h1
  refine pn_place h hp (fun j hj => rfl) (fun j hj => m1 j (by omega) (by omega)) e55 ⟨pa.congr (fun k hk => kc k (by omega)) (fun k hk => km k (by omega) (by omega)), pb.congr (fun k hk => kc k (by omega)) (fun k hk => km k (by omega) (by omega)), Or.inl ?_, pc.congr (fun k hk => kc k (by omega)) (fun k hk => km k (by omega) (by omega)), RPe.of e0⟩ (fun _ => e0) (fun k hk => rfl) (fun k hk => m1 _ (by omega) (by omega))
  rcases pr with q | ⟨q, -⟩
  · rw [km 26 (by omega) (by omega), km 30 (by omega) (by omega), kc 10 (by omega), kc 11 (by omega), kc 12 (by omega)]
    exact q
  · have q' : s (104 * p + 26) = 1 := q
    rw [h26] at q'; exact absurd q' (by decide)
theorem goend_rs {X Y : Nat → Int32} {a : Nat} (hp : p < 60) (h : Rs (pn (upd X (78 * p + 12) (nI 1)) (upd (upd Y (104 * p + 28) (nI a)) (104 * p + 29) (nI 1))) (upd (upd Y (104 * p + 28) (nI a)) (104 * p + 29) (nI 1)) T) (h0 : Y (104 * p) ≠ 0) (h101 : Y (104 * p + 101) = 0) : Rs (pn (endN X p) (endS Y p)) (endS Y p) T := by
  have k1 := end_rs h hp (by rw [upd_ne _ _ (by omega), upd_ne _ _ (by omega)]; exact h0) (by rw [upd_ne _ _ (by omega), upd_ne _ _ (by omega)]; exact h101)
  rw [endN_pn hp] at k1
  have e1 : endN (upd X (78 * p + 12) (nI 1)) p = endN X p := endN_congr (fun j hj => upd_ne _ _ (by omega)) hp
  rw [e1] at k1
  refine loose_rs k1 hp ?_ ?_ (fun j h1 h2 => ?_)
  · unfold endS; rw [upd_ne _ _ (by omega), upd_at]
  · rw [endS_ne (by omega), upd_ne _ _ (by omega), upd_ne _ _ (by omega)]; exact h0
  · unfold endS
    rw [upd_ne (k := 104 * p + 29) (j := 11349) _ _ (by omega), upd_ne (k := 104 * p + 28) (j := 11349) _ _ (by omega), upd_ne (k := 104 * p + 29) (j := 104 * p + 5) _ _ (by omega), upd_ne (k := 104 * p + 28) (j := 104 * p + 5) _ _ (by omega)]
    exact upd_cg (upd_cg (upd_cg (upd_cg (upd_cg (upd_cg (upd_cg (by rw [upd_ne _ _ h2, upd_ne _ _ h1])))))))
/-- what the wishes need of a place -/
theorem ask2 {m : MW} {tr k : Nat} {x : Int32} (h : TR w m tr) (hp : p < 60) (hk : k ≤ 4) (ek : m 1 (104 * p) = nI (k + 1)) (ec : w.1 11 (78 * p + 0) = nI (k + 1)) (e8 : m 1 (104 * p + 7) = w.1 11 (78 * p + 8)) (ht : tr + 12 < 2 ^ 30) : ∃ w' m' tr', f_X9_askWishes (nI p) x w = some w' ∧ f_X10_ask (nI p) x m = some m' ∧ tr' ≤ tr + 12 ∧ TR w' m' tr' ∧ (∀ i, i < 3 → w'.1 9 i = m' 13 i) ∧ (∀ p, p ≠ 3 → p ≠ 9 → p ≠ 19 → w'.1 p = w.1 p) ∧ w'.2 = w.2 ∧ FAM m m' := by
  have hka : f_X9_kindAt (nI p) w = some k := by
    unfold f_X9_kindAt
    rw [read_k (k := 0) (by rfl) hp (by omega), Option.bind_some, ec, show nI (k + 1) - (1 : Int32) = nI (k + 1 - 1) from pk_sub (a := k + 1) (b := 1) (by omega), Nat.add_sub_cancel, within_s, Option.bind_some, gd, if_pos ⟨nI_pos' (by omega), show nI k ≤ nI 4 from nI_le hk (by omega)⟩, chk_t (inb_nI (by omega) (by omega)), nI_clamp (by omega)]
  obtain ⟨r0, w1, m1, t1, a1, a2, a3, a4, a5, a6⟩ := wish0 (x3 := x) (c8 := w.1 11 (78 * p + 8)) h hp hk ek e8 (by omega)
  have em1 : (mst m1 13 0 r0) 1 = m 1 := by rw [mst_ne _ _ _ (by decide), a6.1 1 (by decide) (by decide)]
  obtain ⟨r1, w2, m2, t2, b1, b2, b3, b4, b5, b6⟩ := wish1 (x3 := x) (c8 := w.1 11 (78 * p + 8)) (a4.ask (k := 0) (v := r0)) hp hk (by rw [em1]; exact ek) (by rw [em1]; exact e8) (by omega)
  have em2 : (mst m2 13 1 r1) 1 = m 1 := by rw [mst_ne _ _ _ (by decide), b6.1 1 (by decide) (by decide), em1]
  obtain ⟨r2, w3, m3, t3, c1, c2, c3, c4, c5, c6⟩ := wish2 (x3 := x) (c8 := w.1 11 (78 * p + 8)) (b4.ask (k := 1) (v := r1)) hp hk (by rw [em2]; exact ek) (by rw [em2]; exact e8) (by omega)
  have i0 : inb (0 : Int32) 3 := lit_in (a := 0) rfl (by omega) (by omega)
  have i1 : inb (1 : Int32) 3 := lit_in (a := 1) rfl (by omega) (by omega)
  have i2 : inb (2 : Int32) 3 := lit_in (a := 2) rfl (by omega) (by omega)
  have l0 : (0 : Int32).toNatClampNeg = 0 := rfl
  have l1 : (1 : Int32).toNatClampNeg = 1 := rfl
  have l2 : (2 : Int32).toNatClampNeg = 2 := rfl
  refine ⟨cs w3 9 2 r2, mst m3 13 2 r2, t3, ?_, ?_, by omega, c4.ask, fun i hi => ?_, fun q q1 q2 q3 => ?_, (c5.2.trans (b5.2.trans a5.2)), ((a6.fam.trans FAM.m13).trans (b6.fam.trans FAM.m13)).trans (c6.fam.trans FAM.m13)⟩
  · unfold f_X9_askWishes
    rw [hka, Option.bind_some, read_k (k := 8) (by rfl) hp (by omega), Option.bind_some]
    simp only [chk_t (show k < 5 by omega), chk_t i0, chk_t i1, chk_t i2, l0, l1, l2]
    rw [a1, Option.bind_some, b1, Option.bind_some, c1, Option.bind_some]
  · unfold f_X10_ask
    rw [show FU = FU - 4 + 1 + 1 + 1 + 1 by unfold FU; rfl]
    show f_X10_ask_l2_body (f_X10_ask_l2 (FU - 4 + 1 + 1 + 1)) (nI p) x 0 m = _
    unfold f_X10_ask_l2_body
    rw [if_neg (by decide), a2, Option.bind_some, chk_t i0, l0]
    show f_X10_ask_l2_body (f_X10_ask_l2 (FU - 4 + 1 + 1)) (nI p) x (0 + 1) (mst m1 13 0 r0) = _
    unfold f_X10_ask_l2_body
    rw [show (0 : Int32) + 1 = 1 from rfl, if_neg (by decide), b2, Option.bind_some, chk_t i1, l1]
    show f_X10_ask_l2_body (f_X10_ask_l2 (FU - 4 + 1)) (nI p) x (1 + 1) (mst m2 13 1 r1) = _
    unfold f_X10_ask_l2_body
    rw [show (1 : Int32) + 1 = 2 from rfl, if_neg (by decide), c2, Option.bind_some, chk_t i2, l2]
    show f_X10_ask_l2_body (f_X10_ask_l2 (FU - 4)) (nI p) x (2 + 1) (mst m3 13 2 r2) = _
    unfold f_X10_ask_l2_body
    rw [if_pos (by decide)]
  · rw [cs_at, mst_at, c5.1 9 (by decide) (by decide), c6.1 13 (by decide) (by decide), cs_at, mst_at, b5.1 9 (by decide) (by decide), b6.1 13 (by decide) (by decide), cs_at, mst_at]
    rcases (by omega : i = 0 ∨ i = 1 ∨ i = 2) with rfl | rfl | rfl <;> rfl
  · rw [cs_ne _ _ _ q2, c5.1 q q1 q3, cs_ne _ _ _ q2, b5.1 q q1 q3, cs_ne _ _ _ q2, a5.1 q q1 q3]
end O4
