set_option maxHeartbeats 4000000 in
set_option maxRecDepth 100000 in
theorem law_loop {p : Program} {l : Launch} {e : Env} {s : State} {m : MethodId} {below : List Frame} {meth : Method} {c : Code} {b L : Nat} {xs : Nat → Int32} {G : Gm} {q2 : Nat → Nat} (B : CB RL cL_law 4 p s m #[Value.ref b] c) (hKK : KK G s) (hX : va_X b L xs s s.heap) (hbl : b < s.heap.size) (hL : L ≤ 2560) (hr : meth.sig.returnType = ret) (hlocks : meth.locks = false) :
    ∀ (d j la : Nat) (w : CW) (wm : MW) (H : Heap) (ls : Array Slot) (K : Nat), L ≤ 5 * (j + d) + 4 → 5 * j ≤ L → LW s G (mG G q2) la w wm H → Rl (j + 1) w wm → 4096 * K + 4096 = 2 * w.2 → lv_has ls 4 [(0, .ref b), (1, .ref (gq G 0)), (2, .ref (q2 0)), (3, .int (nI (5 * j)))] →
      W p l e room_1 s m #[Value.ref b] below meth c H [] (53 + K) (1084827 + 4096 * K) (lw_Z below #[Value.ref b] s) (F0 m 18 ls []) := by
  obtain ⟨hx, hb, hml, hown, hts⟩ := id B
  intro d
  induction d with
  | zero =>
    intro j la w wm H ls K hd hj h hR hK hl
    have hb1 := hRl_bound hR
    refine lv_iload_n hx hb dL_law_18 rfl (lv_at hl 3 rfl) ?_
    refine lv_aload_n hx hb dL_law_19 rfl (lv_at hl 0 rfl) ?_
    refine va_slen hx hb hX hbl (Nat.not_le.mpr hbl) h.2.2.2 dL_law_20 ?_
    refine lv_iconst (v := 5) hx hb dL_law_21 (by decide) ?_
    refine lv_isub hx hb dL_law_22 ?_
    refine lv_icmp_gt (tgt := 1377) hx hb dL_law_23 (by decide) (fun c1 => ?_) (fun c1 => absurd (by
      rw [Int32.lt_iff_toInt_lt]
      have e1 : (Int32.ofNat L - (5 : Int32)).toInt = (L : Int) - 5 := pk_sub_toInt (a := L) (b := 5) (by omega) (by omega)
      rw [e1, nI_toInt (by omega)]
      omega) c1)
    refine lv_iconst (v := 1) hx hb dL_law_1377 (by decide) ?_
    refine W.widen (k := 600000) (n := 7302250) (by omega) (by omega) ?_
    exact lw_ret hx hb hr hlocks dL_law_1378
  | succ d ih =>
    intro j la w wm H ls K hd hj h hR hK hl
    have hb1 := hRl_bound hR
    refine lv_iload_n hx hb dL_law_18 rfl (lv_at hl 3 rfl) ?_
    refine lv_aload_n hx hb dL_law_19 rfl (lv_at hl 0 rfl) ?_
    refine va_slen hx hb hX hbl (Nat.not_le.mpr hbl) h.2.2.2 dL_law_20 ?_
    refine lv_iconst (v := 5) hx hb dL_law_21 (by decide) ?_
    refine lv_isub hx hb dL_law_22 ?_
    have e1 : (Int32.ofNat L - (5 : Int32)).toInt = (L : Int) - 5 := pk_sub_toInt (a := L) (b := 5) (by omega) (by omega)
    refine lv_icmp_gt (tgt := 1377) hx hb dL_law_23 (by decide) (fun c1 => ?_) (fun c1 => ?_)
    · refine lv_iconst (v := 1) hx hb dL_law_1377 (by decide) ?_
      refine W.widen (k := 600000) (n := 7302250) (by omega) (by omega) ?_
      exact lw_ret hx hb hr hlocks dL_law_1378
    · have hin : 5 * j + 5 ≤ L := by
        rcases Nat.lt_or_ge L (5 * j + 5) with q | q
        · exact absurd (by rw [Int32.lt_iff_toInt_lt, e1, nI_toInt (by omega)]; omega) c1
        · exact q
      have K1 : ∀ (la : Nat) (w : CW) (wm : MW) (H : Heap) (K : Nat), LW s G (mG G q2) la w wm H → Rl (j + 1 + 1) w wm → 4096 * K + 4096 = 2 * w.2 → W p l e room_1 s m #[Value.ref b] below meth c H [] (53 + K) (1084827 + 4096 * K) (lw_Z below #[Value.ref b] s) (F0 m 1371 ls []) := by
        intro la w wm H K h hR hK
        refine lv_iinc (v := nI (5 * (j + 1))) (lv' := [(3, .int (nI (5 * (j + 1)))), (0, .ref b), (1, .ref (gq G 0)), (2, .ref (q2 0))]) hx hb dL_law_1371 hl (k := 3) rfl (nI_add (5 * j) 5) (by decide) rfl (fun ls hl => ?_)
        refine lv_goto (tgt := 18) hx hb dL_law_1374 (by decide) ?_
        exact ih (j + 1) la w wm H ls K (by omega) (by omega) h hR hK (lv_sub hl [1, 2, 3, 0] rfl)
      refine lv_aload_n hx hb dL_law_26 rfl (lv_at hl 0 rfl) ?_
      refine lv_iload_n hx hb dL_law_27 rfl (lv_at hl 3 rfl) ?_
      refine r_sld (x := 5 * j) hx hb hX hbl h.2.2.2 rfl (by omega) (by omega) dL_law_28 ?_
      refine lv_bipush (v := 63) hx hb dL_law_29 (by decide) ?_
      refine lv_iand hx hb dL_law_31 ?_
      obtain ⟨t, ht, et⟩ := pk_andE (xs (5 * j)) (m := 63) 6 (by decide)
      rw [et]
      rcases (show t = 0 ∨ t = 1 ∨ t = 2 ∨ t = 3 ∨ t = 4 ∨ t = 5 ∨ t = 6 ∨ t = 7 ∨ t = 8 ∨ t = 9 ∨ t = 10 ∨ t = 11 ∨ t = 12 ∨ t = 13 ∨ t = 14 ∨ t = 15 ∨ t = 16 ∨ t = 17 ∨ t = 18 ∨ t = 19 ∨ t = 20 ∨ t = 21 ∨ t = 22 ∨ t = 23 ∨ t = 24 ∨ t = 25 ∨ t = 26 ∨ t = 27 ∨ t = 28 ∨ t = 29 ∨ t = 30 ∨ t = 31 ∨ t = 32 ∨ t = 33 ∨ t = 34 ∨ t = 35 ∨ t = 36 ∨ t = 37 ∨ 38 ≤ t by omega) with rfl | rfl | rfl | rfl | rfl | rfl | rfl | rfl | rfl | rfl | rfl | rfl | rfl | rfl | rfl | rfl | rfl | rfl | rfl | rfl | rfl | rfl | rfl | rfl | rfl | rfl | rfl | rfl | rfl | rfl | rfl | rfl | rfl | rfl | rfl | rfl | rfl | rfl | h38
      · refine lv_tableIn (tgt := 200) hx hb dL_law_32 (by decide) (by decide) rfl (by decide) ?_
        exact lc_0 B hKK hX hbl h hR (by omega) hin hL hK hl K1
      · refine lv_tableIn (tgt := 253) hx hb dL_law_32 (by decide) (by decide) rfl (by decide) ?_
        exact lc_1 B hKK hX hbl h hR (by omega) hin hL hK hl K1
      · refine lv_tableIn (tgt := 286) hx hb dL_law_32 (by decide) (by decide) rfl (by decide) ?_
        exact lc_2 B hKK hX hbl h hR (by omega) hin hL hK hl K1
      · refine lv_tableIn (tgt := 309) hx hb dL_law_32 (by decide) (by decide) rfl (by decide) ?_
        exact lc_3 B hKK hX hbl h hR (by omega) hin hL hK hl K1
      · refine lv_tableIn (tgt := 342) hx hb dL_law_32 (by decide) (by decide) rfl (by decide) ?_
        exact lc_4 B hKK hX hbl h hR (by omega) hin hL hK hl K1
      · refine lv_tableIn (tgt := 385) hx hb dL_law_32 (by decide) (by decide) rfl (by decide) ?_
        exact lc_5 B hKK hX hbl h hR (by omega) hin hL hK hl K1
      · refine lv_tableIn (tgt := 408) hx hb dL_law_32 (by decide) (by decide) rfl (by decide) ?_
        exact lc_6 B hKK hX hbl h hR (by omega) hin hL hK hl K1
      · refine lv_tableIn (tgt := 441) hx hb dL_law_32 (by decide) (by decide) rfl (by decide) ?_
        exact lc_7 B hKK hX hbl h hR (by omega) hin hL hK hl K1
      · refine lv_tableIn (tgt := 474) hx hb dL_law_32 (by decide) (by decide) rfl (by decide) ?_
        exact lc_8 B hKK hX hbl h hR (by omega) hin hL hK hl K1
      · refine lv_tableIn (tgt := 497) hx hb dL_law_32 (by decide) (by decide) rfl (by decide) ?_
        exact lc_9 B hKK hX hbl h hR (by omega) hin hL hK hl K1
      · refine lv_tableIn (tgt := 550) hx hb dL_law_32 (by decide) (by decide) rfl (by decide) ?_
        exact lc_10 B hKK hX hbl h hR (by omega) hin hL hK hl K1
      · refine lv_tableIn (tgt := 573) hx hb dL_law_32 (by decide) (by decide) rfl (by decide) ?_
        exact lc_11 B hKK hX hbl h hR (by omega) hin hL hK hl K1
      · refine lv_tableIn (tgt := 616) hx hb dL_law_32 (by decide) (by decide) rfl (by decide) ?_
        exact lc_12 B hKK hX hbl h hR (by omega) hin hL hK hl K1
      · refine lv_tableIn (tgt := 659) hx hb dL_law_32 (by decide) (by decide) rfl (by decide) ?_
        exact lc_13 B hKK hX hbl h hR (by omega) hin hL hK hl K1
      · refine lv_tableIn (tgt := 682) hx hb dL_law_32 (by decide) (by decide) rfl (by decide) ?_
        exact lc_14 B hKK hX hbl h hR (by omega) hin hL hK hl K1
      · refine lv_tableIn (tgt := 705) hx hb dL_law_32 (by decide) (by decide) rfl (by decide) ?_
        exact lc_15 B hKK hX hbl h hR (by omega) hin hL hK hl K1
      · refine lv_tableIn (tgt := 728) hx hb dL_law_32 (by decide) (by decide) rfl (by decide) ?_
        exact lc_16 B hKK hX hbl h hR (by omega) hin hL hK hl K1
      · refine lv_tableIn (tgt := 761) hx hb dL_law_32 (by decide) (by decide) rfl (by decide) ?_
        exact lc_17 B hKK hX hbl h hR (by omega) hin hL hK hl K1
      · refine lv_tableIn (tgt := 784) hx hb dL_law_32 (by decide) (by decide) rfl (by decide) ?_
        exact lc_18 B hKK hX hbl h hR (by omega) hin hL hK hl K1
      · refine lv_tableIn (tgt := 827) hx hb dL_law_32 (by decide) (by decide) rfl (by decide) ?_
        exact lc_19 B hKK hX hbl h hR (by omega) hin hL hK hl K1
      · refine lv_tableIn (tgt := 886) hx hb dL_law_32 (by decide) (by decide) rfl (by decide) ?_
        exact lc_20 B hKK hX hbl h hR (by omega) hin hL hK hl K1
      · refine lv_tableIn (tgt := 919) hx hb dL_law_32 (by decide) (by decide) rfl (by decide) ?_
        exact lc_21 B hKK hX hbl h hR (by omega) hin hL hK hl K1
      · refine lv_tableIn (tgt := 942) hx hb dL_law_32 (by decide) (by decide) rfl (by decide) ?_
        exact lc_22 B hKK hX hbl h hR (by omega) hin hL hK hl K1
      · refine lv_tableIn (tgt := 975) hx hb dL_law_32 (by decide) (by decide) rfl (by decide) ?_
        exact lc_23 B hKK hX hbl h hR (by omega) hin hL hK hl K1
      · refine lv_tableIn (tgt := 1008) hx hb dL_law_32 (by decide) (by decide) rfl (by decide) ?_
        exact lc_24 B hKK hX hbl h hR (by omega) hin hL hK hl K1
      · refine lv_tableIn (tgt := 1041) hx hb dL_law_32 (by decide) (by decide) rfl (by decide) ?_
        exact lc_25 B hKK hX hbl h hR (by omega) hin hL hK hl K1
      · refine lv_tableIn (tgt := 1064) hx hb dL_law_32 (by decide) (by decide) rfl (by decide) ?_
        exact lc_26 B hKK hX hbl h hR (by omega) hin hL hK hl K1
      · refine lv_tableIn (tgt := 1087) hx hb dL_law_32 (by decide) (by decide) rfl (by decide) ?_
        exact lc_27 B hKK hX hbl h hR (by omega) hin hL hK hl K1
      · refine lv_tableIn (tgt := 1110) hx hb dL_law_32 (by decide) (by decide) rfl (by decide) ?_
        exact lc_28 B hKK hX hbl h hR (by omega) hin hL hK hl K1
      · refine lv_tableIn (tgt := 1143) hx hb dL_law_32 (by decide) (by decide) rfl (by decide) ?_
        exact lc_29 B hKK hX hbl h hR (by omega) hin hL hK hl K1
      · refine lv_tableIn (tgt := 1166) hx hb dL_law_32 (by decide) (by decide) rfl (by decide) ?_
        exact lc_30 B hKK hX hbl h hR (by omega) hin hL hK hl K1
      · refine lv_tableIn (tgt := 1209) hx hb dL_law_32 (by decide) (by decide) rfl (by decide) ?_
        exact lc_31 B hKK hX hbl h hR (by omega) hin hL hK hl K1
      · refine lv_tableIn (tgt := 1232) hx hb dL_law_32 (by decide) (by decide) rfl (by decide) ?_
        exact lc_32 B hKK hX hbl h hR (by omega) hin hL hK hl K1
      · refine lv_tableIn (tgt := 1265) hx hb dL_law_32 (by decide) (by decide) rfl (by decide) ?_
        exact lc_33 B hKK hX hbl h hR (by omega) hin hL hK hl K1
      · refine lv_tableIn (tgt := 1298) hx hb dL_law_32 (by decide) (by decide) rfl (by decide) ?_
        exact lc_34 B hKK hX hbl h hR (by omega) hin hL hK hl K1
      · refine lv_tableIn (tgt := 1321) hx hb dL_law_32 (by decide) (by decide) rfl (by decide) ?_
        exact lc_35 B hKK hX hbl h hR (by omega) hin hL hK hl K1
      · refine lv_tableIn (tgt := 1344) hx hb dL_law_32 (by decide) (by decide) rfl (by decide) ?_
        exact lc_36 B hKK hX hbl h hR (by omega) hin hL hK hl K1
      · refine lv_tableIn (tgt := 1358) hx hb dL_law_32 (by decide) (by decide) rfl (by decide) ?_
        exact lc_37 B hKK hX hbl h hR (by omega) hin hL hK hl K1
      · refine lv_tableOut (tgt := 1371) hx hb dL_law_32 (Or.inr (by rw [nI_toInt (by omega)]; omega)) (by decide) ?_
        exact K1 la w wm H K h (Rl_next hR (by omega)) hK
theorem tb_good {args : Array Value} {s : State} (hts : ∀ w ∈ lw_tbl, w.before args s = true) : ∀ w ∈ lw_good, w.before args s = true := fun w hw => hts w (List.mem_filter.mp hw).1
set_option maxHeartbeats 4000000 in
set_option maxRecDepth 100000 in
/-- THE LAW, from its entry -/
theorem whole_start {p : Program} {e : Env} {s : State} {m : MethodId} {below : List Frame} {meth : Method} {c : Code} (l : Launch) {b L : Nat} {xs : Nat → Int32} (hL : L ≤ 2560) (C0 : lw_At p s m meth c b L xs) : W p l e room_1 s m #[Value.ref b] below meth c s.heap [] 0 0 (lw_Z below #[Value.ref b] s) (entryFrame m ([Value.ref b] : List Value).toArray 4) := by
  obtain ⟨hx, hb, hr, hml, hown, hta, hX, hbl, hlocks, hgv⟩ := id C0
  have hts := tb_good hta
  have B : CB RL cL_law 4 p s m #[Value.ref b] c := ⟨hx, hb, hml, hown, hts⟩
  have hA : ∀ q : Nat, s.heap.size ≤ q → (fun q : Nat => s.heap.size ≤ q) q := fun _ h => h
  obtain ⟨c0, iS0, hKn0⟩ := u_known (C := RX0) (T := TX0) (N := 1) (n := 1) hts iX0 (hts (.instantiable RX0 1) (by decide +kernel))
  obtain ⟨c1, iS1, hKn1⟩ := u_known (C := RX1) (T := TX1) (N := 7) (n := 7) hts iX1 (hts (.instantiable RX1 7) (by decide +kernel))
  obtain ⟨c2, iS2, hKn2⟩ := u_known (C := RX2) (T := TX2) (N := 1) (n := 1) hts iX2 (hts (.instantiable RX2 1) (by decide +kernel))
  obtain ⟨c3, iS3, hKn3⟩ := u_known (C := RX4) (T := TX4) (N := 1) (n := 1) hts iX4 (hts (.instantiable RX4 1) (by decide +kernel))
  obtain ⟨c4, iS4, hKn4⟩ := u_known (C := RX5) (T := TX5) (N := 1) (n := 1) hts iX5 (hts (.instantiable RX5 1) (by decide +kernel))
  obtain ⟨c5, iS5, hKn5⟩ := u_known (C := RX6) (T := TX6) (N := 6) (n := 6) hts iX6 (hts (.instantiable RX6 6) (by decide +kernel))
  obtain ⟨c6, iS6, hKn6⟩ := u_known (C := RX7) (T := TX7) (N := 3) (n := 3) hts iX7 (hts (.instantiable RX7 3) (by decide +kernel))
  obtain ⟨c7, iS7, hKn7⟩ := u_known (C := RX8) (T := TX8) (N := 1) (n := 1) hts iX8 (hts (.instantiable RX8 1) (by decide +kernel))
  obtain ⟨c8, iS8, hKn8⟩ := u_known (C := RX9) (T := TX9) (N := 13) (n := 13) hts iX9 (hts (.instantiable RX9 13) (by decide +kernel))
  obtain ⟨c9, iS9, hKn9⟩ := u_known (C := RX10) (T := TX10) (N := 22) (n := 22) hts iX10 (hts (.instantiable RX10 22) (by decide +kernel))
  obtain ⟨dC, dI, hKc⟩ : ∃ (dC : Nat → ClassId) (dI : Nat → Nat → Nat), ∀ (k : Nat) (q : vw_C), vwCl[k]? = some q → u_Kn s q.1 q.2.1 q.2.2 (dC k) (dI k) := by
    refine ⟨fun k => match k with | 0 => c0 | 1 => c1 | 2 => c2 | 3 => c3 | 4 => c4 | 5 => c5 | 6 => c6 | 7 => c7 | 8 => c8 | _ => c9, fun k => match k with | 0 => iS0 | 1 => iS1 | 2 => iS2 | 3 => iS3 | 4 => iS4 | 5 => iS5 | 6 => iS6 | 7 => iS7 | 8 => iS8 | _ => iS9, ?_⟩
    intro k q hq
    match k, hq with
    | 0, hq => cases hq; exact hKn0
    | 1, hq => cases hq; exact hKn1
    | 2, hq => cases hq; exact hKn2
    | 3, hq => cases hq; exact hKn3
    | 4, hq => cases hq; exact hKn4
    | 5, hq => cases hq; exact hKn5
    | 6, hq => cases hq; exact hKn6
    | 7, hq => cases hq; exact hKn7
    | 8, hq => cases hq; exact hKn8
    | 9, hq => cases hq; exact hKn9
    | k + 10, hq => simp [vwCl] at hq
  obtain ⟨D, hDe⟩ : ∃ D : va_G, D = (dC, dI) := ⟨_, rfl⟩
  have hK0 : va_K D vwCl [] s := by rw [hDe]; exact ⟨hKc, fun k q h => by simp at h⟩
  have hNW : NW s := by
    intro w hw
    simp only [nestW, List.mem_cons, List.not_mem_nil, or_false] at hw
    rcases hw with rfl | rfl | rfl | rfl | rfl <;> exact va_Nw.of rfl (hta _ (by decide +kernel))
  have hNI : NI s := by
    refine ⟨va_Nw.of rfl (hta _ (by decide +kernel)), va_Nw.of rfl (hta _ (by decide +kernel)), ?_, va_AO.of (hta (Cond.arrayOver (.object "WashHouse$Machine")) (by decide +kernel)), hta (Cond.arrayOver (.array .int)) (by decide +kernel)⟩
    intro C hC
    simp only [castW, List.mem_cons, List.not_mem_nil, or_false] at hC
    rcases hC with rfl | rfl | rfl | rfl | rfl <;> exact va_Nw.of rfl (hta _ (by decide +kernel))
  have hKN : KN D s := ⟨hK0, hNW, hNI⟩
  have hK := hK0
  have hS : va_S (fun q : Nat => s.heap.size ≤ q) s.heap s.heap [] := va_S.rf
  have hP : va_P D vwCl [] s.heap := fun k q h => by simp at h
  have hD : va_D (fun q : Nat => s.heap.size ≤ q) [] := ⟨fun i j p q h => by simp at h, fun k q h => by simp at h⟩
  have hl := lv_entry ([.ref b]) (n := 4) (Nat.le_of_ble_eq_true rfl)
  rw [lg_entry_eq]
  generalize (lg_sl ([.ref b]) ++ List.replicate (4 - (lg_sl ([.ref b])).length) Slot.unset).toArray = ls at hl ⊢
  have hl : lv_has ls 4 [(0, .ref b)] := hl
  obtain ⟨w1, hw1, hRl0, hw12⟩ := Rl_start
  refine va_new (ci := 8) (fs := [.null, .null, .null, .null, .null, .null, .null, .null, .null, .null, .int 0, .int 0, .int 0]) (C := RX9) (T := TX9) (N := 13) hx hb hts iX9 tyX9 tyX9_ok hown (hts _ (by decide +kernel)) (hts _ (by decide +kernel)) (hts _ (by decide +kernel)) hK hP hD hS hA rfl (by decide) (Nat.le_of_ble_eq_true rfl) (Nat.le_of_ble_eq_true rfl) dL_law_0 (fun q0 H hP hD hS => ?_)
  have hP : va_P D vwCl [(q0, .inr (8, [.null, .null, .null, .null, .null, .null, .null, .null, .null, .null, .int 0, .int 0, .int 0]))] H := hP
  have hD : va_D (fun q : Nat => s.heap.size ≤ q) [(q0, .inr (8, [.null, .null, .null, .null, .null, .null, .null, .null, .null, .null, .int 0, .int 0, .int 0]))] := hD
  refine lv_dup hx hb dL_law_3 rfl ?_
  have hFc := va_free (wc := [(q0, .inr (8, [.null, .null, .null, .null, .null, .null, .null, .null, .null, .null, .int 0, .int 0, .int 0]))]) hD hS hA [0] rfl
  refine va_callv (runI (As := []) (b := q0) B 0 (ti_X9_init l D q0 w1 hw1 H.size) rfl rfl (show Cond.methodLink RL 9 yX9_init ∈ lw_good by decide +kernel) mi_X9_init rfl (by decide +kernel) ⟨(Nat.le_of_ble_eq_true rfl), (Nat.le_of_ble_eq_true rfl)⟩ ⟨blindI, preI hKN hP hD⟩ rfl hl.1 (Nat.le_of_ble_eq_true rfl) dL_law_4 ⟨(Nat.le_of_ble_eq_true rfl), (Nat.le_of_ble_eq_true rfl)⟩) hS (fun q _ h => hFc q h) hFc (fun u t H1 locs ht hvm hw hB hz1 hk1 hS => ?_)
  obtain ⟨G, la⟩ := u
  obtain ⟨hP1, hK1, hD1, hGD, hG0⟩ := hB
  rw [ht] at hP1
  have hK1 := va_K.moved hvm.symm hK1
  dsimp only at hP1 hK1 hD1 hGD hG0
  have hD1 := hD1.weaken (B := fun q : Nat => s.heap.size ≤ q) (fun _ _ _ z => hFc _ z)
  refine va_forget (fun q hq => hS.2.2 q hq) ?_
  have hS : va_S (fun q : Nat => s.heap.size ≤ q) s.heap H1 [] := ⟨hS.1, hS.2.1, fun _ z => by cases z⟩
  generalize H1 = H at hP1 hS ⊢
  have hKK : KK G s := ⟨hK1, hNW⟩
  refine lv_astore_n (lv' := [(1, .ref q0), (0, .ref b)]) hx hb dL_law_7 rfl hl (by decide) rfl (fun ls hl => ?_)
  refine va_new (D := G.1) (ci := 9) (fs := [.int 0, .null, .null, .null, .int 0, .null, .int 0, .int 0, .int 0, .int 0, .null, .int 0, .null, .null, .null, .int 0, .null, .null, .null, .null, .null, .null]) (C := RX10) (T := TX10) (N := 22) hx hb hts iX10 tyX10 tyX10_ok hown (hts _ (by decide +kernel)) (hts _ (by decide +kernel)) (hts _ (by decide +kernel)) hK1 hP1 hD1 hS hA rfl (by decide) (Nat.le_of_ble_eq_true rfl) (Nat.le_of_ble_eq_true rfl) dL_law_8 (fun p0 H hP hD hS => ?_)
  have hPc := hP.sub (ws' := [(p0, .inr (9, [.int 0, .null, .null, .null, .int 0, .null, .int 0, .int 0, .int 0, .int 0, .null, .int 0, .null, .null, .null, .int 0, .null, .null, .null, .null, .null, .null]))]) [38] rfl
  have hDc := hD.sub (ws' := [(p0, .inr (9, [.int 0, .null, .null, .null, .int 0, .null, .int 0, .int 0, .int 0, .int 0, .null, .int 0, .null, .null, .null, .int 0, .null, .null, .null, .null, .null, .null]))]) [38] (by decide) rfl
  have hFc := va_free (wc := [(p0, .inr (9, [.int 0, .null, .null, .null, .int 0, .null, .int 0, .int 0, .int 0, .int 0, .null, .int 0, .null, .null, .null, .int 0, .null, .null, .null, .null, .null, .null]))]) hD hS hA [38] rfl
  have hSx := hS
  have hKN2 : KN G.1 s := ⟨hK1.sub [] rfl, hNW, hNI⟩
  refine lv_dup hx hb dL_law_11 rfl ?_
  refine va_callv (runI (As := []) (b := p0) B 0 (ti_X10_init l G.1 p0 H.size) rfl rfl (show Cond.methodLink RL 12 yX10_init ∈ lw_good by decide +kernel) mi_X10_init rfl (by decide +kernel) ⟨(Nat.le_of_ble_eq_true rfl), (Nat.le_of_ble_eq_true rfl)⟩ ⟨blindI, preI hKN2 hPc hDc⟩ rfl hl.1 (Nat.le_of_ble_eq_true rfl) dL_law_12 ⟨(Nat.le_of_ble_eq_true rfl), (Nat.le_of_ble_eq_true rfl)⟩) hS (fun q _ h => hFc q h) hFc (fun u t H1 locs ht hvm hw hB hz1 hk1 hS => ?_)
  obtain ⟨⟨p1, p2, p3, p4, p5, p6, p7, p8, p9, p10, p11, p12, p13, p14⟩, cI2⟩ := u
  obtain ⟨hP2, hK2, hD2⟩ := hB
  rw [ht] at hP2
  have hK2 := va_K.moved hvm.symm hK2
  dsimp only at hP2 hK2 hD2
  have hcI : gI G = cI2 := Option.some.inj ((va_nm_int (hK1.2 0 _ rfl).2).symm.trans (va_nm_int (hK2.2 0 _ rfl).2))
  subst hcI
  have hPk : va_P G.1 vwCl (cw G la w1) H := hP.sub [0, 1, 2, 3, 4, 5, 6, 7, 8, 9, 10, 11, 12, 13, 14, 15, 16, 17, 18, 19, 20, 21, 22, 23, 24, 25, 26, 27, 28, 29, 30, 31, 32, 33, 34, 35, 36, 37] rfl
  have hDk := hD.sub (ws' := cw G la w1) [0, 1, 2, 3, 4, 5, 6, 7, 8, 9, 10, 11, 12, 13, 14, 15, 16, 17, 18, 19, 20, 21, 22, 23, 24, 25, 26, 27, 28, 29, 30, 31, 32, 33, 34, 35, 36, 37] (by decide) rfl
  have hDx : va_D (fun q : Nat => s.heap.size ≤ q) ([(p0, .inr (9, [.int 0, .null, .null, .null, .int 0, .null, .int 0, .int 0, .int 0, .int 0, .null, .int 0, .null, .null, .null, .int 0, .null, .null, .null, .null, .null, .null]))] ++ cw G la w1) := hD.sub (ws' := (p0, .inr (9, [.int 0, .null, .null, .null, .int 0, .null, .int 0, .int 0, .int 0, .int 0, .null, .int 0, .null, .null, .null, .int 0, .null, .null, .null, .null, .null, .null])) :: cw G la w1) [38, 0, 1, 2, 3, 4, 5, 6, 7, 8, 9, 10, 11, 12, 13, 14, 15, 16, 17, 18, 19, 20, 21, 22, 23, 24, 25, 26, 27, 28, 29, 30, 31, 32, 33, 34, 35, 36, 37] (by decide) rfl
  obtain ⟨k1, k2, k3, k4⟩ := two (s := s) (locs := []) (A0 := fun q : Nat => s.heap.size ≤ q) (fun q z => Nat.le_trans hSx.1 z) hPk hDx hD2 ⟨hz1, hk1, fun _ z => by cases z⟩
  rw [show (11353 : Int32).toNatClampNeg = 11353 by decide +kernel, show (11354 : Int32).toNatClampNeg = 11354 by decide +kernel, show (11355 : Int32).toNatClampNeg = 11355 by decide +kernel] at hP2 k2
  obtain ⟨q2, hq2⟩ : ∃ q2 : Nat → Nat, q2 = fun k => [p0, p1, p2, p3, p4, p5, p6, p7, p8, p9, p10, p11, p12, p13, p14].getD k 0 := ⟨_, rfl⟩
  have hPm : va_P G.1 vwCl (mw (mG G q2) wm0) H1 := by rw [hq2]; exact hP2
  have hDm : va_D (fun q : Nat => s.heap.size ≤ q) (cw G la w1 ++ mw (mG G q2) wm0) := by rw [hq2]; exact vaD_swap k2
  have hq20 : q2 0 = p0 := by rw [hq2]; rfl
  refine va_forget (fun q hq => hS.2.2 q hq) ?_
  have hLW : LW s G (mG G q2) la w1 wm0 H1 := ⟨k1, hPm, hDm, hS.1, hS.2.1, fun _ z => by cases z⟩
  refine lv_astore_n (lv' := [(2, .ref p0), (1, .ref q0), (0, .ref b)]) hx hb dL_law_15 rfl hl (by decide) rfl (fun ls hl => ?_)
  refine lv_iconst (v := 0) hx hb dL_law_16 (by decide) ?_
  refine lv_istore_n (lv' := [(3, .int 0), (2, .ref p0), (1, .ref q0), (0, .ref b)]) hx hb dL_law_17 rfl hl (by decide) rfl (fun ls hl => ?_)
  refine W.widen (k := 53 + 0) (n := 1084827 + 4096 * 0) (Nat.le_of_ble_eq_true rfl) (Nat.le_of_ble_eq_true rfl) ?_
  rw [← hG0, ← hq20] at hl
  exact law_loop B hKK hX hbl hL hr hlocks L 0 la w1 wm0 H1 ls 0 (by omega) (by omega) hLW hRl0 (by rw [hw12]) (lv_sub hl [3, 2, 1, 0] rfl)
