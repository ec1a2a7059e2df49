def f_X9_isLoad (x1 : Int32) (w : CW) : Option Int32 :=
 (f_X1_get ((8550 : Int32)) w).bind fun y1 =>
 (f_X9_within x1 ((0 : Int32)) (y1 - ((1 : Int32)))).bind fun y2 =>
 chk (y2 = 0 ∨ y2 = 1) (
 some y2)
set_option maxHeartbeats 4000000 in
set_option maxRecDepth 100000 in
theorem t_X9_isLoad (l : Launch) (G : Gm) (la : Nat) (w : CW) (x1 : Int32) (r : Int32) (hf : f_X9_isLoad x1 w = some r) : MetR l yX9_isLoad cX9_isLoad 2 (some .boolean) 1 22 G (cw G la w) [.ref (gq G 0), .int x1] (.int r) := by
  refine ent (own := RX9) (As := [.ref (gq G 0), .int x1]) (by decide +kernel) rfl (Nat.le_of_ble_eq_true rfl) (fun _ _ h => h.1) ?_
  intro p e s m args below meth c ls B hr hlocks hv hl
  obtain ⟨-, hP, hKK, hD⟩ := hv
  have X : CX RX9 cX9_isLoad 2 G p s m args c := ⟨B, hKK⟩
  obtain ⟨hx, hb, hml, hown, hts⟩ := id B
  have h : CH G (cw G la w) (fun _ => True) s.heap s.heap [] := ⟨hP, hD, va_S.rf⟩
  have hl : lv_has ls 2 [(0, .ref (gq G 0)), (1, .int x1)] := hl
  unfold f_X9_isLoad at hf
  refine lv_iload_n hx hb dX9_isLoad_0 rfl (lv_at hl 1 rfl) ?_
  refine lv_iconst (v := 0) hx hb dX9_isLoad_1 (by decide) ?_
  refine lv_aload_n hx hb dX9_isLoad_2 rfl (lv_at hl 0 rfl) ?_
  refine GC_0_0 X h k_X9_12 dX9_isLoad_3 ?_
  refine lv_sipush (v := 8550) hx hb dX9_isLoad_6 (by decide) ?_
  obtain ⟨y1, ey1, hf⟩ := bnd_some hf
  refine k_X1_get X h ey1 k_X9_175 dX9_isLoad_9 hl.1 ⟨(Nat.le_of_ble_eq_true rfl), (Nat.le_of_ble_eq_true rfl)⟩ (Nat.le_of_ble_eq_true rfl) ⟨Nat.zero_le _, Nat.zero_le _⟩ ?_
  refine lv_iconst (v := 1) hx hb dX9_isLoad_12 (by decide) ?_
  refine lv_isub hx hb dX9_isLoad_13 ?_
  obtain ⟨y2, ey2, hf⟩ := bnd_some hf
  refine k_X9_within X.1 ey2 k_X9_92 dX9_isLoad_14 hl.1 ⟨(Nat.le_of_ble_eq_true rfl), (Nat.le_of_ble_eq_true rfl)⟩ (Nat.le_of_ble_eq_true rfl) ⟨Nat.zero_le _, Nat.zero_le _⟩ ?_
  obtain ⟨c3, hf⟩ := chk_some hf
  cases hf
  exact rr_z X.1 hr hlocks c3 dX9_isLoad_17
theorem m_X9_isLoad : Cond.instanceMethod yX9_isLoad ∈ lw_good ∧ Cond.selects RX9 yX9_isLoad yX9_isLoad ∈ lw_good ∧ Cond.initialized RX9 ∈ lw_good ∧ Cond.code yX9_isLoad cX9_isLoad 2 (some .boolean) ∈ lw_good := by decide +kernel
theorem k_X9_isLoad {p : Program} {l : Launch} {e : Env} {R : Room} {s : State} {m : MethodId} {args : Array Value} {below : List Frame} {meth : Method} {c : Code} {H : Heap} {locs : List Loc} {cells slots : Nat} {Q : State → Prop} {cc : ByteArray} {nL pc idx : Nat} {ls : Array Slot} {rest : List Value} {own : String} {G : Gm} {A : Nat → Prop} {H0 : Heap} {la : Nat} {w : CW} {x1 : Int32} {r : Int32} (X : CX own cc nL G p s m args c) (h : CH G (cw G la w) A H0 H locs) (hf : f_X9_isLoad x1 w = some r) (hlk : Cond.methodLink own idx yX9_isLoad ∈ lw_good) (hd : decode cc pc = .ok (.invokevirtual idx, 3)) (hsz : ls.size = nL) (hR : 2 ≤ R.frames ∧ 43 ≤ R.locals) (hrest : (rest.map fun v => v.category).sum ≤ 8) (hk : cells ≤ R.cells ∧ slots ≤ R.slots) (k : W p l e R s m args below meth c H locs cells slots Q (F0 m (pc + 3) ls (.int r :: rest))) : W p l e R s m args below meth c H locs cells slots Q (F0 m pc ls (.int x1 :: .ref (gq G 0) :: rest)) :=
  fin_r (runV (As := [.int x1]) X.1 1 (t_X9_isLoad l G la w x1 r hf) rfl rfl hlk m_X9_isLoad (by decide +kernel) ⟨hR.1, hR.2⟩ ⟨blindR, va_recv X.2.1 h.1 (ci := 8) (q0 := 0) rfl rfl, preR X.2 h⟩ rfl hsz hrest hd hk) k
def f_X9_isBusy (x1 : Int32) (w : CW) : Option Int32 :=
 (f_X9_hasRun x1 w).bind fun y1 =>
 if y1 = 0 then
 ((f_X9_read x1 ((3 : Int32)) w).bind fun y3 =>
 if y3 = ((4 : Int32)) then
 (some ((1 : Int32)))
 else
 (some ((0 : Int32))))
 else
 (some ((1 : Int32)))
set_option maxHeartbeats 4000000 in
set_option maxRecDepth 100000 in
theorem t_X9_isBusy (l : Launch) (G : Gm) (la : Nat) (w : CW) (x1 : Int32) (r : Int32) (hf : f_X9_isBusy x1 w = some r) : MetR l yX9_isBusy cX9_isBusy 2 (some .boolean) 3 64 G (cw G la w) [.ref (gq G 0), .int x1] (.int r) := by
  refine ent (own := RX9) (As := [.ref (gq G 0), .int x1]) (by decide +kernel) rfl (Nat.le_of_ble_eq_true rfl) (fun _ _ h => h.1) ?_
  intro p e s m args below meth c ls B hr hlocks hv hl
  obtain ⟨-, hP, hKK, hD⟩ := hv
  have X : CX RX9 cX9_isBusy 2 G p s m args c := ⟨B, hKK⟩
  obtain ⟨hx, hb, hml, hown, hts⟩ := id B
  have h : CH G (cw G la w) (fun _ => True) s.heap s.heap [] := ⟨hP, hD, va_S.rf⟩
  have hl : lv_has ls 2 [(0, .ref (gq G 0)), (1, .int x1)] := hl
  unfold f_X9_isBusy at hf
  refine lv_aload_n hx hb dX9_isBusy_0 rfl (lv_at hl 0 rfl) ?_
  refine lv_iload_n hx hb dX9_isBusy_1 rfl (lv_at hl 1 rfl) ?_
  obtain ⟨y1, ey1, hf⟩ := bnd_some hf
  refine k_X9_hasRun X h ey1 k_X9_114 dX9_isBusy_2 hl.1 ⟨(Nat.le_of_ble_eq_true rfl), (Nat.le_of_ble_eq_true rfl)⟩ (Nat.le_of_ble_eq_true rfl) ⟨Nat.zero_le _, Nat.zero_le _⟩ ?_
  refine lv_if_ne (tgt := 18) hx hb dX9_isBusy_5 (by decide) (fun c2 => ?_) (fun c2 => ?_)
  · have hf := if_f c2 hf
    refine lv_iconst (v := 1) hx hb dX9_isBusy_18 (by decide) ?_
    refine lv_goto (tgt := 23) hx hb dX9_isBusy_19 (by decide) ?_
    cases hf
    exact rr_z X.1 hr hlocks (Or.inr rfl) dX9_isBusy_23
  · have hf := if_t c2 hf
    refine lv_aload_n hx hb dX9_isBusy_8 rfl (lv_at hl 0 rfl) ?_
    refine lv_iload_n hx hb dX9_isBusy_9 rfl (lv_at hl 1 rfl) ?_
    refine lv_iconst (v := 3) hx hb dX9_isBusy_10 (by decide) ?_
    obtain ⟨y3, ey3, hf⟩ := bnd_some hf
    refine k_X9_read X h ey3 k_X9_110 dX9_isBusy_11 hl.1 ⟨(Nat.le_of_ble_eq_true rfl), (Nat.le_of_ble_eq_true rfl)⟩ (Nat.le_of_ble_eq_true rfl) ⟨Nat.zero_le _, Nat.zero_le _⟩ ?_
    refine lv_iconst (v := 4) hx hb dX9_isBusy_14 (by decide) ?_
    refine lv_icmp_ne (tgt := 22) hx hb dX9_isBusy_15 (by decide) (fun c4 => ?_) (fun c4 => ?_)
    · have hf := if_f c4 hf
      refine lv_iconst (v := 0) hx hb dX9_isBusy_22 (by decide) ?_
      cases hf
      exact rr_z X.1 hr hlocks (Or.inl rfl) dX9_isBusy_23
    · have hf := if_t c4 hf
      refine lv_iconst (v := 1) hx hb dX9_isBusy_18 (by decide) ?_
      refine lv_goto (tgt := 23) hx hb dX9_isBusy_19 (by decide) ?_
      cases hf
      exact rr_z X.1 hr hlocks (Or.inr rfl) dX9_isBusy_23
theorem m_X9_isBusy : Cond.instanceMethod yX9_isBusy ∈ lw_good ∧ Cond.selects RX9 yX9_isBusy yX9_isBusy ∈ lw_good ∧ Cond.initialized RX9 ∈ lw_good ∧ Cond.code yX9_isBusy cX9_isBusy 2 (some .boolean) ∈ lw_good := by decide +kernel
theorem k_X9_isBusy {p : Program} {l : Launch} {e : Env} {R : Room} {s : State} {m : MethodId} {args : Array Value} {below : List Frame} {meth : Method} {c : Code} {H : Heap} {locs : List Loc} {cells slots : Nat} {Q : State → Prop} {cc : ByteArray} {nL pc idx : Nat} {ls : Array Slot} {rest : List Value} {own : String} {G : Gm} {A : Nat → Prop} {H0 : Heap} {la : Nat} {w : CW} {x1 : Int32} {r : Int32} (X : CX own cc nL G p s m args c) (h : CH G (cw G la w) A H0 H locs) (hf : f_X9_isBusy x1 w = some r) (hlk : Cond.methodLink own idx yX9_isBusy ∈ lw_good) (hd : decode cc pc = .ok (.invokevirtual idx, 3)) (hsz : ls.size = nL) (hR : 4 ≤ R.frames ∧ 85 ≤ R.locals) (hrest : (rest.map fun v => v.category).sum ≤ 8) (hk : cells ≤ R.cells ∧ slots ≤ R.slots) (k : W p l e R s m args below meth c H locs cells slots Q (F0 m (pc + 3) ls (.int r :: rest))) : W p l e R s m args below meth c H locs cells slots Q (F0 m pc ls (.int x1 :: .ref (gq G 0) :: rest)) :=
  fin_r (runV (As := [.int x1]) X.1 1 (t_X9_isBusy l G la w x1 r hf) rfl rfl hlk m_X9_isBusy (by decide +kernel) ⟨hR.1, hR.2⟩ ⟨blindR, va_recv X.2.1 h.1 (ci := 8) (q0 := 0) rfl rfl, preR X.2 h⟩ rfl hsz hrest hd hk) k
def f_X9_weightInside_l13_body (kself : (Int32 → Int32 → Int32 → Int32 → CW → Option Int32)) (x1 : Int32) (x2 : Int32) (x3 : Int32) (x4 : Int32) (w : CW) : Option Int32 :=
 if x3 ≤ x4 then
 (some x2)
 else
 ((f_X9_read x1 (((19 : Int32)) + x4) w).bind fun y2 =>
 (f_X9_loadCell y2 ((1 : Int32))).bind fun y3 =>
 (f_X1_get y3 w).bind fun y4 =>
 kself x1 (x2 + y4) x3 (x4 + (1 : Int32)) w)
def f_X9_weightInside_l13 : Nat → Int32 → Int32 → Int32 → Int32 → CW → Option Int32
  | 0, _, _, _, _, _ => none
  | n + 1, x1, x2, x3, x4, w => f_X9_weightInside_l13_body (f_X9_weightInside_l13 n) x1 x2 x3 x4 w
def f_X9_weightInside (x1 : Int32) (w : CW) : Option Int32 :=
 (f_X9_read x1 ((9 : Int32)) w).bind fun y5 =>
 f_X9_weightInside_l13 FU x1 ((0 : Int32)) y5 ((0 : Int32)) w
set_option maxHeartbeats 4000000 in
set_option maxRecDepth 100000 in
theorem t_X9_weightInside (l : Launch) (G : Gm) (la : Nat) (w : CW) (x1 : Int32) (r : Int32) (hf : f_X9_weightInside x1 w = some r) : MetR l yX9_weightInside cX9_weightInside 5 (some .int) 2 43 G (cw G la w) [.ref (gq G 0), .int x1] (.int r) := by
  refine ent (own := RX9) (As := [.ref (gq G 0), .int x1]) (by decide +kernel) rfl (Nat.le_of_ble_eq_true rfl) (fun _ _ h => h.1) ?_
  intro p e s m args below meth c ls B hr hlocks hv hl
  obtain ⟨-, hP, hKK, hD⟩ := hv
  have X : CX RX9 cX9_weightInside 5 G p s m args c := ⟨B, hKK⟩
  obtain ⟨hx, hb, hml, hown, hts⟩ := id B
  have h : CH G (cw G la w) (fun _ => True) s.heap s.heap [] := ⟨hP, hD, va_S.rf⟩
  have L13 : ∀ (n13 : Nat) (x1 : Int32) (x2 : Int32) (x3 : Int32) (x4 : Int32) (ls : Array Slot), f_X9_weightInside_l13 n13 x1 x2 x3 x4 w = some r → lv_has ls 5 [(0, .ref (gq G 0)), (1, .int x1), (2, .int x2), (3, .int x3), (4, .int x4)] → W p l e { frames := 2, cells := 0, slots := 0, locals := 43 } s m args below meth c s.heap [] 0 0 (MQ below (QcV (.int r)) args s 0 0 (fun _ => False)) (F0 m 13 ls []) := by
    intro n13
    induction n13 with
    | zero =>
      intro x1 x2 x3 x4 ls hf hl
      cases (show (none : Option Int32) = some _ from hf)
    | succ n13 ih13 =>
      intro x1 x2 x3 x4 ls hf hl
      have hf : f_X9_weightInside_l13_body (f_X9_weightInside_l13 n13) x1 x2 x3 x4 w = _ := hf
      unfold f_X9_weightInside_l13_body at hf
      refine lv_iload hx hb dX9_weightInside_13 (lv_at hl 4 rfl) ?_
      refine lv_iload_n hx hb dX9_weightInside_15 rfl (lv_at hl 3 rfl) ?_
      refine lv_icmp_ge (tgt := 49) hx hb dX9_weightInside_16 (by decide) (fun c1 => ?_) (fun c1 => ?_)
      · have hf := if_t c1 hf
        refine lv_iload_n hx hb dX9_weightInside_49 rfl (lv_at hl 2 rfl) ?_
        cases hf
        exact rr_i X.1 hr hlocks dX9_weightInside_50
      · have hf := if_f c1 hf
        refine lv_iload_n hx hb dX9_weightInside_19 rfl (lv_at hl 2 rfl) ?_
        refine lv_aload_n hx hb dX9_weightInside_20 rfl (lv_at hl 0 rfl) ?_
        refine GC_0_0 X h k_X9_12 dX9_weightInside_21 ?_
        refine lv_aload_n hx hb dX9_weightInside_24 rfl (lv_at hl 0 rfl) ?_
        refine lv_iload_n hx hb dX9_weightInside_25 rfl (lv_at hl 1 rfl) ?_
        refine lv_bipush (v := 19) hx hb dX9_weightInside_26 (by decide) ?_
        refine lv_iload hx hb dX9_weightInside_28 (lv_at hl 4 rfl) ?_
        refine lv_iadd hx hb dX9_weightInside_30 ?_
        obtain ⟨y2, ey2, hf⟩ := bnd_some hf
        refine k_X9_read X h ey2 k_X9_110 dX9_weightInside_31 hl.1 ⟨(Nat.le_of_ble_eq_true rfl), (Nat.le_of_ble_eq_true rfl)⟩ (Nat.le_of_ble_eq_true rfl) ⟨Nat.zero_le _, Nat.zero_le _⟩ ?_
        refine lv_iconst (v := 1) hx hb dX9_weightInside_34 (by decide) ?_
        obtain ⟨y3, ey3, hf⟩ := bnd_some hf
        refine k_X9_loadCell X.1 ey3 k_X9_221 dX9_weightInside_35 hl.1 ⟨(Nat.le_of_ble_eq_true rfl), (Nat.le_of_ble_eq_true rfl)⟩ (Nat.le_of_ble_eq_true rfl) ⟨Nat.zero_le _, Nat.zero_le _⟩ ?_
        obtain ⟨y4, ey4, hf⟩ := bnd_some hf
        refine k_X1_get X h ey4 k_X9_175 dX9_weightInside_38 hl.1 ⟨(Nat.le_of_ble_eq_true rfl), (Nat.le_of_ble_eq_true rfl)⟩ (Nat.le_of_ble_eq_true rfl) ⟨Nat.zero_le _, Nat.zero_le _⟩ ?_
        refine lv_iadd hx hb dX9_weightInside_41 ?_
        refine lv_istore_n (lv' := [(2, .int (x2 + y4)), (0, .ref (gq G 0)), (1, .int x1), (3, .int x3), (4, .int x4)]) hx hb dX9_weightInside_42 rfl hl (by decide) rfl (fun ls hl => ?_)
        refine lv_iinc (v := x4 + (1 : Int32)) (lv' := [(4, .int (x4 + (1 : Int32))), (2, .int (x2 + y4)), (0, .ref (gq G 0)), (1, .int x1), (3, .int x3)]) hx hb dX9_weightInside_43 hl (k := 4) rfl (by rfl) (by decide) rfl (fun ls hl => ?_)
        refine lv_goto (tgt := 13) hx hb dX9_weightInside_46 (by decide) ?_
        exact ih13 _ _ _ _ _ hf (lv_sub hl [2, 3, 1, 4, 0] rfl)
  have hl : lv_has ls 5 [(0, .ref (gq G 0)), (1, .int x1)] := hl
  unfold f_X9_weightInside at hf
  refine lv_iconst (v := 0) hx hb dX9_weightInside_0 (by decide) ?_
  refine lv_istore_n (lv' := [(2, .int ((0 : Int32))), (0, .ref (gq G 0)), (1, .int x1)]) hx hb dX9_weightInside_1 rfl hl (by decide) rfl (fun ls hl => ?_)
  refine lv_aload_n hx hb dX9_weightInside_2 rfl (lv_at hl 1 rfl) ?_
  refine lv_iload_n hx hb dX9_weightInside_3 rfl (lv_at hl 2 rfl) ?_
  refine lv_bipush (v := 9) hx hb dX9_weightInside_4 (by decide) ?_
  obtain ⟨y5, ey5, hf⟩ := bnd_some hf
  refine k_X9_read X h ey5 k_X9_110 dX9_weightInside_6 hl.1 ⟨(Nat.le_of_ble_eq_true rfl), (Nat.le_of_ble_eq_true rfl)⟩ (Nat.le_of_ble_eq_true rfl) ⟨Nat.zero_le _, Nat.zero_le _⟩ ?_
  refine lv_istore_n (lv' := [(3, .int y5), (2, .int ((0 : Int32))), (0, .ref (gq G 0)), (1, .int x1)]) hx hb dX9_weightInside_9 rfl hl (by decide) rfl (fun ls hl => ?_)
  refine lv_iconst (v := 0) hx hb dX9_weightInside_10 (by decide) ?_
  refine lv_istore (lv' := [(4, .int ((0 : Int32))), (3, .int y5), (2, .int ((0 : Int32))), (0, .ref (gq G 0)), (1, .int x1)]) hx hb dX9_weightInside_11 hl (by decide) rfl (fun ls hl => ?_)
  exact L13 FU _ _ _ _ _ hf (lv_sub hl [3, 4, 2, 1, 0] rfl)
theorem m_X9_weightInside : Cond.instanceMethod yX9_weightInside ∈ lw_good ∧ Cond.selects RX9 yX9_weightInside yX9_weightInside ∈ lw_good ∧ Cond.initialized RX9 ∈ lw_good ∧ Cond.code yX9_weightInside cX9_weightInside 5 (some .int) ∈ lw_good := by decide +kernel
theorem k_X9_weightInside {p : Program} {l : Launch} {e : Env} {R : Room} {s : State} {m : MethodId} {args : Array Value} {below : List Frame} {meth : Method} {c : Code} {H : Heap} {locs : List Loc} {cells slots : Nat} {Q : State → Prop} {cc : ByteArray} {nL pc idx : Nat} {ls : Array Slot} {rest : List Value} {own : String} {G : Gm} {A : Nat → Prop} {H0 : Heap} {la : Nat} {w : CW} {x1 : Int32} {r : Int32} (X : CX own cc nL G p s m args c) (h : CH G (cw G la w) A H0 H locs) (hf : f_X9_weightInside x1 w = some r) (hlk : Cond.methodLink own idx yX9_weightInside ∈ lw_good) (hd : decode cc pc = .ok (.invokevirtual idx, 3)) (hsz : ls.size = nL) (hR : 3 ≤ R.frames ∧ 67 ≤ R.locals) (hrest : (rest.map fun v => v.category).sum ≤ 8) (hk : cells ≤ R.cells ∧ slots ≤ R.slots) (k : W p l e R s m args below meth c H locs cells slots Q (F0 m (pc + 3) ls (.int r :: rest))) : W p l e R s m args below meth c H locs cells slots Q (F0 m pc ls (.int x1 :: .ref (gq G 0) :: rest)) :=
  fin_r (runV (As := [.int x1]) X.1 1 (t_X9_weightInside l G la w x1 r hf) rfl rfl hlk m_X9_weightInside (by decide +kernel) ⟨hR.1, hR.2⟩ ⟨blindR, va_recv X.2.1 h.1 (ci := 8) (q0 := 0) rfl rfl, preR X.2 h⟩ rfl hsz hrest hd hk) k
def f_X9_mixesInside_l11_body (kself : (Int32 → Int32 → Int32 → Int32 → CW → Option Int32)) (x1 : Int32) (x2 : Int32) (x3 : Int32) (x4 : Int32) (w : CW) : Option Int32 :=
 if x3 ≤ x4 then
 (some ((1 : Int32)))
 else
 ((f_X9_read x1 (((19 : Int32)) + x4) w).bind fun y2 =>
 (f_X9_loadCell y2 ((2 : Int32))).bind fun y3 =>
 (f_X1_get y3 w).bind fun y4 =>
 (f_X9_mayMix x2 y4 w).bind fun y5 =>
 if y5 = 0 then
 (some ((0 : Int32)))
 else
 (kself x1 x2 x3 (x4 + (1 : Int32)) w))
def f_X9_mixesInside_l11 : Nat → Int32 → Int32 → Int32 → Int32 → CW → Option Int32
  | 0, _, _, _, _, _ => none
  | n + 1, x1, x2, x3, x4, w => f_X9_mixesInside_l11_body (f_X9_mixesInside_l11 n) x1 x2 x3 x4 w
def f_X9_mixesInside (x1 : Int32) (x2 : Int32) (w : CW) : Option Int32 :=
 (f_X9_read x1 ((9 : Int32)) w).bind fun y7 =>
 f_X9_mixesInside_l11 FU x1 x2 y7 ((0 : Int32)) w
set_option maxHeartbeats 4000000 in
set_option maxRecDepth 100000 in
theorem t_X9_mixesInside (l : Launch) (G : Gm) (la : Nat) (w : CW) (x1 : Int32) (x2 : Int32) (r : Int32) (hf : f_X9_mixesInside x1 x2 w = some r) : MetR l yX9_mixesInside cX9_mixesInside 5 (some .boolean) 2 43 G (cw G la w) [.ref (gq G 0), .int x1, .int x2] (.int r) := by
  refine ent (own := RX9) (As := [.ref (gq G 0), .int x1, .int x2]) (by decide +kernel) rfl (Nat.le_of_ble_eq_true rfl) (fun _ _ h => h.1) ?_
  intro p e s m args below meth c ls B hr hlocks hv hl
  obtain ⟨-, hP, hKK, hD⟩ := hv
  have X : CX RX9 cX9_mixesInside 5 G p s m args c := ⟨B, hKK⟩
  obtain ⟨hx, hb, hml, hown, hts⟩ := id B
  have h : CH G (cw G la w) (fun _ => True) s.heap s.heap [] := ⟨hP, hD, va_S.rf⟩
  have L11 : ∀ (n11 : Nat) (x1 : Int32) (x2 : Int32) (x3 : Int32) (x4 : Int32) (ls : Array Slot), f_X9_mixesInside_l11 n11 x1 x2 x3 x4 w = some r → lv_has ls 5 [(0, .ref (gq G 0)), (1, .int x1), (2, .int x2), (3, .int x3), (4, .int x4)] → W p l e { frames := 2, cells := 0, slots := 0, locals := 43 } s m args below meth c s.heap [] 0 0 (MQ below (QcV (.int r)) args s 0 0 (fun _ => False)) (F0 m 11 ls []) := by
    intro n11
    induction n11 with
    | zero =>
      intro x1 x2 x3 x4 ls hf hl
      cases (show (none : Option Int32) = some _ from hf)
    | succ n11 ih11 =>
      intro x1 x2 x3 x4 ls hf hl
      have hf : f_X9_mixesInside_l11_body (f_X9_mixesInside_l11 n11) x1 x2 x3 x4 w = _ := hf
      unfold f_X9_mixesInside_l11_body at hf
      refine lv_iload hx hb dX9_mixesInside_11 (lv_at hl 4 rfl) ?_
      refine lv_iload_n hx hb dX9_mixesInside_13 rfl (lv_at hl 3 rfl) ?_
      refine lv_icmp_ge (tgt := 54) hx hb dX9_mixesInside_14 (by decide) (fun c1 => ?_) (fun c1 => ?_)
      · have hf := if_t c1 hf
        refine lv_iconst (v := 1) hx hb dX9_mixesInside_54 (by decide) ?_
        cases hf
        exact rr_z X.1 hr hlocks (Or.inr rfl) dX9_mixesInside_55
      · have hf := if_f c1 hf
        refine lv_aload_n hx hb dX9_mixesInside_17 rfl (lv_at hl 0 rfl) ?_
        refine lv_iload_n hx hb dX9_mixesInside_18 rfl (lv_at hl 2 rfl) ?_
        refine lv_aload_n hx hb dX9_mixesInside_19 rfl (lv_at hl 0 rfl) ?_
        refine GC_0_0 X h k_X9_12 dX9_mixesInside_20 ?_
        refine lv_aload_n hx hb dX9_mixesInside_23 rfl (lv_at hl 0 rfl) ?_
        refine lv_iload_n hx hb dX9_mixesInside_24 rfl (lv_at hl 1 rfl) ?_
        refine lv_bipush (v := 19) hx hb dX9_mixesInside_25 (by decide) ?_
        refine lv_iload hx hb dX9_mixesInside_27 (lv_at hl 4 rfl) ?_
        refine lv_iadd hx hb dX9_mixesInside_29 ?_
        obtain ⟨y2, ey2, hf⟩ := bnd_some hf
        refine k_X9_read X h ey2 k_X9_110 dX9_mixesInside_30 hl.1 ⟨(Nat.le_of_ble_eq_true rfl), (Nat.le_of_ble_eq_true rfl)⟩ (Nat.le_of_ble_eq_true rfl) ⟨Nat.zero_le _, Nat.zero_le _⟩ ?_
        refine lv_iconst (v := 2) hx hb dX9_mixesInside_33 (by decide) ?_
        obtain ⟨y3, ey3, hf⟩ := bnd_some hf
        refine k_X9_loadCell X.1 ey3 k_X9_221 dX9_mixesInside_34 hl.1 ⟨(Nat.le_of_ble_eq_true rfl), (Nat.le_of_ble_eq_true rfl)⟩ (Nat.le_of_ble_eq_true rfl) ⟨Nat.zero_le _, Nat.zero_le _⟩ ?_
        obtain ⟨y4, ey4, hf⟩ := bnd_some hf
        refine k_X1_get X h ey4 k_X9_175 dX9_mixesInside_37 hl.1 ⟨(Nat.le_of_ble_eq_true rfl), (Nat.le_of_ble_eq_true rfl)⟩ (Nat.le_of_ble_eq_true rfl) ⟨Nat.zero_le _, Nat.zero_le _⟩ ?_
        obtain ⟨y5, ey5, hf⟩ := bnd_some hf
        refine k_X9_mayMix X h ey5 k_X9_224 dX9_mixesInside_40 hl.1 ⟨(Nat.le_of_ble_eq_true rfl), (Nat.le_of_ble_eq_true rfl)⟩ (Nat.le_of_ble_eq_true rfl) ⟨Nat.zero_le _, Nat.zero_le _⟩ ?_
        refine lv_if_ne (tgt := 48) hx hb dX9_mixesInside_43 (by decide) (fun c6 => ?_) (fun c6 => ?_)
        · have hf := if_f c6 hf
          refine lv_iinc (v := x4 + (1 : Int32)) (lv' := [(4, .int (x4 + (1 : Int32))), (0, .ref (gq G 0)), (1, .int x1), (2, .int x2), (3, .int x3)]) hx hb dX9_mixesInside_48 hl (k := 4) rfl (by rfl) (by decide) rfl (fun ls hl => ?_)
          refine lv_goto (tgt := 11) hx hb dX9_mixesInside_51 (by decide) ?_
          exact ih11 _ _ _ _ _ hf (lv_sub hl [1, 2, 3, 4, 0] rfl)
        · have hf := if_t c6 hf
          refine lv_iconst (v := 0) hx hb dX9_mixesInside_46 (by decide) ?_
          cases hf
          exact rr_z X.1 hr hlocks (Or.inl rfl) dX9_mixesInside_47
  have hl : lv_has ls 5 [(0, .ref (gq G 0)), (1, .int x1), (2, .int x2)] := hl
  unfold f_X9_mixesInside at hf
  refine lv_aload_n hx hb dX9_mixesInside_0 rfl (lv_at hl 0 rfl) ?_
  refine lv_iload_n hx hb dX9_mixesInside_1 rfl (lv_at hl 1 rfl) ?_
  refine lv_bipush (v := 9) hx hb dX9_mixesInside_2 (by decide) ?_
  obtain ⟨y7, ey7, hf⟩ := bnd_some hf
  refine k_X9_read X h ey7 k_X9_110 dX9_mixesInside_4 hl.1 ⟨(Nat.le_of_ble_eq_true rfl), (Nat.le_of_ble_eq_true rfl)⟩ (Nat.le_of_ble_eq_true rfl) ⟨Nat.zero_le _, Nat.zero_le _⟩ ?_
  refine lv_istore_n (lv' := [(3, .int y7), (0, .ref (gq G 0)), (1, .int x1), (2, .int x2)]) hx hb dX9_mixesInside_7 rfl hl (by decide) rfl (fun ls hl => ?_)
  refine lv_iconst (v := 0) hx hb dX9_mixesInside_8 (by decide) ?_
  refine lv_istore (lv' := [(4, .int ((0 : Int32))), (3, .int y7), (0, .ref (gq G 0)), (1, .int x1), (2, .int x2)]) hx hb dX9_mixesInside_9 hl (by decide) rfl (fun ls hl => ?_)
  exact L11 FU _ _ _ _ _ hf (lv_sub hl [2, 3, 4, 1, 0] rfl)
theorem m_X9_mixesInside : Cond.instanceMethod yX9_mixesInside ∈ lw_good ∧ Cond.selects RX9 yX9_mixesInside yX9_mixesInside ∈ lw_good ∧ Cond.initialized RX9 ∈ lw_good ∧ Cond.code yX9_mixesInside cX9_mixesInside 5 (some .boolean) ∈ lw_good := by decide +kernel
theorem k_X9_mixesInside {p : Program} {l : Launch} {e : Env} {R : Room} {s : State} {m : MethodId} {args : Array Value} {below : List Frame} {meth : Method} {c : Code} {H : Heap} {locs : List Loc} {cells slots : Nat} {Q : State → Prop} {cc : ByteArray} {nL pc idx : Nat} {ls : Array Slot} {rest : List Value} {own : String} {G : Gm} {A : Nat → Prop} {H0 : Heap} {la : Nat} {w : CW} {x1 : Int32} {x2 : Int32} {r : Int32} (X : CX own cc nL G p s m args c) (h : CH G (cw G la w) A H0 H locs) (hf : f_X9_mixesInside x1 x2 w = some r) (hlk : Cond.methodLink own idx yX9_mixesInside ∈ lw_good) (hd : decode cc pc = .ok (.invokevirtual idx, 3)) (hsz : ls.size = nL) (hR : 3 ≤ R.frames ∧ 67 ≤ R.locals) (hrest : (rest.map fun v => v.category).sum ≤ 8) (hk : cells ≤ R.cells ∧ slots ≤ R.slots) (k : W p l e R s m args below meth c H locs cells slots Q (F0 m (pc + 3) ls (.int r :: rest))) : W p l e R s m args below meth c H locs cells slots Q (F0 m pc ls (.int x2 :: .int x1 :: .ref (gq G 0) :: rest)) :=
  fin_r (runV (As := [.int x1, .int x2]) X.1 2 (t_X9_mixesInside l G la w x1 x2 r hf) rfl rfl hlk m_X9_mixesInside (by decide +kernel) ⟨hR.1, hR.2⟩ ⟨blindR, va_recv X.2.1 h.1 (ci := 8) (q0 := 0) rfl rfl, preR X.2 h⟩ rfl hsz hrest hd hk) k
def f_X9_putInside_b62 (x1 : Int32) (x2 : Int32) (w : CW) : Option ((Int32 × CW) × Nat) :=
 (f_X9_weightInside x1 w).bind fun y1 =>
 (f_X9_loadCell x2 ((1 : Int32))).bind fun y2 =>
 (f_X1_get y2 w).bind fun y3 =>
 (f_X9_roomOf x1 w).bind fun y4 =>
 if (y1 + y3) ≤ y4 then
 ((f_X9_loadCell x2 ((2 : Int32))).bind fun y6 =>
 (f_X1_get y6 w).bind fun y7 =>
 (f_X9_mixesInside x1 y7 w).bind fun y8 =>
 if y8 = 0 then
 ((f_X9_found ((10 : Int32)) w).bind fun y16 =>
 some ((y16.1, y16.2), 0))
 else
 ((f_X9_read x1 ((9 : Int32)) w).bind fun y10 =>
 if y10 < ((8 : Int32)) then
 (bnc (f_X9_write x1 (((19 : Int32)) + y10) x2 w) fun y12 =>
 bnc (f_X9_write x1 ((9 : Int32)) (y10 + ((1 : Int32))) y12) fun y13 =>
 (f_X9_loadCell x2 ((3 : Int32))).bind fun y14 =>
 bnc (f_X1_set y14 x1 y13) fun y15 =>
 some ((y10 + ((1 : Int32)), y15), 0))
 else
 (some (((-4 : Int32), w), 0))))
 else
 ((f_X9_found ((11 : Int32)) w).bind fun y17 =>
 some ((y17.1, y17.2), 0))
def f_X9_putInside (x1 : Int32) (x2 : Int32) (w : CW) : Option ((Int32 × CW) × Nat) :=
 (f_X9_loadCell x2 ((3 : Int32))).bind fun y18 =>
 (f_X1_get y18 w).bind fun y19 =>
 if y19 = ((-1 : Int32)) then
 ((f_X9_isBusy x1 w).bind fun y21 =>
 if y21 = 0 then
 ((f_X9_isBank x1 w).bind fun y23 =>
 if y23 = 0 then
 (f_X9_putInside_b62 x1 x2 w)
 else
 ((f_X9_read x1 ((8 : Int32)) w).bind fun y25 =>
 if y25 = 0 then
 ((f_X9_found ((6 : Int32)) w).bind fun y27 =>
 some ((y27.1, y27.2), 0))
 else
 (f_X9_putInside_b62 x1 x2 w)))
 else
 ((f_X9_found ((7 : Int32)) w).bind fun y28 =>
 some ((y28.1, y28.2), 0)))
 else
 ((f_X9_found ((2 : Int32)) w).bind fun y29 =>
 some ((y29.1, y29.2), 0))
set_option maxHeartbeats 4000000 in
set_option maxRecDepth 100000 in
theorem t_X9_putInside (l : Launch) (G : Gm) (la0 : Nat) (w0 : CW) (x1 : Int32) (x2 : Int32) (r : Int32) (w' : CW) (N : Nat) (hf : f_X9_putInside x1 x2 w0 = some ((r, w'), N)) : MetI l yX9_putInside cX9_putInside 4 (some .int) 5 136 G (cw G la0 w0) [.ref (gq G 0), .int x1, .int x2] r (fun u => cw G u w') N := by
  intro sz
  refine ent (own := RX9) (As := [.ref (gq G 0), .int x1, .int x2]) (by decide +kernel) rfl (Nat.le_of_ble_eq_true rfl) (fun _ _ h => h.1) ?_
  intro p e s m args below meth c ls B hr hlocks hv hl
  obtain ⟨-, hsz, hP, hKK, hD⟩ := hv
  subst hsz
  have X : CX RX9 cX9_putInside 4 G p s m args c := ⟨B, hKK⟩
  obtain ⟨hx, hb, hml, hown, hts⟩ := id B
  have hA : ∀ q : Nat, s.heap.size ≤ q → va_A (cw G la0 w0) s.heap.size q := fun q z => Or.inr z
  have h : CH G (cw G la0 w0) (va_A (cw G la0 w0) s.heap.size) s.heap s.heap [] := ⟨hP, hD.self, va_S.rf⟩
  have hc : 0 + N = N := Nat.zero_add N
  have J62 : ∀ (x1 : Int32) (x2 : Int32) (w : CW) (la : Nat) (H : Heap) (locs : List Loc) (ls : Array Slot) (k n : Nat), f_X9_putInside_b62 x1 x2 w = some ((r, w'), n) → CH G (cw G la w) (va_A (cw G la0 w0) s.heap.size) s.heap H locs → lv_has ls 4 [(0, .ref (gq G 0)), (1, .int x1), (2, .int x2)] → k + n = N → W p l e { frames := 5, cells := N, slots := 4096 * N, locals := 136 } s m args below meth c H locs k (4096 * k) (MQ below (QI G (cw G la0 w0) s.heap.size r (fun u => cw G u w')) args s N (4096 * N) (va_A (cw G la0 w0) s.heap.size)) (F0 m 62 ls []) := by
    intro x1 x2 w la H locs ls k n hf h hl hc
    unfold f_X9_putInside_b62 at hf
    refine lv_aload_n hx hb dX9_putInside_62 rfl (lv_at hl 0 rfl) ?_
    refine lv_iload_n hx hb dX9_putInside_63 rfl (lv_at hl 1 rfl) ?_
    obtain ⟨y1, ey1, hf⟩ := bnd_some hf
    refine k_X9_weightInside X h ey1 k_X9_239 dX9_putInside_64 hl.1 ⟨(Nat.le_of_ble_eq_true rfl), (Nat.le_of_ble_eq_true rfl)⟩ (Nat.le_of_ble_eq_true rfl) (rmm0 hc) ?_
    refine lv_aload_n hx hb dX9_putInside_67 rfl (lv_at hl 0 rfl) ?_
    refine GC_0_0 X h k_X9_12 dX9_putInside_68 ?_
    refine lv_iload_n hx hb dX9_putInside_71 rfl (lv_at hl 2 rfl) ?_
    refine lv_iconst (v := 1) hx hb dX9_putInside_72 (by decide) ?_
    obtain ⟨y2, ey2, hf⟩ := bnd_some hf
    refine k_X9_loadCell X.1 ey2 k_X9_221 dX9_putInside_73 hl.1 ⟨(Nat.le_of_ble_eq_true rfl), (Nat.le_of_ble_eq_true rfl)⟩ (Nat.le_of_ble_eq_true rfl) (rmm0 hc) ?_
    obtain ⟨y3, ey3, hf⟩ := bnd_some hf
    refine k_X1_get X h ey3 k_X9_175 dX9_putInside_76 hl.1 ⟨(Nat.le_of_ble_eq_true rfl), (Nat.le_of_ble_eq_true rfl)⟩ (Nat.le_of_ble_eq_true rfl) (rmm0 hc) ?_
    refine lv_iadd hx hb dX9_putInside_79 ?_
    refine lv_aload_n hx hb dX9_putInside_80 rfl (lv_at hl 0 rfl) ?_
    refine lv_iload_n hx hb dX9_putInside_81 rfl (lv_at hl 1 rfl) ?_
    obtain ⟨y4, ey4, hf⟩ := bnd_some hf
    refine k_X9_roomOf X h ey4 k_X9_120 dX9_putInside_82 hl.1 ⟨(Nat.le_of_ble_eq_true rfl), (Nat.le_of_ble_eq_true rfl)⟩ (Nat.le_of_ble_eq_true rfl) (rmm0 hc) ?_
    refine lv_icmp_le (tgt := 95) hx hb dX9_putInside_85 (by decide) (fun c5 => ?_) (fun c5 => ?_)
    · have hf := if_t c5 hf
      refine lv_aload_n hx hb dX9_putInside_95 rfl (lv_at hl 0 rfl) ?_
      refine lv_iload_n hx hb dX9_putInside_96 rfl (lv_at hl 1 rfl) ?_
      refine lv_aload_n hx hb dX9_putInside_97 rfl (lv_at hl 0 rfl) ?_
      refine GC_0_0 X h k_X9_12 dX9_putInside_98 ?_
      refine lv_iload_n hx hb dX9_putInside_101 rfl (lv_at hl 2 rfl) ?_
      refine lv_iconst (v := 2) hx hb dX9_putInside_102 (by decide) ?_
      obtain ⟨y6, ey6, hf⟩ := bnd_some hf
      refine k_X9_loadCell X.1 ey6 k_X9_221 dX9_putInside_103 hl.1 ⟨(Nat.le_of_ble_eq_true rfl), (Nat.le_of_ble_eq_true rfl)⟩ (Nat.le_of_ble_eq_true rfl) (rmm0 hc) ?_
      obtain ⟨y7, ey7, hf⟩ := bnd_some hf
      refine k_X1_get X h ey7 k_X9_175 dX9_putInside_106 hl.1 ⟨(Nat.le_of_ble_eq_true rfl), (Nat.le_of_ble_eq_true rfl)⟩ (Nat.le_of_ble_eq_true rfl) (rmm0 hc) ?_
      obtain ⟨y8, ey8, hf⟩ := bnd_some hf
      refine k_X9_mixesInside X h ey8 k_X9_242 dX9_putInside_109 hl.1 ⟨(Nat.le_of_ble_eq_true rfl), (Nat.le_of_ble_eq_true rfl)⟩ (Nat.le_of_ble_eq_true rfl) (rmm0 hc) ?_
      refine lv_if_ne (tgt := 122) hx hb dX9_putInside_112 (by decide) (fun c9 => ?_) (fun c9 => ?_)
      · have hf := if_f c9 hf
        refine lv_aload_n hx hb dX9_putInside_122 rfl (lv_at hl 0 rfl) ?_
        refine lv_iload_n hx hb dX9_putInside_123 rfl (lv_at hl 1 rfl) ?_
        refine lv_bipush (v := 9) hx hb dX9_putInside_124 (by decide) ?_
        obtain ⟨y10, ey10, hf⟩ := bnd_some hf
        refine k_X9_read X h ey10 k_X9_110 dX9_putInside_126 hl.1 ⟨(Nat.le_of_ble_eq_true rfl), (Nat.le_of_ble_eq_true rfl)⟩ (Nat.le_of_ble_eq_true rfl) (rmm0 hc) ?_
        refine lv_istore_n (lv' := [(3, .int y10), (0, .ref (gq G 0)), (1, .int x1), (2, .int x2)]) hx hb dX9_putInside_129 rfl hl (by decide) rfl (fun ls hl => ?_)
        refine lv_iload_n hx hb dX9_putInside_130 rfl (lv_at hl 0 rfl) ?_
        refine lv_bipush (v := 8) hx hb dX9_putInside_131 (by decide) ?_
        refine lv_icmp_lt (tgt := 139) hx hb dX9_putInside_133 (by decide) (fun c11 => ?_) (fun c11 => ?_)
        · have hf := if_t c11 hf
          refine lv_aload_n hx hb dX9_putInside_139 rfl (lv_at hl 1 rfl) ?_
          refine lv_iload_n hx hb dX9_putInside_140 rfl (lv_at hl 2 rfl) ?_
          refine lv_bipush (v := 19) hx hb dX9_putInside_141 (by decide) ?_
          refine lv_iload_n hx hb dX9_putInside_143 rfl (lv_at hl 0 rfl) ?_
          refine lv_iadd hx hb dX9_putInside_144 ?_
          refine lv_iload_n hx hb dX9_putInside_145 rfl (lv_at hl 3 rfl) ?_
          obtain ⟨y12, ny12, my12, ey12, hf, jy12⟩ := bnc_some hf
          refine k_X9_write X h hA ey12 k_X9_99 dX9_putInside_146 hl.1 ⟨(Nat.le_of_ble_eq_true rfl), (Nat.le_of_ble_eq_true rfl)⟩ (Nat.le_of_ble_eq_true rfl) (rmm1 hc jy12) (fun la H locs h => ?_)
          have hc := rmm2 hc jy12
          refine lv_aload_n hx hb dX9_putInside_149 rfl (lv_at hl 1 rfl) ?_
          refine lv_iload_n hx hb dX9_putInside_150 rfl (lv_at hl 2 rfl) ?_
          refine lv_bipush (v := 9) hx hb dX9_putInside_151 (by decide) ?_
          refine lv_iload_n hx hb dX9_putInside_153 rfl (lv_at hl 0 rfl) ?_
          refine lv_iconst (v := 1) hx hb dX9_putInside_154 (by decide) ?_
          refine lv_iadd hx hb dX9_putInside_155 ?_
          obtain ⟨y13, ny13, my13, ey13, hf, jy13⟩ := bnc_some hf
          refine k_X9_write X h hA ey13 k_X9_99 dX9_putInside_156 hl.1 ⟨(Nat.le_of_ble_eq_true rfl), (Nat.le_of_ble_eq_true rfl)⟩ (Nat.le_of_ble_eq_true rfl) (rmm1 hc jy13) (fun la H locs h => ?_)
          have hc := rmm2 hc jy13
          refine lv_aload_n hx hb dX9_putInside_159 rfl (lv_at hl 1 rfl) ?_
          refine GC_0_0 X h k_X9_12 dX9_putInside_160 ?_
          refine lv_iload_n hx hb dX9_putInside_163 rfl (lv_at hl 3 rfl) ?_
          refine lv_iconst (v := 3) hx hb dX9_putInside_164 (by decide) ?_
          obtain ⟨y14, ey14, hf⟩ := bnd_some hf
          refine k_X9_loadCell X.1 ey14 k_X9_221 dX9_putInside_165 hl.1 ⟨(Nat.le_of_ble_eq_true rfl), (Nat.le_of_ble_eq_true rfl)⟩ (Nat.le_of_ble_eq_true rfl) (rmm0 hc) ?_
          refine lv_iload_n hx hb dX9_putInside_168 rfl (lv_at hl 2 rfl) ?_
          obtain ⟨y15, ny15, my15, ey15, hf, jy15⟩ := bnc_some hf
          refine k_X1_set X h hA ey15 k_X9_84 dX9_putInside_169 hl.1 ⟨(Nat.le_of_ble_eq_true rfl), (Nat.le_of_ble_eq_true rfl)⟩ (Nat.le_of_ble_eq_true rfl) (rmm1 hc jy15) (fun la H locs h => ?_)
          have hc := rmm2 hc jy15
          refine lv_iload_n hx hb dX9_putInside_172 rfl (lv_at hl 0 rfl) ?_
          refine lv_iconst (v := 1) hx hb dX9_putInside_173 (by decide) ?_
          refine lv_iadd hx hb dX9_putInside_174 ?_
          exact e1_i X.1 hr hlocks hf h hc dX9_putInside_175
        · have hf := if_f c11 hf
          refine lv_bipush (v := (-4)) hx hb dX9_putInside_136 (by decide) ?_
          exact e1_i X.1 hr hlocks hf h hc dX9_putInside_138
      · have hf := if_t c9 hf
        refine lv_aload_n hx hb dX9_putInside_115 rfl (lv_at hl 0 rfl) ?_
        refine lv_bipush (v := 10) hx hb dX9_putInside_116 (by decide) ?_
        obtain ⟨y16, ey16, hf⟩ := bnd_some hf
        refine k_X9_found X h hA ey16 k_X9_103 dX9_putInside_118 hl.1 ⟨(Nat.le_of_ble_eq_true rfl), (Nat.le_of_ble_eq_true rfl)⟩ (Nat.le_of_ble_eq_true rfl) (rmm0 hc) (fun H locs h => ?_)
        exact e1_i X.1 hr hlocks hf h hc dX9_putInside_121
    · have hf := if_f c5 hf
      refine lv_aload_n hx hb dX9_putInside_88 rfl (lv_at hl 0 rfl) ?_
      refine lv_bipush (v := 11) hx hb dX9_putInside_89 (by decide) ?_
      obtain ⟨y17, ey17, hf⟩ := bnd_some hf
      refine k_X9_found X h hA ey17 k_X9_103 dX9_putInside_91 hl.1 ⟨(Nat.le_of_ble_eq_true rfl), (Nat.le_of_ble_eq_true rfl)⟩ (Nat.le_of_ble_eq_true rfl) (rmm0 hc) (fun H locs h => ?_)
      exact e1_i X.1 hr hlocks hf h hc dX9_putInside_94
  obtain ⟨la, rfl⟩ : ∃ z, z = la0 := ⟨_, rfl⟩
  obtain ⟨w, rfl⟩ : ∃ z, z = w0 := ⟨_, rfl⟩
  have hl : lv_has ls 4 [(0, .ref (gq G 0)), (1, .int x1), (2, .int x2)] := hl
  unfold f_X9_putInside at hf
  refine wid0 ?_
  refine lv_aload_n hx hb dX9_putInside_0 rfl (lv_at hl 0 rfl) ?_
  refine GC_0_0 X h k_X9_12 dX9_putInside_1 ?_
  refine lv_iload_n hx hb dX9_putInside_4 rfl (lv_at hl 2 rfl) ?_
  refine lv_iconst (v := 3) hx hb dX9_putInside_5 (by decide) ?_
  obtain ⟨y18, ey18, hf⟩ := bnd_some hf
  refine k_X9_loadCell X.1 ey18 k_X9_221 dX9_putInside_6 hl.1 ⟨(Nat.le_of_ble_eq_true rfl), (Nat.le_of_ble_eq_true rfl)⟩ (Nat.le_of_ble_eq_true rfl) (rmm0 hc) ?_
  obtain ⟨y19, ey19, hf⟩ := bnd_some hf
  refine k_X1_get X h ey19 k_X9_175 dX9_putInside_9 hl.1 ⟨(Nat.le_of_ble_eq_true rfl), (Nat.le_of_ble_eq_true rfl)⟩ (Nat.le_of_ble_eq_true rfl) (rmm0 hc) ?_
  refine lv_iconst (v := (-1)) hx hb dX9_putInside_12 (by decide) ?_
  refine lv_icmp_eq (tgt := 22) hx hb dX9_putInside_13 (by decide) (fun c20 => ?_) (fun c20 => ?_)
  · have hf := if_t c20 hf
    refine lv_aload_n hx hb dX9_putInside_22 rfl (lv_at hl 0 rfl) ?_
    refine lv_iload_n hx hb dX9_putInside_23 rfl (lv_at hl 1 rfl) ?_
    obtain ⟨y21, ey21, hf⟩ := bnd_some hf
    refine k_X9_isBusy X h ey21 k_X9_236 dX9_putInside_24 hl.1 ⟨(Nat.le_of_ble_eq_true rfl), (Nat.le_of_ble_eq_true rfl)⟩ (Nat.le_of_ble_eq_true rfl) (rmm0 hc) ?_
    refine lv_if_eq (tgt := 37) hx hb dX9_putInside_27 (by decide) (fun c22 => ?_) (fun c22 => ?_)
    · have hf := if_t c22 hf
      refine lv_aload_n hx hb dX9_putInside_37 rfl (lv_at hl 0 rfl) ?_
      refine lv_iload_n hx hb dX9_putInside_38 rfl (lv_at hl 1 rfl) ?_
      obtain ⟨y23, ey23, hf⟩ := bnd_some hf
      refine k_X9_isBank X h ey23 k_X9_107 dX9_putInside_39 hl.1 ⟨(Nat.le_of_ble_eq_true rfl), (Nat.le_of_ble_eq_true rfl)⟩ (Nat.le_of_ble_eq_true rfl) (rmm0 hc) ?_
      refine lv_if_eq (tgt := 62) hx hb dX9_putInside_42 (by decide) (fun c24 => ?_) (fun c24 => ?_)
      · have hf := if_t c24 hf
        exact J62 _ _ _ _ _ _ _ _ _ hf h (lv_sub hl [0, 1, 2] rfl) hc
      · have hf := if_f c24 hf
        refine lv_aload_n hx hb dX9_putInside_45 rfl (lv_at hl 0 rfl) ?_
        refine lv_iload_n hx hb dX9_putInside_46 rfl (lv_at hl 1 rfl) ?_
        refine lv_bipush (v := 8) hx hb dX9_putInside_47 (by decide) ?_
        obtain ⟨y25, ey25, hf⟩ := bnd_some hf
        refine k_X9_read X h ey25 k_X9_110 dX9_putInside_49 hl.1 ⟨(Nat.le_of_ble_eq_true rfl), (Nat.le_of_ble_eq_true rfl)⟩ (Nat.le_of_ble_eq_true rfl) (rmm0 hc) ?_
        refine lv_if_ne (tgt := 62) hx hb dX9_putInside_52 (by decide) (fun c26 => ?_) (fun c26 => ?_)
        · have hf := if_f c26 hf
          exact J62 _ _ _ _ _ _ _ _ _ hf h (lv_sub hl [0, 1, 2] rfl) hc
        · have hf := if_t c26 hf
          refine lv_aload_n hx hb dX9_putInside_55 rfl (lv_at hl 0 rfl) ?_
          refine lv_bipush (v := 6) hx hb dX9_putInside_56 (by decide) ?_
          obtain ⟨y27, ey27, hf⟩ := bnd_some hf
          refine k_X9_found X h hA ey27 k_X9_103 dX9_putInside_58 hl.1 ⟨(Nat.le_of_ble_eq_true rfl), (Nat.le_of_ble_eq_true rfl)⟩ (Nat.le_of_ble_eq_true rfl) (rmm0 hc) (fun H locs h => ?_)
          exact e1_i X.1 hr hlocks hf h hc dX9_putInside_61
    · have hf := if_f c22 hf
      refine lv_aload_n hx hb dX9_putInside_30 rfl (lv_at hl 0 rfl) ?_
      refine lv_bipush (v := 7) hx hb dX9_putInside_31 (by decide) ?_
      obtain ⟨y28, ey28, hf⟩ := bnd_some hf
      refine k_X9_found X h hA ey28 k_X9_103 dX9_putInside_33 hl.1 ⟨(Nat.le_of_ble_eq_true rfl), (Nat.le_of_ble_eq_true rfl)⟩ (Nat.le_of_ble_eq_true rfl) (rmm0 hc) (fun H locs h => ?_)
      exact e1_i X.1 hr hlocks hf h hc dX9_putInside_36
  · have hf := if_f c20 hf
    refine lv_aload_n hx hb dX9_putInside_16 rfl (lv_at hl 0 rfl) ?_
    refine lv_iconst (v := 2) hx hb dX9_putInside_17 (by decide) ?_
    obtain ⟨y29, ey29, hf⟩ := bnd_some hf
    refine k_X9_found X h hA ey29 k_X9_103 dX9_putInside_18 hl.1 ⟨(Nat.le_of_ble_eq_true rfl), (Nat.le_of_ble_eq_true rfl)⟩ (Nat.le_of_ble_eq_true rfl) (rmm0 hc) (fun H locs h => ?_)
    exact e1_i X.1 hr hlocks hf h hc dX9_putInside_21
theorem m_X9_putInside : Cond.instanceMethod yX9_putInside ∈ lw_good ∧ Cond.selects RX9 yX9_putInside yX9_putInside ∈ lw_good ∧ Cond.initialized RX9 ∈ lw_good ∧ Cond.code yX9_putInside cX9_putInside 4 (some .int) ∈ lw_good := by decide +kernel
theorem k_X9_putInside {p : Program} {l : Launch} {e : Env} {R : Room} {s : State} {m : MethodId} {args : Array Value} {below : List Frame} {meth : Method} {c : Code} {H : Heap} {locs : List Loc} {cells : Nat} {Q : State → Prop} {cc : ByteArray} {nL pc idx : Nat} {ls : Array Slot} {rest : List Value} {own : String} {G : Gm} {A : Nat → Prop} {H0 : Heap} {la : Nat} {w : CW} {x1 : Int32} {x2 : Int32} {y : Int32 × CW} {n : Nat} (X : CX own cc nL G p s m args c) (h : CH G (cw G la w) A H0 H locs) (hA : ∀ q, H0.size ≤ q → A q) (hf : f_X9_putInside x1 x2 w = some (y, n)) (hlk : Cond.methodLink own idx yX9_putInside ∈ lw_good) (hd : decode cc pc = .ok (.invokevirtual idx, 3)) (hsz : ls.size = nL) (hR : 6 ≤ R.frames ∧ 159 ≤ R.locals) (hrest : (rest.map fun v => v.category).sum ≤ 8) (hk : cells + n ≤ R.cells ∧ 4096 * cells + 4096 * n ≤ R.slots) (k : ∀ (la : Nat) (H : Heap) (locs : List Loc), CH G (cw G la y.2) A H0 H locs → W p l e R s m args below meth c H locs (cells + n) (4096 * (cells + n)) Q (F0 m (pc + 3) ls (.int y.1 :: rest))) : W p l e R s m args below meth c H locs cells (4096 * cells) Q (F0 m pc ls (.int x2 :: .int x1 :: .ref (gq G 0) :: rest)) :=
  fin_i (n := n) (runV (As := [.int x1, .int x2]) X.1 2 (t_X9_putInside l G la w x1 x2 y.1 y.2 n hf _) rfl rfl hlk m_X9_putInside (by decide +kernel) ⟨hR.1, hR.2⟩ ⟨blindM, va_recv X.2.1 h.1 (ci := 8) (q0 := 0) rfl rfl, preM X.2 h⟩ rfl hsz hrest hd hk) h hA (fun la H locs h => by rw [← Nat.mul_add]; exact k la H locs h)
def f_X9_put (x1 : Int32) (x2 : Int32) (w : CW) : Option ((Int32 × CW) × Nat) :=
 (f_X9_isPlace x1).bind fun y1 =>
 if y1 = 0 then
 (some (((-1 : Int32), w), 0))
 else
 ((f_X9_isLoad x2 w).bind fun y3 =>
 if y3 = 0 then
 (some (((-1 : Int32), w), 0))
 else
 ((f_X9_hasMachine x1 w).bind fun y5 =>
 if y5 = 0 then
 ((f_X9_found ((1 : Int32)) w).bind fun y10 =>
 some ((y10.1, y10.2), 0))
 else
 ((f_X9_enter x1 w).bind fun y7 =>
 bnc (f_X9_putInside x1 x2 y7) fun y8 =>
 (f_X9_leave x1 y8.2).bind fun y9 =>
 some ((y8.1, y9), 0))))
set_option maxHeartbeats 4000000 in
set_option maxRecDepth 100000 in
theorem t_X9_put (l : Launch) (G : Gm) (la0 : Nat) (w0 : CW) (x1 : Int32) (x2 : Int32) (r : Int32) (w' : CW) (N : Nat) (hf : f_X9_put x1 x2 w0 = some ((r, w'), N)) : MetI l yX9_put cX9_put 4 (some .int) 6 159 G (cw G la0 w0) [.ref (gq G 0), .int x1, .int x2] r (fun u => cw G u w') N := by
  intro sz
  refine ent (own := RX9) (As := [.ref (gq G 0), .int x1, .int x2]) (by decide +kernel) rfl (Nat.le_of_ble_eq_true rfl) (fun _ _ h => h.1) ?_
  intro p e s m args below meth c ls B hr hlocks hv hl
  obtain ⟨-, hsz, hP, hKK, hD⟩ := hv
  subst hsz
  have X : CX RX9 cX9_put 4 G p s m args c := ⟨B, hKK⟩
  obtain ⟨hx, hb, hml, hown, hts⟩ := id B
  have hA : ∀ q : Nat, s.heap.size ≤ q → va_A (cw G la0 w0) s.heap.size q := fun q z => Or.inr z
  have h : CH G (cw G la0 w0) (va_A (cw G la0 w0) s.heap.size) s.heap s.heap [] := ⟨hP, hD.self, va_S.rf⟩
  have hc : 0 + N = N := Nat.zero_add N
  obtain ⟨la, rfl⟩ : ∃ z, z = la0 := ⟨_, rfl⟩
  obtain ⟨w, rfl⟩ : ∃ z, z = w0 := ⟨_, rfl⟩
  have hl : lv_has ls 4 [(0, .ref (gq G 0)), (1, .int x1), (2, .int x2)] := hl
  unfold f_X9_put at hf
  refine wid0 ?_
  refine lv_iload_n hx hb dX9_put_0 rfl (lv_at hl 1 rfl) ?_
  obtain ⟨y1, ey1, hf⟩ := bnd_some hf
  refine k_X9_isPlace X.1 ey1 k_X9_88 dX9_put_1 hl.1 ⟨(Nat.le_of_ble_eq_true rfl), (Nat.le_of_ble_eq_true rfl)⟩ (Nat.le_of_ble_eq_true rfl) (rmm0 hc) ?_
  refine lv_if_eq (tgt := 15) hx hb dX9_put_4 (by decide) (fun c2 => ?_) (fun c2 => ?_)
  · have hf := if_t c2 hf
    refine lv_iconst (v := (-1)) hx hb dX9_put_15 (by decide) ?_
    exact e1_i X.1 hr hlocks hf h hc dX9_put_16
  · have hf := if_f c2 hf
    refine lv_aload_n hx hb dX9_put_7 rfl (lv_at hl 0 rfl) ?_
    refine lv_iload_n hx hb dX9_put_8 rfl (lv_at hl 2 rfl) ?_
    obtain ⟨y3, ey3, hf⟩ := bnd_some hf
    refine k_X9_isLoad X h ey3 k_X9_230 dX9_put_9 hl.1 ⟨(Nat.le_of_ble_eq_true rfl), (Nat.le_of_ble_eq_true rfl)⟩ (Nat.le_of_ble_eq_true rfl) (rmm0 hc) ?_
    refine lv_if_ne (tgt := 17) hx hb dX9_put_12 (by decide) (fun c4 => ?_) (fun c4 => ?_)
    · have hf := if_f c4 hf
      refine lv_aload_n hx hb dX9_put_17 rfl (lv_at hl 0 rfl) ?_
      refine lv_iload_n hx hb dX9_put_18 rfl (lv_at hl 1 rfl) ?_
      obtain ⟨y5, ey5, hf⟩ := bnd_some hf
      refine k_X9_hasMachine X h ey5 k_X9_96 dX9_put_19 hl.1 ⟨(Nat.le_of_ble_eq_true rfl), (Nat.le_of_ble_eq_true rfl)⟩ (Nat.le_of_ble_eq_true rfl) (rmm0 hc) ?_
      refine lv_if_ne (tgt := 31) hx hb dX9_put_22 (by decide) (fun c6 => ?_) (fun c6 => ?_)
      · have hf := if_f c6 hf
        refine lv_aload_n hx hb dX9_put_31 rfl (lv_at hl 0 rfl) ?_
        refine lv_iload_n hx hb dX9_put_32 rfl (lv_at hl 1 rfl) ?_
        obtain ⟨y7, ey7, hf⟩ := bnd_some hf
        refine k_X9_enter X h hA ey7 k_X9_196 dX9_put_33 hl.1 ⟨(Nat.le_of_ble_eq_true rfl), (Nat.le_of_ble_eq_true rfl)⟩ (Nat.le_of_ble_eq_true rfl) (rmm0 hc) (fun H locs h => ?_)
        refine lv_aload_n hx hb dX9_put_36 rfl (lv_at hl 0 rfl) ?_
        refine lv_iload_n hx hb dX9_put_37 rfl (lv_at hl 1 rfl) ?_
        refine lv_iload_n hx hb dX9_put_38 rfl (lv_at hl 2 rfl) ?_
        obtain ⟨y8, ny8, my8, ey8, hf, jy8⟩ := bnc_some hf
        refine k_X9_putInside X h hA ey8 k_X9_233 dX9_put_39 hl.1 ⟨(Nat.le_of_ble_eq_true rfl), (Nat.le_of_ble_eq_true rfl)⟩ (Nat.le_of_ble_eq_true rfl) (rmm1 hc jy8) (fun la H locs h => ?_)
        have hc := rmm2 hc jy8
        refine lv_istore_n (lv' := [(3, .int y8.1), (0, .ref (gq G 0)), (1, .int x1), (2, .int x2)]) hx hb dX9_put_42 rfl hl (by decide) rfl (fun ls hl => ?_)
        refine lv_aload_n hx hb dX9_put_43 rfl (lv_at hl 1 rfl) ?_
        refine lv_iload_n hx hb dX9_put_44 rfl (lv_at hl 2 rfl) ?_
        obtain ⟨y9, ey9, hf⟩ := bnd_some hf
        refine k_X9_leave X h hA ey9 k_X9_203 dX9_put_45 hl.1 ⟨(Nat.le_of_ble_eq_true rfl), (Nat.le_of_ble_eq_true rfl)⟩ (Nat.le_of_ble_eq_true rfl) (rmm0 hc) (fun H locs h => ?_)
        refine lv_iload_n hx hb dX9_put_48 rfl (lv_at hl 0 rfl) ?_
        exact e1_i X.1 hr hlocks hf h hc dX9_put_49
      · have hf := if_t c6 hf
        refine lv_aload_n hx hb dX9_put_25 rfl (lv_at hl 0 rfl) ?_
        refine lv_iconst (v := 1) hx hb dX9_put_26 (by decide) ?_
        obtain ⟨y10, ey10, hf⟩ := bnd_some hf
        refine k_X9_found X h hA ey10 k_X9_103 dX9_put_27 hl.1 ⟨(Nat.le_of_ble_eq_true rfl), (Nat.le_of_ble_eq_true rfl)⟩ (Nat.le_of_ble_eq_true rfl) (rmm0 hc) (fun H locs h => ?_)
        exact e1_i X.1 hr hlocks hf h hc dX9_put_30
    · have hf := if_t c4 hf
      refine lv_iconst (v := (-1)) hx hb dX9_put_15 (by decide) ?_
      exact e1_i X.1 hr hlocks hf h hc dX9_put_16
theorem m_X9_put : Cond.instanceMethod yX9_put ∈ lw_good ∧ Cond.selects RX9 yX9_put yX9_put ∈ lw_good ∧ Cond.initialized RX9 ∈ lw_good ∧ Cond.code yX9_put cX9_put 4 (some .int) ∈ lw_good := by decide +kernel
theorem k_X9_put {p : Program} {l : Launch} {e : Env} {R : Room} {s : State} {m : MethodId} {args : Array Value} {below : List Frame} {meth : Method} {c : Code} {H : Heap} {locs : List Loc} {cells : Nat} {Q : State → Prop} {cc : ByteArray} {nL pc idx : Nat} {ls : Array Slot} {rest : List Value} {own : String} {G : Gm} {A : Nat → Prop} {H0 : Heap} {la : Nat} {w : CW} {x1 : Int32} {x2 : Int32} {y : Int32 × CW} {n : Nat} (X : CX own cc nL G p s m args c) (h : CH G (cw G la w) A H0 H locs) (hA : ∀ q, H0.size ≤ q → A q) (hf : f_X9_put x1 x2 w = some (y, n)) (hlk : Cond.methodLink own idx yX9_put ∈ lw_good) (hd : decode cc pc = .ok (.invokevirtual idx, 3)) (hsz : ls.size = nL) (hR : 7 ≤ R.frames ∧ 182 ≤ R.locals) (hrest : (rest.map fun v => v.category).sum ≤ 8) (hk : cells + n ≤ R.cells ∧ 4096 * cells + 4096 * n ≤ R.slots) (k : ∀ (la : Nat) (H : Heap) (locs : List Loc), CH G (cw G la y.2) A H0 H locs → W p l e R s m args below meth c H locs (cells + n) (4096 * (cells + n)) Q (F0 m (pc + 3) ls (.int y.1 :: rest))) : W p l e R s m args below meth c H locs cells (4096 * cells) Q (F0 m pc ls (.int x2 :: .int x1 :: .ref (gq G 0) :: rest)) :=
  fin_i (n := n) (runV (As := [.int x1, .int x2]) X.1 2 (t_X9_put l G la w x1 x2 y.1 y.2 n hf _) rfl rfl hlk m_X9_put (by decide +kernel) ⟨hR.1, hR.2⟩ ⟨blindM, va_recv X.2.1 h.1 (ci := 8) (q0 := 0) rfl rfl, preM X.2 h⟩ rfl hsz hrest hd hk) h hA (fun la H locs h => by rw [← Nat.mul_add]; exact k la H locs h)
def f_X9_takeFrom_b67 (k28 : (Int32 → Int32 → Int32 → Int32 → CW → Option ((Int32 × CW) × Nat))) (x1 : Int32) (x2 : Int32) (x3 : Int32) (x4 : Int32) (w : CW) : Option ((Int32 × CW) × Nat) :=
 k28 x1 x2 x3 (x4 + (1 : Int32)) w
def f_X9_takeFrom_l28_body (kself : (Int32 → Int32 → Int32 → Int32 → CW → Option ((Int32 × CW) × Nat))) (x1 : Int32) (x2 : Int32) (x3 : Int32) (x4 : Int32) (w : CW) : Option ((Int32 × CW) × Nat) :=
 if x3 ≤ x4 then
 (bnc (f_X9_write x1 ((9 : Int32)) x3 w) fun y2 =>
 (f_X9_loadCell x2 ((3 : Int32))).bind fun y3 =>
 bnc (f_X1_set y3 ((-2 : Int32)) y2) fun y4 =>
 some ((x1, y4), 0))
 else
 ((f_X9_read x1 (((19 : Int32)) + x4) w).bind fun y5 =>
 if y5 = x2 then
 ((f_X9_read x1 (((19 : Int32)) + x3) w).bind fun y7 =>
 bnc (f_X9_write x1 (((19 : Int32)) + x4) y7 w) fun y8 =>
 f_X9_takeFrom_b67 kself x1 x2 x3 x4 y8)
 else
 (f_X9_takeFrom_b67 kself x1 x2 x3 x4 w))
def f_X9_takeFrom_l28 : Nat → Int32 → Int32 → Int32 → Int32 → CW → Option ((Int32 × CW) × Nat)
  | 0, _, _, _, _, _ => none
  | n + 1, x1, x2, x3, x4, w => f_X9_takeFrom_l28_body (f_X9_takeFrom_l28 n) x1 x2 x3 x4 w
def f_X9_takeFrom (x1 : Int32) (x2 : Int32) (w : CW) : Option ((Int32 × CW) × Nat) :=
 (f_X9_hasRun x1 w).bind fun y9 =>
 if y9 = 0 then
 ((f_X9_read x1 ((9 : Int32)) w).bind fun y11 =>
 f_X9_takeFrom_l28 FU x1 x2 (y11 - ((1 : Int32))) ((0 : Int32)) w)
 else
 ((f_X9_found ((7 : Int32)) w).bind fun y12 =>
 some ((y12.1, y12.2), 0))
set_option maxHeartbeats 4000000 in
set_option maxRecDepth 100000 in
theorem t_X9_takeFrom (l : Launch) (G : Gm) (la0 : Nat) (w0 : CW) (x1 : Int32) (x2 : Int32) (r : Int32) (w' : CW) (N : Nat) (hf : f_X9_takeFrom x1 x2 w0 = some ((r, w'), N)) : MetI l yX9_takeFrom cX9_takeFrom 5 (some .int) 5 136 G (cw G la0 w0) [.ref (gq G 0), .int x1, .int x2] r (fun u => cw G u w') N := by
  intro sz
  refine ent (own := RX9) (As := [.ref (gq G 0), .int x1, .int x2]) (by decide +kernel) rfl (Nat.le_of_ble_eq_true rfl) (fun _ _ h => h.1) ?_
  intro p e s m args below meth c ls B hr hlocks hv hl
  obtain ⟨-, hsz, hP, hKK, hD⟩ := hv
  subst hsz
  have X : CX RX9 cX9_takeFrom 5 G p s m args c := ⟨B, hKK⟩
  obtain ⟨hx, hb, hml, hown, hts⟩ := id B
  have hA : ∀ q : Nat, s.heap.size ≤ q → va_A (cw G la0 w0) s.heap.size q := fun q z => Or.inr z
  have h : CH G (cw G la0 w0) (va_A (cw G la0 w0) s.heap.size) s.heap s.heap [] := ⟨hP, hD.self, va_S.rf⟩
  have hc : 0 + N = N := Nat.zero_add N
  have L28 : ∀ (n28 : Nat) (x1 : Int32) (x2 : Int32) (x3 : Int32) (x4 : Int32) (w : CW) (la : Nat) (H : Heap) (locs : List Loc) (ls : Array Slot) (k n : Nat), f_X9_takeFrom_l28 n28 x1 x2 x3 x4 w = some ((r, w'), n) → CH G (cw G la w) (va_A (cw G la0 w0) s.heap.size) s.heap H locs → lv_has ls 5 [(0, .ref (gq G 0)), (1, .int x1), (2, .int x2), (3, .int x3), (4, .int x4)] → k + n = N → W p l e { frames := 5, cells := N, slots := 4096 * N, locals := 136 } s m args below meth c H locs k (4096 * k) (MQ below (QI G (cw G la0 w0) s.heap.size r (fun u => cw G u w')) args s N (4096 * N) (va_A (cw G la0 w0) s.heap.size)) (F0 m 28 ls []) := by
    intro n28
    induction n28 with
    | zero =>
      intro x1 x2 x3 x4 w la H locs ls k n hf h hl hc
      cases (show (none : Option ((Int32 × CW) × Nat)) = some _ from hf)
    | succ n28 ih28 =>
      have J67 : ∀ (x1 : Int32) (x2 : Int32) (x3 : Int32) (x4 : Int32) (w : CW) (la : Nat) (H : Heap) (locs : List Loc) (ls : Array Slot) (k n : Nat), f_X9_takeFrom_b67 (f_X9_takeFrom_l28 n28) x1 x2 x3 x4 w = some ((r, w'), n) → CH G (cw G la w) (va_A (cw G la0 w0) s.heap.size) s.heap H locs → lv_has ls 5 [(0, .ref (gq G 0)), (1, .int x1), (2, .int x2), (3, .int x3), (4, .int x4)] → k + n = N → W p l e { frames := 5, cells := N, slots := 4096 * N, locals := 136 } s m args below meth c H locs k (4096 * k) (MQ below (QI G (cw G la0 w0) s.heap.size r (fun u => cw G u w')) args s N (4096 * N) (va_A (cw G la0 w0) s.heap.size)) (F0 m 67 ls []) := by
        intro x1 x2 x3 x4 w la H locs ls k n hf h hl hc
        unfold f_X9_takeFrom_b67 at hf
        refine lv_iinc (v := x4 + (1 : Int32)) (lv' := [(4, .int (x4 + (1 : Int32))), (0, .ref (gq G 0)), (1, .int x1), (2, .int x2), (3, .int x3)]) hx hb dX9_takeFrom_67 hl (k := 4) rfl (by rfl) (by decide) rfl (fun ls hl => ?_)
        refine lv_goto (tgt := 28) hx hb dX9_takeFrom_70 (by decide) ?_
        exact ih28 _ _ _ _ _ _ _ _ _ _ _ hf h (lv_sub hl [1, 2, 3, 4, 0] rfl) hc
      intro x1 x2 x3 x4 w la H locs ls k n hf h hl hc
      have hf : f_X9_takeFrom_l28_body (f_X9_takeFrom_l28 n28) x1 x2 x3 x4 w = _ := hf
      unfold f_X9_takeFrom_l28_body at hf
      refine lv_iload hx hb dX9_takeFrom_28 (lv_at hl 4 rfl) ?_
      refine lv_iload_n hx hb dX9_takeFrom_30 rfl (lv_at hl 3 rfl) ?_
      refine lv_icmp_ge (tgt := 73) hx hb dX9_takeFrom_31 (by decide) (fun c1 => ?_) (fun c1 => ?_)
      · have hf := if_t c1 hf
        refine lv_aload_n hx hb dX9_takeFrom_73 rfl (lv_at hl 0 rfl) ?_
        refine lv_iload_n hx hb dX9_takeFrom_74 rfl (lv_at hl 1 rfl) ?_
        refine lv_bipush (v := 9) hx hb dX9_takeFrom_75 (by decide) ?_
        refine lv_iload_n hx hb dX9_takeFrom_77 rfl (lv_at hl 3 rfl) ?_
        obtain ⟨y2, ny2, my2, ey2, hf, jy2⟩ := bnc_some hf
        refine k_X9_write X h hA ey2 k_X9_99 dX9_takeFrom_78 hl.1 ⟨(Nat.le_of_ble_eq_true rfl), (Nat.le_of_ble_eq_true rfl)⟩ (Nat.le_of_ble_eq_true rfl) (rmm1 hc jy2) (fun la H locs h => ?_)
        have hc := rmm2 hc jy2
        refine lv_aload_n hx hb dX9_takeFrom_81 rfl (lv_at hl 0 rfl) ?_
        refine GC_0_0 X h k_X9_12 dX9_takeFrom_82 ?_
        refine lv_iload_n hx hb dX9_takeFrom_85 rfl (lv_at hl 2 rfl) ?_
        refine lv_iconst (v := 3) hx hb dX9_takeFrom_86 (by decide) ?_
        obtain ⟨y3, ey3, hf⟩ := bnd_some hf
        refine k_X9_loadCell X.1 ey3 k_X9_221 dX9_takeFrom_87 hl.1 ⟨(Nat.le_of_ble_eq_true rfl), (Nat.le_of_ble_eq_true rfl)⟩ (Nat.le_of_ble_eq_true rfl) (rmm0 hc) ?_
        refine lv_bipush (v := (-2)) hx hb dX9_takeFrom_90 (by decide) ?_
        obtain ⟨y4, ny4, my4, ey4, hf, jy4⟩ := bnc_some hf
        refine k_X1_set X h hA ey4 k_X9_84 dX9_takeFrom_92 hl.1 ⟨(Nat.le_of_ble_eq_true rfl), (Nat.le_of_ble_eq_true rfl)⟩ (Nat.le_of_ble_eq_true rfl) (rmm1 hc jy4) (fun la H locs h => ?_)
        have hc := rmm2 hc jy4
        refine lv_iload_n hx hb dX9_takeFrom_95 rfl (lv_at hl 1 rfl) ?_
        exact e1_i X.1 hr hlocks hf h hc dX9_takeFrom_96
      · have hf := if_f c1 hf
        refine lv_aload_n hx hb dX9_takeFrom_34 rfl (lv_at hl 0 rfl) ?_
        refine lv_iload_n hx hb dX9_takeFrom_35 rfl (lv_at hl 1 rfl) ?_
        refine lv_bipush (v := 19) hx hb dX9_takeFrom_36 (by decide) ?_
        refine lv_iload hx hb dX9_takeFrom_38 (lv_at hl 4 rfl) ?_
        refine lv_iadd hx hb dX9_takeFrom_40 ?_
        obtain ⟨y5, ey5, hf⟩ := bnd_some hf
        refine k_X9_read X h ey5 k_X9_110 dX9_takeFrom_41 hl.1 ⟨(Nat.le_of_ble_eq_true rfl), (Nat.le_of_ble_eq_true rfl)⟩ (Nat.le_of_ble_eq_true rfl) (rmm0 hc) ?_
        refine lv_iload_n hx hb dX9_takeFrom_44 rfl (lv_at hl 2 rfl) ?_
        refine lv_icmp_ne (tgt := 67) hx hb dX9_takeFrom_45 (by decide) (fun c6 => ?_) (fun c6 => ?_)
        · have hf := if_f c6 hf
          exact J67 _ _ _ _ _ _ _ _ _ _ _ hf h (lv_sub hl [0, 1, 2, 3, 4] rfl) hc
        · have hf := if_t c6 hf
          refine lv_aload_n hx hb dX9_takeFrom_48 rfl (lv_at hl 0 rfl) ?_
          refine lv_iload_n hx hb dX9_takeFrom_49 rfl (lv_at hl 1 rfl) ?_
          refine lv_bipush (v := 19) hx hb dX9_takeFrom_50 (by decide) ?_
          refine lv_iload hx hb dX9_takeFrom_52 (lv_at hl 4 rfl) ?_
          refine lv_iadd hx hb dX9_takeFrom_54 ?_
          refine lv_aload_n hx hb dX9_takeFrom_55 rfl (lv_at hl 0 rfl) ?_
          refine lv_iload_n hx hb dX9_takeFrom_56 rfl (lv_at hl 1 rfl) ?_
          refine lv_bipush (v := 19) hx hb dX9_takeFrom_57 (by decide) ?_
          refine lv_iload_n hx hb dX9_takeFrom_59 rfl (lv_at hl 3 rfl) ?_
          refine lv_iadd hx hb dX9_takeFrom_60 ?_
          obtain ⟨y7, ey7, hf⟩ := bnd_some hf
          refine k_X9_read X h ey7 k_X9_110 dX9_takeFrom_61 hl.1 ⟨(Nat.le_of_ble_eq_true rfl), (Nat.le_of_ble_eq_true rfl)⟩ (Nat.le_of_ble_eq_true rfl) (rmm0 hc) ?_
          obtain ⟨y8, ny8, my8, ey8, hf, jy8⟩ := bnc_some hf
          refine k_X9_write X h hA ey8 k_X9_99 dX9_takeFrom_64 hl.1 ⟨(Nat.le_of_ble_eq_true rfl), (Nat.le_of_ble_eq_true rfl)⟩ (Nat.le_of_ble_eq_true rfl) (rmm1 hc jy8) (fun la H locs h => ?_)
          have hc := rmm2 hc jy8
          exact J67 _ _ _ _ _ _ _ _ _ _ _ hf h (lv_sub hl [0, 1, 2, 3, 4] rfl) hc
  obtain ⟨la, rfl⟩ : ∃ z, z = la0 := ⟨_, rfl⟩
  obtain ⟨w, rfl⟩ : ∃ z, z = w0 := ⟨_, rfl⟩
  have hl : lv_has ls 5 [(0, .ref (gq G 0)), (1, .int x1), (2, .int x2)] := hl
  unfold f_X9_takeFrom at hf
  refine wid0 ?_
  refine lv_aload_n hx hb dX9_takeFrom_0 rfl (lv_at hl 0 rfl) ?_
  refine lv_iload_n hx hb dX9_takeFrom_1 rfl (lv_at hl 1 rfl) ?_
  obtain ⟨y9, ey9, hf⟩ := bnd_some hf
  refine k_X9_hasRun X h ey9 k_X9_114 dX9_takeFrom_2 hl.1 ⟨(Nat.le_of_ble_eq_true rfl), (Nat.le_of_ble_eq_true rfl)⟩ (Nat.le_of_ble_eq_true rfl) (rmm0 hc) ?_
  refine lv_if_eq (tgt := 15) hx hb dX9_takeFrom_5 (by decide) (fun c10 => ?_) (fun c10 => ?_)
  · have hf := if_t c10 hf
    refine lv_aload_n hx hb dX9_takeFrom_15 rfl (lv_at hl 0 rfl) ?_
    refine lv_iload_n hx hb dX9_takeFrom_16 rfl (lv_at hl 1 rfl) ?_
    refine lv_bipush (v := 9) hx hb dX9_takeFrom_17 (by decide) ?_
    obtain ⟨y11, ey11, hf⟩ := bnd_some hf
    refine k_X9_read X h ey11 k_X9_110 dX9_takeFrom_19 hl.1 ⟨(Nat.le_of_ble_eq_true rfl), (Nat.le_of_ble_eq_true rfl)⟩ (Nat.le_of_ble_eq_true rfl) (rmm0 hc) ?_
    refine lv_iconst (v := 1) hx hb dX9_takeFrom_22 (by decide) ?_
    refine lv_isub hx hb dX9_takeFrom_23 ?_
    refine lv_istore_n (lv' := [(3, .int (y11 - ((1 : Int32)))), (0, .ref (gq G 0)), (1, .int x1), (2, .int x2)]) hx hb dX9_takeFrom_24 rfl hl (by decide) rfl (fun ls hl => ?_)
    refine lv_iconst (v := 0) hx hb dX9_takeFrom_25 (by decide) ?_
    refine lv_istore (lv' := [(4, .int ((0 : Int32))), (3, .int (y11 - ((1 : Int32)))), (0, .ref (gq G 0)), (1, .int x1), (2, .int x2)]) hx hb dX9_takeFrom_26 hl (by decide) rfl (fun ls hl => ?_)
    exact L28 FU _ _ _ _ _ _ _ _ _ _ _ hf h (lv_sub hl [2, 3, 4, 1, 0] rfl) hc
  · have hf := if_f c10 hf
    refine lv_aload_n hx hb dX9_takeFrom_8 rfl (lv_at hl 0 rfl) ?_
    refine lv_bipush (v := 7) hx hb dX9_takeFrom_9 (by decide) ?_
    obtain ⟨y12, ey12, hf⟩ := bnd_some hf
    refine k_X9_found X h hA ey12 k_X9_103 dX9_takeFrom_11 hl.1 ⟨(Nat.le_of_ble_eq_true rfl), (Nat.le_of_ble_eq_true rfl)⟩ (Nat.le_of_ble_eq_true rfl) (rmm0 hc) (fun H locs h => ?_)
    exact e1_i X.1 hr hlocks hf h hc dX9_takeFrom_14
theorem m_X9_takeFrom : Cond.instanceMethod yX9_takeFrom ∈ lw_good ∧ Cond.selects RX9 yX9_takeFrom yX9_takeFrom ∈ lw_good ∧ Cond.initialized RX9 ∈ lw_good ∧ Cond.code yX9_takeFrom cX9_takeFrom 5 (some .int) ∈ lw_good := by decide +kernel
theorem k_X9_takeFrom {p : Program} {l : Launch} {e : Env} {R : Room} {s : State} {m : MethodId} {args : Array Value} {below : List Frame} {meth : Method} {c : Code} {H : Heap} {locs : List Loc} {cells : Nat} {Q : State → Prop} {cc : ByteArray} {nL pc idx : Nat} {ls : Array Slot} {rest : List Value} {own : String} {G : Gm} {A : Nat → Prop} {H0 : Heap} {la : Nat} {w : CW} {x1 : Int32} {x2 : Int32} {y : Int32 × CW} {n : Nat} (X : CX own cc nL G p s m args c) (h : CH G (cw G la w) A H0 H locs) (hA : ∀ q, H0.size ≤ q → A q) (hf : f_X9_takeFrom x1 x2 w = some (y, n)) (hlk : Cond.methodLink own idx yX9_takeFrom ∈ lw_good) (hd : decode cc pc = .ok (.invokevirtual idx, 3)) (hsz : ls.size = nL) (hR : 6 ≤ R.frames ∧ 160 ≤ R.locals) (hrest : (rest.map fun v => v.category).sum ≤ 8) (hk : cells + n ≤ R.cells ∧ 4096 * cells + 4096 * n ≤ R.slots) (k : ∀ (la : Nat) (H : Heap) (locs : List Loc), CH G (cw G la y.2) A H0 H locs → W p l e R s m args below meth c H locs (cells + n) (4096 * (cells + n)) Q (F0 m (pc + 3) ls (.int y.1 :: rest))) : W p l e R s m args below meth c H locs cells (4096 * cells) Q (F0 m pc ls (.int x2 :: .int x1 :: .ref (gq G 0) :: rest)) :=
  fin_i (n := n) (runV (As := [.int x1, .int x2]) X.1 2 (t_X9_takeFrom l G la w x1 x2 y.1 y.2 n hf _) rfl rfl hlk m_X9_takeFrom (by decide +kernel) ⟨hR.1, hR.2⟩ ⟨blindM, va_recv X.2.1 h.1 (ci := 8) (q0 := 0) rfl rfl, preM X.2 h⟩ rfl hsz hrest hd hk) h hA (fun la H locs h => by rw [← Nat.mul_add]; exact k la H locs h)
def f_X9_fetch (x1 : Int32) (w : CW) : Option ((Int32 × CW) × Nat) :=
 (f_X9_isLoad x1 w).bind fun y1 =>
 if y1 = 0 then
 (some (((-1 : Int32), w), 0))
 else
 ((f_X9_loadCell x1 ((3 : Int32))).bind fun y3 =>
 (f_X1_get y3 w).bind fun y4 =>
 (f_X9_isPlace y4).bind fun y5 =>
 if y5 = 0 then
 ((f_X9_found ((2 : Int32)) w).bind fun y10 =>
 some ((y10.1, y10.2), 0))
 else
 ((f_X9_enter y4 w).bind fun y7 =>
 bnc (f_X9_takeFrom y4 x1 y7) fun y8 =>
 (f_X9_leave y4 y8.2).bind fun y9 =>
 some ((y8.1, y9), 0)))
set_option maxHeartbeats 4000000 in
set_option maxRecDepth 100000 in
theorem t_X9_fetch (l : Launch) (G : Gm) (la0 : Nat) (w0 : CW) (x1 : Int32) (r : Int32) (w' : CW) (N : Nat) (hf : f_X9_fetch x1 w0 = some ((r, w'), N)) : MetI l yX9_fetch cX9_fetch 4 (some .int) 6 160 G (cw G la0 w0) [.ref (gq G 0), .int x1] r (fun u => cw G u w') N := by
  intro sz
  refine ent (own := RX9) (As := [.ref (gq G 0), .int x1]) (by decide +kernel) rfl (Nat.le_of_ble_eq_true rfl) (fun _ _ h => h.1) ?_
  intro p e s m args below meth c ls B hr hlocks hv hl
  obtain ⟨-, hsz, hP, hKK, hD⟩ := hv
  subst hsz
  have X : CX RX9 cX9_fetch 4 G p s m args c := ⟨B, hKK⟩
  obtain ⟨hx, hb, hml, hown, hts⟩ := id B
  have hA : ∀ q : Nat, s.heap.size ≤ q → va_A (cw G la0 w0) s.heap.size q := fun q z => Or.inr z
  have h : CH G (cw G la0 w0) (va_A (cw G la0 w0) s.heap.size) s.heap s.heap [] := ⟨hP, hD.self, va_S.rf⟩
  have hc : 0 + N = N := Nat.zero_add N
  obtain ⟨la, rfl⟩ : ∃ z, z = la0 := ⟨_, rfl⟩
  obtain ⟨w, rfl⟩ : ∃ z, z = w0 := ⟨_, rfl⟩
  have hl : lv_has ls 4 [(0, .ref (gq G 0)), (1, .int x1)] := hl
  unfold f_X9_fetch at hf
  refine wid0 ?_
  refine lv_aload_n hx hb dX9_fetch_0 rfl (lv_at hl 0 rfl) ?_
  refine lv_iload_n hx hb dX9_fetch_1 rfl (lv_at hl 1 rfl) ?_
  obtain ⟨y1, ey1, hf⟩ := bnd_some hf
  refine k_X9_isLoad X h ey1 k_X9_230 dX9_fetch_2 hl.1 ⟨(Nat.le_of_ble_eq_true rfl), (Nat.le_of_ble_eq_true rfl)⟩ (Nat.le_of_ble_eq_true rfl) (rmm0 hc) ?_
  refine lv_if_ne (tgt := 10) hx hb dX9_fetch_5 (by decide) (fun c2 => ?_) (fun c2 => ?_)
  · have hf := if_f c2 hf
    refine lv_aload_n hx hb dX9_fetch_10 rfl (lv_at hl 0 rfl) ?_
    refine GC_0_0 X h k_X9_12 dX9_fetch_11 ?_
    refine lv_iload_n hx hb dX9_fetch_14 rfl (lv_at hl 1 rfl) ?_
    refine lv_iconst (v := 3) hx hb dX9_fetch_15 (by decide) ?_
    obtain ⟨y3, ey3, hf⟩ := bnd_some hf
    refine k_X9_loadCell X.1 ey3 k_X9_221 dX9_fetch_16 hl.1 ⟨(Nat.le_of_ble_eq_true rfl), (Nat.le_of_ble_eq_true rfl)⟩ (Nat.le_of_ble_eq_true rfl) (rmm0 hc) ?_
    obtain ⟨y4, ey4, hf⟩ := bnd_some hf
    refine k_X1_get X h ey4 k_X9_175 dX9_fetch_19 hl.1 ⟨(Nat.le_of_ble_eq_true rfl), (Nat.le_of_ble_eq_true rfl)⟩ (Nat.le_of_ble_eq_true rfl) (rmm0 hc) ?_
    refine lv_istore_n (lv' := [(2, .int y4), (0, .ref (gq G 0)), (1, .int x1)]) hx hb dX9_fetch_22 rfl hl (by decide) rfl (fun ls hl => ?_)
    refine lv_iload_n hx hb dX9_fetch_23 rfl (lv_at hl 0 rfl) ?_
    obtain ⟨y5, ey5, hf⟩ := bnd_some hf
    refine k_X9_isPlace X.1 ey5 k_X9_88 dX9_fetch_24 hl.1 ⟨(Nat.le_of_ble_eq_true rfl), (Nat.le_of_ble_eq_true rfl)⟩ (Nat.le_of_ble_eq_true rfl) (rmm0 hc) ?_
    refine lv_if_ne (tgt := 36) hx hb dX9_fetch_27 (by decide) (fun c6 => ?_) (fun c6 => ?_)
    · have hf := if_f c6 hf
      refine lv_aload_n hx hb dX9_fetch_36 rfl (lv_at hl 1 rfl) ?_
      refine lv_iload_n hx hb dX9_fetch_37 rfl (lv_at hl 0 rfl) ?_
      obtain ⟨y7, ey7, hf⟩ := bnd_some hf
      refine k_X9_enter X h hA ey7 k_X9_196 dX9_fetch_38 hl.1 ⟨(Nat.le_of_ble_eq_true rfl), (Nat.le_of_ble_eq_true rfl)⟩ (Nat.le_of_ble_eq_true rfl) (rmm0 hc) (fun H locs h => ?_)
      refine lv_aload_n hx hb dX9_fetch_41 rfl (lv_at hl 1 rfl) ?_
      refine lv_iload_n hx hb dX9_fetch_42 rfl (lv_at hl 0 rfl) ?_
      refine lv_iload_n hx hb dX9_fetch_43 rfl (lv_at hl 2 rfl) ?_
      obtain ⟨y8, ny8, my8, ey8, hf, jy8⟩ := bnc_some hf
      refine k_X9_takeFrom X h hA ey8 k_X9_245 dX9_fetch_44 hl.1 ⟨(Nat.le_of_ble_eq_true rfl), (Nat.le_of_ble_eq_true rfl)⟩ (Nat.le_of_ble_eq_true rfl) (rmm1 hc jy8) (fun la H locs h => ?_)
      have hc := rmm2 hc jy8
      refine lv_istore_n (lv' := [(3, .int y8.1), (2, .int y4), (0, .ref (gq G 0)), (1, .int x1)]) hx hb dX9_fetch_47 rfl hl (by decide) rfl (fun ls hl => ?_)
      refine lv_aload_n hx hb dX9_fetch_48 rfl (lv_at hl 2 rfl) ?_
      refine lv_iload_n hx hb dX9_fetch_49 rfl (lv_at hl 1 rfl) ?_
      obtain ⟨y9, ey9, hf⟩ := bnd_some hf
      refine k_X9_leave X h hA ey9 k_X9_203 dX9_fetch_50 hl.1 ⟨(Nat.le_of_ble_eq_true rfl), (Nat.le_of_ble_eq_true rfl)⟩ (Nat.le_of_ble_eq_true rfl) (rmm0 hc) (fun H locs h => ?_)
      refine lv_iload_n hx hb dX9_fetch_53 rfl (lv_at hl 0 rfl) ?_
      exact e1_i X.1 hr hlocks hf h hc dX9_fetch_54
    · have hf := if_t c6 hf
      refine lv_aload_n hx hb dX9_fetch_30 rfl (lv_at hl 1 rfl) ?_
      refine lv_iconst (v := 2) hx hb dX9_fetch_31 (by decide) ?_
      obtain ⟨y10, ey10, hf⟩ := bnd_some hf
      refine k_X9_found X h hA ey10 k_X9_103 dX9_fetch_32 hl.1 ⟨(Nat.le_of_ble_eq_true rfl), (Nat.le_of_ble_eq_true rfl)⟩ (Nat.le_of_ble_eq_true rfl) (rmm0 hc) (fun H locs h => ?_)
      exact e1_i X.1 hr hlocks hf h hc dX9_fetch_35
  · have hf := if_t c2 hf
    refine lv_iconst (v := (-1)) hx hb dX9_fetch_8 (by decide) ?_
    exact e1_i X.1 hr hlocks hf h hc dX9_fetch_9
theorem m_X9_fetch : Cond.instanceMethod yX9_fetch ∈ lw_good ∧ Cond.selects RX9 yX9_fetch yX9_fetch ∈ lw_good ∧ Cond.initialized RX9 ∈ lw_good ∧ Cond.code yX9_fetch cX9_fetch 4 (some .int) ∈ lw_good := by decide +kernel
theorem k_X9_fetch {p : Program} {l : Launch} {e : Env} {R : Room} {s : State} {m : MethodId} {args : Array Value} {below : List Frame} {meth : Method} {c : Code} {H : Heap} {locs : List Loc} {cells : Nat} {Q : State → Prop} {cc : ByteArray} {nL pc idx : Nat} {ls : Array Slot} {rest : List Value} {own : String} {G : Gm} {A : Nat → Prop} {H0 : Heap} {la : Nat} {w : CW} {x1 : Int32} {y : Int32 × CW} {n : Nat} (X : CX own cc nL G p s m args c) (h : CH G (cw G la w) A H0 H locs) (hA : ∀ q, H0.size ≤ q → A q) (hf : f_X9_fetch x1 w = some (y, n)) (hlk : Cond.methodLink own idx yX9_fetch ∈ lw_good) (hd : decode cc pc = .ok (.invokevirtual idx, 3)) (hsz : ls.size = nL) (hR : 7 ≤ R.frames ∧ 183 ≤ R.locals) (hrest : (rest.map fun v => v.category).sum ≤ 8) (hk : cells + n ≤ R.cells ∧ 4096 * cells + 4096 * n ≤ R.slots) (k : ∀ (la : Nat) (H : Heap) (locs : List Loc), CH G (cw G la y.2) A H0 H locs → W p l e R s m args below meth c H locs (cells + n) (4096 * (cells + n)) Q (F0 m (pc + 3) ls (.int y.1 :: rest))) : W p l e R s m args below meth c H locs cells (4096 * cells) Q (F0 m pc ls (.int x1 :: .ref (gq G 0) :: rest)) :=
  fin_i (n := n) (runV (As := [.int x1]) X.1 1 (t_X9_fetch l G la w x1 y.1 y.2 n hf _) rfl rfl hlk m_X9_fetch (by decide +kernel) ⟨hR.1, hR.2⟩ ⟨blindM, va_recv X.2.1 h.1 (ci := 8) (q0 := 0) rfl rfl, preM X.2 h⟩ rfl hsz hrest hd hk) h hA (fun la H locs h => by rw [← Nat.mul_add]; exact k la H locs h)
def f_X9_about (x1 : Int32) (x2 : Int32) (w : CW) : Option Int32 :=
 (f_X9_isLoad x1 w).bind fun y1 =>
 if y1 = 0 then
 (some ((-1 : Int32)))
 else
 ((f_X9_within x2 ((0 : Int32)) ((4 : Int32))).bind fun y3 =>
 if y3 = 0 then
 (some ((-2 : Int32)))
 else
 ((f_X9_loadCell x1 x2).bind fun y5 =>
 (f_X1_get y5 w).bind fun y6 =>
 some y6))
set_option maxHeartbeats 4000000 in
set_option maxRecDepth 100000 in
theorem t_X9_about (l : Launch) (G : Gm) (la : Nat) (w : CW) (x1 : Int32) (x2 : Int32) (r : Int32) (hf : f_X9_about x1 x2 w = some r) : MetR l yX9_about cX9_about 3 (some .int) 2 43 G (cw G la w) [.ref (gq G 0), .int x1, .int x2] (.int r) := by
  refine ent (own := RX9) (As := [.ref (gq G 0), .int x1, .int x2]) (by decide +kernel) rfl (Nat.le_of_ble_eq_true rfl) (fun _ _ h => h.1) ?_
  intro p e s m args below meth c ls B hr hlocks hv hl
  obtain ⟨-, hP, hKK, hD⟩ := hv
  have X : CX RX9 cX9_about 3 G p s m args c := ⟨B, hKK⟩
  obtain ⟨hx, hb, hml, hown, hts⟩ := id B
  have h : CH G (cw G la w) (fun _ => True) s.heap s.heap [] := ⟨hP, hD, va_S.rf⟩
  have hl : lv_has ls 3 [(0, .ref (gq G 0)), (1, .int x1), (2, .int x2)] := hl
  unfold f_X9_about at hf
  refine lv_aload_n hx hb dX9_about_0 rfl (lv_at hl 0 rfl) ?_
  refine lv_iload_n hx hb dX9_about_1 rfl (lv_at hl 1 rfl) ?_
  obtain ⟨y1, ey1, hf⟩ := bnd_some hf
  refine k_X9_isLoad X h ey1 k_X9_230 dX9_about_2 hl.1 ⟨(Nat.le_of_ble_eq_true rfl), (Nat.le_of_ble_eq_true rfl)⟩ (Nat.le_of_ble_eq_true rfl) ⟨Nat.zero_le _, Nat.zero_le _⟩ ?_
  refine lv_if_ne (tgt := 10) hx hb dX9_about_5 (by decide) (fun c2 => ?_) (fun c2 => ?_)
  · have hf := if_f c2 hf
    refine lv_iload_n hx hb dX9_about_10 rfl (lv_at hl 2 rfl) ?_
    refine lv_iconst (v := 0) hx hb dX9_about_11 (by decide) ?_
    refine lv_iconst (v := 4) hx hb dX9_about_12 (by decide) ?_
    obtain ⟨y3, ey3, hf⟩ := bnd_some hf
    refine k_X9_within X.1 ey3 k_X9_92 dX9_about_13 hl.1 ⟨(Nat.le_of_ble_eq_true rfl), (Nat.le_of_ble_eq_true rfl)⟩ (Nat.le_of_ble_eq_true rfl) ⟨Nat.zero_le _, Nat.zero_le _⟩ ?_
    refine lv_if_ne (tgt := 22) hx hb dX9_about_16 (by decide) (fun c4 => ?_) (fun c4 => ?_)
    · have hf := if_f c4 hf
      refine lv_aload_n hx hb dX9_about_22 rfl (lv_at hl 0 rfl) ?_
      refine GC_0_0 X h k_X9_12 dX9_about_23 ?_
      refine lv_iload_n hx hb dX9_about_26 rfl (lv_at hl 1 rfl) ?_
      refine lv_iload_n hx hb dX9_about_27 rfl (lv_at hl 2 rfl) ?_
      obtain ⟨y5, ey5, hf⟩ := bnd_some hf
      refine k_X9_loadCell X.1 ey5 k_X9_221 dX9_about_28 hl.1 ⟨(Nat.le_of_ble_eq_true rfl), (Nat.le_of_ble_eq_true rfl)⟩ (Nat.le_of_ble_eq_true rfl) ⟨Nat.zero_le _, Nat.zero_le _⟩ ?_
      obtain ⟨y6, ey6, hf⟩ := bnd_some hf
      refine k_X1_get X h ey6 k_X9_175 dX9_about_31 hl.1 ⟨(Nat.le_of_ble_eq_true rfl), (Nat.le_of_ble_eq_true rfl)⟩ (Nat.le_of_ble_eq_true rfl) ⟨Nat.zero_le _, Nat.zero_le _⟩ ?_
      cases hf
      exact rr_i X.1 hr hlocks dX9_about_34
    · have hf := if_t c4 hf
      refine lv_bipush (v := (-2)) hx hb dX9_about_19 (by decide) ?_
      cases hf
      exact rr_i X.1 hr hlocks dX9_about_21
  · have hf := if_t c2 hf
    refine lv_iconst (v := (-1)) hx hb dX9_about_8 (by decide) ?_
    cases hf
    exact rr_i X.1 hr hlocks dX9_about_9
theorem m_X9_about : Cond.instanceMethod yX9_about ∈ lw_good ∧ Cond.selects RX9 yX9_about yX9_about ∈ lw_good ∧ Cond.initialized RX9 ∈ lw_good ∧ Cond.code yX9_about cX9_about 3 (some .int) ∈ lw_good := by decide +kernel
theorem k_X9_about {p : Program} {l : Launch} {e : Env} {R : Room} {s : State} {m : MethodId} {args : Array Value} {below : List Frame} {meth : Method} {c : Code} {H : Heap} {locs : List Loc} {cells slots : Nat} {Q : State → Prop} {cc : ByteArray} {nL pc idx : Nat} {ls : Array Slot} {rest : List Value} {own : String} {G : Gm} {A : Nat → Prop} {H0 : Heap} {la : Nat} {w : CW} {x1 : Int32} {x2 : Int32} {r : Int32} (X : CX own cc nL G p s m args c) (h : CH G (cw G la w) A H0 H locs) (hf : f_X9_about x1 x2 w = some r) (hlk : Cond.methodLink own idx yX9_about ∈ lw_good) (hd : decode cc pc = .ok (.invokevirtual idx, 3)) (hsz : ls.size = nL) (hR : 3 ≤ R.frames ∧ 65 ≤ R.locals) (hrest : (rest.map fun v => v.category).sum ≤ 8) (hk : cells ≤ R.cells ∧ slots ≤ R.slots) (k : W p l e R s m args below meth c H locs cells slots Q (F0 m (pc + 3) ls (.int r :: rest))) : W p l e R s m args below meth c H locs cells slots Q (F0 m pc ls (.int x2 :: .int x1 :: .ref (gq G 0) :: rest)) :=
  fin_r (runV (As := [.int x1, .int x2]) X.1 2 (t_X9_about l G la w x1 x2 r hf) rfl rfl hlk m_X9_about (by decide +kernel) ⟨hR.1, hR.2⟩ ⟨blindR, va_recv X.2.1 h.1 (ci := 8) (q0 := 0) rfl rfl, preR X.2 h⟩ rfl hsz hrest hd hk) k
def f_X9_shareOf_b153 (k79 : (Int32 → Int32 → Int64 → Int64 → Int64 → Int32 → Int32 → CW → Option Int32)) (x1 : Int32) (x2 : Int32) (x3 : Int64) (x5 : Int64) (x7 : Int64) (x9 : Int32) (x10 : Int32) (w : CW) : Option Int32 :=
 k79 x1 x2 x3 x5 x7 x9 (x10 + (1 : Int32)) w
def f_X9_shareOf_b150 (k79 : (Int32 → Int32 → Int64 → Int64 → Int64 → Int32 → Int32 → CW → Option Int32)) (x1 : Int32) (x2 : Int32) (x3 : Int64) (x5 : Int64) (x7 : Int64) (x9 : Int32) (x10 : Int32) (w : CW) : Option Int32 :=
 f_X9_shareOf_b153 k79 x1 x2 x3 x5 x7 (x9 + (1 : Int32)) x10 w
def f_X9_shareOf_b131 (k79 : (Int32 → Int32 → Int64 → Int64 → Int64 → Int32 → Int32 → CW → Option Int32)) (x1 : Int32) (x2 : Int32) (x3 : Int64) (x5 : Int64) (x7 : Int64) (x9 : Int32) (x10 : Int32) (x11 : Int64) (xs0 : Int32) (w : CW) : Option Int32 :=
 chk (¬ x3 = 0) (
 chk (¬ x3 = 0) (
 if 0 < (lg_cmp (x11 - x11 / x3 * x3) (x5 - x5 / x3 * x3)) then
 (f_X9_shareOf_b150 k79 x1 x2 x3 x5 x7 x9 x10 w)
 else
 (if xs0 = 0 then
 (f_X9_shareOf_b153 k79 x1 x2 x3 x5 x7 x9 x10 w)
 else
 (f_X9_shareOf_b150 k79 x1 x2 x3 x5 x7 x9 x10 w))))
def f_X9_shareOf_b130 (k79 : (Int32 → Int32 → Int64 → Int64 → Int64 → Int32 → Int32 → CW → Option Int32)) (x1 : Int32) (x2 : Int32) (x3 : Int64) (x5 : Int64) (x7 : Int64) (x9 : Int32) (x10 : Int32) (x11 : Int64) (w : CW) : Option Int32 :=
 f_X9_shareOf_b131 k79 x1 x2 x3 x5 x7 x9 x10 x11 ((0 : Int32)) w
def f_X9_shareOf_l79_body (kself : (Int32 → Int32 → Int64 → Int64 → Int64 → Int32 → Int32 → CW → Option Int32)) (x1 : Int32) (x2 : Int32) (x3 : Int64) (x5 : Int64) (x7 : Int64) (x9 : Int32) (x10 : Int32) (w : CW) : Option Int32 :=
 if ((60 : Int32)) ≤ x10 then
 (chk (¬ x3 = 0) (
 if 0 ≤ (lg_cmp x9.toInt64 x7) then
 (some (((x5 / x3).toInt32) + ((0 : Int32))))
 else
 (some (((x5 / x3).toInt32) + ((1 : Int32))))))
 else
 (chk (inb x10 60) (
 chk (¬ x3 = 0) (
 (some (x7 - ((x1.toInt64 * ((w.1 8 x10.toNatClampNeg).toInt64)) / x3))).bind fun z10 =>
 if x2 ≤ x10 then
 (f_X9_shareOf_b130 kself x1 x2 x3 x5 z10 x9 x10 (x1.toInt64 * ((w.1 8 x10.toNatClampNeg).toInt64)) w)
 else
 (chk (¬ x3 = 0) (
 chk (¬ x3 = 0) (
 if (lg_cmp ((x1.toInt64 * ((w.1 8 x10.toNatClampNeg).toInt64)) - (x1.toInt64 * ((w.1 8 x10.toNatClampNeg).toInt64)) / x3 * x3) (x5 - x5 / x3 * x3)) = 0 then
 (f_X9_shareOf_b131 kself x1 x2 x3 x5 z10 x9 x10 (x1.toInt64 * ((w.1 8 x10.toNatClampNeg).toInt64)) ((1 : Int32)) w)
 else
 (f_X9_shareOf_b130 kself x1 x2 x3 x5 z10 x9 x10 (x1.toInt64 * ((w.1 8 x10.toNatClampNeg).toInt64)) w)))))))
def f_X9_shareOf_l79 : Nat → Int32 → Int32 → Int64 → Int64 → Int64 → Int32 → Int32 → CW → Option Int32
  | 0, _, _, _, _, _, _, _, _ => none
  | n + 1, x1, x2, x3, x5, x7, x9, x10, w => f_X9_shareOf_l79_body (f_X9_shareOf_l79 n) x1 x2 x3 x5 x7 x9 x10 w
def f_X9_shareOf_l16_body (kself : (Int32 → Int32 → Int64 → Int32 → Int32 → CW → Option Int32)) (x1 : Int32) (x2 : Int32) (x3 : Int64) (x6 : Int32) (x7 : Int32) (w : CW) : Option Int32 :=
 if x6 ≤ x7 then
 (if (lg_cmp x3 ((0 : Int64))) ≤ 0 then
 (some ((0 : Int32)))
 else
 ((f_X9_isPlace x2).bind fun y17 =>
 if y17 = 0 then
 (some ((0 : Int32)))
 else
 (chk (inb x2 60) (
 f_X9_shareOf_l79 FU x1 x2 x3 (x1.toInt64 * ((w.1 8 x2.toNatClampNeg).toInt64)) x1.toInt64 ((0 : Int32)) ((0 : Int32)) w))))
 else
 (chk (inb x7 60) (
 kself x1 x2 (x3 + ((w.1 8 x7.toNatClampNeg).toInt64)) x6 (x7 + (1 : Int32)) w))
def f_X9_shareOf_l16 : Nat → Int32 → Int32 → Int64 → Int32 → Int32 → CW → Option Int32
  | 0, _, _, _, _, _, _ => none
  | n + 1, x1, x2, x3, x6, x7, w => f_X9_shareOf_l16_body (f_X9_shareOf_l16 n) x1 x2 x3 x6 x7 w
def f_X9_shareOf (x1 : Int32) (x2 : Int32) (w : CW) : Option Int32 :=
 f_X9_shareOf_l16 FU x1 x2 ((0 : Int64)) (Int32.ofNat 60) ((0 : Int32)) w
set_option maxHeartbeats 4000000 in
set_option maxRecDepth 100000 in
theorem t_X9_shareOf (l : Launch) (G : Gm) (la : Nat) (w : CW) (x1 : Int32) (x2 : Int32) (r : Int32) (hf : f_X9_shareOf x1 x2 w = some r) : MetR l yX9_shareOf cX9_shareOf 14 (some .int) 2 42 G (cw G la w) [.ref (gq G 0), .int x1, .int x2] (.int r) := by
  refine ent (own := RX9) (As := [.ref (gq G 0), .int x1, .int x2]) (by decide +kernel) rfl (Nat.le_of_ble_eq_true rfl) (fun _ _ h => h.1) ?_
  intro p e s m args below meth c ls B hr hlocks hv hl
  obtain ⟨-, hP, hKK, hD⟩ := hv
  have X : CX RX9 cX9_shareOf 14 G p s m args c := ⟨B, hKK⟩
  obtain ⟨hx, hb, hml, hown, hts⟩ := id B
  have h : CH G (cw G la w) (fun _ => True) s.heap s.heap [] := ⟨hP, hD, va_S.rf⟩
  have L79 : ∀ (n79 : Nat) (x1 : Int32) (x2 : Int32) (x3 : Int64) (x5 : Int64) (x7 : Int64) (x9 : Int32) (x10 : Int32) (ls : Array Slot), f_X9_shareOf_l79 n79 x1 x2 x3 x5 x7 x9 x10 w = some r → lv_has ls 14 [(0, .ref (gq G 0)), (1, .int x1), (2, .int x2), (3, .long x3), (5, .long x5), (7, .long x7), (9, .int x9), (10, .int x10)] → W p l e { frames := 2, cells := 0, slots := 0, locals := 42 } s m args below meth c s.heap [] 0 0 (MQ below (QcV (.int r)) args s 0 0 (fun _ => False)) (F0 m 79 ls []) := by
    intro n79
    induction n79 with
    | zero =>
      intro x1 x2 x3 x5 x7 x9 x10 ls hf hl
      cases (show (none : Option Int32) = some _ from hf)
    | succ n79 ih79 =>
      have J153 : ∀ (x1 : Int32) (x2 : Int32) (x3 : Int64) (x5 : Int64) (x7 : Int64) (x9 : Int32) (x10 : Int32) (ls : Array Slot), f_X9_shareOf_b153 (f_X9_shareOf_l79 n79) x1 x2 x3 x5 x7 x9 x10 w = some r → lv_has ls 14 [(0, .ref (gq G 0)), (1, .int x1), (2, .int x2), (3, .long x3), (5, .long x5), (7, .long x7), (9, .int x9), (10, .int x10)] → W p l e { frames := 2, cells := 0, slots := 0, locals := 42 } s m args below meth c s.heap [] 0 0 (MQ below (QcV (.int r)) args s 0 0 (fun _ => False)) (F0 m 153 ls []) := by
        intro x1 x2 x3 x5 x7 x9 x10 ls hf hl
        unfold f_X9_shareOf_b153 at hf
        refine lv_iinc (v := x10 + (1 : Int32)) (lv' := [(10, .int (x10 + (1 : Int32))), (0, .ref (gq G 0)), (1, .int x1), (2, .int x2), (3, .long x3), (5, .long x5), (7, .long x7), (9, .int x9)]) hx hb dX9_shareOf_153 hl (k := 7) rfl (by rfl) (by decide) rfl (fun ls hl => ?_)
        refine lv_goto (tgt := 79) hx hb dX9_shareOf_156 (by decide) ?_
        exact ih79 _ _ _ _ _ _ _ _ hf (lv_sub hl [1, 2, 3, 4, 5, 6, 7, 0] rfl)
      have J150 : ∀ (x1 : Int32) (x2 : Int32) (x3 : Int64) (x5 : Int64) (x7 : Int64) (x9 : Int32) (x10 : Int32) (ls : Array Slot), f_X9_shareOf_b150 (f_X9_shareOf_l79 n79) x1 x2 x3 x5 x7 x9 x10 w = some r → lv_has ls 14 [(0, .ref (gq G 0)), (1, .int x1), (2, .int x2), (3, .long x3), (5, .long x5), (7, .long x7), (9, .int x9), (10, .int x10)] → W p l e { frames := 2, cells := 0, slots := 0, locals := 42 } s m args below meth c s.heap [] 0 0 (MQ below (QcV (.int r)) args s 0 0 (fun _ => False)) (F0 m 150 ls []) := by
        intro x1 x2 x3 x5 x7 x9 x10 ls hf hl
        unfold f_X9_shareOf_b150 at hf
        refine lv_iinc (v := x9 + (1 : Int32)) (lv' := [(9, .int (x9 + (1 : Int32))), (0, .ref (gq G 0)), (1, .int x1), (2, .int x2), (3, .long x3), (5, .long x5), (7, .long x7), (10, .int x10)]) hx hb dX9_shareOf_150 hl (k := 6) rfl (by rfl) (by decide) rfl (fun ls hl => ?_)
        exact J153 _ _ _ _ _ _ _ _ hf (lv_sub hl [1, 2, 3, 4, 5, 6, 0, 7] rfl)
      have J131 : ∀ (x1 : Int32) (x2 : Int32) (x3 : Int64) (x5 : Int64) (x7 : Int64) (x9 : Int32) (x10 : Int32) (x11 : Int64) (xs0 : Int32) (ls : Array Slot), f_X9_shareOf_b131 (f_X9_shareOf_l79 n79) x1 x2 x3 x5 x7 x9 x10 x11 xs0 w = some r → lv_has ls 14 [(0, .ref (gq G 0)), (1, .int x1), (2, .int x2), (3, .long x3), (5, .long x5), (7, .long x7), (9, .int x9), (10, .int x10), (11, .long x11)] → W p l e { frames := 2, cells := 0, slots := 0, locals := 42 } s m args below meth c s.heap [] 0 0 (MQ below (QcV (.int r)) args s 0 0 (fun _ => False)) (F0 m 131 ls [.int xs0]) := by
        intro x1 x2 x3 x5 x7 x9 x10 x11 xs0 ls hf hl
        unfold f_X9_shareOf_b131 at hf
        refine lv_istore (lv' := [(13, .int xs0), (0, .ref (gq G 0)), (1, .int x1), (2, .int x2), (3, .long x3), (5, .long x5), (7, .long x7), (9, .int x9), (10, .int x10), (11, .long x11)]) hx hb dX9_shareOf_131 hl (by decide) rfl (fun ls hl => ?_)
        refine lv_lload hx hb dX9_shareOf_133 (lv_at hl 9 rfl) ?_
        refine lv_lload_n hx hb dX9_shareOf_135 rfl (lv_at hl 4 rfl) ?_
        obtain ⟨c1, hf⟩ := chk_some hf
        refine lv_lrem hx hb dX9_shareOf_136 c1 ?_
        refine lv_lload hx hb dX9_shareOf_137 (lv_at hl 5 rfl) ?_
        refine lv_lload_n hx hb dX9_shareOf_139 rfl (lv_at hl 4 rfl) ?_
        obtain ⟨c2, hf⟩ := chk_some hf
        refine lv_lrem hx hb dX9_shareOf_140 c2 ?_
        refine W.lcmp hx hb dX9_shareOf_141 ?_
        refine lv_if_gt (tgt := 150) hx hb dX9_shareOf_142 (by decide) (fun c3 => ?_) (fun c3 => ?_)
        · have hf := if_t c3 hf
          exact J150 _ _ _ _ _ _ _ _ hf (lv_sub hl [1, 2, 3, 4, 5, 6, 7, 8] rfl)
        · have hf := if_f c3 hf
          refine lv_iload hx hb dX9_shareOf_145 (lv_at hl 0 rfl) ?_
          refine lv_if_eq (tgt := 153) hx hb dX9_shareOf_147 (by decide) (fun c4 => ?_) (fun c4 => ?_)
          · have hf := if_t c4 hf
            exact J153 _ _ _ _ _ _ _ _ hf (lv_sub hl [1, 2, 3, 4, 5, 6, 7, 8] rfl)
          · have hf := if_f c4 hf
            exact J150 _ _ _ _ _ _ _ _ hf (lv_sub hl [1, 2, 3, 4, 5, 6, 7, 8] rfl)
      have J130 : ∀ (x1 : Int32) (x2 : Int32) (x3 : Int64) (x5 : Int64) (x7 : Int64) (x9 : Int32) (x10 : Int32) (x11 : Int64) (ls : Array Slot), f_X9_shareOf_b130 (f_X9_shareOf_l79 n79) x1 x2 x3 x5 x7 x9 x10 x11 w = some r → lv_has ls 14 [(0, .ref (gq G 0)), (1, .int x1), (2, .int x2), (3, .long x3), (5, .long x5), (7, .long x7), (9, .int x9), (10, .int x10), (11, .long x11)] → W p l e { frames := 2, cells := 0, slots := 0, locals := 42 } s m args below meth c s.heap [] 0 0 (MQ below (QcV (.int r)) args s 0 0 (fun _ => False)) (F0 m 130 ls []) := by
        intro x1 x2 x3 x5 x7 x9 x10 x11 ls hf hl
        unfold f_X9_shareOf_b130 at hf
        refine lv_iconst (v := 0) hx hb dX9_shareOf_130 (by decide) ?_
        exact J131 _ _ _ _ _ _ _ _ _ _ hf (lv_sub hl [0, 1, 2, 3, 4, 5, 6, 7, 8] rfl)
      intro x1 x2 x3 x5 x7 x9 x10 ls hf hl
      have hf : f_X9_shareOf_l79_body (f_X9_shareOf_l79 n79) x1 x2 x3 x5 x7 x9 x10 w = _ := hf
      unfold f_X9_shareOf_l79_body at hf
      refine lv_iload hx hb dX9_shareOf_79 (lv_at hl 7 rfl) ?_
      refine lv_bipush (v := 60) hx hb dX9_shareOf_81 (by decide) ?_
      refine lv_icmp_ge (tgt := 159) hx hb dX9_shareOf_83 (by decide) (fun c5 => ?_) (fun c5 => ?_)
      · have hf := if_t c5 hf
        refine lv_lload hx hb dX9_shareOf_159 (lv_at hl 4 rfl) ?_
        refine lv_lload_n hx hb dX9_shareOf_161 rfl (lv_at hl 3 rfl) ?_
        obtain ⟨c6, hf⟩ := chk_some hf
        refine lv_ldiv hx hb dX9_shareOf_162 c6 ?_
        refine lv_l2i hx hb dX9_shareOf_163 rfl ?_
        refine lv_iload hx hb dX9_shareOf_164 (lv_at hl 6 rfl) ?_
        refine lv_i2l hx hb dX9_shareOf_166 rfl ?_
        refine lv_lload hx hb dX9_shareOf_167 (lv_at hl 5 rfl) ?_
        refine W.lcmp hx hb dX9_shareOf_169 ?_
        refine lv_if_ge (tgt := 177) hx hb dX9_shareOf_170 (by decide) (fun c7 => ?_) (fun c7 => ?_)
        · have hf := if_t c7 hf
          refine lv_iconst (v := 0) hx hb dX9_shareOf_177 (by decide) ?_
          refine lv_iadd hx hb dX9_shareOf_178 ?_
          cases hf
          exact rr_i X.1 hr hlocks dX9_shareOf_179
        · have hf := if_f c7 hf
          refine lv_iconst (v := 1) hx hb dX9_shareOf_173 (by decide) ?_
          refine lv_goto (tgt := 178) hx hb dX9_shareOf_174 (by decide) ?_
          refine lv_iadd hx hb dX9_shareOf_178 ?_
          cases hf
          exact rr_i X.1 hr hlocks dX9_shareOf_179
      · have hf := if_f c5 hf
        refine lv_iload_n hx hb dX9_shareOf_86 rfl (lv_at hl 1 rfl) ?_
        refine lv_i2l hx hb dX9_shareOf_87 rfl ?_
        refine lv_aload_n hx hb dX9_shareOf_88 rfl (lv_at hl 0 rfl) ?_
        refine GC_0_7 X h k_X9_65 dX9_shareOf_89 ?_
        refine lv_iload hx hb dX9_shareOf_92 (lv_at hl 7 rfl) ?_
        obtain ⟨c8, hf⟩ := chk_some hf
        refine LC_8 X h c8 dX9_shareOf_94 ?_
        refine lv_i2l hx hb dX9_shareOf_95 rfl ?_
        refine lv_lmul hx hb dX9_shareOf_96 ?_
        refine lv_lstore (lv' := [(11, .long (x1.toInt64 * ((w.1 8 x10.toNatClampNeg).toInt64))), (0, .ref (gq G 0)), (1, .int x1), (2, .int x2), (3, .long x3), (5, .long x5), (7, .long x7), (9, .int x9), (10, .int x10)]) hx hb dX9_shareOf_97 hl (by decide) rfl (fun ls hl => ?_)
        refine lv_lload hx hb dX9_shareOf_99 (lv_at hl 6 rfl) ?_
        refine lv_lload hx hb dX9_shareOf_101 (lv_at hl 0 rfl) ?_
        refine lv_lload_n hx hb dX9_shareOf_103 rfl (lv_at hl 4 rfl) ?_
        obtain ⟨c9, hf⟩ := chk_some hf
        refine lv_ldiv hx hb dX9_shareOf_104 c9 ?_
        refine lv_lsub hx hb dX9_shareOf_105 ?_
        obtain ⟨z10, ez10, hf⟩ := bnd_some hf
        refine nm_l (Option.some.inj ez10) ?_
        refine lv_lstore (lv' := [(7, .long z10), (11, .long (x1.toInt64 * ((w.1 8 x10.toNatClampNeg).toInt64))), (0, .ref (gq G 0)), (1, .int x1), (2, .int x2), (3, .long x3), (5, .long x5), (9, .int x9), (10, .int x10)]) hx hb dX9_shareOf_106 hl (by decide) rfl (fun ls hl => ?_)
        refine lv_iload hx hb dX9_shareOf_108 (lv_at hl 8 rfl) ?_
        refine lv_iload_n hx hb dX9_shareOf_110 rfl (lv_at hl 4 rfl) ?_
        refine lv_icmp_ge (tgt := 130) hx hb dX9_shareOf_111 (by decide) (fun c11 => ?_) (fun c11 => ?_)
        · have hf := if_t c11 hf
          exact J130 _ _ _ _ _ _ _ _ _ hf (lv_sub hl [2, 3, 4, 5, 6, 0, 7, 8, 1] rfl)
        · have hf := if_f c11 hf
          refine lv_lload hx hb dX9_shareOf_114 (lv_at hl 1 rfl) ?_
          refine lv_lload_n hx hb dX9_shareOf_116 rfl (lv_at hl 5 rfl) ?_
          obtain ⟨c12, hf⟩ := chk_some hf
          refine lv_lrem hx hb dX9_shareOf_117 c12 ?_
          refine lv_lload hx hb dX9_shareOf_118 (lv_at hl 6 rfl) ?_
          refine lv_lload_n hx hb dX9_shareOf_120 rfl (lv_at hl 5 rfl) ?_
          obtain ⟨c13, hf⟩ := chk_some hf
          refine lv_lrem hx hb dX9_shareOf_121 c13 ?_
          refine W.lcmp hx hb dX9_shareOf_122 ?_
          refine lv_if_ne (tgt := 130) hx hb dX9_shareOf_123 (by decide) (fun c14 => ?_) (fun c14 => ?_)
          · have hf := if_f c14 hf
            exact J130 _ _ _ _ _ _ _ _ _ hf (lv_sub hl [2, 3, 4, 5, 6, 0, 7, 8, 1] rfl)
          · have hf := if_t c14 hf
            refine lv_iconst (v := 1) hx hb dX9_shareOf_126 (by decide) ?_
            refine lv_goto (tgt := 131) hx hb dX9_shareOf_127 (by decide) ?_
            exact J131 _ _ _ _ _ _ _ _ _ _ hf (lv_sub hl [2, 3, 4, 5, 6, 0, 7, 8, 1] rfl)
  have L16 : ∀ (n16 : Nat) (x1 : Int32) (x2 : Int32) (x3 : Int64) (x6 : Int32) (x7 : Int32) (ls : Array Slot), f_X9_shareOf_l16 n16 x1 x2 x3 x6 x7 w = some r → lv_has ls 14 [(0, .ref (gq G 0)), (1, .int x1), (2, .int x2), (3, .long x3), (5, .ref (gq G 8)), (6, .int x6), (7, .int x7)] → W p l e { frames := 2, cells := 0, slots := 0, locals := 42 } s m args below meth c s.heap [] 0 0 (MQ below (QcV (.int r)) args s 0 0 (fun _ => False)) (F0 m 16 ls []) := by
    intro n16
    induction n16 with
    | zero =>
      intro x1 x2 x3 x6 x7 ls hf hl
      cases (show (none : Option Int32) = some _ from hf)
    | succ n16 ih16 =>
      intro x1 x2 x3 x6 x7 ls hf hl
      have hf : f_X9_shareOf_l16_body (f_X9_shareOf_l16 n16) x1 x2 x3 x6 x7 w = _ := hf
      unfold f_X9_shareOf_l16_body at hf
      refine lv_iload hx hb dX9_shareOf_16 (lv_at hl 6 rfl) ?_
      refine lv_iload hx hb dX9_shareOf_18 (lv_at hl 5 rfl) ?_
      refine lv_icmp_ge (tgt := 42) hx hb dX9_shareOf_20 (by decide) (fun c15 => ?_) (fun c15 => ?_)
      · have hf := if_t c15 hf
        refine lv_lload_n hx hb dX9_shareOf_42 rfl (lv_at hl 3 rfl) ?_
        refine lv_lconst (v := 0) hx hb dX9_shareOf_43 (by decide) ?_
        refine W.lcmp hx hb dX9_shareOf_44 ?_
        refine lv_if_le (tgt := 55) hx hb dX9_shareOf_45 (by decide) (fun c16 => ?_) (fun c16 => ?_)
        · have hf := if_t c16 hf
          refine lv_iconst (v := 0) hx hb dX9_shareOf_55 (by decide) ?_
          cases hf
          exact rr_i X.1 hr hlocks dX9_shareOf_56
        · have hf := if_f c16 hf
          refine lv_iload_n hx hb dX9_shareOf_48 rfl (lv_at hl 2 rfl) ?_
          obtain ⟨y17, ey17, hf⟩ := bnd_some hf
          refine k_X9_isPlace X.1 ey17 k_X9_88 dX9_shareOf_49 hl.1 ⟨(Nat.le_of_ble_eq_true rfl), (Nat.le_of_ble_eq_true rfl)⟩ (Nat.le_of_ble_eq_true rfl) ⟨Nat.zero_le _, Nat.zero_le _⟩ ?_
          refine lv_if_ne (tgt := 57) hx hb dX9_shareOf_52 (by decide) (fun c18 => ?_) (fun c18 => ?_)
          · have hf := if_f c18 hf
            refine lv_iload_n hx hb dX9_shareOf_57 rfl (lv_at hl 1 rfl) ?_
            refine lv_i2l hx hb dX9_shareOf_58 rfl ?_
            refine lv_aload_n hx hb dX9_shareOf_59 rfl (lv_at hl 0 rfl) ?_
            refine GC_0_7 X h k_X9_65 dX9_shareOf_60 ?_
            refine lv_iload_n hx hb dX9_shareOf_63 rfl (lv_at hl 2 rfl) ?_
            obtain ⟨c19, hf⟩ := chk_some hf
            refine LC_8 X h c19 dX9_shareOf_64 ?_
            refine lv_i2l hx hb dX9_shareOf_65 rfl ?_
            refine lv_lmul hx hb dX9_shareOf_66 ?_
            refine lv_lstore (lv' := [(5, .long (x1.toInt64 * ((w.1 8 x2.toNatClampNeg).toInt64))), (0, .ref (gq G 0)), (1, .int x1), (2, .int x2), (3, .long x3), (7, .int x7)]) hx hb dX9_shareOf_67 hl (by decide) rfl (fun ls hl => ?_)
            refine lv_iload_n hx hb dX9_shareOf_69 rfl (lv_at hl 2 rfl) ?_
            refine lv_i2l hx hb dX9_shareOf_70 rfl ?_
            refine lv_lstore (lv' := [(7, .long x1.toInt64), (5, .long (x1.toInt64 * ((w.1 8 x2.toNatClampNeg).toInt64))), (0, .ref (gq G 0)), (1, .int x1), (2, .int x2), (3, .long x3)]) hx hb dX9_shareOf_71 hl (by decide) rfl (fun ls hl => ?_)
            refine lv_iconst (v := 0) hx hb dX9_shareOf_73 (by decide) ?_
            refine lv_istore (lv' := [(9, .int ((0 : Int32))), (7, .long x1.toInt64), (5, .long (x1.toInt64 * ((w.1 8 x2.toNatClampNeg).toInt64))), (0, .ref (gq G 0)), (1, .int x1), (2, .int x2), (3, .long x3)]) hx hb dX9_shareOf_74 hl (by decide) rfl (fun ls hl => ?_)
            refine lv_iconst (v := 0) hx hb dX9_shareOf_76 (by decide) ?_
            refine lv_istore (lv' := [(10, .int ((0 : Int32))), (9, .int ((0 : Int32))), (7, .long x1.toInt64), (5, .long (x1.toInt64 * ((w.1 8 x2.toNatClampNeg).toInt64))), (0, .ref (gq G 0)), (1, .int x1), (2, .int x2), (3, .long x3)]) hx hb dX9_shareOf_77 hl (by decide) rfl (fun ls hl => ?_)
            exact L79 FU _ _ _ _ _ _ _ _ hf (lv_sub hl [4, 5, 6, 7, 3, 2, 1, 0] rfl)
          · have hf := if_t c18 hf
            refine lv_iconst (v := 0) hx hb dX9_shareOf_55 (by decide) ?_
            cases hf
            exact rr_i X.1 hr hlocks dX9_shareOf_56
      · have hf := if_f c15 hf
        refine lv_aload hx hb dX9_shareOf_23 (lv_at hl 4 rfl) ?_
        refine lv_iload hx hb dX9_shareOf_25 (lv_at hl 6 rfl) ?_
        obtain ⟨c20, hf⟩ := chk_some hf
        refine LC_8 X h c20 dX9_shareOf_27 ?_
        refine lv_istore (lv' := [(8, .int (w.1 8 x7.toNatClampNeg)), (0, .ref (gq G 0)), (1, .int x1), (2, .int x2), (3, .long x3), (5, .ref (gq G 8)), (6, .int x6), (7, .int x7)]) hx hb dX9_shareOf_28 hl (by decide) rfl (fun ls hl => ?_)
        refine lv_lload_n hx hb dX9_shareOf_30 rfl (lv_at hl 4 rfl) ?_
        refine lv_iload hx hb dX9_shareOf_31 (lv_at hl 0 rfl) ?_
        refine lv_i2l hx hb dX9_shareOf_33 rfl ?_
        refine lv_ladd hx hb dX9_shareOf_34 ?_
        refine lv_lstore_n (lv' := [(3, .long (x3 + ((w.1 8 x7.toNatClampNeg).toInt64))), (8, .int (w.1 8 x7.toNatClampNeg)), (0, .ref (gq G 0)), (1, .int x1), (2, .int x2), (5, .ref (gq G 8)), (6, .int x6), (7, .int x7)]) hx hb dX9_shareOf_35 rfl hl (by decide) rfl (fun ls hl => ?_)
        refine lv_iinc (v := x7 + (1 : Int32)) (lv' := [(7, .int (x7 + (1 : Int32))), (3, .long (x3 + ((w.1 8 x7.toNatClampNeg).toInt64))), (8, .int (w.1 8 x7.toNatClampNeg)), (0, .ref (gq G 0)), (1, .int x1), (2, .int x2), (5, .ref (gq G 8)), (6, .int x6)]) hx hb dX9_shareOf_36 hl (k := 7) rfl (by rfl) (by decide) rfl (fun ls hl => ?_)
        refine lv_goto (tgt := 16) hx hb dX9_shareOf_39 (by decide) ?_
        exact ih16 _ _ _ _ _ _ hf (lv_sub hl [3, 4, 5, 1, 6, 7, 0] rfl)
  have hl : lv_has ls 14 [(0, .ref (gq G 0)), (1, .int x1), (2, .int x2)] := hl
  unfold f_X9_shareOf at hf
  refine lv_lconst (v := 0) hx hb dX9_shareOf_0 (by decide) ?_
  refine lv_lstore_n (lv' := [(3, .long ((0 : Int64))), (0, .ref (gq G 0)), (1, .int x1), (2, .int x2)]) hx hb dX9_shareOf_1 rfl hl (by decide) rfl (fun ls hl => ?_)
  refine lv_aload_n hx hb dX9_shareOf_2 rfl (lv_at hl 1 rfl) ?_
  refine GC_0_7 X h k_X9_65 dX9_shareOf_3 ?_
  refine lv_astore (lv' := [(5, .ref (gq G 8)), (3, .long ((0 : Int64))), (0, .ref (gq G 0)), (1, .int x1), (2, .int x2)]) hx hb dX9_shareOf_6 hl (by decide) rfl (fun ls hl => ?_)
  refine lv_aload hx hb dX9_shareOf_8 (lv_at hl 0 rfl) ?_
  refine NC_8 X h dX9_shareOf_10 ?_
  refine lv_istore (lv' := [(6, .int (Int32.ofNat 60)), (5, .ref (gq G 8)), (3, .long ((0 : Int64))), (0, .ref (gq G 0)), (1, .int x1), (2, .int x2)]) hx hb dX9_shareOf_11 hl (by decide) rfl (fun ls hl => ?_)
  refine lv_iconst (v := 0) hx hb dX9_shareOf_13 (by decide) ?_
  refine lv_istore (lv' := [(7, .int ((0 : Int32))), (6, .int (Int32.ofNat 60)), (5, .ref (gq G 8)), (3, .long ((0 : Int64))), (0, .ref (gq G 0)), (1, .int x1), (2, .int x2)]) hx hb dX9_shareOf_14 hl (by decide) rfl (fun ls hl => ?_)
  exact L16 FU _ _ _ _ _ _ hf (lv_sub hl [4, 5, 6, 3, 2, 1, 0] rfl)
theorem m_X9_shareOf : Cond.instanceMethod yX9_shareOf ∈ lw_good ∧ Cond.selects RX9 yX9_shareOf yX9_shareOf ∈ lw_good ∧ Cond.initialized RX9 ∈ lw_good ∧ Cond.code yX9_shareOf cX9_shareOf 14 (some .int) ∈ lw_good := by decide +kernel
theorem k_X9_shareOf {p : Program} {l : Launch} {e : Env} {R : Room} {s : State} {m : MethodId} {args : Array Value} {below : List Frame} {meth : Method} {c : Code} {H : Heap} {locs : List Loc} {cells slots : Nat} {Q : State → Prop} {cc : ByteArray} {nL pc idx : Nat} {ls : Array Slot} {rest : List Value} {own : String} {G : Gm} {A : Nat → Prop} {H0 : Heap} {la : Nat} {w : CW} {x1 : Int32} {x2 : Int32} {r : Int32} (X : CX own cc nL G p s m args c) (h : CH G (cw G la w) A H0 H locs) (hf : f_X9_shareOf x1 x2 w = some r) (hlk : Cond.methodLink own idx yX9_shareOf ∈ lw_good) (hd : decode cc pc = .ok (.invokevirtual idx, 3)) (hsz : ls.size = nL) (hR : 3 ≤ R.frames ∧ 75 ≤ R.locals) (hrest : (rest.map fun v => v.category).sum ≤ 8) (hk : cells ≤ R.cells ∧ slots ≤ R.slots) (k : W p l e R s m args below meth c H locs cells slots Q (F0 m (pc + 3) ls (.int r :: rest))) : W p l e R s m args below meth c H locs cells slots Q (F0 m pc ls (.int x2 :: .int x1 :: .ref (gq G 0) :: rest)) :=
  fin_r (runV (As := [.int x1, .int x2]) X.1 2 (t_X9_shareOf l G la w x1 x2 r hf) rfl rfl hlk m_X9_shareOf (by decide +kernel) ⟨hR.1, hR.2⟩ ⟨blindR, va_recv X.2.1 h.1 (ci := 8) (q0 := 0) rfl rfl, preR X.2 h⟩ rfl hsz hrest hd hk) k
def f_X9_share_b125 (x1 : Int32) (x2 : Int32) (w : CW) : Option (Int32 × CW) :=
 (f_X9_loadCell x1 ((1 : Int32))).bind fun y1 =>
 (f_X1_get y1 w).bind fun y2 =>
 (f_X9_shareOf y2 x2 w).bind fun y3 =>
 some (y3, w)
def f_X9_share_l88_body (kself : (Int32 → Int32 → Int32 → Int32 → Int32 → CW → Option (Int32 × CW))) (x1 : Int32) (x2 : Int32) (x3 : Int32) (x4 : Int32) (x5 : Int32) (w : CW) : Option (Int32 × CW) :=
 if x4 ≤ x5 then
 (f_X9_share_b125 x1 x2 w)
 else
 (if ((6 : Int32)) ≤ x5 then
 (f_X9_share_b125 x1 x2 w)
 else
 ((f_X9_read x3 (((13 : Int32)) + x5) w).bind fun y6 =>
 chk (inb x5 60) (
 kself x1 x2 x3 x4 (x5 + (1 : Int32)) (cs w 8 x5.toNatClampNeg y6))))
def f_X9_share_l88 : Nat → Int32 → Int32 → Int32 → Int32 → Int32 → CW → Option (Int32 × CW)
  | 0, _, _, _, _, _, _ => none
  | n + 1, x1, x2, x3, x4, x5, w => f_X9_share_l88_body (f_X9_share_l88 n) x1 x2 x3 x4 x5 w
def f_X9_share (x1 : Int32) (x2 : Int32) (w : CW) : Option (Int32 × CW) :=
 (f_X9_isLoad x1 w).bind fun y8 =>
 if y8 = 0 then
 (some ((-1 : Int32), w))
 else
 ((f_X9_loadCell x1 ((3 : Int32))).bind fun y10 =>
 (f_X1_get y10 w).bind fun y11 =>
 (f_X9_isPlace y11).bind fun y12 =>
 if y12 = 0 then
 ((f_X9_found ((2 : Int32)) w).bind fun y22 =>
 some (y22.1, y22.2))
 else
 ((f_X9_isBank y11 w).bind fun y14 =>
 if y14 = 0 then
 ((f_X9_found ((5 : Int32)) w).bind fun y21 =>
 some (y21.1, y21.2))
 else
 ((f_X9_read y11 ((8 : Int32)) w).bind fun y16 =>
 (f_X9_within x2 ((0 : Int32)) (y16 - ((1 : Int32)))).bind fun y17 =>
 if y17 = 0 then
 ((f_X9_found ((4 : Int32)) w).bind fun y20 =>
 some (y20.1, y20.2))
 else
 ((f_J7_fill_53178 8 60 ((0 : Int32)) w).bind fun y19 =>
 f_X9_share_l88 FU x1 x2 y11 y16 ((0 : Int32)) y19))))
set_option maxHeartbeats 4000000 in
set_option maxRecDepth 100000 in
theorem t_X9_share (l : Launch) (G : Gm) (la : Nat) (w0 : CW) (x1 : Int32) (x2 : Int32) (r : Int32) (w' : CW) (hf : f_X9_share x1 x2 w0 = some (r, w')) : MetI l yX9_share cX9_share 6 (some .int) 3 75 G (cw G la w0) [.ref (gq G 0), .int x1, .int x2] r (fun _ => cw G la (w')) 0 := by
  intro sz
  refine ent (own := RX9) (As := [.ref (gq G 0), .int x1, .int x2]) (by decide +kernel) rfl (Nat.le_of_ble_eq_true rfl) (fun _ _ h => h.1) ?_
  intro p e s m args below meth c ls B hr hlocks hv hl
  obtain ⟨-, hsz, hP, hKK, hD⟩ := hv
  subst hsz
  have X : CX RX9 cX9_share 6 G p s m args c := ⟨B, hKK⟩
  obtain ⟨hx, hb, hml, hown, hts⟩ := id B
  have hA : ∀ q : Nat, s.heap.size ≤ q → va_A (cw G la w0) s.heap.size q := fun q z => Or.inr z
  have h : CH G (cw G la w0) (va_A (cw G la w0) s.heap.size) s.heap s.heap [] := ⟨hP, hD.self, va_S.rf⟩
  have J125 : ∀ (x1 : Int32) (x2 : Int32) (w : CW) (H : Heap) (locs : List Loc) (ls : Array Slot), f_X9_share_b125 x1 x2 w = some (r, w') → CH G (cw G la w) (va_A (cw G la w0) s.heap.size) s.heap H locs → lv_has ls 6 [(0, .ref (gq G 0)), (1, .int x1), (2, .int x2)] → W p l e { frames := 3, cells := 0, slots := 4096 * 0, locals := 75 } s m args below meth c H locs 0 (4096 * 0) (MQ below (QI G (cw G la w0) s.heap.size r (fun _ => cw G la (w'))) args s 0 (4096 * 0) (va_A (cw G la w0) s.heap.size)) (F0 m 125 ls []) := by
    intro x1 x2 w H locs ls hf h hl
    unfold f_X9_share_b125 at hf
    refine lv_aload_n hx hb dX9_share_125 rfl (lv_at hl 0 rfl) ?_
    refine lv_aload_n hx hb dX9_share_126 rfl (lv_at hl 0 rfl) ?_
    refine GC_0_0 X h k_X9_12 dX9_share_127 ?_
    refine lv_iload_n hx hb dX9_share_130 rfl (lv_at hl 1 rfl) ?_
    refine lv_iconst (v := 1) hx hb dX9_share_131 (by decide) ?_
    obtain ⟨y1, ey1, hf⟩ := bnd_some hf
    refine k_X9_loadCell X.1 ey1 k_X9_221 dX9_share_132 hl.1 ⟨(Nat.le_of_ble_eq_true rfl), (Nat.le_of_ble_eq_true rfl)⟩ (Nat.le_of_ble_eq_true rfl) ⟨Nat.zero_le _, Nat.zero_le _⟩ ?_
    obtain ⟨y2, ey2, hf⟩ := bnd_some hf
    refine k_X1_get X h ey2 k_X9_175 dX9_share_135 hl.1 ⟨(Nat.le_of_ble_eq_true rfl), (Nat.le_of_ble_eq_true rfl)⟩ (Nat.le_of_ble_eq_true rfl) ⟨Nat.zero_le _, Nat.zero_le _⟩ ?_
    refine lv_iload_n hx hb dX9_share_138 rfl (lv_at hl 2 rfl) ?_
    obtain ⟨y3, ey3, hf⟩ := bnd_some hf
    refine k_X9_shareOf X h ey3 k_X9_254 dX9_share_139 hl.1 ⟨(Nat.le_of_ble_eq_true rfl), (Nat.le_of_ble_eq_true rfl)⟩ (Nat.le_of_ble_eq_true rfl) ⟨Nat.zero_le _, Nat.zero_le _⟩ ?_
    exact e0_i (Wf := cw G la) X.1 hr hlocks hf h dX9_share_142
  have L88 : ∀ (n88 : Nat) (x1 : Int32) (x2 : Int32) (x3 : Int32) (x4 : Int32) (x5 : Int32) (w : CW) (H : Heap) (locs : List Loc) (ls : Array Slot), f_X9_share_l88 n88 x1 x2 x3 x4 x5 w = some (r, w') → CH G (cw G la w) (va_A (cw G la w0) s.heap.size) s.heap H locs → lv_has ls 6 [(0, .ref (gq G 0)), (1, .int x1), (2, .int x2), (3, .int x3), (4, .int x4), (5, .int x5)] → W p l e { frames := 3, cells := 0, slots := 4096 * 0, locals := 75 } s m args below meth c H locs 0 (4096 * 0) (MQ below (QI G (cw G la w0) s.heap.size r (fun _ => cw G la (w'))) args s 0 (4096 * 0) (va_A (cw G la w0) s.heap.size)) (F0 m 88 ls []) := by
    intro n88
    induction n88 with
    | zero =>
      intro x1 x2 x3 x4 x5 w H locs ls hf h hl
      cases (show (none : Option (Int32 × CW)) = some _ from hf)
    | succ n88 ih88 =>
      intro x1 x2 x3 x4 x5 w H locs ls hf h hl
      have hf : f_X9_share_l88_body (f_X9_share_l88 n88) x1 x2 x3 x4 x5 w = _ := hf
      unfold f_X9_share_l88_body at hf
      refine lv_iload hx hb dX9_share_88 (lv_at hl 5 rfl) ?_
      refine lv_iload hx hb dX9_share_90 (lv_at hl 4 rfl) ?_
      refine lv_icmp_ge (tgt := 125) hx hb dX9_share_92 (by decide) (fun c4 => ?_) (fun c4 => ?_)
      · have hf := if_t c4 hf
        exact J125 _ _ _ _ _ _ hf h (lv_sub hl [0, 1, 2] rfl)
      · have hf := if_f c4 hf
        refine lv_iload hx hb dX9_share_95 (lv_at hl 5 rfl) ?_
        refine lv_bipush (v := 6) hx hb dX9_share_97 (by decide) ?_
        refine lv_icmp_ge (tgt := 125) hx hb dX9_share_99 (by decide) (fun c5 => ?_) (fun c5 => ?_)
        · have hf := if_t c5 hf
          exact J125 _ _ _ _ _ _ hf h (lv_sub hl [0, 1, 2] rfl)
        · have hf := if_f c5 hf
          refine lv_aload_n hx hb dX9_share_102 rfl (lv_at hl 0 rfl) ?_
          refine GC_0_7 X h k_X9_65 dX9_share_103 ?_
          refine lv_iload hx hb dX9_share_106 (lv_at hl 5 rfl) ?_
          refine lv_aload_n hx hb dX9_share_108 rfl (lv_at hl 0 rfl) ?_
          refine lv_iload_n hx hb dX9_share_109 rfl (lv_at hl 3 rfl) ?_
          refine lv_bipush (v := 13) hx hb dX9_share_110 (by decide) ?_
          refine lv_iload hx hb dX9_share_112 (lv_at hl 5 rfl) ?_
          refine lv_iadd hx hb dX9_share_114 ?_
          obtain ⟨y6, ey6, hf⟩ := bnd_some hf
          refine k_X9_read X h ey6 k_X9_110 dX9_share_115 hl.1 ⟨(Nat.le_of_ble_eq_true rfl), (Nat.le_of_ble_eq_true rfl)⟩ (Nat.le_of_ble_eq_true rfl) ⟨Nat.zero_le _, Nat.zero_le _⟩ ?_
          obtain ⟨c7, hf⟩ := chk_some hf
          refine SC_8 X h c7 dX9_share_118 (fun H locs h => ?_)
          refine lv_iinc (v := x5 + (1 : Int32)) (lv' := [(5, .int (x5 + (1 : Int32))), (0, .ref (gq G 0)), (1, .int x1), (2, .int x2), (3, .int x3), (4, .int x4)]) hx hb dX9_share_119 hl (k := 5) rfl (by rfl) (by decide) rfl (fun ls hl => ?_)
          refine lv_goto (tgt := 88) hx hb dX9_share_122 (by decide) ?_
          exact ih88 _ _ _ _ _ _ _ _ _ hf h (lv_sub hl [1, 2, 3, 4, 5, 0] rfl)
  obtain ⟨w, rfl⟩ : ∃ z, z = w0 := ⟨_, rfl⟩
  have hl : lv_has ls 6 [(0, .ref (gq G 0)), (1, .int x1), (2, .int x2)] := hl
  unfold f_X9_share at hf
  refine lv_aload_n hx hb dX9_share_0 rfl (lv_at hl 0 rfl) ?_
  refine lv_iload_n hx hb dX9_share_1 rfl (lv_at hl 1 rfl) ?_
  obtain ⟨y8, ey8, hf⟩ := bnd_some hf
  refine k_X9_isLoad X h ey8 k_X9_230 dX9_share_2 hl.1 ⟨(Nat.le_of_ble_eq_true rfl), (Nat.le_of_ble_eq_true rfl)⟩ (Nat.le_of_ble_eq_true rfl) ⟨Nat.zero_le _, Nat.zero_le _⟩ ?_
  refine lv_if_ne (tgt := 10) hx hb dX9_share_5 (by decide) (fun c9 => ?_) (fun c9 => ?_)
  · have hf := if_f c9 hf
    refine lv_aload_n hx hb dX9_share_10 rfl (lv_at hl 0 rfl) ?_
    refine GC_0_0 X h k_X9_12 dX9_share_11 ?_
    refine lv_iload_n hx hb dX9_share_14 rfl (lv_at hl 1 rfl) ?_
    refine lv_iconst (v := 3) hx hb dX9_share_15 (by decide) ?_
    obtain ⟨y10, ey10, hf⟩ := bnd_some hf
    refine k_X9_loadCell X.1 ey10 k_X9_221 dX9_share_16 hl.1 ⟨(Nat.le_of_ble_eq_true rfl), (Nat.le_of_ble_eq_true rfl)⟩ (Nat.le_of_ble_eq_true rfl) ⟨Nat.zero_le _, Nat.zero_le _⟩ ?_
    obtain ⟨y11, ey11, hf⟩ := bnd_some hf
    refine k_X1_get X h ey11 k_X9_175 dX9_share_19 hl.1 ⟨(Nat.le_of_ble_eq_true rfl), (Nat.le_of_ble_eq_true rfl)⟩ (Nat.le_of_ble_eq_true rfl) ⟨Nat.zero_le _, Nat.zero_le _⟩ ?_
    refine lv_istore_n (lv' := [(3, .int y11), (0, .ref (gq G 0)), (1, .int x1), (2, .int x2)]) hx hb dX9_share_22 rfl hl (by decide) rfl (fun ls hl => ?_)
    refine lv_iload_n hx hb dX9_share_23 rfl (lv_at hl 0 rfl) ?_
    obtain ⟨y12, ey12, hf⟩ := bnd_some hf
    refine k_X9_isPlace X.1 ey12 k_X9_88 dX9_share_24 hl.1 ⟨(Nat.le_of_ble_eq_true rfl), (Nat.le_of_ble_eq_true rfl)⟩ (Nat.le_of_ble_eq_true rfl) ⟨Nat.zero_le _, Nat.zero_le _⟩ ?_
    refine lv_if_ne (tgt := 36) hx hb dX9_share_27 (by decide) (fun c13 => ?_) (fun c13 => ?_)
    · have hf := if_f c13 hf
      refine lv_aload_n hx hb dX9_share_36 rfl (lv_at hl 1 rfl) ?_
      refine lv_iload_n hx hb dX9_share_37 rfl (lv_at hl 0 rfl) ?_
      obtain ⟨y14, ey14, hf⟩ := bnd_some hf
      refine k_X9_isBank X h ey14 k_X9_107 dX9_share_38 hl.1 ⟨(Nat.le_of_ble_eq_true rfl), (Nat.le_of_ble_eq_true rfl)⟩ (Nat.le_of_ble_eq_true rfl) ⟨Nat.zero_le _, Nat.zero_le _⟩ ?_
      refine lv_if_ne (tgt := 50) hx hb dX9_share_41 (by decide) (fun c15 => ?_) (fun c15 => ?_)
      · have hf := if_f c15 hf
        refine lv_aload_n hx hb dX9_share_50 rfl (lv_at hl 1 rfl) ?_
        refine lv_iload_n hx hb dX9_share_51 rfl (lv_at hl 0 rfl) ?_
        refine lv_bipush (v := 8) hx hb dX9_share_52 (by decide) ?_
        obtain ⟨y16, ey16, hf⟩ := bnd_some hf
        refine k_X9_read X h ey16 k_X9_110 dX9_share_54 hl.1 ⟨(Nat.le_of_ble_eq_true rfl), (Nat.le_of_ble_eq_true rfl)⟩ (Nat.le_of_ble_eq_true rfl) ⟨Nat.zero_le _, Nat.zero_le _⟩ ?_
        refine lv_istore (lv' := [(4, .int y16), (3, .int y11), (0, .ref (gq G 0)), (1, .int x1), (2, .int x2)]) hx hb dX9_share_57 hl (by decide) rfl (fun ls hl => ?_)
        refine lv_iload_n hx hb dX9_share_59 rfl (lv_at hl 4 rfl) ?_
        refine lv_iconst (v := 0) hx hb dX9_share_60 (by decide) ?_
        refine lv_iload hx hb dX9_share_61 (lv_at hl 0 rfl) ?_
        refine lv_iconst (v := 1) hx hb dX9_share_63 (by decide) ?_
        refine lv_isub hx hb dX9_share_64 ?_
        obtain ⟨y17, ey17, hf⟩ := bnd_some hf
        refine k_X9_within X.1 ey17 k_X9_92 dX9_share_65 hl.1 ⟨(Nat.le_of_ble_eq_true rfl), (Nat.le_of_ble_eq_true rfl)⟩ (Nat.le_of_ble_eq_true rfl) ⟨Nat.zero_le _, Nat.zero_le _⟩ ?_
        refine lv_if_ne (tgt := 77) hx hb dX9_share_68 (by decide) (fun c18 => ?_) (fun c18 => ?_)
        · have hf := if_f c18 hf
          refine lv_aload_n hx hb dX9_share_77 rfl (lv_at hl 2 rfl) ?_
          refine GC_0_7 X h k_X9_65 dX9_share_78 ?_
          refine lv_iconst (v := 0) hx hb dX9_share_81 (by decide) ?_
          obtain ⟨y19, ey19, hf⟩ := bnd_some hf
          refine k_J7_fill_53178 X h hA (by unfold arrP; omega) ey19 k_X9_248 dX9_share_82 hl.1 ⟨(Nat.le_of_ble_eq_true rfl), (Nat.le_of_ble_eq_true rfl)⟩ (Nat.le_of_ble_eq_true rfl) ⟨Nat.zero_le _, Nat.zero_le _⟩ (fun H locs h => ?_)
          refine lv_iconst (v := 0) hx hb dX9_share_85 (by decide) ?_
          refine lv_istore (lv' := [(5, .int ((0 : Int32))), (4, .int y16), (3, .int y11), (0, .ref (gq G 0)), (1, .int x1), (2, .int x2)]) hx hb dX9_share_86 hl (by decide) rfl (fun ls hl => ?_)
          exact L88 FU _ _ _ _ _ _ _ _ _ hf h (lv_sub hl [3, 4, 5, 2, 1, 0] rfl)
        · have hf := if_t c18 hf
          refine lv_aload_n hx hb dX9_share_71 rfl (lv_at hl 2 rfl) ?_
          refine lv_iconst (v := 4) hx hb dX9_share_72 (by decide) ?_
          obtain ⟨y20, ey20, hf⟩ := bnd_some hf
          refine k_X9_found X h hA ey20 k_X9_103 dX9_share_73 hl.1 ⟨(Nat.le_of_ble_eq_true rfl), (Nat.le_of_ble_eq_true rfl)⟩ (Nat.le_of_ble_eq_true rfl) ⟨Nat.zero_le _, Nat.zero_le _⟩ (fun H locs h => ?_)
          exact e0_i (Wf := cw G la) X.1 hr hlocks hf h dX9_share_76
      · have hf := if_t c15 hf
        refine lv_aload_n hx hb dX9_share_44 rfl (lv_at hl 1 rfl) ?_
        refine lv_iconst (v := 5) hx hb dX9_share_45 (by decide) ?_
        obtain ⟨y21, ey21, hf⟩ := bnd_some hf
        refine k_X9_found X h hA ey21 k_X9_103 dX9_share_46 hl.1 ⟨(Nat.le_of_ble_eq_true rfl), (Nat.le_of_ble_eq_true rfl)⟩ (Nat.le_of_ble_eq_true rfl) ⟨Nat.zero_le _, Nat.zero_le _⟩ (fun H locs h => ?_)
        exact e0_i (Wf := cw G la) X.1 hr hlocks hf h dX9_share_49
    · have hf := if_t c13 hf
      refine lv_aload_n hx hb dX9_share_30 rfl (lv_at hl 1 rfl) ?_
      refine lv_iconst (v := 2) hx hb dX9_share_31 (by decide) ?_
      obtain ⟨y22, ey22, hf⟩ := bnd_some hf
      refine k_X9_found X h hA ey22 k_X9_103 dX9_share_32 hl.1 ⟨(Nat.le_of_ble_eq_true rfl), (Nat.le_of_ble_eq_true rfl)⟩ (Nat.le_of_ble_eq_true rfl) ⟨Nat.zero_le _, Nat.zero_le _⟩ (fun H locs h => ?_)
      exact e0_i (Wf := cw G la) X.1 hr hlocks hf h dX9_share_35
  · have hf := if_t c9 hf
    refine lv_iconst (v := (-1)) hx hb dX9_share_8 (by decide) ?_
    exact e0_i (Wf := cw G la) X.1 hr hlocks hf h dX9_share_9
theorem m_X9_share : Cond.instanceMethod yX9_share ∈ lw_good ∧ Cond.selects RX9 yX9_share yX9_share ∈ lw_good ∧ Cond.initialized RX9 ∈ lw_good ∧ Cond.code yX9_share cX9_share 6 (some .int) ∈ lw_good := by decide +kernel
theorem k_X9_share {p : Program} {l : Launch} {e : Env} {R : Room} {s : State} {m : MethodId} {args : Array Value} {below : List Frame} {meth : Method} {c : Code} {H : Heap} {locs : List Loc} {cells slots : Nat} {Q : State → Prop} {cc : ByteArray} {nL pc idx : Nat} {ls : Array Slot} {rest : List Value} {own : String} {G : Gm} {A : Nat → Prop} {H0 : Heap} {la : Nat} {w : CW} {x1 : Int32} {x2 : Int32} {y : Int32 × CW} (X : CX own cc nL G p s m args c) (h : CH G (cw G la w) A H0 H locs) (hA : ∀ q, H0.size ≤ q → A q) (hf : f_X9_share x1 x2 w = some y) (hlk : Cond.methodLink own idx yX9_share ∈ lw_good) (hd : decode cc pc = .ok (.invokevirtual idx, 3)) (hsz : ls.size = nL) (hR : 4 ≤ R.frames ∧ 100 ≤ R.locals) (hrest : (rest.map fun v => v.category).sum ≤ 8) (hk : cells ≤ R.cells ∧ slots ≤ R.slots) (k : ∀ (H : Heap) (locs : List Loc), CH G (cw G la y.2) A H0 H locs → W p l e R s m args below meth c H locs cells slots Q (F0 m (pc + 3) ls (.int y.1 :: rest))) : W p l e R s m args below meth c H locs cells slots Q (F0 m pc ls (.int x2 :: .int x1 :: .ref (gq G 0) :: rest)) :=
  fin_i (n := 0) (runV (As := [.int x1, .int x2]) X.1 2 (t_X9_share l G la w x1 x2 y.1 y.2 hf _) rfl rfl hlk m_X9_share (by decide +kernel) ⟨hR.1, hR.2⟩ ⟨blindM, va_recv X.2.1 h.1 (ci := 8) (q0 := 0) rfl rfl, preM X.2 h⟩ rfl hsz hrest hd hk) h hA (fun _ H locs h => k H locs h)
def f_X9_kindOf (x0 : Int32) : Option Int32 :=
 some (x0 / ((1000 : Int32)))
set_option maxHeartbeats 4000000 in
set_option maxRecDepth 100000 in
theorem t_X9_kindOf (l : Launch) (x0 : Int32) (r : Int32) (hf : f_X9_kindOf x0 = some r) : MetP l yX9_kindOf cX9_kindOf 1 (some .int) 0 0 [.int x0] (.int r) := by
  refine ent (own := RX9) (As := [.int x0]) (by decide +kernel) rfl (Nat.le_of_ble_eq_true rfl) (fun _ _ h => h.1) ?_
  intro p e s m args below meth c ls B hr hlocks hv hl
  obtain ⟨hx, hb, hml, hown, hts⟩ := id B
  have hl : lv_has ls 1 [(0, .int x0)] := hl
  unfold f_X9_kindOf at hf
  refine lv_iload_n hx hb dX9_kindOf_0 rfl (lv_at hl 0 rfl) ?_
  refine lv_sipush (v := 1000) hx hb dX9_kindOf_1 (by decide) ?_
  refine lv_idiv hx hb dX9_kindOf_4 (by decide) ?_
  cases hf
  exact rr_i B hr hlocks dX9_kindOf_5
theorem m_X9_kindOf : Cond.static yX9_kindOf ∈ lw_good ∧ Cond.initialized yX9_kindOf.cls ∈ lw_good ∧ Cond.code yX9_kindOf cX9_kindOf 1 (some .int) ∈ lw_good := by decide +kernel
theorem k_X9_kindOf {p : Program} {l : Launch} {e : Env} {R : Room} {s : State} {m : MethodId} {args : Array Value} {below : List Frame} {meth : Method} {c : Code} {H : Heap} {locs : List Loc} {cells slots : Nat} {Q : State → Prop} {cc : ByteArray} {nL pc idx : Nat} {ls : Array Slot} {rest : List Value} {own : String} {x0 : Int32} {r : Int32} (B : CB own cc nL p s m args c) (hf : f_X9_kindOf x0 = some r) (hlk : Cond.methodLink own idx yX9_kindOf ∈ lw_good) (hd : decode cc pc = .ok (.invokestatic idx, 3)) (hsz : ls.size = nL) (hR : 1 ≤ R.frames ∧ 20 ≤ R.locals) (hrest : (rest.map fun v => v.category).sum ≤ 8) (hk : cells ≤ R.cells ∧ slots ≤ R.slots) (k : W p l e R s m args below meth c H locs cells slots Q (F0 m (pc + 3) ls (.int r :: rest))) : W p l e R s m args below meth c H locs cells slots Q (F0 m pc ls (.int x0 :: rest)) :=
  fin_r (runS (As := [.int x0]) B 1 (t_X9_kindOf l x0 r hf) rfl rfl hlk m_X9_kindOf (by decide +kernel) ⟨hR.1, hR.2⟩ ⟨blindP, preP⟩ rfl hsz hrest hd hk) k
def f_X9_askWishes (x1 : Int32) (x2 : Int32) (w : CW) : Option CW :=
 (f_X9_kindAt x1 w).bind fun y1 =>
 (f_X9_read x1 ((8 : Int32)) w).bind fun y2 =>
 chk (y1 < 5) (
 (fv_water y1 x2 y2 w).bind fun y3 =>
 chk (inb ((0 : Int32)) 3) (
 chk (y1 < 5) (
 (fv_heat y1 x2 y2 (cs y3.2 9 ((0 : Int32)).toNatClampNeg y3.1)).bind fun y6 =>
 chk (inb ((1 : Int32)) 3) (
 chk (y1 < 5) (
 (fv_power y1 x2 y2 (cs y6.2 9 ((1 : Int32)).toNatClampNeg y6.1)).bind fun y9 =>
 chk (inb ((2 : Int32)) 3) (
 some (cs y9.2 9 ((2 : Int32)).toNatClampNeg y9.1)))))))
set_option maxHeartbeats 4000000 in
set_option maxRecDepth 100000 in
theorem t_X9_askWishes (l : Launch) (G : Gm) (la : Nat) (w0 : CW) (x1 : Int32) (x2 : Int32) (w' : CW) (hf : f_X9_askWishes x1 x2 w0 = some w') : MetV l yX9_askWishes cX9_askWishes 5 5 109 G (cw G la w0) [.ref (gq G 0), .int x1, .int x2] (fun _ => cw G la (w')) 0 := by
  intro sz
  refine ent (own := RX9) (As := [.ref (gq G 0), .int x1, .int x2]) (by decide +kernel) rfl (Nat.le_of_ble_eq_true rfl) (fun _ _ h => h.1) ?_
  intro p e s m args below meth c ls B hr hlocks hv hl
  obtain ⟨-, hsz, hP, hKK, hD⟩ := hv
  subst hsz
  have X : CX RX9 cX9_askWishes 5 G p s m args c := ⟨B, hKK⟩
  obtain ⟨hx, hb, hml, hown, hts⟩ := id B
  have hA : ∀ q : Nat, s.heap.size ≤ q → va_A (cw G la w0) s.heap.size q := fun q z => Or.inr z
  have h : CH G (cw G la w0) (va_A (cw G la w0) s.heap.size) s.heap s.heap [] := ⟨hP, hD.self, va_S.rf⟩
  obtain ⟨w, rfl⟩ : ∃ z, z = w0 := ⟨_, rfl⟩
  have hl : lv_has ls 5 [(0, .ref (gq G 0)), (1, .int x1), (2, .int x2)] := hl
  unfold f_X9_askWishes at hf
  refine lv_aload_n hx hb dX9_askWishes_0 rfl (lv_at hl 0 rfl) ?_
  refine lv_iload_n hx hb dX9_askWishes_1 rfl (lv_at hl 1 rfl) ?_
  obtain ⟨y1, ey1, hf⟩ := bnd_some hf
  refine k_X9_kindAt X h ey1 k_X9_123 dX9_askWishes_2 hl.1 ⟨(Nat.le_of_ble_eq_true rfl), (Nat.le_of_ble_eq_true rfl)⟩ (Nat.le_of_ble_eq_true rfl) ⟨Nat.zero_le _, Nat.zero_le _⟩ ?_
  refine lv_astore_n (lv' := [(3, .ref (gq G (20 + y1))), (0, .ref (gq G 0)), (1, .int x1), (2, .int x2)]) hx hb dX9_askWishes_5 rfl hl (by decide) rfl (fun ls hl => ?_)
  refine lv_aload_n hx hb dX9_askWishes_6 rfl (lv_at hl 1 rfl) ?_
  refine lv_iload_n hx hb dX9_askWishes_7 rfl (lv_at hl 2 rfl) ?_
  refine lv_bipush (v := 8) hx hb dX9_askWishes_8 (by decide) ?_
  obtain ⟨y2, ey2, hf⟩ := bnd_some hf
  refine k_X9_read X h ey2 k_X9_110 dX9_askWishes_10 hl.1 ⟨(Nat.le_of_ble_eq_true rfl), (Nat.le_of_ble_eq_true rfl)⟩ (Nat.le_of_ble_eq_true rfl) ⟨Nat.zero_le _, Nat.zero_le _⟩ ?_
  refine lv_istore (lv' := [(4, .int y2), (3, .ref (gq G (20 + y1))), (0, .ref (gq G 0)), (1, .int x1), (2, .int x2)]) hx hb dX9_askWishes_13 hl (by decide) rfl (fun ls hl => ?_)
  refine lv_aload_n hx hb dX9_askWishes_15 rfl (lv_at hl 2 rfl) ?_
  refine GC_0_8 X h k_X9_68 dX9_askWishes_16 ?_
  refine lv_iconst (v := 0) hx hb dX9_askWishes_19 (by decide) ?_
  refine lv_aload_n hx hb dX9_askWishes_20 rfl (lv_at hl 1 rfl) ?_
  refine lv_iload_n hx hb dX9_askWishes_21 rfl (lv_at hl 4 rfl) ?_
  refine lv_iload hx hb dX9_askWishes_22 (lv_at hl 0 rfl) ?_
  obtain ⟨c4, hf⟩ := chk_some hf
  obtain ⟨y3, ey3, hf⟩ := bnd_some hf
  refine kv_water X h hA c4 ey3 k_X9_141 dX9_askWishes_24 hl.1 ⟨(Nat.le_of_ble_eq_true rfl), (Nat.le_of_ble_eq_true rfl)⟩ (Nat.le_of_ble_eq_true rfl) ⟨Nat.zero_le _, Nat.zero_le _⟩ (fun H locs h => ?_)
  obtain ⟨c5, hf⟩ := chk_some hf
  refine SC_9 X h c5 dX9_askWishes_27 (fun H locs h => ?_)
  refine lv_aload_n hx hb dX9_askWishes_28 rfl (lv_at hl 2 rfl) ?_
  refine GC_0_8 X h k_X9_68 dX9_askWishes_29 ?_
  refine lv_iconst (v := 1) hx hb dX9_askWishes_32 (by decide) ?_
  refine lv_aload_n hx hb dX9_askWishes_33 rfl (lv_at hl 1 rfl) ?_
  refine lv_iload_n hx hb dX9_askWishes_34 rfl (lv_at hl 4 rfl) ?_
  refine lv_iload hx hb dX9_askWishes_35 (lv_at hl 0 rfl) ?_
  obtain ⟨c7, hf⟩ := chk_some hf
  obtain ⟨y6, ey6, hf⟩ := bnd_some hf
  refine kv_heat X h hA c7 ey6 k_X9_144 dX9_askWishes_37 hl.1 ⟨(Nat.le_of_ble_eq_true rfl), (Nat.le_of_ble_eq_true rfl)⟩ (Nat.le_of_ble_eq_true rfl) ⟨Nat.zero_le _, Nat.zero_le _⟩ (fun H locs h => ?_)
  obtain ⟨c8, hf⟩ := chk_some hf
  refine SC_9 X h c8 dX9_askWishes_40 (fun H locs h => ?_)
  refine lv_aload_n hx hb dX9_askWishes_41 rfl (lv_at hl 2 rfl) ?_
  refine GC_0_8 X h k_X9_68 dX9_askWishes_42 ?_
  refine lv_iconst (v := 2) hx hb dX9_askWishes_45 (by decide) ?_
  refine lv_aload_n hx hb dX9_askWishes_46 rfl (lv_at hl 1 rfl) ?_
  refine lv_iload_n hx hb dX9_askWishes_47 rfl (lv_at hl 4 rfl) ?_
  refine lv_iload hx hb dX9_askWishes_48 (lv_at hl 0 rfl) ?_
  obtain ⟨c10, hf⟩ := chk_some hf
  obtain ⟨y9, ey9, hf⟩ := bnd_some hf
  refine kv_power X h hA c10 ey9 k_X9_147 dX9_askWishes_50 hl.1 ⟨(Nat.le_of_ble_eq_true rfl), (Nat.le_of_ble_eq_true rfl)⟩ (Nat.le_of_ble_eq_true rfl) ⟨Nat.zero_le _, Nat.zero_le _⟩ (fun H locs h => ?_)
  obtain ⟨c11, hf⟩ := chk_some hf
  refine SC_9 X h c11 dX9_askWishes_53 (fun H locs h => ?_)
  exact e0_v (Wf := cw G la) X.1 hr hlocks hf h dX9_askWishes_54
theorem m_X9_askWishes : Cond.instanceMethod yX9_askWishes ∈ lw_good ∧ Cond.selects RX9 yX9_askWishes yX9_askWishes ∈ lw_good ∧ Cond.initialized RX9 ∈ lw_good ∧ Cond.code yX9_askWishes cX9_askWishes 5 none ∈ lw_good := by decide +kernel
theorem k_X9_askWishes {p : Program} {l : Launch} {e : Env} {R : Room} {s : State} {m : MethodId} {args : Array Value} {below : List Frame} {meth : Method} {c : Code} {H : Heap} {locs : List Loc} {cells slots : Nat} {Q : State → Prop} {cc : ByteArray} {nL pc idx : Nat} {ls : Array Slot} {rest : List Value} {own : String} {G : Gm} {A : Nat → Prop} {H0 : Heap} {la : Nat} {w : CW} {x1 : Int32} {x2 : Int32} {w' : CW} (X : CX own cc nL G p s m args c) (h : CH G (cw G la w) A H0 H locs) (hA : ∀ q, H0.size ≤ q → A q) (hf : f_X9_askWishes x1 x2 w = some w') (hlk : Cond.methodLink own idx yX9_askWishes ∈ lw_good) (hd : decode cc pc = .ok (.invokevirtual idx, 3)) (hsz : ls.size = nL) (hR : 6 ≤ R.frames ∧ 133 ≤ R.locals) (hrest : (rest.map fun v => v.category).sum ≤ 8) (hk : cells ≤ R.cells ∧ slots ≤ R.slots) (k : ∀ (H : Heap) (locs : List Loc), CH G (cw G la (w')) A H0 H locs → W p l e R s m args below meth c H locs cells slots Q (F0 m (pc + 3) ls (rest))) : W p l e R s m args below meth c H locs cells slots Q (F0 m pc ls (.int x2 :: .int x1 :: .ref (gq G 0) :: rest)) :=
  fin_v (n := 0) (runV (As := [.int x1, .int x2]) X.1 2 (t_X9_askWishes l G la w x1 x2 w' hf _) rfl rfl hlk m_X9_askWishes (by decide +kernel) ⟨hR.1, hR.2⟩ ⟨blindM, va_recv X.2.1 h.1 (ci := 8) (q0 := 0) rfl rfl, preM X.2 h⟩ rfl hsz hrest hd hk) h hA (fun _ H locs h => k H locs h)
def f_X9_fitsBounds_l2_body (kself : (Int32 → CW → Option Int32)) (x1 : Int32) (w : CW) : Option Int32 :=
 if ((2 : Int32)) < x1 then
 (some ((1 : Int32)))
 else
 (chk (inb x1 3) (
 chk (inb x1 3) (
 (f_X1_get (((8544 : Int32)) + x1) w).bind fun y4 =>
 if ((w.1 10 x1.toNatClampNeg) + (w.1 9 x1.toNatClampNeg)) ≤ y4 then
 (kself (x1 + (1 : Int32)) w)
 else
 (some ((0 : Int32))))))
def f_X9_fitsBounds_l2 : Nat → Int32 → CW → Option Int32
  | 0, _, _ => none
  | n + 1, x1, w => f_X9_fitsBounds_l2_body (f_X9_fitsBounds_l2 n) x1 w
def f_X9_fitsBounds (w : CW) : Option Int32 :=
 f_X9_fitsBounds_l2 FU ((0 : Int32)) w
set_option maxHeartbeats 4000000 in
set_option maxRecDepth 100000 in
theorem t_X9_fitsBounds (l : Launch) (G : Gm) (la : Nat) (w : CW) (r : Int32) (hf : f_X9_fitsBounds w = some r) : MetR l yX9_fitsBounds cX9_fitsBounds 2 (some .boolean) 1 21 G (cw G la w) [.ref (gq G 0)] (.int r) := by
  refine ent (own := RX9) (As := [.ref (gq G 0)]) (by decide +kernel) rfl (Nat.le_of_ble_eq_true rfl) (fun _ _ h => h.1) ?_
  intro p e s m args below meth c ls B hr hlocks hv hl
  obtain ⟨-, hP, hKK, hD⟩ := hv
  have X : CX RX9 cX9_fitsBounds 2 G p s m args c := ⟨B, hKK⟩
  obtain ⟨hx, hb, hml, hown, hts⟩ := id B
  have h : CH G (cw G la w) (fun _ => True) s.heap s.heap [] := ⟨hP, hD, va_S.rf⟩
  have L2 : ∀ (n2 : Nat) (x1 : Int32) (ls : Array Slot), f_X9_fitsBounds_l2 n2 x1 w = some r → lv_has ls 2 [(0, .ref (gq G 0)), (1, .int x1)] → W p l e { frames := 1, cells := 0, slots := 0, locals := 21 } s m args below meth c s.heap [] 0 0 (MQ below (QcV (.int r)) args s 0 0 (fun _ => False)) (F0 m 2 ls []) := by
    intro n2
    induction n2 with
    | zero =>
      intro x1 ls hf hl
      cases (show (none : Option Int32) = some _ from hf)
    | succ n2 ih2 =>
      intro x1 ls hf hl
      have hf : f_X9_fitsBounds_l2_body (f_X9_fitsBounds_l2 n2) x1 w = _ := hf
      unfold f_X9_fitsBounds_l2_body at hf
      refine lv_iload_n hx hb dX9_fitsBounds_2 rfl (lv_at hl 1 rfl) ?_
      refine lv_iconst (v := 2) hx hb dX9_fitsBounds_3 (by decide) ?_
      refine lv_icmp_gt (tgt := 43) hx hb dX9_fitsBounds_4 (by decide) (fun c1 => ?_) (fun c1 => ?_)
      · have hf := if_t c1 hf
        refine lv_iconst (v := 1) hx hb dX9_fitsBounds_43 (by decide) ?_
        cases hf
        exact rr_z X.1 hr hlocks (Or.inr rfl) dX9_fitsBounds_44
      · have hf := if_f c1 hf
        refine lv_aload_n hx hb dX9_fitsBounds_7 rfl (lv_at hl 0 rfl) ?_
        refine GC_0_9 X h k_X9_71 dX9_fitsBounds_8 ?_
        refine lv_iload_n hx hb dX9_fitsBounds_11 rfl (lv_at hl 1 rfl) ?_
        obtain ⟨c2, hf⟩ := chk_some hf
        refine LC_10 X h c2 dX9_fitsBounds_12 ?_
        refine lv_aload_n hx hb dX9_fitsBounds_13 rfl (lv_at hl 0 rfl) ?_
        refine GC_0_8 X h k_X9_68 dX9_fitsBounds_14 ?_
        refine lv_iload_n hx hb dX9_fitsBounds_17 rfl (lv_at hl 1 rfl) ?_
        obtain ⟨c3, hf⟩ := chk_some hf
        refine LC_9 X h c3 dX9_fitsBounds_18 ?_
        refine lv_iadd hx hb dX9_fitsBounds_19 ?_
        refine lv_aload_n hx hb dX9_fitsBounds_20 rfl (lv_at hl 0 rfl) ?_
        refine GC_0_0 X h k_X9_12 dX9_fitsBounds_21 ?_
        refine lv_sipush (v := 8544) hx hb dX9_fitsBounds_24 (by decide) ?_
        refine lv_iload_n hx hb dX9_fitsBounds_27 rfl (lv_at hl 1 rfl) ?_
        refine lv_iadd hx hb dX9_fitsBounds_28 ?_
        obtain ⟨y4, ey4, hf⟩ := bnd_some hf
        refine k_X1_get X h ey4 k_X9_175 dX9_fitsBounds_29 hl.1 ⟨(Nat.le_of_ble_eq_true rfl), (Nat.le_of_ble_eq_true rfl)⟩ (Nat.le_of_ble_eq_true rfl) ⟨Nat.zero_le _, Nat.zero_le _⟩ ?_
        refine lv_icmp_le (tgt := 37) hx hb dX9_fitsBounds_32 (by decide) (fun c5 => ?_) (fun c5 => ?_)
        · have hf := if_t c5 hf
          refine lv_iinc (v := x1 + (1 : Int32)) (lv' := [(1, .int (x1 + (1 : Int32))), (0, .ref (gq G 0))]) hx hb dX9_fitsBounds_37 hl (k := 1) rfl (by rfl) (by decide) rfl (fun ls hl => ?_)
          refine lv_goto (tgt := 2) hx hb dX9_fitsBounds_40 (by decide) ?_
          exact ih2 _ _ hf (lv_sub hl [1, 0] rfl)
        · have hf := if_f c5 hf
          refine lv_iconst (v := 0) hx hb dX9_fitsBounds_35 (by decide) ?_
          cases hf
          exact rr_z X.1 hr hlocks (Or.inl rfl) dX9_fitsBounds_36
  have hl : lv_has ls 2 [(0, .ref (gq G 0))] := hl
  unfold f_X9_fitsBounds at hf
  refine lv_iconst (v := 0) hx hb dX9_fitsBounds_0 (by decide) ?_
  refine lv_istore_n (lv' := [(1, .int ((0 : Int32))), (0, .ref (gq G 0))]) hx hb dX9_fitsBounds_1 rfl hl (by decide) rfl (fun ls hl => ?_)
  exact L2 FU _ _ hf (lv_sub hl [1, 0] rfl)
theorem m_X9_fitsBounds : Cond.instanceMethod yX9_fitsBounds ∈ lw_good ∧ Cond.selects RX9 yX9_fitsBounds yX9_fitsBounds ∈ lw_good ∧ Cond.initialized RX9 ∈ lw_good ∧ Cond.code yX9_fitsBounds cX9_fitsBounds 2 (some .boolean) ∈ lw_good := by decide +kernel
theorem k_X9_fitsBounds {p : Program} {l : Launch} {e : Env} {R : Room} {s : State} {m : MethodId} {args : Array Value} {below : List Frame} {meth : Method} {c : Code} {H : Heap} {locs : List Loc} {cells slots : Nat} {Q : State → Prop} {cc : ByteArray} {nL pc idx : Nat} {ls : Array Slot} {rest : List Value} {own : String} {G : Gm} {A : Nat → Prop} {H0 : Heap} {la : Nat} {w : CW} {r : Int32} (X : CX own cc nL G p s m args c) (h : CH G (cw G la w) A H0 H locs) (hf : f_X9_fitsBounds w = some r) (hlk : Cond.methodLink own idx yX9_fitsBounds ∈ lw_good) (hd : decode cc pc = .ok (.invokevirtual idx, 3)) (hsz : ls.size = nL) (hR : 2 ≤ R.frames ∧ 42 ≤ R.locals) (hrest : (rest.map fun v => v.category).sum ≤ 8) (hk : cells ≤ R.cells ∧ slots ≤ R.slots) (k : W p l e R s m args below meth c H locs cells slots Q (F0 m (pc + 3) ls (.int r :: rest))) : W p l e R s m args below meth c H locs cells slots Q (F0 m pc ls (.ref (gq G 0) :: rest)) :=
  fin_r (runV (As := []) X.1 0 (t_X9_fitsBounds l G la w r hf) rfl rfl hlk m_X9_fitsBounds (by decide +kernel) ⟨hR.1, hR.2⟩ ⟨blindR, va_recv X.2.1 h.1 (ci := 8) (q0 := 0) rfl rfl, preR X.2 h⟩ rfl hsz hrest hd hk) k
def f_X9_whyNoRun_l62_body (kself : (Int32 → Int32 → Int32 → Int32 → CW → Option (Int32 × CW))) (x1 : Int32) (x2 : Int32) (x3 : Int32) (x4 : Int32) (w : CW) : Option (Int32 × CW) :=
 if x3 ≤ x4 then
 (some ((0 : Int32), w))
 else
 ((f_X9_stepCell x2 x4).bind fun y2 =>
 (f_X1_get y2 w).bind fun y3 =>
 (f_X9_kindOf y3).bind fun y4 =>
 (f_X9_kindAt x1 w).bind fun y5 =>
 chk (y5 < 5) (
 (fv_canDo y5 y4 w).bind fun y6 =>
 if y6 = 0 then
 (some ((5 : Int32), w))
 else
 ((f_X9_askWishes x1 y4 w).bind fun y9 =>
 (f_X9_fitsBounds y9).bind fun y10 =>
 if y10 = 0 then
 (some ((12 : Int32), y9))
 else
 (kself x1 x2 x3 (x4 + (1 : Int32)) y9))))
def f_X9_whyNoRun_l62 : Nat → Int32 → Int32 → Int32 → Int32 → CW → Option (Int32 × CW)
  | 0, _, _, _, _, _ => none
  | n + 1, x1, x2, x3, x4, w => f_X9_whyNoRun_l62_body (f_X9_whyNoRun_l62 n) x1 x2 x3 x4 w
def f_X9_whyNoRun (x1 : Int32) (x2 : Int32) (w : CW) : Option (Int32 × CW) :=
 (f_X9_isBusy x1 w).bind fun y12 =>
 if y12 = 0 then
 ((f_X9_hasProgram x2 w).bind fun y14 =>
 if y14 = 0 then
 (some ((3 : Int32), w))
 else
 ((f_X9_read x1 ((9 : Int32)) w).bind fun y16 =>
 if y16 = 0 then
 (some ((2 : Int32), w))
 else
 ((f_X9_read x1 ((5 : Int32)) w).bind fun y18 =>
 if y18 = 0 then
 (some ((8 : Int32), w))
 else
 ((f_J7_fill_53178 10 3 ((0 : Int32)) w).bind fun y20 =>
 (f_X9_lengthOf x2 y20).bind fun y21 =>
 f_X9_whyNoRun_l62 FU x1 x2 y21 ((0 : Int32)) y20))))
 else
 (some ((7 : Int32), w))
set_option maxHeartbeats 4000000 in
set_option maxRecDepth 100000 in
theorem t_X9_whyNoRun (l : Launch) (G : Gm) (la : Nat) (w0 : CW) (x1 : Int32) (x2 : Int32) (r : Int32) (w' : CW) (hf : f_X9_whyNoRun x1 x2 w0 = some (r, w')) : MetI l yX9_whyNoRun cX9_whyNoRun 6 (some .int) 6 133 G (cw G la w0) [.ref (gq G 0), .int x1, .int x2] r (fun _ => cw G la (w')) 0 := by
  intro sz
  refine ent (own := RX9) (As := [.ref (gq G 0), .int x1, .int x2]) (by decide +kernel) rfl (Nat.le_of_ble_eq_true rfl) (fun _ _ h => h.1) ?_
  intro p e s m args below meth c ls B hr hlocks hv hl
  obtain ⟨-, hsz, hP, hKK, hD⟩ := hv
  subst hsz
  have X : CX RX9 cX9_whyNoRun 6 G p s m args c := ⟨B, hKK⟩
  obtain ⟨hx, hb, hml, hown, hts⟩ := id B
  have hA : ∀ q : Nat, s.heap.size ≤ q → va_A (cw G la w0) s.heap.size q := fun q z => Or.inr z
  have h : CH G (cw G la w0) (va_A (cw G la w0) s.heap.size) s.heap s.heap [] := ⟨hP, hD.self, va_S.rf⟩
  have L62 : ∀ (n62 : Nat) (x1 : Int32) (x2 : Int32) (x3 : Int32) (x4 : Int32) (w : CW) (H : Heap) (locs : List Loc) (ls : Array Slot), f_X9_whyNoRun_l62 n62 x1 x2 x3 x4 w = some (r, w') → CH G (cw G la w) (va_A (cw G la w0) s.heap.size) s.heap H locs → lv_has ls 6 [(0, .ref (gq G 0)), (1, .int x1), (2, .int x2), (3, .int x3), (4, .int x4)] → W p l e { frames := 6, cells := 0, slots := 4096 * 0, locals := 133 } s m args below meth c H locs 0 (4096 * 0) (MQ below (QI G (cw G la w0) s.heap.size r (fun _ => cw G la (w'))) args s 0 (4096 * 0) (va_A (cw G la w0) s.heap.size)) (F0 m 62 ls []) := by
    intro n62
    induction n62 with
    | zero =>
      intro x1 x2 x3 x4 w H locs ls hf h hl
      cases (show (none : Option (Int32 × CW)) = some _ from hf)
    | succ n62 ih62 =>
      intro x1 x2 x3 x4 w H locs ls hf h hl
      have hf : f_X9_whyNoRun_l62_body (f_X9_whyNoRun_l62 n62) x1 x2 x3 x4 w = _ := hf
      unfold f_X9_whyNoRun_l62_body at hf
      refine lv_iload hx hb dX9_whyNoRun_62 (lv_at hl 4 rfl) ?_
      refine lv_iload_n hx hb dX9_whyNoRun_64 rfl (lv_at hl 3 rfl) ?_
      refine lv_icmp_ge (tgt := 124) hx hb dX9_whyNoRun_65 (by decide) (fun c1 => ?_) (fun c1 => ?_)
      · have hf := if_t c1 hf
        refine lv_iconst (v := 0) hx hb dX9_whyNoRun_124 (by decide) ?_
        exact e0_i (Wf := cw G la) X.1 hr hlocks hf h dX9_whyNoRun_125
      · have hf := if_f c1 hf
        refine lv_aload_n hx hb dX9_whyNoRun_68 rfl (lv_at hl 0 rfl) ?_
        refine GC_0_0 X h k_X9_12 dX9_whyNoRun_69 ?_
        refine lv_iload_n hx hb dX9_whyNoRun_72 rfl (lv_at hl 2 rfl) ?_
        refine lv_iload hx hb dX9_whyNoRun_73 (lv_at hl 4 rfl) ?_
        obtain ⟨y2, ey2, hf⟩ := bnd_some hf
        refine k_X9_stepCell X.1 ey2 k_X9_166 dX9_whyNoRun_75 hl.1 ⟨(Nat.le_of_ble_eq_true rfl), (Nat.le_of_ble_eq_true rfl)⟩ (Nat.le_of_ble_eq_true rfl) ⟨Nat.zero_le _, Nat.zero_le _⟩ ?_
        obtain ⟨y3, ey3, hf⟩ := bnd_some hf
        refine k_X1_get X h ey3 k_X9_175 dX9_whyNoRun_78 hl.1 ⟨(Nat.le_of_ble_eq_true rfl), (Nat.le_of_ble_eq_true rfl)⟩ (Nat.le_of_ble_eq_true rfl) ⟨Nat.zero_le _, Nat.zero_le _⟩ ?_
        obtain ⟨y4, ey4, hf⟩ := bnd_some hf
        refine k_X9_kindOf X.1 ey4 k_X9_263 dX9_whyNoRun_81 hl.1 ⟨(Nat.le_of_ble_eq_true rfl), (Nat.le_of_ble_eq_true rfl)⟩ (Nat.le_of_ble_eq_true rfl) ⟨Nat.zero_le _, Nat.zero_le _⟩ ?_
        refine lv_istore (lv' := [(5, .int y4), (0, .ref (gq G 0)), (1, .int x1), (2, .int x2), (3, .int x3), (4, .int x4)]) hx hb dX9_whyNoRun_84 hl (by decide) rfl (fun ls hl => ?_)
        refine lv_aload_n hx hb dX9_whyNoRun_86 rfl (lv_at hl 1 rfl) ?_
        refine lv_iload_n hx hb dX9_whyNoRun_87 rfl (lv_at hl 2 rfl) ?_
        obtain ⟨y5, ey5, hf⟩ := bnd_some hf
        refine k_X9_kindAt X h ey5 k_X9_123 dX9_whyNoRun_88 hl.1 ⟨(Nat.le_of_ble_eq_true rfl), (Nat.le_of_ble_eq_true rfl)⟩ (Nat.le_of_ble_eq_true rfl) ⟨Nat.zero_le _, Nat.zero_le _⟩ ?_
        refine lv_iload hx hb dX9_whyNoRun_91 (lv_at hl 0 rfl) ?_
        obtain ⟨c7, hf⟩ := chk_some hf
        obtain ⟨y6, ey6, hf⟩ := bnd_some hf
        refine kv_canDo X h c7 ey6 k_X9_266 dX9_whyNoRun_93 hl.1 ⟨(Nat.le_of_ble_eq_true rfl), (Nat.le_of_ble_eq_true rfl)⟩ (Nat.le_of_ble_eq_true rfl) ⟨Nat.zero_le _, Nat.zero_le _⟩ ?_
        refine lv_if_ne (tgt := 101) hx hb dX9_whyNoRun_96 (by decide) (fun c8 => ?_) (fun c8 => ?_)
        · have hf := if_f c8 hf
          refine lv_aload_n hx hb dX9_whyNoRun_101 rfl (lv_at hl 1 rfl) ?_
          refine lv_iload_n hx hb dX9_whyNoRun_102 rfl (lv_at hl 2 rfl) ?_
          refine lv_iload hx hb dX9_whyNoRun_103 (lv_at hl 0 rfl) ?_
          obtain ⟨y9, ey9, hf⟩ := bnd_some hf
          refine k_X9_askWishes X h hA ey9 k_X9_269 dX9_whyNoRun_105 hl.1 ⟨(Nat.le_of_ble_eq_true rfl), (Nat.le_of_ble_eq_true rfl)⟩ (Nat.le_of_ble_eq_true rfl) ⟨Nat.zero_le _, Nat.zero_le _⟩ (fun H locs h => ?_)
          refine lv_aload_n hx hb dX9_whyNoRun_108 rfl (lv_at hl 1 rfl) ?_
          obtain ⟨y10, ey10, hf⟩ := bnd_some hf
          refine k_X9_fitsBounds X h ey10 k_X9_272 dX9_whyNoRun_109 hl.1 ⟨(Nat.le_of_ble_eq_true rfl), (Nat.le_of_ble_eq_true rfl)⟩ (Nat.le_of_ble_eq_true rfl) ⟨Nat.zero_le _, Nat.zero_le _⟩ ?_
          refine lv_if_ne (tgt := 118) hx hb dX9_whyNoRun_112 (by decide) (fun c11 => ?_) (fun c11 => ?_)
          · have hf := if_f c11 hf
            refine lv_iinc (v := x4 + (1 : Int32)) (lv' := [(4, .int (x4 + (1 : Int32))), (5, .int y4), (0, .ref (gq G 0)), (1, .int x1), (2, .int x2), (3, .int x3)]) hx hb dX9_whyNoRun_118 hl (k := 5) rfl (by rfl) (by decide) rfl (fun ls hl => ?_)
            refine lv_goto (tgt := 62) hx hb dX9_whyNoRun_121 (by decide) ?_
            exact ih62 _ _ _ _ _ _ _ _ hf h (lv_sub hl [2, 3, 4, 5, 0] rfl)
          · have hf := if_t c11 hf
            refine lv_bipush (v := 12) hx hb dX9_whyNoRun_115 (by decide) ?_
            exact e0_i (Wf := cw G la) X.1 hr hlocks hf h dX9_whyNoRun_117
        · have hf := if_t c8 hf
          refine lv_iconst (v := 5) hx hb dX9_whyNoRun_99 (by decide) ?_
          exact e0_i (Wf := cw G la) X.1 hr hlocks hf h dX9_whyNoRun_100
  obtain ⟨w, rfl⟩ : ∃ z, z = w0 := ⟨_, rfl⟩
  have hl : lv_has ls 6 [(0, .ref (gq G 0)), (1, .int x1), (2, .int x2)] := hl
  unfold f_X9_whyNoRun at hf
  refine lv_aload_n hx hb dX9_whyNoRun_0 rfl (lv_at hl 0 rfl) ?_
  refine lv_iload_n hx hb dX9_whyNoRun_1 rfl (lv_at hl 1 rfl) ?_
  obtain ⟨y12, ey12, hf⟩ := bnd_some hf
  refine k_X9_isBusy X h ey12 k_X9_236 dX9_whyNoRun_2 hl.1 ⟨(Nat.le_of_ble_eq_true rfl), (Nat.le_of_ble_eq_true rfl)⟩ (Nat.le_of_ble_eq_true rfl) ⟨Nat.zero_le _, Nat.zero_le _⟩ ?_
  refine lv_if_eq (tgt := 11) hx hb dX9_whyNoRun_5 (by decide) (fun c13 => ?_) (fun c13 => ?_)
  · have hf := if_t c13 hf
    refine lv_aload_n hx hb dX9_whyNoRun_11 rfl (lv_at hl 0 rfl) ?_
    refine lv_iload_n hx hb dX9_whyNoRun_12 rfl (lv_at hl 2 rfl) ?_
    obtain ⟨y14, ey14, hf⟩ := bnd_some hf
    refine k_X9_hasProgram X h ey14 k_X9_169 dX9_whyNoRun_13 hl.1 ⟨(Nat.le_of_ble_eq_true rfl), (Nat.le_of_ble_eq_true rfl)⟩ (Nat.le_of_ble_eq_true rfl) ⟨Nat.zero_le _, Nat.zero_le _⟩ ?_
    refine lv_if_ne (tgt := 21) hx hb dX9_whyNoRun_16 (by decide) (fun c15 => ?_) (fun c15 => ?_)
    · have hf := if_f c15 hf
      refine lv_aload_n hx hb dX9_whyNoRun_21 rfl (lv_at hl 0 rfl) ?_
      refine lv_iload_n hx hb dX9_whyNoRun_22 rfl (lv_at hl 1 rfl) ?_
      refine lv_bipush (v := 9) hx hb dX9_whyNoRun_23 (by decide) ?_
      obtain ⟨y16, ey16, hf⟩ := bnd_some hf
      refine k_X9_read X h ey16 k_X9_110 dX9_whyNoRun_25 hl.1 ⟨(Nat.le_of_ble_eq_true rfl), (Nat.le_of_ble_eq_true rfl)⟩ (Nat.le_of_ble_eq_true rfl) ⟨Nat.zero_le _, Nat.zero_le _⟩ ?_
      refine lv_if_ne (tgt := 33) hx hb dX9_whyNoRun_28 (by decide) (fun c17 => ?_) (fun c17 => ?_)
      · have hf := if_f c17 hf
        refine lv_aload_n hx hb dX9_whyNoRun_33 rfl (lv_at hl 0 rfl) ?_
        refine lv_iload_n hx hb dX9_whyNoRun_34 rfl (lv_at hl 1 rfl) ?_
        refine lv_iconst (v := 5) hx hb dX9_whyNoRun_35 (by decide) ?_
        obtain ⟨y18, ey18, hf⟩ := bnd_some hf
        refine k_X9_read X h ey18 k_X9_110 dX9_whyNoRun_36 hl.1 ⟨(Nat.le_of_ble_eq_true rfl), (Nat.le_of_ble_eq_true rfl)⟩ (Nat.le_of_ble_eq_true rfl) ⟨Nat.zero_le _, Nat.zero_le _⟩ ?_
        refine lv_if_ne (tgt := 45) hx hb dX9_whyNoRun_39 (by decide) (fun c19 => ?_) (fun c19 => ?_)
        · have hf := if_f c19 hf
          refine lv_aload_n hx hb dX9_whyNoRun_45 rfl (lv_at hl 0 rfl) ?_
          refine GC_0_9 X h k_X9_71 dX9_whyNoRun_46 ?_
          refine lv_iconst (v := 0) hx hb dX9_whyNoRun_49 (by decide) ?_
          obtain ⟨y20, ey20, hf⟩ := bnd_some hf
          refine k_J7_fill_53178 X h hA (by unfold arrP; omega) ey20 k_X9_248 dX9_whyNoRun_50 hl.1 ⟨(Nat.le_of_ble_eq_true rfl), (Nat.le_of_ble_eq_true rfl)⟩ (Nat.le_of_ble_eq_true rfl) ⟨Nat.zero_le _, Nat.zero_le _⟩ (fun H locs h => ?_)
          refine lv_aload_n hx hb dX9_whyNoRun_53 rfl (lv_at hl 0 rfl) ?_
          refine lv_iload_n hx hb dX9_whyNoRun_54 rfl (lv_at hl 2 rfl) ?_
          obtain ⟨y21, ey21, hf⟩ := bnd_some hf
          refine k_X9_lengthOf X h ey21 k_X9_172 dX9_whyNoRun_55 hl.1 ⟨(Nat.le_of_ble_eq_true rfl), (Nat.le_of_ble_eq_true rfl)⟩ (Nat.le_of_ble_eq_true rfl) ⟨Nat.zero_le _, Nat.zero_le _⟩ ?_
          refine lv_istore_n (lv' := [(3, .int y21), (0, .ref (gq G 0)), (1, .int x1), (2, .int x2)]) hx hb dX9_whyNoRun_58 rfl hl (by decide) rfl (fun ls hl => ?_)
          refine lv_iconst (v := 0) hx hb dX9_whyNoRun_59 (by decide) ?_
          refine lv_istore (lv' := [(4, .int ((0 : Int32))), (3, .int y21), (0, .ref (gq G 0)), (1, .int x1), (2, .int x2)]) hx hb dX9_whyNoRun_60 hl (by decide) rfl (fun ls hl => ?_)
          exact L62 FU _ _ _ _ _ _ _ _ hf h (lv_sub hl [2, 3, 4, 1, 0] rfl)
        · have hf := if_t c19 hf
          refine lv_bipush (v := 8) hx hb dX9_whyNoRun_42 (by decide) ?_
          exact e0_i (Wf := cw G la) X.1 hr hlocks hf h dX9_whyNoRun_44
      · have hf := if_t c17 hf
        refine lv_iconst (v := 2) hx hb dX9_whyNoRun_31 (by decide) ?_
        exact e0_i (Wf := cw G la) X.1 hr hlocks hf h dX9_whyNoRun_32
    · have hf := if_t c15 hf
      refine lv_iconst (v := 3) hx hb dX9_whyNoRun_19 (by decide) ?_
      exact e0_i (Wf := cw G la) X.1 hr hlocks hf h dX9_whyNoRun_20
  · have hf := if_f c13 hf
    refine lv_bipush (v := 7) hx hb dX9_whyNoRun_8 (by decide) ?_
    exact e0_i (Wf := cw G la) X.1 hr hlocks hf h dX9_whyNoRun_10
theorem m_X9_whyNoRun : Cond.instanceMethod yX9_whyNoRun ∈ lw_good ∧ Cond.selects RX9 yX9_whyNoRun yX9_whyNoRun ∈ lw_good ∧ Cond.initialized RX9 ∈ lw_good ∧ Cond.code yX9_whyNoRun cX9_whyNoRun 6 (some .int) ∈ lw_good := by decide +kernel
theorem k_X9_whyNoRun {p : Program} {l : Launch} {e : Env} {R : Room} {s : State} {m : MethodId} {args : Array Value} {below : List Frame} {meth : Method} {c : Code} {H : Heap} {locs : List Loc} {cells slots : Nat} {Q : State → Prop} {cc : ByteArray} {nL pc idx : Nat} {ls : Array Slot} {rest : List Value} {own : String} {G : Gm} {A : Nat → Prop} {H0 : Heap} {la : Nat} {w : CW} {x1 : Int32} {x2 : Int32} {y : Int32 × CW} (X : CX own cc nL G p s m args c) (h : CH G (cw G la w) A H0 H locs) (hA : ∀ q, H0.size ≤ q → A q) (hf : f_X9_whyNoRun x1 x2 w = some y) (hlk : Cond.methodLink own idx yX9_whyNoRun ∈ lw_good) (hd : decode cc pc = .ok (.invokevirtual idx, 3)) (hsz : ls.size = nL) (hR : 7 ≤ R.frames ∧ 158 ≤ R.locals) (hrest : (rest.map fun v => v.category).sum ≤ 8) (hk : cells ≤ R.cells ∧ slots ≤ R.slots) (k : ∀ (H : Heap) (locs : List Loc), CH G (cw G la y.2) A H0 H locs → W p l e R s m args below meth c H locs cells slots Q (F0 m (pc + 3) ls (.int y.1 :: rest))) : W p l e R s m args below meth c H locs cells slots Q (F0 m pc ls (.int x2 :: .int x1 :: .ref (gq G 0) :: rest)) :=
  fin_i (n := 0) (runV (As := [.int x1, .int x2]) X.1 2 (t_X9_whyNoRun l G la w x1 x2 y.1 y.2 hf _) rfl rfl hlk m_X9_whyNoRun (by decide +kernel) ⟨hR.1, hR.2⟩ ⟨blindM, va_recv X.2.1 h.1 (ci := 8) (q0 := 0) rfl rfl, preM X.2 h⟩ rfl hsz hrest hd hk) h hA (fun _ H locs h => k H locs h)
def f_X9_drainOff (x1 : Int32) (w : CW) : Option (CW × Nat) :=
 (f_X9_read x1 ((4 : Int32)) w).bind fun y1 =>
 bnc (f_X1_add ((8555 : Int32)) y1 w) fun y2 =>
 bnc (f_X9_write x1 ((4 : Int32)) ((0 : Int32)) y2) fun y3 =>
 some (y3, 0)
set_option maxHeartbeats 4000000 in
set_option maxRecDepth 100000 in
theorem t_X9_drainOff (l : Launch) (G : Gm) (la0 : Nat) (w0 : CW) (x1 : Int32) (w' : CW) (N : Nat) (hf : f_X9_drainOff x1 w0 = some (w', N)) : MetV l yX9_drainOff cX9_drainOff 2 5 136 G (cw G la0 w0) [.ref (gq G 0), .int x1] (fun u => cw G u w') N := by
  intro sz
  refine ent (own := RX9) (As := [.ref (gq G 0), .int x1]) (by decide +kernel) rfl (Nat.le_of_ble_eq_true rfl) (fun _ _ h => h.1) ?_
  intro p e s m args below meth c ls B hr hlocks hv hl
  obtain ⟨-, hsz, hP, hKK, hD⟩ := hv
  subst hsz
  have X : CX RX9 cX9_drainOff 2 G p s m args c := ⟨B, hKK⟩
  obtain ⟨hx, hb, hml, hown, hts⟩ := id B
  have hA : ∀ q : Nat, s.heap.size ≤ q → va_A (cw G la0 w0) s.heap.size q := fun q z => Or.inr z
  have h : CH G (cw G la0 w0) (va_A (cw G la0 w0) s.heap.size) s.heap s.heap [] := ⟨hP, hD.self, va_S.rf⟩
  have hc : 0 + N = N := Nat.zero_add N
  obtain ⟨la, rfl⟩ : ∃ z, z = la0 := ⟨_, rfl⟩
  obtain ⟨w, rfl⟩ : ∃ z, z = w0 := ⟨_, rfl⟩
  have hl : lv_has ls 2 [(0, .ref (gq G 0)), (1, .int x1)] := hl
  unfold f_X9_drainOff at hf
  refine wid0 ?_
  refine lv_aload_n hx hb dX9_drainOff_0 rfl (lv_at hl 0 rfl) ?_
  refine GC_0_0 X h k_X9_12 dX9_drainOff_1 ?_
  refine lv_sipush (v := 8555) hx hb dX9_drainOff_4 (by decide) ?_
  refine lv_aload_n hx hb dX9_drainOff_7 rfl (lv_at hl 0 rfl) ?_
  refine lv_iload_n hx hb dX9_drainOff_8 rfl (lv_at hl 1 rfl) ?_
  refine lv_iconst (v := 4) hx hb dX9_drainOff_9 (by decide) ?_
  obtain ⟨y1, ey1, hf⟩ := bnd_some hf
  refine k_X9_read X h ey1 k_X9_110 dX9_drainOff_10 hl.1 ⟨(Nat.le_of_ble_eq_true rfl), (Nat.le_of_ble_eq_true rfl)⟩ (Nat.le_of_ble_eq_true rfl) (rmm0 hc) ?_
  obtain ⟨y2, ny2, my2, ey2, hf, jy2⟩ := bnc_some hf
  refine k_X1_add X h hA ey2 k_X9_193 dX9_drainOff_13 hl.1 ⟨(Nat.le_of_ble_eq_true rfl), (Nat.le_of_ble_eq_true rfl)⟩ (Nat.le_of_ble_eq_true rfl) (rmm1 hc jy2) (fun la H locs h => ?_)
  have hc := rmm2 hc jy2
  refine lv_aload_n hx hb dX9_drainOff_16 rfl (lv_at hl 0 rfl) ?_
  refine lv_iload_n hx hb dX9_drainOff_17 rfl (lv_at hl 1 rfl) ?_
  refine lv_iconst (v := 4) hx hb dX9_drainOff_18 (by decide) ?_
  refine lv_iconst (v := 0) hx hb dX9_drainOff_19 (by decide) ?_
  obtain ⟨y3, ny3, my3, ey3, hf, jy3⟩ := bnc_some hf
  refine k_X9_write X h hA ey3 k_X9_99 dX9_drainOff_20 hl.1 ⟨(Nat.le_of_ble_eq_true rfl), (Nat.le_of_ble_eq_true rfl)⟩ (Nat.le_of_ble_eq_true rfl) (rmm1 hc jy3) (fun la H locs h => ?_)
  have hc := rmm2 hc jy3
  exact e1_v X.1 hr hlocks hf h hc dX9_drainOff_23
theorem m_X9_drainOff : Cond.instanceMethod yX9_drainOff ∈ lw_good ∧ Cond.selects RX9 yX9_drainOff yX9_drainOff ∈ lw_good ∧ Cond.initialized RX9 ∈ lw_good ∧ Cond.code yX9_drainOff cX9_drainOff 2 none ∈ lw_good := by decide +kernel
theorem k_X9_drainOff {p : Program} {l : Launch} {e : Env} {R : Room} {s : State} {m : MethodId} {args : Array Value} {below : List Frame} {meth : Method} {c : Code} {H : Heap} {locs : List Loc} {cells : Nat} {Q : State → Prop} {cc : ByteArray} {nL pc idx : Nat} {ls : Array Slot} {rest : List Value} {own : String} {G : Gm} {A : Nat → Prop} {H0 : Heap} {la : Nat} {w : CW} {x1 : Int32} {w' : CW} {n : Nat} (X : CX own cc nL G p s m args c) (h : CH G (cw G la w) A H0 H locs) (hA : ∀ q, H0.size ≤ q → A q) (hf : f_X9_drainOff x1 w = some (w', n)) (hlk : Cond.methodLink own idx yX9_drainOff ∈ lw_good) (hd : decode cc pc = .ok (.invokevirtual idx, 3)) (hsz : ls.size = nL) (hR : 6 ≤ R.frames ∧ 157 ≤ R.locals) (hrest : (rest.map fun v => v.category).sum ≤ 8) (hk : cells + n ≤ R.cells ∧ 4096 * cells + 4096 * n ≤ R.slots) (k : ∀ (la : Nat) (H : Heap) (locs : List Loc), CH G (cw G la (w')) A H0 H locs → W p l e R s m args below meth c H locs (cells + n) (4096 * (cells + n)) Q (F0 m (pc + 3) ls (rest))) : W p l e R s m args below meth c H locs cells (4096 * cells) Q (F0 m pc ls (.int x1 :: .ref (gq G 0) :: rest)) :=
  fin_v (n := n) (runV (As := [.int x1]) X.1 1 (t_X9_drainOff l G la w x1 w' n hf _) rfl rfl hlk m_X9_drainOff (by decide +kernel) ⟨hR.1, hR.2⟩ ⟨blindM, va_recv X.2.1 h.1 (ci := 8) (q0 := 0) rfl rfl, preM X.2 h⟩ rfl hsz hrest hd hk) h hA (fun la H locs h => by rw [← Nat.mul_add]; exact k la H locs h)
def f_X9_endRun (x1 : Int32) (w : CW) : Option (CW × Nat) :=
 bnc (f_X9_drainOff x1 w) fun y1 =>
 bnc (f_X9_write x1 ((2 : Int32)) ((1 : Int32)) y1) fun y2 =>
 bnc (f_X9_write x1 ((3 : Int32)) ((1 : Int32)) y2) fun y3 =>
 bnc (f_X9_write x1 ((5 : Int32)) ((0 : Int32)) y3) fun y4 =>
 bnc (f_X9_write x1 ((6 : Int32)) ((0 : Int32)) y4) fun y5 =>
 bnc (f_X9_write x1 ((10 : Int32)) ((0 : Int32)) y5) fun y6 =>
 bnc (f_X9_write x1 ((11 : Int32)) ((0 : Int32)) y6) fun y7 =>
 bnc (f_X9_write x1 ((12 : Int32)) ((0 : Int32)) y7) fun y8 =>
 some (y8, 0)
set_option maxHeartbeats 4000000 in
set_option maxRecDepth 100000 in
theorem t_X9_endRun (l : Launch) (G : Gm) (la0 : Nat) (w0 : CW) (x1 : Int32) (w' : CW) (N : Nat) (hf : f_X9_endRun x1 w0 = some (w', N)) : MetV l yX9_endRun cX9_endRun 2 6 157 G (cw G la0 w0) [.ref (gq G 0), .int x1] (fun u => cw G u w') N := by
  intro sz
  refine ent (own := RX9) (As := [.ref (gq G 0), .int x1]) (by decide +kernel) rfl (Nat.le_of_ble_eq_true rfl) (fun _ _ h => h.1) ?_
  intro p e s m args below meth c ls B hr hlocks hv hl
  obtain ⟨-, hsz, hP, hKK, hD⟩ := hv
  subst hsz
  have X : CX RX9 cX9_endRun 2 G p s m args c := ⟨B, hKK⟩
  obtain ⟨hx, hb, hml, hown, hts⟩ := id B
  have hA : ∀ q : Nat, s.heap.size ≤ q → va_A (cw G la0 w0) s.heap.size q := fun q z => Or.inr z
  have h : CH G (cw G la0 w0) (va_A (cw G la0 w0) s.heap.size) s.heap s.heap [] := ⟨hP, hD.self, va_S.rf⟩
  have hc : 0 + N = N := Nat.zero_add N
  obtain ⟨la, rfl⟩ : ∃ z, z = la0 := ⟨_, rfl⟩
  obtain ⟨w, rfl⟩ : ∃ z, z = w0 := ⟨_, rfl⟩
  have hl : lv_has ls 2 [(0, .ref (gq G 0)), (1, .int x1)] := hl
  unfold f_X9_endRun at hf
  refine wid0 ?_
  refine lv_aload_n hx hb dX9_endRun_0 rfl (lv_at hl 0 rfl) ?_
  refine lv_iload_n hx hb dX9_endRun_1 rfl (lv_at hl 1 rfl) ?_
  obtain ⟨y1, ny1, my1, ey1, hf, jy1⟩ := bnc_some hf
  refine k_X9_drainOff X h hA ey1 k_X9_302 dX9_endRun_2 hl.1 ⟨(Nat.le_of_ble_eq_true rfl), (Nat.le_of_ble_eq_true rfl)⟩ (Nat.le_of_ble_eq_true rfl) (rmm1 hc jy1) (fun la H locs h => ?_)
  have hc := rmm2 hc jy1
  refine lv_aload_n hx hb dX9_endRun_5 rfl (lv_at hl 0 rfl) ?_
  refine lv_iload_n hx hb dX9_endRun_6 rfl (lv_at hl 1 rfl) ?_
  refine lv_iconst (v := 2) hx hb dX9_endRun_7 (by decide) ?_
  refine lv_iconst (v := 1) hx hb dX9_endRun_8 (by decide) ?_
  obtain ⟨y2, ny2, my2, ey2, hf, jy2⟩ := bnc_some hf
  refine k_X9_write X h hA ey2 k_X9_99 dX9_endRun_9 hl.1 ⟨(Nat.le_of_ble_eq_true rfl), (Nat.le_of_ble_eq_true rfl)⟩ (Nat.le_of_ble_eq_true rfl) (rmm1 hc jy2) (fun la H locs h => ?_)
  have hc := rmm2 hc jy2
  refine lv_aload_n hx hb dX9_endRun_12 rfl (lv_at hl 0 rfl) ?_
  refine lv_iload_n hx hb dX9_endRun_13 rfl (lv_at hl 1 rfl) ?_
  refine lv_iconst (v := 3) hx hb dX9_endRun_14 (by decide) ?_
  refine lv_iconst (v := 1) hx hb dX9_endRun_15 (by decide) ?_
  obtain ⟨y3, ny3, my3, ey3, hf, jy3⟩ := bnc_some hf
  refine k_X9_write X h hA ey3 k_X9_99 dX9_endRun_16 hl.1 ⟨(Nat.le_of_ble_eq_true rfl), (Nat.le_of_ble_eq_true rfl)⟩ (Nat.le_of_ble_eq_true rfl) (rmm1 hc jy3) (fun la H locs h => ?_)
  have hc := rmm2 hc jy3
  refine lv_aload_n hx hb dX9_endRun_19 rfl (lv_at hl 0 rfl) ?_
  refine lv_iload_n hx hb dX9_endRun_20 rfl (lv_at hl 1 rfl) ?_
  refine lv_iconst (v := 5) hx hb dX9_endRun_21 (by decide) ?_
  refine lv_iconst (v := 0) hx hb dX9_endRun_22 (by decide) ?_
  obtain ⟨y4, ny4, my4, ey4, hf, jy4⟩ := bnc_some hf
  refine k_X9_write X h hA ey4 k_X9_99 dX9_endRun_23 hl.1 ⟨(Nat.le_of_ble_eq_true rfl), (Nat.le_of_ble_eq_true rfl)⟩ (Nat.le_of_ble_eq_true rfl) (rmm1 hc jy4) (fun la H locs h => ?_)
  have hc := rmm2 hc jy4
  refine lv_aload_n hx hb dX9_endRun_26 rfl (lv_at hl 0 rfl) ?_
  refine lv_iload_n hx hb dX9_endRun_27 rfl (lv_at hl 1 rfl) ?_
  refine lv_bipush (v := 6) hx hb dX9_endRun_28 (by decide) ?_
  refine lv_iconst (v := 0) hx hb dX9_endRun_30 (by decide) ?_
  obtain ⟨y5, ny5, my5, ey5, hf, jy5⟩ := bnc_some hf
  refine k_X9_write X h hA ey5 k_X9_99 dX9_endRun_31 hl.1 ⟨(Nat.le_of_ble_eq_true rfl), (Nat.le_of_ble_eq_true rfl)⟩ (Nat.le_of_ble_eq_true rfl) (rmm1 hc jy5) (fun la H locs h => ?_)
  have hc := rmm2 hc jy5
  refine lv_aload_n hx hb dX9_endRun_34 rfl (lv_at hl 0 rfl) ?_
  refine lv_iload_n hx hb dX9_endRun_35 rfl (lv_at hl 1 rfl) ?_
  refine lv_bipush (v := 10) hx hb dX9_endRun_36 (by decide) ?_
  refine lv_iconst (v := 0) hx hb dX9_endRun_38 (by decide) ?_
  obtain ⟨y6, ny6, my6, ey6, hf, jy6⟩ := bnc_some hf
  refine k_X9_write X h hA ey6 k_X9_99 dX9_endRun_39 hl.1 ⟨(Nat.le_of_ble_eq_true rfl), (Nat.le_of_ble_eq_true rfl)⟩ (Nat.le_of_ble_eq_true rfl) (rmm1 hc jy6) (fun la H locs h => ?_)
  have hc := rmm2 hc jy6
  refine lv_aload_n hx hb dX9_endRun_42 rfl (lv_at hl 0 rfl) ?_
  refine lv_iload_n hx hb dX9_endRun_43 rfl (lv_at hl 1 rfl) ?_
  refine lv_bipush (v := 11) hx hb dX9_endRun_44 (by decide) ?_
  refine lv_iconst (v := 0) hx hb dX9_endRun_46 (by decide) ?_
  obtain ⟨y7, ny7, my7, ey7, hf, jy7⟩ := bnc_some hf
  refine k_X9_write X h hA ey7 k_X9_99 dX9_endRun_47 hl.1 ⟨(Nat.le_of_ble_eq_true rfl), (Nat.le_of_ble_eq_true rfl)⟩ (Nat.le_of_ble_eq_true rfl) (rmm1 hc jy7) (fun la H locs h => ?_)
  have hc := rmm2 hc jy7
  refine lv_aload_n hx hb dX9_endRun_50 rfl (lv_at hl 0 rfl) ?_
  refine lv_iload_n hx hb dX9_endRun_51 rfl (lv_at hl 1 rfl) ?_
  refine lv_bipush (v := 12) hx hb dX9_endRun_52 (by decide) ?_
  refine lv_iconst (v := 0) hx hb dX9_endRun_54 (by decide) ?_
  obtain ⟨y8, ny8, my8, ey8, hf, jy8⟩ := bnc_some hf
  refine k_X9_write X h hA ey8 k_X9_99 dX9_endRun_55 hl.1 ⟨(Nat.le_of_ble_eq_true rfl), (Nat.le_of_ble_eq_true rfl)⟩ (Nat.le_of_ble_eq_true rfl) (rmm1 hc jy8) (fun la H locs h => ?_)
  have hc := rmm2 hc jy8
  exact e1_v X.1 hr hlocks hf h hc dX9_endRun_58
theorem m_X9_endRun : Cond.instanceMethod yX9_endRun ∈ lw_good ∧ Cond.selects RX9 yX9_endRun yX9_endRun ∈ lw_good ∧ Cond.initialized RX9 ∈ lw_good ∧ Cond.code yX9_endRun cX9_endRun 2 none ∈ lw_good := by decide +kernel
theorem k_X9_endRun {p : Program} {l : Launch} {e : Env} {R : Room} {s : State} {m : MethodId} {args : Array Value} {below : List Frame} {meth : Method} {c : Code} {H : Heap} {locs : List Loc} {cells : Nat} {Q : State → Prop} {cc : ByteArray} {nL pc idx : Nat} {ls : Array Slot} {rest : List Value} {own : String} {G : Gm} {A : Nat → Prop} {H0 : Heap} {la : Nat} {w : CW} {x1 : Int32} {w' : CW} {n : Nat} (X : CX own cc nL G p s m args c) (h : CH G (cw G la w) A H0 H locs) (hA : ∀ q, H0.size ≤ q → A q) (hf : f_X9_endRun x1 w = some (w', n)) (hlk : Cond.methodLink own idx yX9_endRun ∈ lw_good) (hd : decode cc pc = .ok (.invokevirtual idx, 3)) (hsz : ls.size = nL) (hR : 7 ≤ R.frames ∧ 178 ≤ R.locals) (hrest : (rest.map fun v => v.category).sum ≤ 8) (hk : cells + n ≤ R.cells ∧ 4096 * cells + 4096 * n ≤ R.slots) (k : ∀ (la : Nat) (H : Heap) (locs : List Loc), CH G (cw G la (w')) A H0 H locs → W p l e R s m args below meth c H locs (cells + n) (4096 * (cells + n)) Q (F0 m (pc + 3) ls (rest))) : W p l e R s m args below meth c H locs cells (4096 * cells) Q (F0 m pc ls (.int x1 :: .ref (gq G 0) :: rest)) :=
  fin_v (n := n) (runV (As := [.int x1]) X.1 1 (t_X9_endRun l G la w x1 w' n hf _) rfl rfl hlk m_X9_endRun (by decide +kernel) ⟨hR.1, hR.2⟩ ⟨blindM, va_recv X.2.1 h.1 (ci := 8) (q0 := 0) rfl rfl, preM X.2 h⟩ rfl hsz hrest hd hk) h hA (fun la H locs h => by rw [← Nat.mul_add]; exact k la H locs h)
def f_X9_beginRun_b74 (x1 : Int32) (x3 : Int32) (xs1 : Int32) (xs2 : Int32) (xs3 : Int32) (w : CW) : Option (CW × Nat) :=
 bnc (f_X9_write xs1 xs2 xs3 w) fun y1 =>
 bnc (f_X9_write x1 ((2 : Int32)) ((0 : Int32)) y1) fun y2 =>
 bnc (f_X9_write x1 ((3 : Int32)) ((2 : Int32)) y2) fun y3 =>
 bnc (f_X9_grow x1 ((33 : Int32)) ((1 : Int32)) y3) fun y4 =>
 bnc (f_X1_set ((8551 : Int32)) ((1 : Int32)) y4) fun y5 =>
 if x3 = 0 then
 (bnc (f_X9_endRun x1 y5) fun y7 =>
 some (y7, 0))
 else
 (some (y5, 0))
def f_X9_beginRun_l9_body (kself : (Int32 → Int32 → Int32 → Int32 → CW → Option (CW × Nat))) (x1 : Int32) (x2 : Int32) (x3 : Int32) (x4 : Int32) (w : CW) : Option (CW × Nat) :=
 if x3 ≤ x4 then
 (bnc (f_X9_write x1 ((10 : Int32)) x3 w) fun y9 =>
 if x3 = 0 then
 (f_X9_beginRun_b74 x1 x3 x1 ((12 : Int32)) ((0 : Int32)) y9)
 else
 ((f_X9_read x1 ((48 : Int32)) y9).bind fun y11 =>
 (f_X9_minutesOf y11).bind fun y12 =>
 f_X9_beginRun_b74 x1 x3 x1 ((12 : Int32)) y12 y9))
 else
 ((f_X9_stepCell x2 x4).bind fun y13 =>
 (f_X1_get y13 w).bind fun y14 =>
 bnc (f_X9_write x1 (((48 : Int32)) + x4) y14 w) fun y15 =>
 kself x1 x2 x3 (x4 + (1 : Int32)) y15)
def f_X9_beginRun_l9 : Nat → Int32 → Int32 → Int32 → Int32 → CW → Option (CW × Nat)
  | 0, _, _, _, _, _ => none
  | n + 1, x1, x2, x3, x4, w => f_X9_beginRun_l9_body (f_X9_beginRun_l9 n) x1 x2 x3 x4 w
def f_X9_beginRun (x1 : Int32) (x2 : Int32) (w : CW) : Option (CW × Nat) :=
 (f_X9_lengthOf x2 w).bind fun y16 =>
 f_X9_beginRun_l9 FU x1 x2 y16 ((0 : Int32)) w
set_option maxHeartbeats 4000000 in
set_option maxRecDepth 100000 in
theorem t_X9_beginRun (l : Launch) (G : Gm) (la0 : Nat) (w0 : CW) (x1 : Int32) (x2 : Int32) (w' : CW) (N : Nat) (hf : f_X9_beginRun x1 x2 w0 = some (w', N)) : MetV l yX9_beginRun cX9_beginRun 5 7 178 G (cw G la0 w0) [.ref (gq G 0), .int x1, .int x2] (fun u => cw G u w') N := by
  intro sz
  refine ent (own := RX9) (As := [.ref (gq G 0), .int x1, .int x2]) (by decide +kernel) rfl (Nat.le_of_ble_eq_true rfl) (fun _ _ h => h.1) ?_
  intro p e s m args below meth c ls B hr hlocks hv hl
  obtain ⟨-, hsz, hP, hKK, hD⟩ := hv
  subst hsz
  have X : CX RX9 cX9_beginRun 5 G p s m args c := ⟨B, hKK⟩
  obtain ⟨hx, hb, hml, hown, hts⟩ := id B
  have hA : ∀ q : Nat, s.heap.size ≤ q → va_A (cw G la0 w0) s.heap.size q := fun q z => Or.inr z
  have h : CH G (cw G la0 w0) (va_A (cw G la0 w0) s.heap.size) s.heap s.heap [] := ⟨hP, hD.self, va_S.rf⟩
  have hc : 0 + N = N := Nat.zero_add N
  have J74 : ∀ (x1 : Int32) (x3 : Int32) (xs1 : Int32) (xs2 : Int32) (xs3 : Int32) (w : CW) (la : Nat) (H : Heap) (locs : List Loc) (ls : Array Slot) (k n : Nat), f_X9_beginRun_b74 x1 x3 xs1 xs2 xs3 w = some (w', n) → CH G (cw G la w) (va_A (cw G la0 w0) s.heap.size) s.heap H locs → lv_has ls 5 [(0, .ref (gq G 0)), (1, .int x1), (3, .int x3)] → k + n = N → W p l e { frames := 7, cells := N, slots := 4096 * N, locals := 178 } s m args below meth c H locs k (4096 * k) (MQ below (QV G (cw G la0 w0) s.heap.size (fun u => cw G u w')) args s N (4096 * N) (va_A (cw G la0 w0) s.heap.size)) (F0 m 74 ls [.int xs3, .int xs2, .int xs1, .ref (gq G 0)]) := by
    intro x1 x3 xs1 xs2 xs3 w la H locs ls k n hf h hl hc
    unfold f_X9_beginRun_b74 at hf
    obtain ⟨y1, ny1, my1, ey1, hf, jy1⟩ := bnc_some hf
    refine k_X9_write X h hA ey1 k_X9_99 dX9_beginRun_74 hl.1 ⟨(Nat.le_of_ble_eq_true rfl), (Nat.le_of_ble_eq_true rfl)⟩ (Nat.le_of_ble_eq_true rfl) (rmm1 hc jy1) (fun la H locs h => ?_)
    have hc := rmm2 hc jy1
    refine lv_aload_n hx hb dX9_beginRun_77 rfl (lv_at hl 0 rfl) ?_
    refine lv_iload_n hx hb dX9_beginRun_78 rfl (lv_at hl 1 rfl) ?_
    refine lv_iconst (v := 2) hx hb dX9_beginRun_79 (by decide) ?_
    refine lv_iconst (v := 0) hx hb dX9_beginRun_80 (by decide) ?_
    obtain ⟨y2, ny2, my2, ey2, hf, jy2⟩ := bnc_some hf
    refine k_X9_write X h hA ey2 k_X9_99 dX9_beginRun_81 hl.1 ⟨(Nat.le_of_ble_eq_true rfl), (Nat.le_of_ble_eq_true rfl)⟩ (Nat.le_of_ble_eq_true rfl) (rmm1 hc jy2) (fun la H locs h => ?_)
    have hc := rmm2 hc jy2
    refine lv_aload_n hx hb dX9_beginRun_84 rfl (lv_at hl 0 rfl) ?_
    refine lv_iload_n hx hb dX9_beginRun_85 rfl (lv_at hl 1 rfl) ?_
    refine lv_iconst (v := 3) hx hb dX9_beginRun_86 (by decide) ?_
    refine lv_iconst (v := 2) hx hb dX9_beginRun_87 (by decide) ?_
    obtain ⟨y3, ny3, my3, ey3, hf, jy3⟩ := bnc_some hf
    refine k_X9_write X h hA ey3 k_X9_99 dX9_beginRun_88 hl.1 ⟨(Nat.le_of_ble_eq_true rfl), (Nat.le_of_ble_eq_true rfl)⟩ (Nat.le_of_ble_eq_true rfl) (rmm1 hc jy3) (fun la H locs h => ?_)
    have hc := rmm2 hc jy3
    refine lv_aload_n hx hb dX9_beginRun_91 rfl (lv_at hl 0 rfl) ?_
    refine lv_iload_n hx hb dX9_beginRun_92 rfl (lv_at hl 1 rfl) ?_
    refine lv_bipush (v := 33) hx hb dX9_beginRun_93 (by decide) ?_
    refine lv_iconst (v := 1) hx hb dX9_beginRun_95 (by decide) ?_
    obtain ⟨y4, ny4, my4, ey4, hf, jy4⟩ := bnc_some hf
    refine k_X9_grow X h hA ey4 k_X9_190 dX9_beginRun_96 hl.1 ⟨(Nat.le_of_ble_eq_true rfl), (Nat.le_of_ble_eq_true rfl)⟩ (Nat.le_of_ble_eq_true rfl) (rmm1 hc jy4) (fun la H locs h => ?_)
    have hc := rmm2 hc jy4
    refine lv_aload_n hx hb dX9_beginRun_99 rfl (lv_at hl 0 rfl) ?_
    refine GC_0_0 X h k_X9_12 dX9_beginRun_100 ?_
    refine lv_sipush (v := 8551) hx hb dX9_beginRun_103 (by decide) ?_
    refine lv_iconst (v := 1) hx hb dX9_beginRun_106 (by decide) ?_
    obtain ⟨y5, ny5, my5, ey5, hf, jy5⟩ := bnc_some hf
    refine k_X1_set X h hA ey5 k_X9_84 dX9_beginRun_107 hl.1 ⟨(Nat.le_of_ble_eq_true rfl), (Nat.le_of_ble_eq_true rfl)⟩ (Nat.le_of_ble_eq_true rfl) (rmm1 hc jy5) (fun la H locs h => ?_)
    have hc := rmm2 hc jy5
    refine lv_iload_n hx hb dX9_beginRun_110 rfl (lv_at hl 2 rfl) ?_
    refine lv_if_ne (tgt := 119) hx hb dX9_beginRun_111 (by decide) (fun c6 => ?_) (fun c6 => ?_)
    · have hf := if_f c6 hf
      exact e1_v X.1 hr hlocks hf h hc dX9_beginRun_119
    · have hf := if_t c6 hf
      refine lv_aload_n hx hb dX9_beginRun_114 rfl (lv_at hl 0 rfl) ?_
      refine lv_iload_n hx hb dX9_beginRun_115 rfl (lv_at hl 1 rfl) ?_
      obtain ⟨y7, ny7, my7, ey7, hf, jy7⟩ := bnc_some hf
      refine k_X9_endRun X h hA ey7 k_X9_275 dX9_beginRun_116 hl.1 ⟨(Nat.le_of_ble_eq_true rfl), (Nat.le_of_ble_eq_true rfl)⟩ (Nat.le_of_ble_eq_true rfl) (rmm1 hc jy7) (fun la H locs h => ?_)
      have hc := rmm2 hc jy7
      exact e1_v X.1 hr hlocks hf h hc dX9_beginRun_119
  have L9 : ∀ (n9 : Nat) (x1 : Int32) (x2 : Int32) (x3 : Int32) (x4 : Int32) (w : CW) (la : Nat) (H : Heap) (locs : List Loc) (ls : Array Slot) (k n : Nat), f_X9_beginRun_l9 n9 x1 x2 x3 x4 w = some (w', n) → CH G (cw G la w) (va_A (cw G la0 w0) s.heap.size) s.heap H locs → lv_has ls 5 [(0, .ref (gq G 0)), (1, .int x1), (2, .int x2), (3, .int x3), (4, .int x4)] → k + n = N → W p l e { frames := 7, cells := N, slots := 4096 * N, locals := 178 } s m args below meth c H locs k (4096 * k) (MQ below (QV G (cw G la0 w0) s.heap.size (fun u => cw G u w')) args s N (4096 * N) (va_A (cw G la0 w0) s.heap.size)) (F0 m 9 ls []) := by
    intro n9
    induction n9 with
    | zero =>
      intro x1 x2 x3 x4 w la H locs ls k n hf h hl hc
      cases (show (none : Option (CW × Nat)) = some _ from hf)
    | succ n9 ih9 =>
      intro x1 x2 x3 x4 w la H locs ls k n hf h hl hc
      have hf : f_X9_beginRun_l9_body (f_X9_beginRun_l9 n9) x1 x2 x3 x4 w = _ := hf
      unfold f_X9_beginRun_l9_body at hf
      refine lv_iload hx hb dX9_beginRun_9 (lv_at hl 4 rfl) ?_
      refine lv_iload_n hx hb dX9_beginRun_11 rfl (lv_at hl 3 rfl) ?_
      refine lv_icmp_ge (tgt := 44) hx hb dX9_beginRun_12 (by decide) (fun c8 => ?_) (fun c8 => ?_)
      · have hf := if_t c8 hf
        refine lv_aload_n hx hb dX9_beginRun_44 rfl (lv_at hl 0 rfl) ?_
        refine lv_iload_n hx hb dX9_beginRun_45 rfl (lv_at hl 1 rfl) ?_
        refine lv_bipush (v := 10) hx hb dX9_beginRun_46 (by decide) ?_
        refine lv_iload_n hx hb dX9_beginRun_48 rfl (lv_at hl 3 rfl) ?_
        obtain ⟨y9, ny9, my9, ey9, hf, jy9⟩ := bnc_some hf
        refine k_X9_write X h hA ey9 k_X9_99 dX9_beginRun_49 hl.1 ⟨(Nat.le_of_ble_eq_true rfl), (Nat.le_of_ble_eq_true rfl)⟩ (Nat.le_of_ble_eq_true rfl) (rmm1 hc jy9) (fun la H locs h => ?_)
        have hc := rmm2 hc jy9
        refine lv_aload_n hx hb dX9_beginRun_52 rfl (lv_at hl 0 rfl) ?_
        refine lv_iload_n hx hb dX9_beginRun_53 rfl (lv_at hl 1 rfl) ?_
        refine lv_bipush (v := 12) hx hb dX9_beginRun_54 (by decide) ?_
        refine lv_iload_n hx hb dX9_beginRun_56 rfl (lv_at hl 3 rfl) ?_
        refine lv_if_ne (tgt := 64) hx hb dX9_beginRun_57 (by decide) (fun c10 => ?_) (fun c10 => ?_)
        · have hf := if_f c10 hf
          refine lv_aload_n hx hb dX9_beginRun_64 rfl (lv_at hl 0 rfl) ?_
          refine lv_iload_n hx hb dX9_beginRun_65 rfl (lv_at hl 1 rfl) ?_
          refine lv_bipush (v := 48) hx hb dX9_beginRun_66 (by decide) ?_
          obtain ⟨y11, ey11, hf⟩ := bnd_some hf
          refine k_X9_read X h ey11 k_X9_110 dX9_beginRun_68 hl.1 ⟨(Nat.le_of_ble_eq_true rfl), (Nat.le_of_ble_eq_true rfl)⟩ (Nat.le_of_ble_eq_true rfl) (rmm0 hc) ?_
          obtain ⟨y12, ey12, hf⟩ := bnd_some hf
          refine k_X9_minutesOf X.1 ey12 k_X9_178 dX9_beginRun_71 hl.1 ⟨(Nat.le_of_ble_eq_true rfl), (Nat.le_of_ble_eq_true rfl)⟩ (Nat.le_of_ble_eq_true rfl) (rmm0 hc) ?_
          exact J74 _ _ _ _ _ _ _ _ _ _ _ _ hf h (lv_sub hl [0, 1, 3] rfl) hc
        · have hf := if_t c10 hf
          refine lv_iconst (v := 0) hx hb dX9_beginRun_60 (by decide) ?_
          refine lv_goto (tgt := 74) hx hb dX9_beginRun_61 (by decide) ?_
          exact J74 _ _ _ _ _ _ _ _ _ _ _ _ hf h (lv_sub hl [0, 1, 3] rfl) hc
      · have hf := if_f c8 hf
        refine lv_aload_n hx hb dX9_beginRun_15 rfl (lv_at hl 0 rfl) ?_
        refine lv_iload_n hx hb dX9_beginRun_16 rfl (lv_at hl 1 rfl) ?_
        refine lv_bipush (v := 48) hx hb dX9_beginRun_17 (by decide) ?_
        refine lv_iload hx hb dX9_beginRun_19 (lv_at hl 4 rfl) ?_
        refine lv_iadd hx hb dX9_beginRun_21 ?_
        refine lv_aload_n hx hb dX9_beginRun_22 rfl (lv_at hl 0 rfl) ?_
        refine GC_0_0 X h k_X9_12 dX9_beginRun_23 ?_
        refine lv_iload_n hx hb dX9_beginRun_26 rfl (lv_at hl 2 rfl) ?_
        refine lv_iload hx hb dX9_beginRun_27 (lv_at hl 4 rfl) ?_
        obtain ⟨y13, ey13, hf⟩ := bnd_some hf
        refine k_X9_stepCell X.1 ey13 k_X9_166 dX9_beginRun_29 hl.1 ⟨(Nat.le_of_ble_eq_true rfl), (Nat.le_of_ble_eq_true rfl)⟩ (Nat.le_of_ble_eq_true rfl) (rmm0 hc) ?_
        obtain ⟨y14, ey14, hf⟩ := bnd_some hf
        refine k_X1_get X h ey14 k_X9_175 dX9_beginRun_32 hl.1 ⟨(Nat.le_of_ble_eq_true rfl), (Nat.le_of_ble_eq_true rfl)⟩ (Nat.le_of_ble_eq_true rfl) (rmm0 hc) ?_
        obtain ⟨y15, ny15, my15, ey15, hf, jy15⟩ := bnc_some hf
        refine k_X9_write X h hA ey15 k_X9_99 dX9_beginRun_35 hl.1 ⟨(Nat.le_of_ble_eq_true rfl), (Nat.le_of_ble_eq_true rfl)⟩ (Nat.le_of_ble_eq_true rfl) (rmm1 hc jy15) (fun la H locs h => ?_)
        have hc := rmm2 hc jy15
        refine lv_iinc (v := x4 + (1 : Int32)) (lv' := [(4, .int (x4 + (1 : Int32))), (0, .ref (gq G 0)), (1, .int x1), (2, .int x2), (3, .int x3)]) hx hb dX9_beginRun_38 hl (k := 4) rfl (by rfl) (by decide) rfl (fun ls hl => ?_)
        refine lv_goto (tgt := 9) hx hb dX9_beginRun_41 (by decide) ?_
        exact ih9 _ _ _ _ _ _ _ _ _ _ _ hf h (lv_sub hl [1, 2, 3, 4, 0] rfl) hc
  obtain ⟨la, rfl⟩ : ∃ z, z = la0 := ⟨_, rfl⟩
  obtain ⟨w, rfl⟩ : ∃ z, z = w0 := ⟨_, rfl⟩
  have hl : lv_has ls 5 [(0, .ref (gq G 0)), (1, .int x1), (2, .int x2)] := hl
  unfold f_X9_beginRun at hf
  refine wid0 ?_
  refine lv_aload_n hx hb dX9_beginRun_0 rfl (lv_at hl 0 rfl) ?_
  refine lv_iload_n hx hb dX9_beginRun_1 rfl (lv_at hl 2 rfl) ?_
  obtain ⟨y16, ey16, hf⟩ := bnd_some hf
  refine k_X9_lengthOf X h ey16 k_X9_172 dX9_beginRun_2 hl.1 ⟨(Nat.le_of_ble_eq_true rfl), (Nat.le_of_ble_eq_true rfl)⟩ (Nat.le_of_ble_eq_true rfl) (rmm0 hc) ?_
  refine lv_istore_n (lv' := [(3, .int y16), (0, .ref (gq G 0)), (1, .int x1), (2, .int x2)]) hx hb dX9_beginRun_5 rfl hl (by decide) rfl (fun ls hl => ?_)
  refine lv_iconst (v := 0) hx hb dX9_beginRun_6 (by decide) ?_
  refine lv_istore (lv' := [(4, .int ((0 : Int32))), (3, .int y16), (0, .ref (gq G 0)), (1, .int x1), (2, .int x2)]) hx hb dX9_beginRun_7 hl (by decide) rfl (fun ls hl => ?_)
  exact L9 FU _ _ _ _ _ _ _ _ _ _ _ hf h (lv_sub hl [2, 3, 4, 1, 0] rfl) hc
theorem m_X9_beginRun : Cond.instanceMethod yX9_beginRun ∈ lw_good ∧ Cond.selects RX9 yX9_beginRun yX9_beginRun ∈ lw_good ∧ Cond.initialized RX9 ∈ lw_good ∧ Cond.code yX9_beginRun cX9_beginRun 5 none ∈ lw_good := by decide +kernel
theorem k_X9_beginRun {p : Program} {l : Launch} {e : Env} {R : Room} {s : State} {m : MethodId} {args : Array Value} {below : List Frame} {meth : Method} {c : Code} {H : Heap} {locs : List Loc} {cells : Nat} {Q : State → Prop} {cc : ByteArray} {nL pc idx : Nat} {ls : Array Slot} {rest : List Value} {own : String} {G : Gm} {A : Nat → Prop} {H0 : Heap} {la : Nat} {w : CW} {x1 : Int32} {x2 : Int32} {w' : CW} {n : Nat} (X : CX own cc nL G p s m args c) (h : CH G (cw G la w) A H0 H locs) (hA : ∀ q, H0.size ≤ q → A q) (hf : f_X9_beginRun x1 x2 w = some (w', n)) (hlk : Cond.methodLink own idx yX9_beginRun ∈ lw_good) (hd : decode cc pc = .ok (.invokevirtual idx, 3)) (hsz : ls.size = nL) (hR : 8 ≤ R.frames ∧ 202 ≤ R.locals) (hrest : (rest.map fun v => v.category).sum ≤ 8) (hk : cells + n ≤ R.cells ∧ 4096 * cells + 4096 * n ≤ R.slots) (k : ∀ (la : Nat) (H : Heap) (locs : List Loc), CH G (cw G la (w')) A H0 H locs → W p l e R s m args below meth c H locs (cells + n) (4096 * (cells + n)) Q (F0 m (pc + 3) ls (rest))) : W p l e R s m args below meth c H locs cells (4096 * cells) Q (F0 m pc ls (.int x2 :: .int x1 :: .ref (gq G 0) :: rest)) :=
  fin_v (n := n) (runV (As := [.int x1, .int x2]) X.1 2 (t_X9_beginRun l G la w x1 x2 w' n hf _) rfl rfl hlk m_X9_beginRun (by decide +kernel) ⟨hR.1, hR.2⟩ ⟨blindM, va_recv X.2.1 h.1 (ci := 8) (q0 := 0) rfl rfl, preM X.2 h⟩ rfl hsz hrest hd hk) h hA (fun la H locs h => by rw [← Nat.mul_add]; exact k la H locs h)
def f_X9_start_b52 (x1 : Int32) (x3 : Int32) (w : CW) : Option ((Int32 × CW) × Nat) :=
 (f_X9_leave x1 w).bind fun y1 =>
 if x3 = 0 then
 (some (((1 : Int32), y1), 0))
 else
 ((f_X9_found x3 y1).bind fun y3 =>
 some ((y3.1, y3.2), 0))
def f_X9_start (x1 : Int32) (x2 : Int32) (w : CW) : Option ((Int32 × CW) × Nat) :=
 (f_X9_isPlace x1).bind fun y4 =>
 if y4 = 0 then
 (some (((-1 : Int32), w), 0))
 else
 ((f_X9_isProgram x2).bind fun y6 =>
 if y6 = 0 then
 (some (((-1 : Int32), w), 0))
 else
 ((f_X9_hasMachine x1 w).bind fun y8 =>
 if y8 = 0 then
 ((f_X9_found ((1 : Int32)) w).bind fun y14 =>
 some ((y14.1, y14.2), 0))
 else
 ((f_X9_enter x1 w).bind fun y10 =>
 (f_X9_whyNoRun x1 x2 y10).bind fun y11 =>
 if y11.1 = 0 then
 (bnc (f_X9_beginRun x1 x2 y11.2) fun y13 =>
 f_X9_start_b52 x1 y11.1 y13)
 else
 (f_X9_start_b52 x1 y11.1 y11.2))))
set_option maxHeartbeats 4000000 in
set_option maxRecDepth 100000 in
theorem t_X9_start (l : Launch) (G : Gm) (la0 : Nat) (w0 : CW) (x1 : Int32) (x2 : Int32) (r : Int32) (w' : CW) (N : Nat) (hf : f_X9_start x1 x2 w0 = some ((r, w'), N)) : MetI l yX9_start cX9_start 4 (some .int) 8 202 G (cw G la0 w0) [.ref (gq G 0), .int x1, .int x2] r (fun u => cw G u w') N := by
  intro sz
  refine ent (own := RX9) (As := [.ref (gq G 0), .int x1, .int x2]) (by decide +kernel) rfl (Nat.le_of_ble_eq_true rfl) (fun _ _ h => h.1) ?_
  intro p e s m args below meth c ls B hr hlocks hv hl
  obtain ⟨-, hsz, hP, hKK, hD⟩ := hv
  subst hsz
  have X : CX RX9 cX9_start 4 G p s m args c := ⟨B, hKK⟩
  obtain ⟨hx, hb, hml, hown, hts⟩ := id B
  have hA : ∀ q : Nat, s.heap.size ≤ q → va_A (cw G la0 w0) s.heap.size q := fun q z => Or.inr z
  have h : CH G (cw G la0 w0) (va_A (cw G la0 w0) s.heap.size) s.heap s.heap [] := ⟨hP, hD.self, va_S.rf⟩
  have hc : 0 + N = N := Nat.zero_add N
  have J52 : ∀ (x1 : Int32) (x3 : Int32) (w : CW) (la : Nat) (H : Heap) (locs : List Loc) (ls : Array Slot) (k n : Nat), f_X9_start_b52 x1 x3 w = some ((r, w'), n) → CH G (cw G la w) (va_A (cw G la0 w0) s.heap.size) s.heap H locs → lv_has ls 4 [(0, .ref (gq G 0)), (1, .int x1), (3, .int x3)] → k + n = N → W p l e { frames := 8, cells := N, slots := 4096 * N, locals := 202 } s m args below meth c H locs k (4096 * k) (MQ below (QI G (cw G la0 w0) s.heap.size r (fun u => cw G u w')) args s N (4096 * N) (va_A (cw G la0 w0) s.heap.size)) (F0 m 52 ls []) := by
    intro x1 x3 w la H locs ls k n hf h hl hc
    unfold f_X9_start_b52 at hf
    refine lv_aload_n hx hb dX9_start_52 rfl (lv_at hl 0 rfl) ?_
    refine lv_iload_n hx hb dX9_start_53 rfl (lv_at hl 1 rfl) ?_
    obtain ⟨y1, ey1, hf⟩ := bnd_some hf
    refine k_X9_leave X h hA ey1 k_X9_203 dX9_start_54 hl.1 ⟨(Nat.le_of_ble_eq_true rfl), (Nat.le_of_ble_eq_true rfl)⟩ (Nat.le_of_ble_eq_true rfl) (rmm0 hc) (fun H locs h => ?_)
    refine lv_iload_n hx hb dX9_start_57 rfl (lv_at hl 2 rfl) ?_
    refine lv_if_ne (tgt := 65) hx hb dX9_start_58 (by decide) (fun c2 => ?_) (fun c2 => ?_)
    · have hf := if_f c2 hf
      refine lv_aload_n hx hb dX9_start_65 rfl (lv_at hl 0 rfl) ?_
      refine lv_iload_n hx hb dX9_start_66 rfl (lv_at hl 2 rfl) ?_
      obtain ⟨y3, ey3, hf⟩ := bnd_some hf
      refine k_X9_found X h hA ey3 k_X9_103 dX9_start_67 hl.1 ⟨(Nat.le_of_ble_eq_true rfl), (Nat.le_of_ble_eq_true rfl)⟩ (Nat.le_of_ble_eq_true rfl) (rmm0 hc) (fun H locs h => ?_)
      exact e1_i X.1 hr hlocks hf h hc dX9_start_70
    · have hf := if_t c2 hf
      refine lv_iconst (v := 1) hx hb dX9_start_61 (by decide) ?_
      refine lv_goto (tgt := 70) hx hb dX9_start_62 (by decide) ?_
      exact e1_i X.1 hr hlocks hf h hc dX9_start_70
  obtain ⟨la, rfl⟩ : ∃ z, z = la0 := ⟨_, rfl⟩
  obtain ⟨w, rfl⟩ : ∃ z, z = w0 := ⟨_, rfl⟩
  have hl : lv_has ls 4 [(0, .ref (gq G 0)), (1, .int x1), (2, .int x2)] := hl
  unfold f_X9_start at hf
  refine wid0 ?_
  refine lv_iload_n hx hb dX9_start_0 rfl (lv_at hl 1 rfl) ?_
  obtain ⟨y4, ey4, hf⟩ := bnd_some hf
  refine k_X9_isPlace X.1 ey4 k_X9_88 dX9_start_1 hl.1 ⟨(Nat.le_of_ble_eq_true rfl), (Nat.le_of_ble_eq_true rfl)⟩ (Nat.le_of_ble_eq_true rfl) (rmm0 hc) ?_
  refine lv_if_eq (tgt := 14) hx hb dX9_start_4 (by decide) (fun c5 => ?_) (fun c5 => ?_)
  · have hf := if_t c5 hf
    refine lv_iconst (v := (-1)) hx hb dX9_start_14 (by decide) ?_
    exact e1_i X.1 hr hlocks hf h hc dX9_start_15
  · have hf := if_f c5 hf
    refine lv_iload_n hx hb dX9_start_7 rfl (lv_at hl 2 rfl) ?_
    obtain ⟨y6, ey6, hf⟩ := bnd_some hf
    refine k_X9_isProgram X.1 ey6 k_X9_160 dX9_start_8 hl.1 ⟨(Nat.le_of_ble_eq_true rfl), (Nat.le_of_ble_eq_true rfl)⟩ (Nat.le_of_ble_eq_true rfl) (rmm0 hc) ?_
    refine lv_if_ne (tgt := 16) hx hb dX9_start_11 (by decide) (fun c7 => ?_) (fun c7 => ?_)
    · have hf := if_f c7 hf
      refine lv_aload_n hx hb dX9_start_16 rfl (lv_at hl 0 rfl) ?_
      refine lv_iload_n hx hb dX9_start_17 rfl (lv_at hl 1 rfl) ?_
      obtain ⟨y8, ey8, hf⟩ := bnd_some hf
      refine k_X9_hasMachine X h ey8 k_X9_96 dX9_start_18 hl.1 ⟨(Nat.le_of_ble_eq_true rfl), (Nat.le_of_ble_eq_true rfl)⟩ (Nat.le_of_ble_eq_true rfl) (rmm0 hc) ?_
      refine lv_if_ne (tgt := 30) hx hb dX9_start_21 (by decide) (fun c9 => ?_) (fun c9 => ?_)
      · have hf := if_f c9 hf
        refine lv_aload_n hx hb dX9_start_30 rfl (lv_at hl 0 rfl) ?_
        refine lv_iload_n hx hb dX9_start_31 rfl (lv_at hl 1 rfl) ?_
        obtain ⟨y10, ey10, hf⟩ := bnd_some hf
        refine k_X9_enter X h hA ey10 k_X9_196 dX9_start_32 hl.1 ⟨(Nat.le_of_ble_eq_true rfl), (Nat.le_of_ble_eq_true rfl)⟩ (Nat.le_of_ble_eq_true rfl) (rmm0 hc) (fun H locs h => ?_)
        refine lv_aload_n hx hb dX9_start_35 rfl (lv_at hl 0 rfl) ?_
        refine lv_iload_n hx hb dX9_start_36 rfl (lv_at hl 1 rfl) ?_
        refine lv_iload_n hx hb dX9_start_37 rfl (lv_at hl 2 rfl) ?_
        obtain ⟨y11, ey11, hf⟩ := bnd_some hf
        refine k_X9_whyNoRun X h hA ey11 k_X9_257 dX9_start_38 hl.1 ⟨(Nat.le_of_ble_eq_true rfl), (Nat.le_of_ble_eq_true rfl)⟩ (Nat.le_of_ble_eq_true rfl) (rmm0 hc) (fun H locs h => ?_)
        refine lv_istore_n (lv' := [(3, .int y11.1), (0, .ref (gq G 0)), (1, .int x1), (2, .int x2)]) hx hb dX9_start_41 rfl hl (by decide) rfl (fun ls hl => ?_)
        refine lv_iload_n hx hb dX9_start_42 rfl (lv_at hl 0 rfl) ?_
        refine lv_if_ne (tgt := 52) hx hb dX9_start_43 (by decide) (fun c12 => ?_) (fun c12 => ?_)
        · have hf := if_f c12 hf
          exact J52 _ _ _ _ _ _ _ _ _ hf h (lv_sub hl [1, 2, 0] rfl) hc
        · have hf := if_t c12 hf
          refine lv_aload_n hx hb dX9_start_46 rfl (lv_at hl 1 rfl) ?_
          refine lv_iload_n hx hb dX9_start_47 rfl (lv_at hl 2 rfl) ?_
          refine lv_iload_n hx hb dX9_start_48 rfl (lv_at hl 3 rfl) ?_
          obtain ⟨y13, ny13, my13, ey13, hf, jy13⟩ := bnc_some hf
          refine k_X9_beginRun X h hA ey13 k_X9_260 dX9_start_49 hl.1 ⟨(Nat.le_of_ble_eq_true rfl), (Nat.le_of_ble_eq_true rfl)⟩ (Nat.le_of_ble_eq_true rfl) (rmm1 hc jy13) (fun la H locs h => ?_)
          have hc := rmm2 hc jy13
          exact J52 _ _ _ _ _ _ _ _ _ hf h (lv_sub hl [1, 2, 0] rfl) hc
      · have hf := if_t c9 hf
        refine lv_aload_n hx hb dX9_start_24 rfl (lv_at hl 0 rfl) ?_
        refine lv_iconst (v := 1) hx hb dX9_start_25 (by decide) ?_
        obtain ⟨y14, ey14, hf⟩ := bnd_some hf
        refine k_X9_found X h hA ey14 k_X9_103 dX9_start_26 hl.1 ⟨(Nat.le_of_ble_eq_true rfl), (Nat.le_of_ble_eq_true rfl)⟩ (Nat.le_of_ble_eq_true rfl) (rmm0 hc) (fun H locs h => ?_)
        exact e1_i X.1 hr hlocks hf h hc dX9_start_29
    · have hf := if_t c7 hf
      refine lv_iconst (v := (-1)) hx hb dX9_start_14 (by decide) ?_
      exact e1_i X.1 hr hlocks hf h hc dX9_start_15
theorem m_X9_start : Cond.instanceMethod yX9_start ∈ lw_good ∧ Cond.selects RX9 yX9_start yX9_start ∈ lw_good ∧ Cond.initialized RX9 ∈ lw_good ∧ Cond.code yX9_start cX9_start 4 (some .int) ∈ lw_good := by decide +kernel
theorem k_X9_start {p : Program} {l : Launch} {e : Env} {R : Room} {s : State} {m : MethodId} {args : Array Value} {below : List Frame} {meth : Method} {c : Code} {H : Heap} {locs : List Loc} {cells : Nat} {Q : State → Prop} {cc : ByteArray} {nL pc idx : Nat} {ls : Array Slot} {rest : List Value} {own : String} {G : Gm} {A : Nat → Prop} {H0 : Heap} {la : Nat} {w : CW} {x1 : Int32} {x2 : Int32} {y : Int32 × CW} {n : Nat} (X : CX own cc nL G p s m args c) (h : CH G (cw G la w) A H0 H locs) (hA : ∀ q, H0.size ≤ q → A q) (hf : f_X9_start x1 x2 w = some (y, n)) (hlk : Cond.methodLink own idx yX9_start ∈ lw_good) (hd : decode cc pc = .ok (.invokevirtual idx, 3)) (hsz : ls.size = nL) (hR : 9 ≤ R.frames ∧ 225 ≤ R.locals) (hrest : (rest.map fun v => v.category).sum ≤ 8) (hk : cells + n ≤ R.cells ∧ 4096 * cells + 4096 * n ≤ R.slots) (k : ∀ (la : Nat) (H : Heap) (locs : List Loc), CH G (cw G la y.2) A H0 H locs → W p l e R s m args below meth c H locs (cells + n) (4096 * (cells + n)) Q (F0 m (pc + 3) ls (.int y.1 :: rest))) : W p l e R s m args below meth c H locs cells (4096 * cells) Q (F0 m pc ls (.int x2 :: .int x1 :: .ref (gq G 0) :: rest)) :=
  fin_i (n := n) (runV (As := [.int x1, .int x2]) X.1 2 (t_X9_start l G la w x1 x2 y.1 y.2 n hf _) rfl rfl hlk m_X9_start (by decide +kernel) ⟨hR.1, hR.2⟩ ⟨blindM, va_recv X.2.1 h.1 (ci := 8) (q0 := 0) rfl rfl, preM X.2 h⟩ rfl hsz hrest hd hk) h hA (fun la H locs h => by rw [← Nat.mul_add]; exact k la H locs h)
def f_X1_beginMinute_b29 (w : CW) : Option CW :=
 some (cs w 1 5 ((w.1 1 5) + ((1 : Int32))))
def f_X1_beginMinute (w : CW) : Option CW :=
 if (w.1 1 5) = 0 then
 (chk (inb ((0 : Int32)) 301) (
 (some (cs (cs (cs (cs w 1 3 ((0 : Int32))) 1 4 ((0 : Int32))) 1 6 ((0 : Int32))) 12 ((0 : Int32)).toNatClampNeg ((0 : Int32)))).bind fun w3 =>
 f_X1_beginMinute_b29 w3))
 else
 (f_X1_beginMinute_b29 w)
set_option maxHeartbeats 4000000 in
set_option maxRecDepth 100000 in
theorem t_X1_beginMinute (l : Launch) (G : Gm) (la : Nat) (w0 : CW) (w' : CW) (hf : f_X1_beginMinute w0 = some w') : MetV l yX1_beginMinute cX1_beginMinute 1 0 0 G (cw G la w0) [.ref (gq G 1)] (fun _ => cw G la (w')) 0 := by
  intro sz
  refine ent (own := RX1) (As := [.ref (gq G 1)]) (by decide +kernel) rfl (Nat.le_of_ble_eq_true rfl) (fun _ _ h => h.1) ?_
  intro p e s m args below meth c ls B hr hlocks hv hl
  obtain ⟨-, hsz, hP, hKK, hD⟩ := hv
  subst hsz
  have X : CX RX1 cX1_beginMinute 1 G p s m args c := ⟨B, hKK⟩
  obtain ⟨hx, hb, hml, hown, hts⟩ := id B
  have hA : ∀ q : Nat, s.heap.size ≤ q → va_A (cw G la w0) s.heap.size q := fun q z => Or.inr z
  have h : CH G (cw G la w0) (va_A (cw G la w0) s.heap.size) s.heap s.heap [] := ⟨hP, hD.self, va_S.rf⟩
  have J29 : ∀ (w : CW) (H : Heap) (locs : List Loc) (ls : Array Slot), f_X1_beginMinute_b29 w = some w' → CH G (cw G la w) (va_A (cw G la w0) s.heap.size) s.heap H locs → lv_has ls 1 [(0, .ref (gq G 1))] → W p l e { frames := 0, cells := 0, slots := 4096 * 0, locals := 0 } s m args below meth c H locs 0 (4096 * 0) (MQ below (QV G (cw G la w0) s.heap.size (fun _ => cw G la (w'))) args s 0 (4096 * 0) (va_A (cw G la w0) s.heap.size)) (F0 m 29 ls []) := by
    intro w H locs ls hf h hl
    unfold f_X1_beginMinute_b29 at hf
    refine lv_aload_n hx hb dX1_beginMinute_29 rfl (lv_at hl 0 rfl) ?_
    refine lv_dup hx hb dX1_beginMinute_30 rfl ?_
    refine GC_1_5 X h k_X1_28 dX1_beginMinute_31 ?_
    refine lv_iconst (v := 1) hx hb dX1_beginMinute_34 (by decide) ?_
    refine lv_iadd hx hb dX1_beginMinute_35 ?_
    refine PC_1_5 X h k_X1_28 dX1_beginMinute_36 (fun H locs h => ?_)
    exact e0_v (Wf := cw G la) X.1 hr hlocks hf h dX1_beginMinute_39
  obtain ⟨w, rfl⟩ : ∃ z, z = w0 := ⟨_, rfl⟩
  have hl : lv_has ls 1 [(0, .ref (gq G 1))] := hl
  unfold f_X1_beginMinute at hf
  refine lv_aload_n hx hb dX1_beginMinute_0 rfl (lv_at hl 0 rfl) ?_
  refine GC_1_5 X h k_X1_28 dX1_beginMinute_1 ?_
  refine lv_if_ne (tgt := 29) hx hb dX1_beginMinute_4 (by decide) (fun c1 => ?_) (fun c1 => ?_)
  · have hf := if_f c1 hf
    exact J29 _ _ _ _ hf h (lv_sub hl [0] rfl)
  · have hf := if_t c1 hf
    refine lv_aload_n hx hb dX1_beginMinute_7 rfl (lv_at hl 0 rfl) ?_
    refine lv_iconst (v := 0) hx hb dX1_beginMinute_8 (by decide) ?_
    refine PC_1_3 X h k_X1_21 dX1_beginMinute_9 (fun H locs h => ?_)
    refine lv_aload_n hx hb dX1_beginMinute_12 rfl (lv_at hl 0 rfl) ?_
    refine lv_iconst (v := 0) hx hb dX1_beginMinute_13 (by decide) ?_
    refine PC_1_4 X h k_X1_25 dX1_beginMinute_14 (fun H locs h => ?_)
    refine lv_aload_n hx hb dX1_beginMinute_17 rfl (lv_at hl 0 rfl) ?_
    refine lv_iconst (v := 0) hx hb dX1_beginMinute_18 (by decide) ?_
    refine PC_1_6 X h k_X1_31 dX1_beginMinute_19 (fun H locs h => ?_)
    refine lv_aload_n hx hb dX1_beginMinute_22 rfl (lv_at hl 0 rfl) ?_
    refine GC_1_1 X h k_X1_15 dX1_beginMinute_23 ?_
    refine lv_iconst (v := 0) hx hb dX1_beginMinute_26 (by decide) ?_
    refine lv_iconst (v := 0) hx hb dX1_beginMinute_27 (by decide) ?_
    obtain ⟨c2, hf⟩ := chk_some hf
    refine SC_12 X h c2 dX1_beginMinute_28 (fun H locs h => ?_)
    obtain ⟨w3, ew3, hf⟩ := bnd_some hf
    have h := (Option.some.inj ew3) ▸ h
    exact J29 _ _ _ _ hf h (lv_sub hl [0] rfl)
theorem m_X1_beginMinute : Cond.instanceMethod yX1_beginMinute ∈ lw_good ∧ Cond.selects RX1 yX1_beginMinute yX1_beginMinute ∈ lw_good ∧ Cond.initialized RX1 ∈ lw_good ∧ Cond.code yX1_beginMinute cX1_beginMinute 1 none ∈ lw_good := by decide +kernel
theorem k_X1_beginMinute {p : Program} {l : Launch} {e : Env} {R : Room} {s : State} {m : MethodId} {args : Array Value} {below : List Frame} {meth : Method} {c : Code} {H : Heap} {locs : List Loc} {cells slots : Nat} {Q : State → Prop} {cc : ByteArray} {nL pc idx : Nat} {ls : Array Slot} {rest : List Value} {own : String} {G : Gm} {A : Nat → Prop} {H0 : Heap} {la : Nat} {w : CW} {w' : CW} (X : CX own cc nL G p s m args c) (h : CH G (cw G la w) A H0 H locs) (hA : ∀ q, H0.size ≤ q → A q) (hf : f_X1_beginMinute w = some w') (hlk : Cond.methodLink own idx yX1_beginMinute ∈ lw_good) (hd : decode cc pc = .ok (.invokevirtual idx, 3)) (hsz : ls.size = nL) (hR : 1 ≤ R.frames ∧ 20 ≤ R.locals) (hrest : (rest.map fun v => v.category).sum ≤ 8) (hk : cells ≤ R.cells ∧ slots ≤ R.slots) (k : ∀ (H : Heap) (locs : List Loc), CH G (cw G la (w')) A H0 H locs → W p l e R s m args below meth c H locs cells slots Q (F0 m (pc + 3) ls (rest))) : W p l e R s m args below meth c H locs cells slots Q (F0 m pc ls (.ref (gq G 1) :: rest)) :=
  fin_v (n := 0) (runV (As := []) X.1 0 (t_X1_beginMinute l G la w w' hf _) rfl rfl hlk m_X1_beginMinute (by decide +kernel) ⟨hR.1, hR.2⟩ ⟨blindM, va_recv X.2.1 h.1 (ci := 1) (q0 := 1) rfl rfl, preM X.2 h⟩ rfl hsz hrest hd hk) h hA (fun _ H locs h => k H locs h)
def f_X1_time (w : CW) : Option Int32 :=
 some (w.1 1 5)
set_option maxHeartbeats 4000000 in
set_option maxRecDepth 100000 in
theorem t_X1_time (l : Launch) (G : Gm) (la : Nat) (w : CW) (r : Int32) (hf : f_X1_time w = some r) : MetR l yX1_time cX1_time 1 (some .int) 0 0 G (cw G la w) [.ref (gq G 1)] (.int r) := by
  refine ent (own := RX1) (As := [.ref (gq G 1)]) (by decide +kernel) rfl (Nat.le_of_ble_eq_true rfl) (fun _ _ h => h.1) ?_
  intro p e s m args below meth c ls B hr hlocks hv hl
  obtain ⟨-, hP, hKK, hD⟩ := hv
  have X : CX RX1 cX1_time 1 G p s m args c := ⟨B, hKK⟩
  obtain ⟨hx, hb, hml, hown, hts⟩ := id B
  have h : CH G (cw G la w) (fun _ => True) s.heap s.heap [] := ⟨hP, hD, va_S.rf⟩
  have hl : lv_has ls 1 [(0, .ref (gq G 1))] := hl
  unfold f_X1_time at hf
  refine lv_aload_n hx hb dX1_time_0 rfl (lv_at hl 0 rfl) ?_
  refine GC_1_5 X h k_X1_28 dX1_time_1 ?_
  cases hf
  exact rr_i X.1 hr hlocks dX1_time_4
theorem m_X1_time : Cond.instanceMethod yX1_time ∈ lw_good ∧ Cond.selects RX1 yX1_time yX1_time ∈ lw_good ∧ Cond.initialized RX1 ∈ lw_good ∧ Cond.code yX1_time cX1_time 1 (some .int) ∈ lw_good := by decide +kernel
theorem k_X1_time {p : Program} {l : Launch} {e : Env} {R : Room} {s : State} {m : MethodId} {args : Array Value} {below : List Frame} {meth : Method} {c : Code} {H : Heap} {locs : List Loc} {cells slots : Nat} {Q : State → Prop} {cc : ByteArray} {nL pc idx : Nat} {ls : Array Slot} {rest : List Value} {own : String} {G : Gm} {A : Nat → Prop} {H0 : Heap} {la : Nat} {w : CW} {r : Int32} (X : CX own cc nL G p s m args c) (h : CH G (cw G la w) A H0 H locs) (hf : f_X1_time w = some r) (hlk : Cond.methodLink own idx yX1_time ∈ lw_good) (hd : decode cc pc = .ok (.invokevirtual idx, 3)) (hsz : ls.size = nL) (hR : 1 ≤ R.frames ∧ 20 ≤ R.locals) (hrest : (rest.map fun v => v.category).sum ≤ 8) (hk : cells ≤ R.cells ∧ slots ≤ R.slots) (k : W p l e R s m args below meth c H locs cells slots Q (F0 m (pc + 3) ls (.int r :: rest))) : W p l e R s m args below meth c H locs cells slots Q (F0 m pc ls (.ref (gq G 1) :: rest)) :=
  fin_r (runV (As := []) X.1 0 (t_X1_time l G la w r hf) rfl rfl hlk m_X1_time (by decide +kernel) ⟨hR.1, hR.2⟩ ⟨blindR, va_recv X.2.1 h.1 (ci := 1) (q0 := 1) rfl rfl, preR X.2 h⟩ rfl hsz hrest hd hk) k
def f_X9_breakDown_b71 (k2 : (Int32 → CW → Option (CW × Nat))) (x1 : Int32) (w : CW) : Option (CW × Nat) :=
 k2 (x1 + (1 : Int32)) w
def f_X9_breakDown_b51 (k2 : (Int32 → CW → Option (CW × Nat))) (x1 : Int32) (w : CW) : Option (CW × Nat) :=
 bnc (f_X9_write x1 ((3 : Int32)) ((4 : Int32)) w) fun y1 =>
 bnc (f_X9_write x1 ((7 : Int32)) ((0 : Int32)) y1) fun y2 =>
 (f_X9_leave x1 y2).bind fun y3 =>
 f_X9_breakDown_b71 k2 x1 y3
def f_X9_breakDown_l2_body (kself : (Int32 → CW → Option (CW × Nat))) (x1 : Int32) (w : CW) : Option (CW × Nat) :=
 if ((60 : Int32)) ≤ x1 then
 (some (w, 0))
 else
 ((f_X9_read x1 ((7 : Int32)) w).bind fun y5 =>
 (f_X1_time w).bind fun y6 =>
 if y5 = y6 then
 ((f_X9_enter x1 w).bind fun y8 =>
 (f_X9_hasRun x1 y8).bind fun y9 =>
 if y9 = 0 then
 (f_X9_breakDown_b51 kself x1 y8)
 else
 (bnc (f_X9_grow x1 ((34 : Int32)) ((1 : Int32)) y8) fun y11 =>
 bnc (f_X9_endRun x1 y11) fun y12 =>
 f_X9_breakDown_b51 kself x1 y12))
 else
 (f_X9_breakDown_b71 kself x1 w))
def f_X9_breakDown_l2 : Nat → Int32 → CW → Option (CW × Nat)
  | 0, _, _ => none
  | n + 1, x1, w => f_X9_breakDown_l2_body (f_X9_breakDown_l2 n) x1 w
def f_X9_breakDown (w : CW) : Option (CW × Nat) :=
 f_X9_breakDown_l2 FU ((0 : Int32)) w
set_option maxHeartbeats 4000000 in
set_option maxRecDepth 100000 in
theorem t_X9_breakDown (l : Launch) (G : Gm) (la0 : Nat) (w0 : CW) (w' : CW) (N : Nat) (hf : f_X9_breakDown w0 = some (w', N)) : MetV l yX9_breakDown cX9_breakDown 2 7 178 G (cw G la0 w0) [.ref (gq G 0)] (fun u => cw G u w') N := by
  intro sz
  refine ent (own := RX9) (As := [.ref (gq G 0)]) (by decide +kernel) rfl (Nat.le_of_ble_eq_true rfl) (fun _ _ h => h.1) ?_
  intro p e s m args below meth c ls B hr hlocks hv hl
  obtain ⟨-, hsz, hP, hKK, hD⟩ := hv
  subst hsz
  have X : CX RX9 cX9_breakDown 2 G p s m args c := ⟨B, hKK⟩
  obtain ⟨hx, hb, hml, hown, hts⟩ := id B
  have hA : ∀ q : Nat, s.heap.size ≤ q → va_A (cw G la0 w0) s.heap.size q := fun q z => Or.inr z
  have h : CH G (cw G la0 w0) (va_A (cw G la0 w0) s.heap.size) s.heap s.heap [] := ⟨hP, hD.self, va_S.rf⟩
  have hc : 0 + N = N := Nat.zero_add N
  have L2 : ∀ (n2 : Nat) (x1 : Int32) (w : CW) (la : Nat) (H : Heap) (locs : List Loc) (ls : Array Slot) (k n : Nat), f_X9_breakDown_l2 n2 x1 w = some (w', n) → CH G (cw G la w) (va_A (cw G la0 w0) s.heap.size) s.heap H locs → lv_has ls 2 [(0, .ref (gq G 0)), (1, .int x1)] → k + n = N → W p l e { frames := 7, cells := N, slots := 4096 * N, locals := 178 } s m args below meth c H locs k (4096 * k) (MQ below (QV G (cw G la0 w0) s.heap.size (fun u => cw G u w')) args s N (4096 * N) (va_A (cw G la0 w0) s.heap.size)) (F0 m 2 ls []) := by
    intro n2
    induction n2 with
    | zero =>
      intro x1 w la H locs ls k n hf h hl hc
      cases (show (none : Option (CW × Nat)) = some _ from hf)
    | succ n2 ih2 =>
      have J71 : ∀ (x1 : Int32) (w : CW) (la : Nat) (H : Heap) (locs : List Loc) (ls : Array Slot) (k n : Nat), f_X9_breakDown_b71 (f_X9_breakDown_l2 n2) x1 w = some (w', n) → CH G (cw G la w) (va_A (cw G la0 w0) s.heap.size) s.heap H locs → lv_has ls 2 [(0, .ref (gq G 0)), (1, .int x1)] → k + n = N → W p l e { frames := 7, cells := N, slots := 4096 * N, locals := 178 } s m args below meth c H locs k (4096 * k) (MQ below (QV G (cw G la0 w0) s.heap.size (fun u => cw G u w')) args s N (4096 * N) (va_A (cw G la0 w0) s.heap.size)) (F0 m 71 ls []) := by
        intro x1 w la H locs ls k n hf h hl hc
        unfold f_X9_breakDown_b71 at hf
        refine lv_iinc (v := x1 + (1 : Int32)) (lv' := [(1, .int (x1 + (1 : Int32))), (0, .ref (gq G 0))]) hx hb dX9_breakDown_71 hl (k := 1) rfl (by rfl) (by decide) rfl (fun ls hl => ?_)
        refine lv_goto (tgt := 2) hx hb dX9_breakDown_74 (by decide) ?_
        exact ih2 _ _ _ _ _ _ _ _ hf h (lv_sub hl [1, 0] rfl) hc
      have J51 : ∀ (x1 : Int32) (w : CW) (la : Nat) (H : Heap) (locs : List Loc) (ls : Array Slot) (k n : Nat), f_X9_breakDown_b51 (f_X9_breakDown_l2 n2) x1 w = some (w', n) → CH G (cw G la w) (va_A (cw G la0 w0) s.heap.size) s.heap H locs → lv_has ls 2 [(0, .ref (gq G 0)), (1, .int x1)] → k + n = N → W p l e { frames := 7, cells := N, slots := 4096 * N, locals := 178 } s m args below meth c H locs k (4096 * k) (MQ below (QV G (cw G la0 w0) s.heap.size (fun u => cw G u w')) args s N (4096 * N) (va_A (cw G la0 w0) s.heap.size)) (F0 m 51 ls []) := by
        intro x1 w la H locs ls k n hf h hl hc
        unfold f_X9_breakDown_b51 at hf
        refine lv_aload_n hx hb dX9_breakDown_51 rfl (lv_at hl 0 rfl) ?_
        refine lv_iload_n hx hb dX9_breakDown_52 rfl (lv_at hl 1 rfl) ?_
        refine lv_iconst (v := 3) hx hb dX9_breakDown_53 (by decide) ?_
        refine lv_iconst (v := 4) hx hb dX9_breakDown_54 (by decide) ?_
        obtain ⟨y1, ny1, my1, ey1, hf, jy1⟩ := bnc_some hf
        refine k_X9_write X h hA ey1 k_X9_99 dX9_breakDown_55 hl.1 ⟨(Nat.le_of_ble_eq_true rfl), (Nat.le_of_ble_eq_true rfl)⟩ (Nat.le_of_ble_eq_true rfl) (rmm1 hc jy1) (fun la H locs h => ?_)
        have hc := rmm2 hc jy1
        refine lv_aload_n hx hb dX9_breakDown_58 rfl (lv_at hl 0 rfl) ?_
        refine lv_iload_n hx hb dX9_breakDown_59 rfl (lv_at hl 1 rfl) ?_
        refine lv_bipush (v := 7) hx hb dX9_breakDown_60 (by decide) ?_
        refine lv_iconst (v := 0) hx hb dX9_breakDown_62 (by decide) ?_
        obtain ⟨y2, ny2, my2, ey2, hf, jy2⟩ := bnc_some hf
        refine k_X9_write X h hA ey2 k_X9_99 dX9_breakDown_63 hl.1 ⟨(Nat.le_of_ble_eq_true rfl), (Nat.le_of_ble_eq_true rfl)⟩ (Nat.le_of_ble_eq_true rfl) (rmm1 hc jy2) (fun la H locs h => ?_)
        have hc := rmm2 hc jy2
        refine lv_aload_n hx hb dX9_breakDown_66 rfl (lv_at hl 0 rfl) ?_
        refine lv_iload_n hx hb dX9_breakDown_67 rfl (lv_at hl 1 rfl) ?_
        obtain ⟨y3, ey3, hf⟩ := bnd_some hf
        refine k_X9_leave X h hA ey3 k_X9_203 dX9_breakDown_68 hl.1 ⟨(Nat.le_of_ble_eq_true rfl), (Nat.le_of_ble_eq_true rfl)⟩ (Nat.le_of_ble_eq_true rfl) (rmm0 hc) (fun H locs h => ?_)
        exact J71 _ _ _ _ _ _ _ _ hf h (lv_sub hl [0, 1] rfl) hc
      intro x1 w la H locs ls k n hf h hl hc
      have hf : f_X9_breakDown_l2_body (f_X9_breakDown_l2 n2) x1 w = _ := hf
      unfold f_X9_breakDown_l2_body at hf
      refine lv_iload_n hx hb dX9_breakDown_2 rfl (lv_at hl 1 rfl) ?_
      refine lv_bipush (v := 60) hx hb dX9_breakDown_3 (by decide) ?_
      refine lv_icmp_ge (tgt := 77) hx hb dX9_breakDown_5 (by decide) (fun c4 => ?_) (fun c4 => ?_)
      · have hf := if_t c4 hf
        exact e1_v X.1 hr hlocks hf h hc dX9_breakDown_77
      · have hf := if_f c4 hf
        refine lv_aload_n hx hb dX9_breakDown_8 rfl (lv_at hl 0 rfl) ?_
        refine lv_iload_n hx hb dX9_breakDown_9 rfl (lv_at hl 1 rfl) ?_
        refine lv_bipush (v := 7) hx hb dX9_breakDown_10 (by decide) ?_
        obtain ⟨y5, ey5, hf⟩ := bnd_some hf
        refine k_X9_read X h ey5 k_X9_110 dX9_breakDown_12 hl.1 ⟨(Nat.le_of_ble_eq_true rfl), (Nat.le_of_ble_eq_true rfl)⟩ (Nat.le_of_ble_eq_true rfl) (rmm0 hc) ?_
        refine lv_aload_n hx hb dX9_breakDown_15 rfl (lv_at hl 0 rfl) ?_
        refine GC_0_0 X h k_X9_12 dX9_breakDown_16 ?_
        obtain ⟨y6, ey6, hf⟩ := bnd_some hf
        refine k_X1_time X h ey6 k_X9_290 dX9_breakDown_19 hl.1 ⟨(Nat.le_of_ble_eq_true rfl), (Nat.le_of_ble_eq_true rfl)⟩ (Nat.le_of_ble_eq_true rfl) (rmm0 hc) ?_
        refine lv_icmp_ne (tgt := 71) hx hb dX9_breakDown_22 (by decide) (fun c7 => ?_) (fun c7 => ?_)
        · have hf := if_f c7 hf
          exact J71 _ _ _ _ _ _ _ _ hf h (lv_sub hl [0, 1] rfl) hc
        · have hf := if_t c7 hf
          refine lv_aload_n hx hb dX9_breakDown_25 rfl (lv_at hl 0 rfl) ?_
          refine lv_iload_n hx hb dX9_breakDown_26 rfl (lv_at hl 1 rfl) ?_
          obtain ⟨y8, ey8, hf⟩ := bnd_some hf
          refine k_X9_enter X h hA ey8 k_X9_196 dX9_breakDown_27 hl.1 ⟨(Nat.le_of_ble_eq_true rfl), (Nat.le_of_ble_eq_true rfl)⟩ (Nat.le_of_ble_eq_true rfl) (rmm0 hc) (fun H locs h => ?_)
          refine lv_aload_n hx hb dX9_breakDown_30 rfl (lv_at hl 0 rfl) ?_
          refine lv_iload_n hx hb dX9_breakDown_31 rfl (lv_at hl 1 rfl) ?_
          obtain ⟨y9, ey9, hf⟩ := bnd_some hf
          refine k_X9_hasRun X h ey9 k_X9_114 dX9_breakDown_32 hl.1 ⟨(Nat.le_of_ble_eq_true rfl), (Nat.le_of_ble_eq_true rfl)⟩ (Nat.le_of_ble_eq_true rfl) (rmm0 hc) ?_
          refine lv_if_eq (tgt := 51) hx hb dX9_breakDown_35 (by decide) (fun c10 => ?_) (fun c10 => ?_)
          · have hf := if_t c10 hf
            exact J51 _ _ _ _ _ _ _ _ hf h (lv_sub hl [0, 1] rfl) hc
          · have hf := if_f c10 hf
            refine lv_aload_n hx hb dX9_breakDown_38 rfl (lv_at hl 0 rfl) ?_
            refine lv_iload_n hx hb dX9_breakDown_39 rfl (lv_at hl 1 rfl) ?_
            refine lv_bipush (v := 34) hx hb dX9_breakDown_40 (by decide) ?_
            refine lv_iconst (v := 1) hx hb dX9_breakDown_42 (by decide) ?_
            obtain ⟨y11, ny11, my11, ey11, hf, jy11⟩ := bnc_some hf
            refine k_X9_grow X h hA ey11 k_X9_190 dX9_breakDown_43 hl.1 ⟨(Nat.le_of_ble_eq_true rfl), (Nat.le_of_ble_eq_true rfl)⟩ (Nat.le_of_ble_eq_true rfl) (rmm1 hc jy11) (fun la H locs h => ?_)
            have hc := rmm2 hc jy11
            refine lv_aload_n hx hb dX9_breakDown_46 rfl (lv_at hl 0 rfl) ?_
            refine lv_iload_n hx hb dX9_breakDown_47 rfl (lv_at hl 1 rfl) ?_
            obtain ⟨y12, ny12, my12, ey12, hf, jy12⟩ := bnc_some hf
            refine k_X9_endRun X h hA ey12 k_X9_275 dX9_breakDown_48 hl.1 ⟨(Nat.le_of_ble_eq_true rfl), (Nat.le_of_ble_eq_true rfl)⟩ (Nat.le_of_ble_eq_true rfl) (rmm1 hc jy12) (fun la H locs h => ?_)
            have hc := rmm2 hc jy12
            exact J51 _ _ _ _ _ _ _ _ hf h (lv_sub hl [0, 1] rfl) hc
  obtain ⟨la, rfl⟩ : ∃ z, z = la0 := ⟨_, rfl⟩
  obtain ⟨w, rfl⟩ : ∃ z, z = w0 := ⟨_, rfl⟩
  have hl : lv_has ls 2 [(0, .ref (gq G 0))] := hl
  unfold f_X9_breakDown at hf
  refine wid0 ?_
  refine lv_iconst (v := 0) hx hb dX9_breakDown_0 (by decide) ?_
  refine lv_istore_n (lv' := [(1, .int ((0 : Int32))), (0, .ref (gq G 0))]) hx hb dX9_breakDown_1 rfl hl (by decide) rfl (fun ls hl => ?_)
  exact L2 FU _ _ _ _ _ _ _ _ hf h (lv_sub hl [1, 0] rfl) hc
theorem m_X9_breakDown : Cond.instanceMethod yX9_breakDown ∈ lw_good ∧ Cond.selects RX9 yX9_breakDown yX9_breakDown ∈ lw_good ∧ Cond.initialized RX9 ∈ lw_good ∧ Cond.code yX9_breakDown cX9_breakDown 2 none ∈ lw_good := by decide +kernel
theorem k_X9_breakDown {p : Program} {l : Launch} {e : Env} {R : Room} {s : State} {m : MethodId} {args : Array Value} {below : List Frame} {meth : Method} {c : Code} {H : Heap} {locs : List Loc} {cells : Nat} {Q : State → Prop} {cc : ByteArray} {nL pc idx : Nat} {ls : Array Slot} {rest : List Value} {own : String} {G : Gm} {A : Nat → Prop} {H0 : Heap} {la : Nat} {w : CW} {w' : CW} {n : Nat} (X : CX own cc nL G p s m args c) (h : CH G (cw G la w) A H0 H locs) (hA : ∀ q, H0.size ≤ q → A q) (hf : f_X9_breakDown w = some (w', n)) (hlk : Cond.methodLink own idx yX9_breakDown ∈ lw_good) (hd : decode cc pc = .ok (.invokevirtual idx, 3)) (hsz : ls.size = nL) (hR : 8 ≤ R.frames ∧ 199 ≤ R.locals) (hrest : (rest.map fun v => v.category).sum ≤ 8) (hk : cells + n ≤ R.cells ∧ 4096 * cells + 4096 * n ≤ R.slots) (k : ∀ (la : Nat) (H : Heap) (locs : List Loc), CH G (cw G la (w')) A H0 H locs → W p l e R s m args below meth c H locs (cells + n) (4096 * (cells + n)) Q (F0 m (pc + 3) ls (rest))) : W p l e R s m args below meth c H locs cells (4096 * cells) Q (F0 m pc ls (.ref (gq G 0) :: rest)) :=
  fin_v (n := n) (runV (As := []) X.1 0 (t_X9_breakDown l G la w w' n hf _) rfl rfl hlk m_X9_breakDown (by decide +kernel) ⟨hR.1, hR.2⟩ ⟨blindM, va_recv X.2.1 h.1 (ci := 8) (q0 := 0) rfl rfl, preM X.2 h⟩ rfl hsz hrest hd hk) h hA (fun la H locs h => by rw [← Nat.mul_add]; exact k la H locs h)
def f_X9_lineUpRuns_b86 (k4 : (Int32 → Int32 → CW → Option (Int32 × CW))) (x1 : Int32) (x2 : Int32) (w : CW) : Option (Int32 × CW) :=
 k4 x1 (x2 + (1 : Int32)) w
def f_X9_lineUpRuns_b75 (k4 : (Int32 → Int32 → CW → Option (Int32 × CW))) (x1 : Int32) (x2 : Int32) (x4 : Int32) (w : CW) : Option (Int32 × CW) :=
 chk (inb x4 60) (
 f_X9_lineUpRuns_b86 k4 (x1 + (1 : Int32)) x2 (cs w 7 x4.toNatClampNeg x2))
def f_X9_lineUpRuns_l29_body (k4 : (Int32 → Int32 → CW → Option (Int32 × CW))) (kself : (Int32 → Int32 → Int32 → Int32 → CW → Option (Int32 × CW))) (x1 : Int32) (x2 : Int32) (x3 : Int32) (x4 : Int32) (w : CW) : Option (Int32 × CW) :=
 if x4 ≤ 0 then
 (f_X9_lineUpRuns_b75 k4 x1 x2 x4 w)
 else
 (chk (inb (x4 - ((1 : Int32))) 60) (
 (f_X9_read (w.1 7 (x4 - ((1 : Int32))).toNatClampNeg) ((6 : Int32)) w).bind fun y4 =>
 if x3 ≤ y4 then
 (f_X9_lineUpRuns_b75 k4 x1 x2 x4 w)
 else
 (chk (inb (x4 - ((1 : Int32))) 60) (
 chk (inb x4 60) (
 kself x1 x2 x3 (x4 + (-1 : Int32)) (cs w 7 x4.toNatClampNeg (w.1 7 (x4 - ((1 : Int32))).toNatClampNeg)))))))
def f_X9_lineUpRuns_l29 (k4 : (Int32 → Int32 → CW → Option (Int32 × CW))) : Nat → Int32 → Int32 → Int32 → Int32 → CW → Option (Int32 × CW)
  | 0, _, _, _, _, _ => none
  | n + 1, x1, x2, x3, x4, w => f_X9_lineUpRuns_l29_body k4 (f_X9_lineUpRuns_l29 k4 n) x1 x2 x3 x4 w
def f_X9_lineUpRuns_l4_body (kself : (Int32 → Int32 → CW → Option (Int32 × CW))) (x1 : Int32) (x2 : Int32) (w : CW) : Option (Int32 × CW) :=
 if ((60 : Int32)) ≤ x2 then
 (some (x1, w))
 else
 ((f_X9_hasRun x2 w).bind fun y9 =>
 if y9 = 0 then
 (f_X9_lineUpRuns_b86 kself x1 x2 w)
 else
 ((f_X9_read x2 ((6 : Int32)) w).bind fun y11 =>
 f_X9_lineUpRuns_l29 kself FU x1 x2 y11 x1 w))
def f_X9_lineUpRuns_l4 : Nat → Int32 → Int32 → CW → Option (Int32 × CW)
  | 0, _, _, _ => none
  | n + 1, x1, x2, w => f_X9_lineUpRuns_l4_body (f_X9_lineUpRuns_l4 n) x1 x2 w
def f_X9_lineUpRuns (w : CW) : Option (Int32 × CW) :=
 f_X9_lineUpRuns_l4 FU ((0 : Int32)) ((0 : Int32)) w
set_option maxHeartbeats 4000000 in
set_option maxRecDepth 100000 in
theorem t_X9_lineUpRuns (l : Launch) (G : Gm) (la : Nat) (w0 : CW) (r : Int32) (w' : CW) (hf : f_X9_lineUpRuns w0 = some (r, w')) : MetI l yX9_lineUpRuns cX9_lineUpRuns 5 (some .int) 3 64 G (cw G la w0) [.ref (gq G 0)] r (fun _ => cw G la (w')) 0 := by
  intro sz
  refine ent (own := RX9) (As := [.ref (gq G 0)]) (by decide +kernel) rfl (Nat.le_of_ble_eq_true rfl) (fun _ _ h => h.1) ?_
  intro p e s m args below meth c ls B hr hlocks hv hl
  obtain ⟨-, hsz, hP, hKK, hD⟩ := hv
  subst hsz
  have X : CX RX9 cX9_lineUpRuns 5 G p s m args c := ⟨B, hKK⟩
  obtain ⟨hx, hb, hml, hown, hts⟩ := id B
  have hA : ∀ q : Nat, s.heap.size ≤ q → va_A (cw G la w0) s.heap.size q := fun q z => Or.inr z
  have h : CH G (cw G la w0) (va_A (cw G la w0) s.heap.size) s.heap s.heap [] := ⟨hP, hD.self, va_S.rf⟩
  have L4 : ∀ (n4 : Nat) (x1 : Int32) (x2 : Int32) (w : CW) (H : Heap) (locs : List Loc) (ls : Array Slot), f_X9_lineUpRuns_l4 n4 x1 x2 w = some (r, w') → CH G (cw G la w) (va_A (cw G la w0) s.heap.size) s.heap H locs → lv_has ls 5 [(0, .ref (gq G 0)), (1, .int x1), (2, .int x2)] → W p l e { frames := 3, cells := 0, slots := 4096 * 0, locals := 64 } s m args below meth c H locs 0 (4096 * 0) (MQ below (QI G (cw G la w0) s.heap.size r (fun _ => cw G la (w'))) args s 0 (4096 * 0) (va_A (cw G la w0) s.heap.size)) (F0 m 4 ls []) := by
    intro n4
    induction n4 with
    | zero =>
      intro x1 x2 w H locs ls hf h hl
      cases (show (none : Option (Int32 × CW)) = some _ from hf)
    | succ n4 ih4 =>
      have J86 : ∀ (x1 : Int32) (x2 : Int32) (w : CW) (H : Heap) (locs : List Loc) (ls : Array Slot), f_X9_lineUpRuns_b86 (f_X9_lineUpRuns_l4 n4) x1 x2 w = some (r, w') → CH G (cw G la w) (va_A (cw G la w0) s.heap.size) s.heap H locs → lv_has ls 5 [(0, .ref (gq G 0)), (1, .int x1), (2, .int x2)] → W p l e { frames := 3, cells := 0, slots := 4096 * 0, locals := 64 } s m args below meth c H locs 0 (4096 * 0) (MQ below (QI G (cw G la w0) s.heap.size r (fun _ => cw G la (w'))) args s 0 (4096 * 0) (va_A (cw G la w0) s.heap.size)) (F0 m 86 ls []) := by
        intro x1 x2 w H locs ls hf h hl
        unfold f_X9_lineUpRuns_b86 at hf
        refine lv_iinc (v := x2 + (1 : Int32)) (lv' := [(2, .int (x2 + (1 : Int32))), (0, .ref (gq G 0)), (1, .int x1)]) hx hb dX9_lineUpRuns_86 hl (k := 2) rfl (by rfl) (by decide) rfl (fun ls hl => ?_)
        refine lv_goto (tgt := 4) hx hb dX9_lineUpRuns_89 (by decide) ?_
        exact ih4 _ _ _ _ _ _ hf h (lv_sub hl [1, 2, 0] rfl)
      have J75 : ∀ (x1 : Int32) (x2 : Int32) (x4 : Int32) (w : CW) (H : Heap) (locs : List Loc) (ls : Array Slot), f_X9_lineUpRuns_b75 (f_X9_lineUpRuns_l4 n4) x1 x2 x4 w = some (r, w') → CH G (cw G la w) (va_A (cw G la w0) s.heap.size) s.heap H locs → lv_has ls 5 [(0, .ref (gq G 0)), (1, .int x1), (2, .int x2), (4, .int x4)] → W p l e { frames := 3, cells := 0, slots := 4096 * 0, locals := 64 } s m args below meth c H locs 0 (4096 * 0) (MQ below (QI G (cw G la w0) s.heap.size r (fun _ => cw G la (w'))) args s 0 (4096 * 0) (va_A (cw G la w0) s.heap.size)) (F0 m 75 ls []) := by
        intro x1 x2 x4 w H locs ls hf h hl
        unfold f_X9_lineUpRuns_b75 at hf
        refine lv_aload_n hx hb dX9_lineUpRuns_75 rfl (lv_at hl 0 rfl) ?_
        refine GC_0_6 X h k_X9_62 dX9_lineUpRuns_76 ?_
        refine lv_iload hx hb dX9_lineUpRuns_79 (lv_at hl 3 rfl) ?_
        refine lv_iload_n hx hb dX9_lineUpRuns_81 rfl (lv_at hl 2 rfl) ?_
        obtain ⟨c1, hf⟩ := chk_some hf
        refine SC_7 X h c1 dX9_lineUpRuns_82 (fun H locs h => ?_)
        refine lv_iinc (v := x1 + (1 : Int32)) (lv' := [(1, .int (x1 + (1 : Int32))), (0, .ref (gq G 0)), (2, .int x2), (4, .int x4)]) hx hb dX9_lineUpRuns_83 hl (k := 1) rfl (by rfl) (by decide) rfl (fun ls hl => ?_)
        exact J86 _ _ _ _ _ _ hf h (lv_sub hl [1, 0, 2] rfl)
      have L29 : ∀ (n29 : Nat) (x1 : Int32) (x2 : Int32) (x3 : Int32) (x4 : Int32) (w : CW) (H : Heap) (locs : List Loc) (ls : Array Slot), f_X9_lineUpRuns_l29 (f_X9_lineUpRuns_l4 n4) n29 x1 x2 x3 x4 w = some (r, w') → CH G (cw G la w) (va_A (cw G la w0) s.heap.size) s.heap H locs → lv_has ls 5 [(0, .ref (gq G 0)), (1, .int x1), (2, .int x2), (3, .int x3), (4, .int x4)] → W p l e { frames := 3, cells := 0, slots := 4096 * 0, locals := 64 } s m args below meth c H locs 0 (4096 * 0) (MQ below (QI G (cw G la w0) s.heap.size r (fun _ => cw G la (w'))) args s 0 (4096 * 0) (va_A (cw G la w0) s.heap.size)) (F0 m 29 ls []) := by
        intro n29
        induction n29 with
        | zero =>
          intro x1 x2 x3 x4 w H locs ls hf h hl
          cases (show (none : Option (Int32 × CW)) = some _ from hf)
        | succ n29 ih29 =>
          intro x1 x2 x3 x4 w H locs ls hf h hl
          have hf : f_X9_lineUpRuns_l29_body (f_X9_lineUpRuns_l4 n4) (f_X9_lineUpRuns_l29 (f_X9_lineUpRuns_l4 n4) n29) x1 x2 x3 x4 w = _ := hf
          unfold f_X9_lineUpRuns_l29_body at hf
          refine lv_iload hx hb dX9_lineUpRuns_29 (lv_at hl 4 rfl) ?_
          refine lv_if_le (tgt := 75) hx hb dX9_lineUpRuns_31 (by decide) (fun c2 => ?_) (fun c2 => ?_)
          · have hf := if_t c2 hf
            exact J75 _ _ _ _ _ _ _ hf h (lv_sub hl [0, 1, 2, 4] rfl)
          · have hf := if_f c2 hf
            refine lv_aload_n hx hb dX9_lineUpRuns_34 rfl (lv_at hl 0 rfl) ?_
            refine lv_aload_n hx hb dX9_lineUpRuns_35 rfl (lv_at hl 0 rfl) ?_
            refine GC_0_6 X h k_X9_62 dX9_lineUpRuns_36 ?_
            refine lv_iload hx hb dX9_lineUpRuns_39 (lv_at hl 4 rfl) ?_
            refine lv_iconst (v := 1) hx hb dX9_lineUpRuns_41 (by decide) ?_
            refine lv_isub hx hb dX9_lineUpRuns_42 ?_
            obtain ⟨c3, hf⟩ := chk_some hf
            refine LC_7 X h c3 dX9_lineUpRuns_43 ?_
            refine lv_bipush (v := 6) hx hb dX9_lineUpRuns_44 (by decide) ?_
            obtain ⟨y4, ey4, hf⟩ := bnd_some hf
            refine k_X9_read X h ey4 k_X9_110 dX9_lineUpRuns_46 hl.1 ⟨(Nat.le_of_ble_eq_true rfl), (Nat.le_of_ble_eq_true rfl)⟩ (Nat.le_of_ble_eq_true rfl) ⟨Nat.zero_le _, Nat.zero_le _⟩ ?_
            refine lv_iload_n hx hb dX9_lineUpRuns_49 rfl (lv_at hl 3 rfl) ?_
            refine lv_icmp_ge (tgt := 75) hx hb dX9_lineUpRuns_50 (by decide) (fun c5 => ?_) (fun c5 => ?_)
            · have hf := if_t c5 hf
              exact J75 _ _ _ _ _ _ _ hf h (lv_sub hl [0, 1, 2, 4] rfl)
            · have hf := if_f c5 hf
              refine lv_aload_n hx hb dX9_lineUpRuns_53 rfl (lv_at hl 0 rfl) ?_
              refine GC_0_6 X h k_X9_62 dX9_lineUpRuns_54 ?_
              refine lv_iload hx hb dX9_lineUpRuns_57 (lv_at hl 4 rfl) ?_
              refine lv_aload_n hx hb dX9_lineUpRuns_59 rfl (lv_at hl 0 rfl) ?_
              refine GC_0_6 X h k_X9_62 dX9_lineUpRuns_60 ?_
              refine lv_iload hx hb dX9_lineUpRuns_63 (lv_at hl 4 rfl) ?_
              refine lv_iconst (v := 1) hx hb dX9_lineUpRuns_65 (by decide) ?_
              refine lv_isub hx hb dX9_lineUpRuns_66 ?_
              obtain ⟨c6, hf⟩ := chk_some hf
              refine LC_7 X h c6 dX9_lineUpRuns_67 ?_
              obtain ⟨c7, hf⟩ := chk_some hf
              refine SC_7 X h c7 dX9_lineUpRuns_68 (fun H locs h => ?_)
              refine lv_iinc (v := x4 + (-1 : Int32)) (lv' := [(4, .int (x4 + (-1 : Int32))), (0, .ref (gq G 0)), (1, .int x1), (2, .int x2), (3, .int x3)]) hx hb dX9_lineUpRuns_69 hl (k := 4) rfl (by rfl) (by decide) rfl (fun ls hl => ?_)
              refine lv_goto (tgt := 29) hx hb dX9_lineUpRuns_72 (by decide) ?_
              exact ih29 _ _ _ _ _ _ _ _ hf h (lv_sub hl [1, 2, 3, 4, 0] rfl)
      intro x1 x2 w H locs ls hf h hl
      have hf : f_X9_lineUpRuns_l4_body (f_X9_lineUpRuns_l4 n4) x1 x2 w = _ := hf
      unfold f_X9_lineUpRuns_l4_body at hf
      refine lv_iload_n hx hb dX9_lineUpRuns_4 rfl (lv_at hl 2 rfl) ?_
      refine lv_bipush (v := 60) hx hb dX9_lineUpRuns_5 (by decide) ?_
      refine lv_icmp_ge (tgt := 92) hx hb dX9_lineUpRuns_7 (by decide) (fun c8 => ?_) (fun c8 => ?_)
      · have hf := if_t c8 hf
        refine lv_iload_n hx hb dX9_lineUpRuns_92 rfl (lv_at hl 1 rfl) ?_
        exact e0_i (Wf := cw G la) X.1 hr hlocks hf h dX9_lineUpRuns_93
      · have hf := if_f c8 hf
        refine lv_aload_n hx hb dX9_lineUpRuns_10 rfl (lv_at hl 0 rfl) ?_
        refine lv_iload_n hx hb dX9_lineUpRuns_11 rfl (lv_at hl 2 rfl) ?_
        obtain ⟨y9, ey9, hf⟩ := bnd_some hf
        refine k_X9_hasRun X h ey9 k_X9_114 dX9_lineUpRuns_12 hl.1 ⟨(Nat.le_of_ble_eq_true rfl), (Nat.le_of_ble_eq_true rfl)⟩ (Nat.le_of_ble_eq_true rfl) ⟨Nat.zero_le _, Nat.zero_le _⟩ ?_
        refine lv_if_eq (tgt := 86) hx hb dX9_lineUpRuns_15 (by decide) (fun c10 => ?_) (fun c10 => ?_)
        · have hf := if_t c10 hf
          exact J86 _ _ _ _ _ _ hf h (lv_sub hl [0, 1, 2] rfl)
        · have hf := if_f c10 hf
          refine lv_aload_n hx hb dX9_lineUpRuns_18 rfl (lv_at hl 0 rfl) ?_
          refine lv_iload_n hx hb dX9_lineUpRuns_19 rfl (lv_at hl 2 rfl) ?_
          refine lv_bipush (v := 6) hx hb dX9_lineUpRuns_20 (by decide) ?_
          obtain ⟨y11, ey11, hf⟩ := bnd_some hf
          refine k_X9_read X h ey11 k_X9_110 dX9_lineUpRuns_22 hl.1 ⟨(Nat.le_of_ble_eq_true rfl), (Nat.le_of_ble_eq_true rfl)⟩ (Nat.le_of_ble_eq_true rfl) ⟨Nat.zero_le _, Nat.zero_le _⟩ ?_
          refine lv_istore_n (lv' := [(3, .int y11), (0, .ref (gq G 0)), (1, .int x1), (2, .int x2)]) hx hb dX9_lineUpRuns_25 rfl hl (by decide) rfl (fun ls hl => ?_)
          refine lv_iload_n hx hb dX9_lineUpRuns_26 rfl (lv_at hl 2 rfl) ?_
          refine lv_istore (lv' := [(4, .int x1), (3, .int y11), (0, .ref (gq G 0)), (1, .int x1), (2, .int x2)]) hx hb dX9_lineUpRuns_27 hl (by decide) rfl (fun ls hl => ?_)
          exact L29 FU _ _ _ _ _ _ _ _ hf h (lv_sub hl [2, 3, 4, 1, 0] rfl)
  obtain ⟨w, rfl⟩ : ∃ z, z = w0 := ⟨_, rfl⟩
  have hl : lv_has ls 5 [(0, .ref (gq G 0))] := hl
  unfold f_X9_lineUpRuns at hf
  refine lv_iconst (v := 0) hx hb dX9_lineUpRuns_0 (by decide) ?_
  refine lv_istore_n (lv' := [(1, .int ((0 : Int32))), (0, .ref (gq G 0))]) hx hb dX9_lineUpRuns_1 rfl hl (by decide) rfl (fun ls hl => ?_)
  refine lv_iconst (v := 0) hx hb dX9_lineUpRuns_2 (by decide) ?_
  refine lv_istore_n (lv' := [(2, .int ((0 : Int32))), (1, .int ((0 : Int32))), (0, .ref (gq G 0))]) hx hb dX9_lineUpRuns_3 rfl hl (by decide) rfl (fun ls hl => ?_)
  exact L4 FU _ _ _ _ _ _ hf h (lv_sub hl [2, 1, 0] rfl)
theorem m_X9_lineUpRuns : Cond.instanceMethod yX9_lineUpRuns ∈ lw_good ∧ Cond.selects RX9 yX9_lineUpRuns yX9_lineUpRuns ∈ lw_good ∧ Cond.initialized RX9 ∈ lw_good ∧ Cond.code yX9_lineUpRuns cX9_lineUpRuns 5 (some .int) ∈ lw_good := by decide +kernel
theorem k_X9_lineUpRuns {p : Program} {l : Launch} {e : Env} {R : Room} {s : State} {m : MethodId} {args : Array Value} {below : List Frame} {meth : Method} {c : Code} {H : Heap} {locs : List Loc} {cells slots : Nat} {Q : State → Prop} {cc : ByteArray} {nL pc idx : Nat} {ls : Array Slot} {rest : List Value} {own : String} {G : Gm} {A : Nat → Prop} {H0 : Heap} {la : Nat} {w : CW} {y : Int32 × CW} (X : CX own cc nL G p s m args c) (h : CH G (cw G la w) A H0 H locs) (hA : ∀ q, H0.size ≤ q → A q) (hf : f_X9_lineUpRuns w = some y) (hlk : Cond.methodLink own idx yX9_lineUpRuns ∈ lw_good) (hd : decode cc pc = .ok (.invokevirtual idx, 3)) (hsz : ls.size = nL) (hR : 4 ≤ R.frames ∧ 88 ≤ R.locals) (hrest : (rest.map fun v => v.category).sum ≤ 8) (hk : cells ≤ R.cells ∧ slots ≤ R.slots) (k : ∀ (H : Heap) (locs : List Loc), CH G (cw G la y.2) A H0 H locs → W p l e R s m args below meth c H locs cells slots Q (F0 m (pc + 3) ls (.int y.1 :: rest))) : W p l e R s m args below meth c H locs cells slots Q (F0 m pc ls (.ref (gq G 0) :: rest)) :=
  fin_i (n := 0) (runV (As := []) X.1 0 (t_X9_lineUpRuns l G la w y.1 y.2 hf _) rfl rfl hlk m_X9_lineUpRuns (by decide +kernel) ⟨hR.1, hR.2⟩ ⟨blindM, va_recv X.2.1 h.1 (ci := 8) (q0 := 0) rfl rfl, preM X.2 h⟩ rfl hsz hrest hd hk) h hA (fun _ H locs h => k H locs h)
