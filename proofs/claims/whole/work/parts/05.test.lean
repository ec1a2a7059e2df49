theorem k_X9_92 : Cond.methodLink RX9 92 yX9_within ∈ lw_good := by decide +kernel
theorem k_X1_9 : Cond.fieldLink RX1 9 "WashHouse$Cells" "now" "[I" ∈ lw_good := by decide +kernel
theorem k_X9_12 : Cond.fieldLink RX9 12 "WashHouse" "cells" "LWashHouse$Cells;" ∈ lw_good := by decide +kernel
theorem k_X9_175 : Cond.methodLink RX9 175 yX1_get ∈ lw_good := by decide +kernel
theorem k_X9_110 : Cond.methodLink RX9 110 yX9_read ∈ lw_good := by decide +kernel
theorem k_X9_81 : Cond.fieldLink RX9 81 "WashHouse" "latestFinding" "I" ∈ lw_good := by decide +kernel
theorem k_X9_78 : Cond.fieldLink RX9 78 "WashHouse" "findings" "I" ∈ lw_good := by decide +kernel
theorem k_X9_88 : Cond.methodLink RX9 88 yX9_isPlace ∈ lw_good := by decide +kernel
theorem k_X9_55 : Cond.fieldLink RX9 55 "WashHouse" "entries" "[I" ∈ lw_good := by decide +kernel
theorem k_X1_28 : Cond.fieldLink RX1 28 "WashHouse$Cells" "time" "I" ∈ lw_good := by decide +kernel
theorem k_X1_21 : Cond.fieldLink RX1 21 "WashHouse$Cells" "first" "I" ∈ lw_good := by decide +kernel
theorem k_X1_25 : Cond.fieldLink RX1 25 "WashHouse$Cells" "end" "I" ∈ lw_good := by decide +kernel
theorem k_X1_31 : Cond.fieldLink RX1 31 "WashHouse$Cells" "oldest" "I" ∈ lw_good := by decide +kernel
theorem k_X1_15 : Cond.fieldLink RX1 15 "WashHouse$Cells" "marks" "[I" ∈ lw_good := by decide +kernel
theorem k_X1_71 : Cond.methodLink RX1 71 yJ9_floorMod_7cf53 ∈ lw_good := by decide +kernel
theorem k_X1_45 : Cond.methodLink RX1 45 Lib.Math.max.name ∈ lw_good := by decide +kernel
theorem k_X1_51 : Cond.methodLink RX1 51 yX1_slotOf ∈ lw_good := by decide +kernel
theorem k_X1_18 : Cond.fieldLink RX1 18 "WashHouse$Cells" "log" "[I" ∈ lw_good := by decide +kernel
def f_X9_within (x0 : Int32) (x1 : Int32) (x2 : Int32) : Option Int32 :=
 if x0 < x1 then
 (some ((0 : Int32)))
 else
 (if x2 < x0 then
 (some ((0 : Int32)))
 else
 (some ((1 : Int32))))
set_option maxHeartbeats 4000000 in
set_option maxRecDepth 100000 in
theorem t_X9_within (l : Launch) (x0 : Int32) (x1 : Int32) (x2 : Int32) (r : Int32) (hf : f_X9_within x0 x1 x2 = some r) : MetP l yX9_within cX9_within 3 (some .boolean) 0 0 [.int x0, .int x1, .int x2] (.int r) := by
  refine ent (own := RX9) (As := [.int x0, .int x1, .int x2]) (by decide +kernel) rfl (Nat.le_of_ble_eq_true rfl) (fun _ _ h => h.1) ?_
  intro p e s m args below meth c ls B hr hlocks hv hl
  obtain ⟨hx, hb, hml, hown, hts⟩ := id B
  have hl : lv_has ls 3 [(0, .int x0), (1, .int x1), (2, .int x2)] := hl
  unfold f_X9_within at hf
  refine lv_iload_n hx hb dX9_within_0 rfl (lv_at hl 0 rfl) ?_
  refine lv_iload_n hx hb dX9_within_1 rfl (lv_at hl 1 rfl) ?_
  refine lv_icmp_lt (tgt := 14) hx hb dX9_within_2 (by decide) (fun c1 => ?_) (fun c1 => ?_)
  · have hf := if_t c1 hf
    refine lv_iconst (v := 0) hx hb dX9_within_14 (by decide) ?_
    cases hf
    exact rr_z B hr hlocks (Or.inl rfl) dX9_within_15
  · have hf := if_f c1 hf
    refine lv_iload_n hx hb dX9_within_5 rfl (lv_at hl 0 rfl) ?_
    refine lv_iload_n hx hb dX9_within_6 rfl (lv_at hl 2 rfl) ?_
    refine lv_icmp_gt (tgt := 14) hx hb dX9_within_7 (by decide) (fun c2 => ?_) (fun c2 => ?_)
    · have hf := if_t c2 hf
      refine lv_iconst (v := 0) hx hb dX9_within_14 (by decide) ?_
      cases hf
      exact rr_z B hr hlocks (Or.inl rfl) dX9_within_15
    · have hf := if_f c2 hf
      refine lv_iconst (v := 1) hx hb dX9_within_10 (by decide) ?_
      refine lv_goto (tgt := 15) hx hb dX9_within_11 (by decide) ?_
      cases hf
      exact rr_z B hr hlocks (Or.inr rfl) dX9_within_15
theorem m_X9_within : Cond.static yX9_within ∈ lw_good ∧ Cond.initialized yX9_within.cls ∈ lw_good ∧ Cond.code yX9_within cX9_within 3 (some .boolean) ∈ lw_good := by decide +kernel
theorem k_X9_within {p : Program} {l : Launch} {e : Env} {R : Room} {s : State} {m : MethodId} {args : Array Value} {below : List Frame} {meth : Method} {c : Code} {H : Heap} {locs : List Loc} {cells slots : Nat} {Q : State → Prop} {cc : ByteArray} {nL pc idx : Nat} {ls : Array Slot} {rest : List Value} {own : String} {x0 : Int32} {x1 : Int32} {x2 : Int32} {r : Int32} (B : CB own cc nL p s m args c) (hf : f_X9_within x0 x1 x2 = some r) (hlk : Cond.methodLink own idx yX9_within ∈ lw_good) (hd : decode cc pc = .ok (.invokestatic idx, 3)) (hsz : ls.size = nL) (hR : 1 ≤ R.frames ∧ 22 ≤ R.locals) (hrest : (rest.map fun v => v.category).sum ≤ 8) (hk : cells ≤ R.cells ∧ slots ≤ R.slots) (k : W p l e R s m args below meth c H locs cells slots Q (F0 m (pc + 3) ls (.int r :: rest))) : W p l e R s m args below meth c H locs cells slots Q (F0 m pc ls (.int x2 :: .int x1 :: .int x0 :: rest)) :=
  fin_r (runS (As := [.int x0, .int x1, .int x2]) B 3 (t_X9_within l x0 x1 x2 r hf) rfl rfl hlk m_X9_within (by decide +kernel) ⟨hR.1, hR.2⟩ ⟨blindP, preP⟩ rfl hsz hrest hd hk) k
theorem kn_X9_within {p : Program} {l : Launch} {e : Env} {R : Room} {s : State} {m : MethodId} {args : Array Value} {below : List Frame} {meth : Method} {c : Code} {H : Heap} {locs : List Loc} {cells slots : Nat} {Q : State → Prop} {cc : ByteArray} {nL pc idx : Nat} {ls : Array Slot} {rest : List Value} {own : String} {x0 : Int32} {x1 : Int32} {x2 : Int32} {r : Int32} (B : CB own cc nL p s m args c) (hf : f_X9_within x0 x1 x2 = some r) (hlk : va_Nw (.methodLinkNest own idx yX9_within RX9) s) (hd : decode cc pc = .ok (.invokestatic idx, 3)) (hsz : ls.size = nL) (hR : 1 ≤ R.frames ∧ 22 ≤ R.locals) (hrest : (rest.map fun v => v.category).sum ≤ 8) (hk : cells ≤ R.cells ∧ slots ≤ R.slots) (k : W p l e R s m args below meth c H locs cells slots Q (F0 m (pc + 3) ls (.int r :: rest))) : W p l e R s m args below meth c H locs cells slots Q (F0 m pc ls (.int x2 :: .int x1 :: .int x0 :: rest)) :=
  fin_r (runSN (As := [.int x0, .int x1, .int x2]) B 3 (t_X9_within l x0 x1 x2 r hf) rfl rfl hlk m_X9_within (by decide +kernel) ⟨hR.1, hR.2⟩ ⟨blindP, preP⟩ rfl hsz hrest hd hk) k
def f_X9_isPlace (x0 : Int32) : Option Int32 :=
 (f_X9_within x0 ((0 : Int32)) ((59 : Int32))).bind fun y1 =>
 chk (y1 = 0 ∨ y1 = 1) (
 some y1)
set_option maxHeartbeats 4000000 in
set_option maxRecDepth 100000 in
theorem t_X9_isPlace (l : Launch) (x0 : Int32) (r : Int32) (hf : f_X9_isPlace x0 = some r) : MetP l yX9_isPlace cX9_isPlace 1 (some .boolean) 1 22 [.int x0] (.int r) := by
  refine ent (own := RX9) (As := [.int x0]) (by decide +kernel) rfl (Nat.le_of_ble_eq_true rfl) (fun _ _ h => h.1) ?_
  intro p e s m args below meth c ls B hr hlocks hv hl
  obtain ⟨hx, hb, hml, hown, hts⟩ := id B
  have hl : lv_has ls 1 [(0, .int x0)] := hl
  unfold f_X9_isPlace at hf
  refine lv_iload_n hx hb dX9_isPlace_0 rfl (lv_at hl 0 rfl) ?_
  refine lv_iconst (v := 0) hx hb dX9_isPlace_1 (by decide) ?_
  refine lv_bipush (v := 59) hx hb dX9_isPlace_2 (by decide) ?_
  obtain ⟨y1, ey1, hf⟩ := bnd_some hf
  refine k_X9_within B ey1 k_X9_92 dX9_isPlace_4 hl.1 ⟨(Nat.le_of_ble_eq_true rfl), (Nat.le_of_ble_eq_true rfl)⟩ (Nat.le_of_ble_eq_true rfl) ⟨Nat.zero_le _, Nat.zero_le _⟩ ?_
  obtain ⟨c2, hf⟩ := chk_some hf
  cases hf
  exact rr_z B hr hlocks c2 dX9_isPlace_7
theorem m_X9_isPlace : Cond.static yX9_isPlace ∈ lw_good ∧ Cond.initialized yX9_isPlace.cls ∈ lw_good ∧ Cond.code yX9_isPlace cX9_isPlace 1 (some .boolean) ∈ lw_good := by decide +kernel
theorem k_X9_isPlace {p : Program} {l : Launch} {e : Env} {R : Room} {s : State} {m : MethodId} {args : Array Value} {below : List Frame} {meth : Method} {c : Code} {H : Heap} {locs : List Loc} {cells slots : Nat} {Q : State → Prop} {cc : ByteArray} {nL pc idx : Nat} {ls : Array Slot} {rest : List Value} {own : String} {x0 : Int32} {r : Int32} (B : CB own cc nL p s m args c) (hf : f_X9_isPlace x0 = some r) (hlk : Cond.methodLink own idx yX9_isPlace ∈ lw_good) (hd : decode cc pc = .ok (.invokestatic idx, 3)) (hsz : ls.size = nL) (hR : 2 ≤ R.frames ∧ 42 ≤ R.locals) (hrest : (rest.map fun v => v.category).sum ≤ 8) (hk : cells ≤ R.cells ∧ slots ≤ R.slots) (k : W p l e R s m args below meth c H locs cells slots Q (F0 m (pc + 3) ls (.int r :: rest))) : W p l e R s m args below meth c H locs cells slots Q (F0 m pc ls (.int x0 :: rest)) :=
  fin_r (runS (As := [.int x0]) B 1 (t_X9_isPlace l x0 r hf) rfl rfl hlk m_X9_isPlace (by decide +kernel) ⟨hR.1, hR.2⟩ ⟨blindP, preP⟩ rfl hsz hrest hd hk) k
def f_X1_get (x1 : Int32) (w : CW) : Option Int32 :=
 if x1 < 0 then
 (some ((0 : Int32)))
 else
 (if x1 < (Int32.ofNat 8556) then
 (chk (inb x1 8556) (
 some (w.1 11 x1.toNatClampNeg)))
 else
 (some ((0 : Int32))))
set_option maxHeartbeats 4000000 in
set_option maxRecDepth 100000 in
theorem t_X1_get (l : Launch) (G : Gm) (la : Nat) (w : CW) (x1 : Int32) (r : Int32) (hf : f_X1_get x1 w = some r) : MetR l yX1_get cX1_get 2 (some .int) 0 0 G (cw G la w) [.ref (gq G 1), .int x1] (.int r) := by
  refine ent (own := RX1) (As := [.ref (gq G 1), .int x1]) (by decide +kernel) rfl (Nat.le_of_ble_eq_true rfl) (fun _ _ h => h.1) ?_
  intro p e s m args below meth c ls B hr hlocks hv hl
  obtain ⟨-, hP, hKK, hD⟩ := hv
  have X : CX RX1 cX1_get 2 G p s m args c := ⟨B, hKK⟩
  obtain ⟨hx, hb, hml, hown, hts⟩ := id B
  have h : CH G (cw G la w) (fun _ => True) s.heap s.heap [] := ⟨hP, hD, va_S.rf⟩
  have hl : lv_has ls 2 [(0, .ref (gq G 1)), (1, .int x1)] := hl
  unfold f_X1_get at hf
  refine lv_iload_n hx hb dX1_get_0 rfl (lv_at hl 1 rfl) ?_
  refine lv_if_lt (tgt := 13) hx hb dX1_get_1 (by decide) (fun c1 => ?_) (fun c1 => ?_)
  · have hf := if_t c1 hf
    refine lv_iconst (v := 0) hx hb dX1_get_13 (by decide) ?_
    refine lv_goto (tgt := 23) hx hb dX1_get_14 (by decide) ?_
    cases hf
    exact rr_i X.1 hr hlocks dX1_get_23
  · have hf := if_f c1 hf
    refine lv_iload_n hx hb dX1_get_4 rfl (lv_at hl 1 rfl) ?_
    refine lv_aload_n hx hb dX1_get_5 rfl (lv_at hl 0 rfl) ?_
    refine GC_1_0 X h k_X1_9 dX1_get_6 ?_
    refine NC_11 X h dX1_get_9 ?_
    refine lv_icmp_lt (tgt := 17) hx hb dX1_get_10 (by decide) (fun c2 => ?_) (fun c2 => ?_)
    · have hf := if_t c2 hf
      refine lv_aload_n hx hb dX1_get_17 rfl (lv_at hl 0 rfl) ?_
      refine GC_1_0 X h k_X1_9 dX1_get_18 ?_
      refine lv_iload_n hx hb dX1_get_21 rfl (lv_at hl 1 rfl) ?_
      obtain ⟨c3, hf⟩ := chk_some hf
      refine LC_11 X h c3 dX1_get_22 ?_
      cases hf
      exact rr_i X.1 hr hlocks dX1_get_23
    · have hf := if_f c2 hf
      refine lv_iconst (v := 0) hx hb dX1_get_13 (by decide) ?_
      refine lv_goto (tgt := 23) hx hb dX1_get_14 (by decide) ?_
      cases hf
      exact rr_i X.1 hr hlocks dX1_get_23
theorem m_X1_get : Cond.instanceMethod yX1_get ∈ lw_good ∧ Cond.selects RX1 yX1_get yX1_get ∈ lw_good ∧ Cond.initialized RX1 ∈ lw_good ∧ Cond.code yX1_get cX1_get 2 (some .int) ∈ lw_good := by decide +kernel
theorem k_X1_get {p : Program} {l : Launch} {e : Env} {R : Room} {s : State} {m : MethodId} {args : Array Value} {below : List Frame} {meth : Method} {c : Code} {H : Heap} {locs : List Loc} {cells slots : Nat} {Q : State → Prop} {cc : ByteArray} {nL pc idx : Nat} {ls : Array Slot} {rest : List Value} {own : String} {G : Gm} {A : Nat → Prop} {H0 : Heap} {la : Nat} {w : CW} {x1 : Int32} {r : Int32} (X : CX own cc nL G p s m args c) (h : CH G (cw G la w) A H0 H locs) (hf : f_X1_get x1 w = some r) (hlk : Cond.methodLink own idx yX1_get ∈ lw_good) (hd : decode cc pc = .ok (.invokevirtual idx, 3)) (hsz : ls.size = nL) (hR : 1 ≤ R.frames ∧ 21 ≤ R.locals) (hrest : (rest.map fun v => v.category).sum ≤ 8) (hk : cells ≤ R.cells ∧ slots ≤ R.slots) (k : W p l e R s m args below meth c H locs cells slots Q (F0 m (pc + 3) ls (.int r :: rest))) : W p l e R s m args below meth c H locs cells slots Q (F0 m pc ls (.int x1 :: .ref (gq G 1) :: rest)) :=
  fin_r (runV (As := [.int x1]) X.1 1 (t_X1_get l G la w x1 r hf) rfl rfl hlk m_X1_get (by decide +kernel) ⟨hR.1, hR.2⟩ ⟨blindR, va_recv X.2.1 h.1 (ci := 1) (q0 := 1) rfl rfl, preR X.2 h⟩ rfl hsz hrest hd hk) k
def f_X9_read (x1 : Int32) (x2 : Int32) (w : CW) : Option Int32 :=
 (f_X1_get ((x1 * ((78 : Int32))) + x2) w).bind fun y1 =>
 some y1
set_option maxHeartbeats 4000000 in
set_option maxRecDepth 100000 in
theorem t_X9_read (l : Launch) (G : Gm) (la : Nat) (w : CW) (x1 : Int32) (x2 : Int32) (r : Int32) (hf : f_X9_read x1 x2 w = some r) : MetR l yX9_read cX9_read 3 (some .int) 1 21 G (cw G la w) [.ref (gq G 0), .int x1, .int x2] (.int r) := by
  refine ent (own := RX9) (As := [.ref (gq G 0), .int x1, .int x2]) (by decide +kernel) rfl (Nat.le_of_ble_eq_true rfl) (fun _ _ h => h.1) ?_
  intro p e s m args below meth c ls B hr hlocks hv hl
  obtain ⟨-, hP, hKK, hD⟩ := hv
  have X : CX RX9 cX9_read 3 G p s m args c := ⟨B, hKK⟩
  obtain ⟨hx, hb, hml, hown, hts⟩ := id B
  have h : CH G (cw G la w) (fun _ => True) s.heap s.heap [] := ⟨hP, hD, va_S.rf⟩
  have hl : lv_has ls 3 [(0, .ref (gq G 0)), (1, .int x1), (2, .int x2)] := hl
  unfold f_X9_read at hf
  refine lv_aload_n hx hb dX9_read_0 rfl (lv_at hl 0 rfl) ?_
  refine GC_0_0 X h k_X9_12 dX9_read_1 ?_
  refine lv_iload_n hx hb dX9_read_4 rfl (lv_at hl 1 rfl) ?_
  refine lv_bipush (v := 78) hx hb dX9_read_5 (by decide) ?_
  refine lv_imul hx hb dX9_read_7 ?_
  refine lv_iload_n hx hb dX9_read_8 rfl (lv_at hl 2 rfl) ?_
  refine lv_iadd hx hb dX9_read_9 ?_
  obtain ⟨y1, ey1, hf⟩ := bnd_some hf
  refine k_X1_get X h ey1 k_X9_175 dX9_read_10 hl.1 ⟨(Nat.le_of_ble_eq_true rfl), (Nat.le_of_ble_eq_true rfl)⟩ (Nat.le_of_ble_eq_true rfl) ⟨Nat.zero_le _, Nat.zero_le _⟩ ?_
  cases hf
  exact rr_i X.1 hr hlocks dX9_read_13
theorem m_X9_read : Cond.instanceMethod yX9_read ∈ lw_good ∧ Cond.selects RX9 yX9_read yX9_read ∈ lw_good ∧ Cond.initialized RX9 ∈ lw_good ∧ Cond.code yX9_read cX9_read 3 (some .int) ∈ lw_good := by decide +kernel
theorem k_X9_read {p : Program} {l : Launch} {e : Env} {R : Room} {s : State} {m : MethodId} {args : Array Value} {below : List Frame} {meth : Method} {c : Code} {H : Heap} {locs : List Loc} {cells slots : Nat} {Q : State → Prop} {cc : ByteArray} {nL pc idx : Nat} {ls : Array Slot} {rest : List Value} {own : String} {G : Gm} {A : Nat → Prop} {H0 : Heap} {la : Nat} {w : CW} {x1 : Int32} {x2 : Int32} {r : Int32} (X : CX own cc nL G p s m args c) (h : CH G (cw G la w) A H0 H locs) (hf : f_X9_read x1 x2 w = some r) (hlk : Cond.methodLink own idx yX9_read ∈ lw_good) (hd : decode cc pc = .ok (.invokevirtual idx, 3)) (hsz : ls.size = nL) (hR : 2 ≤ R.frames ∧ 43 ≤ R.locals) (hrest : (rest.map fun v => v.category).sum ≤ 8) (hk : cells ≤ R.cells ∧ slots ≤ R.slots) (k : W p l e R s m args below meth c H locs cells slots Q (F0 m (pc + 3) ls (.int r :: rest))) : W p l e R s m args below meth c H locs cells slots Q (F0 m pc ls (.int x2 :: .int x1 :: .ref (gq G 0) :: rest)) :=
  fin_r (runV (As := [.int x1, .int x2]) X.1 2 (t_X9_read l G la w x1 x2 r hf) rfl rfl hlk m_X9_read (by decide +kernel) ⟨hR.1, hR.2⟩ ⟨blindR, va_recv X.2.1 h.1 (ci := 8) (q0 := 0) rfl rfl, preR X.2 h⟩ rfl hsz hrest hd hk) k
def f_X9_hasMachine (x1 : Int32) (w : CW) : Option Int32 :=
 (f_X9_read x1 ((0 : Int32)) w).bind fun y1 =>
 if y1 ≤ 0 then
 (some ((0 : Int32)))
 else
 (some ((1 : Int32)))
set_option maxHeartbeats 4000000 in
set_option maxRecDepth 100000 in
theorem t_X9_hasMachine (l : Launch) (G : Gm) (la : Nat) (w : CW) (x1 : Int32) (r : Int32) (hf : f_X9_hasMachine x1 w = some r) : MetR l yX9_hasMachine cX9_hasMachine 2 (some .boolean) 2 43 G (cw G la w) [.ref (gq G 0), .int x1] (.int r) := by
  refine ent (own := RX9) (As := [.ref (gq G 0), .int x1]) (by decide +kernel) rfl (Nat.le_of_ble_eq_true rfl) (fun _ _ h => h.1) ?_
  intro p e s m args below meth c ls B hr hlocks hv hl
  obtain ⟨-, hP, hKK, hD⟩ := hv
  have X : CX RX9 cX9_hasMachine 2 G p s m args c := ⟨B, hKK⟩
  obtain ⟨hx, hb, hml, hown, hts⟩ := id B
  have h : CH G (cw G la w) (fun _ => True) s.heap s.heap [] := ⟨hP, hD, va_S.rf⟩
  have hl : lv_has ls 2 [(0, .ref (gq G 0)), (1, .int x1)] := hl
  unfold f_X9_hasMachine at hf
  refine lv_aload_n hx hb dX9_hasMachine_0 rfl (lv_at hl 0 rfl) ?_
  refine lv_iload_n hx hb dX9_hasMachine_1 rfl (lv_at hl 1 rfl) ?_
  refine lv_iconst (v := 0) hx hb dX9_hasMachine_2 (by decide) ?_
  obtain ⟨y1, ey1, hf⟩ := bnd_some hf
  refine k_X9_read X h ey1 k_X9_110 dX9_hasMachine_3 hl.1 ⟨(Nat.le_of_ble_eq_true rfl), (Nat.le_of_ble_eq_true rfl)⟩ (Nat.le_of_ble_eq_true rfl) ⟨Nat.zero_le _, Nat.zero_le _⟩ ?_
  refine lv_if_le (tgt := 13) hx hb dX9_hasMachine_6 (by decide) (fun c2 => ?_) (fun c2 => ?_)
  · have hf := if_t c2 hf
    refine lv_iconst (v := 0) hx hb dX9_hasMachine_13 (by decide) ?_
    cases hf
    exact rr_z X.1 hr hlocks (Or.inl rfl) dX9_hasMachine_14
  · have hf := if_f c2 hf
    refine lv_iconst (v := 1) hx hb dX9_hasMachine_9 (by decide) ?_
    refine lv_goto (tgt := 14) hx hb dX9_hasMachine_10 (by decide) ?_
    cases hf
    exact rr_z X.1 hr hlocks (Or.inr rfl) dX9_hasMachine_14
theorem m_X9_hasMachine : Cond.instanceMethod yX9_hasMachine ∈ lw_good ∧ Cond.selects RX9 yX9_hasMachine yX9_hasMachine ∈ lw_good ∧ Cond.initialized RX9 ∈ lw_good ∧ Cond.code yX9_hasMachine cX9_hasMachine 2 (some .boolean) ∈ lw_good := by decide +kernel
theorem k_X9_hasMachine {p : Program} {l : Launch} {e : Env} {R : Room} {s : State} {m : MethodId} {args : Array Value} {below : List Frame} {meth : Method} {c : Code} {H : Heap} {locs : List Loc} {cells slots : Nat} {Q : State → Prop} {cc : ByteArray} {nL pc idx : Nat} {ls : Array Slot} {rest : List Value} {own : String} {G : Gm} {A : Nat → Prop} {H0 : Heap} {la : Nat} {w : CW} {x1 : Int32} {r : Int32} (X : CX own cc nL G p s m args c) (h : CH G (cw G la w) A H0 H locs) (hf : f_X9_hasMachine x1 w = some r) (hlk : Cond.methodLink own idx yX9_hasMachine ∈ lw_good) (hd : decode cc pc = .ok (.invokevirtual idx, 3)) (hsz : ls.size = nL) (hR : 3 ≤ R.frames ∧ 64 ≤ R.locals) (hrest : (rest.map fun v => v.category).sum ≤ 8) (hk : cells ≤ R.cells ∧ slots ≤ R.slots) (k : W p l e R s m args below meth c H locs cells slots Q (F0 m (pc + 3) ls (.int r :: rest))) : W p l e R s m args below meth c H locs cells slots Q (F0 m pc ls (.int x1 :: .ref (gq G 0) :: rest)) :=
  fin_r (runV (As := [.int x1]) X.1 1 (t_X9_hasMachine l G la w x1 r hf) rfl rfl hlk m_X9_hasMachine (by decide +kernel) ⟨hR.1, hR.2⟩ ⟨blindR, va_recv X.2.1 h.1 (ci := 8) (q0 := 0) rfl rfl, preR X.2 h⟩ rfl hsz hrest hd hk) k
def f_X9_found (x1 : Int32) (w : CW) : Option (Int32 × CW) :=
 some (((-20 : Int32)) - x1, cs (cs w 0 12 x1) 0 11 (((cs w 0 12 x1).1 0 11) + ((1 : Int32))))
set_option maxHeartbeats 4000000 in
set_option maxRecDepth 100000 in
theorem t_X9_found (l : Launch) (G : Gm) (la : Nat) (w0 : CW) (x1 : Int32) (r : Int32) (w' : CW) (hf : f_X9_found x1 w0 = some (r, w')) : MetI l yX9_found cX9_found 2 (some .int) 0 0 G (cw G la w0) [.ref (gq G 0), .int x1] r (fun _ => cw G la (w')) 0 := by
  intro sz
  refine ent (own := RX9) (As := [.ref (gq G 0), .int x1]) (by decide +kernel) rfl (Nat.le_of_ble_eq_true rfl) (fun _ _ h => h.1) ?_
  intro p e s m args below meth c ls B hr hlocks hv hl
  obtain ⟨-, hsz, hP, hKK, hD⟩ := hv
  subst hsz
  have X : CX RX9 cX9_found 2 G p s m args c := ⟨B, hKK⟩
  obtain ⟨hx, hb, hml, hown, hts⟩ := id B
  have hA : ∀ q : Nat, s.heap.size ≤ q → va_A (cw G la w0) s.heap.size q := fun q z => Or.inr z
  have h : CH G (cw G la w0) (va_A (cw G la w0) s.heap.size) s.heap s.heap [] := ⟨hP, hD.self, va_S.rf⟩
  obtain ⟨w, rfl⟩ : ∃ z, z = w0 := ⟨_, rfl⟩
  have hl : lv_has ls 2 [(0, .ref (gq G 0)), (1, .int x1)] := hl
  unfold f_X9_found at hf
  refine lv_aload_n hx hb dX9_found_0 rfl (lv_at hl 0 rfl) ?_
  refine lv_iload_n hx hb dX9_found_1 rfl (lv_at hl 1 rfl) ?_
  refine PC_0_12 X h k_X9_81 dX9_found_2 (fun H locs h => ?_)
  refine lv_aload_n hx hb dX9_found_5 rfl (lv_at hl 0 rfl) ?_
  refine lv_dup hx hb dX9_found_6 rfl ?_
  refine GC_0_11 X h k_X9_78 dX9_found_7 ?_
  refine lv_iconst (v := 1) hx hb dX9_found_10 (by decide) ?_
  refine lv_iadd hx hb dX9_found_11 ?_
  refine PC_0_11 X h k_X9_78 dX9_found_12 (fun H locs h => ?_)
  refine lv_bipush (v := (-20)) hx hb dX9_found_15 (by decide) ?_
  refine lv_iload_n hx hb dX9_found_17 rfl (lv_at hl 1 rfl) ?_
  refine lv_isub hx hb dX9_found_18 ?_
  exact e0_i (Wf := cw G la) X.1 hr hlocks hf h dX9_found_19
theorem m_X9_found : Cond.instanceMethod yX9_found ∈ lw_good ∧ Cond.selects RX9 yX9_found yX9_found ∈ lw_good ∧ Cond.initialized RX9 ∈ lw_good ∧ Cond.code yX9_found cX9_found 2 (some .int) ∈ lw_good := by decide +kernel
theorem k_X9_found {p : Program} {l : Launch} {e : Env} {R : Room} {s : State} {m : MethodId} {args : Array Value} {below : List Frame} {meth : Method} {c : Code} {H : Heap} {locs : List Loc} {cells slots : Nat} {Q : State → Prop} {cc : ByteArray} {nL pc idx : Nat} {ls : Array Slot} {rest : List Value} {own : String} {G : Gm} {A : Nat → Prop} {H0 : Heap} {la : Nat} {w : CW} {x1 : Int32} {y : Int32 × CW} (X : CX own cc nL G p s m args c) (h : CH G (cw G la w) A H0 H locs) (hA : ∀ q, H0.size ≤ q → A q) (hf : f_X9_found x1 w = some y) (hlk : Cond.methodLink own idx yX9_found ∈ lw_good) (hd : decode cc pc = .ok (.invokevirtual idx, 3)) (hsz : ls.size = nL) (hR : 1 ≤ R.frames ∧ 21 ≤ R.locals) (hrest : (rest.map fun v => v.category).sum ≤ 8) (hk : cells ≤ R.cells ∧ slots ≤ R.slots) (k : ∀ (H : Heap) (locs : List Loc), CH G (cw G la y.2) A H0 H locs → W p l e R s m args below meth c H locs cells slots Q (F0 m (pc + 3) ls (.int y.1 :: rest))) : W p l e R s m args below meth c H locs cells slots Q (F0 m pc ls (.int x1 :: .ref (gq G 0) :: rest)) :=
  fin_i (n := 0) (runV (As := [.int x1]) X.1 1 (t_X9_found l G la w x1 y.1 y.2 hf _) rfl rfl hlk m_X9_found (by decide +kernel) ⟨hR.1, hR.2⟩ ⟨blindM, va_recv X.2.1 h.1 (ci := 8) (q0 := 0) rfl rfl, preM X.2 h⟩ rfl hsz hrest hd hk) h hA (fun _ H locs h => k H locs h)
def f_X9_roomOf_l4_body (kself : (Int32 → Int32 → Int32 → CW → Option Int32)) (x1 : Int32) (x2 : Int32) (x3 : Int32) (w : CW) : Option Int32 :=
 if ((6 : Int32)) ≤ x3 then
 (some x2)
 else
 ((f_X9_read x1 (((13 : Int32)) + x3) w).bind fun y2 =>
 kself x1 (x2 + y2) (x3 + (1 : Int32)) w)
def f_X9_roomOf_l4 : Nat → Int32 → Int32 → Int32 → CW → Option Int32
  | 0, _, _, _, _ => none
  | n + 1, x1, x2, x3, w => f_X9_roomOf_l4_body (f_X9_roomOf_l4 n) x1 x2 x3 w
def f_X9_roomOf (x1 : Int32) (w : CW) : Option Int32 :=
 f_X9_roomOf_l4 FU x1 ((0 : Int32)) ((0 : Int32)) w
set_option maxHeartbeats 4000000 in
set_option maxRecDepth 100000 in
theorem t_X9_roomOf (l : Launch) (G : Gm) (la : Nat) (w : CW) (x1 : Int32) (r : Int32) (hf : f_X9_roomOf x1 w = some r) : MetR l yX9_roomOf cX9_roomOf 4 (some .int) 2 43 G (cw G la w) [.ref (gq G 0), .int x1] (.int r) := by
  refine ent (own := RX9) (As := [.ref (gq G 0), .int x1]) (by decide +kernel) rfl (Nat.le_of_ble_eq_true rfl) (fun _ _ h => h.1) ?_
  intro p e s m args below meth c ls B hr hlocks hv hl
  obtain ⟨-, hP, hKK, hD⟩ := hv
  have X : CX RX9 cX9_roomOf 4 G p s m args c := ⟨B, hKK⟩
  obtain ⟨hx, hb, hml, hown, hts⟩ := id B
  have h : CH G (cw G la w) (fun _ => True) s.heap s.heap [] := ⟨hP, hD, va_S.rf⟩
  have L4 : ∀ (n4 : Nat) (x1 : Int32) (x2 : Int32) (x3 : Int32) (ls : Array Slot), f_X9_roomOf_l4 n4 x1 x2 x3 w = some r → lv_has ls 4 [(0, .ref (gq G 0)), (1, .int x1), (2, .int x2), (3, .int x3)] → W p l e { frames := 2, cells := 0, slots := 0, locals := 43 } s m args below meth c s.heap [] 0 0 (MQ below (QcV (.int r)) args s 0 0 (fun _ => False)) (F0 m 4 ls []) := by
    intro n4
    induction n4 with
    | zero =>
      intro x1 x2 x3 ls hf hl
      cases (show (none : Option Int32) = some _ from hf)
    | succ n4 ih4 =>
      intro x1 x2 x3 ls hf hl
      have hf : f_X9_roomOf_l4_body (f_X9_roomOf_l4 n4) x1 x2 x3 w = _ := hf
      unfold f_X9_roomOf_l4_body at hf
      refine lv_iload_n hx hb dX9_roomOf_4 rfl (lv_at hl 3 rfl) ?_
      refine lv_bipush (v := 6) hx hb dX9_roomOf_5 (by decide) ?_
      refine lv_icmp_ge (tgt := 28) hx hb dX9_roomOf_7 (by decide) (fun c1 => ?_) (fun c1 => ?_)
      · have hf := if_t c1 hf
        refine lv_iload_n hx hb dX9_roomOf_28 rfl (lv_at hl 2 rfl) ?_
        cases hf
        exact rr_i X.1 hr hlocks dX9_roomOf_29
      · have hf := if_f c1 hf
        refine lv_iload_n hx hb dX9_roomOf_10 rfl (lv_at hl 2 rfl) ?_
        refine lv_aload_n hx hb dX9_roomOf_11 rfl (lv_at hl 0 rfl) ?_
        refine lv_iload_n hx hb dX9_roomOf_12 rfl (lv_at hl 1 rfl) ?_
        refine lv_bipush (v := 13) hx hb dX9_roomOf_13 (by decide) ?_
        refine lv_iload_n hx hb dX9_roomOf_15 rfl (lv_at hl 3 rfl) ?_
        refine lv_iadd hx hb dX9_roomOf_16 ?_
        obtain ⟨y2, ey2, hf⟩ := bnd_some hf
        refine k_X9_read X h ey2 k_X9_110 dX9_roomOf_17 hl.1 ⟨(Nat.le_of_ble_eq_true rfl), (Nat.le_of_ble_eq_true rfl)⟩ (Nat.le_of_ble_eq_true rfl) ⟨Nat.zero_le _, Nat.zero_le _⟩ ?_
        refine lv_iadd hx hb dX9_roomOf_20 ?_
        refine lv_istore_n (lv' := [(2, .int (x2 + y2)), (0, .ref (gq G 0)), (1, .int x1), (3, .int x3)]) hx hb dX9_roomOf_21 rfl hl (by decide) rfl (fun ls hl => ?_)
        refine lv_iinc (v := x3 + (1 : Int32)) (lv' := [(3, .int (x3 + (1 : Int32))), (2, .int (x2 + y2)), (0, .ref (gq G 0)), (1, .int x1)]) hx hb dX9_roomOf_22 hl (k := 3) rfl (by rfl) (by decide) rfl (fun ls hl => ?_)
        refine lv_goto (tgt := 4) hx hb dX9_roomOf_25 (by decide) ?_
        exact ih4 _ _ _ _ hf (lv_sub hl [2, 3, 1, 0] rfl)
  have hl : lv_has ls 4 [(0, .ref (gq G 0)), (1, .int x1)] := hl
  unfold f_X9_roomOf at hf
  refine lv_iconst (v := 0) hx hb dX9_roomOf_0 (by decide) ?_
  refine lv_istore_n (lv' := [(2, .int ((0 : Int32))), (0, .ref (gq G 0)), (1, .int x1)]) hx hb dX9_roomOf_1 rfl hl (by decide) rfl (fun ls hl => ?_)
  refine lv_iconst (v := 0) hx hb dX9_roomOf_2 (by decide) ?_
  refine lv_istore_n (lv' := [(3, .int ((0 : Int32))), (2, .int ((0 : Int32))), (0, .ref (gq G 0)), (1, .int x1)]) hx hb dX9_roomOf_3 rfl hl (by decide) rfl (fun ls hl => ?_)
  exact L4 FU _ _ _ _ hf (lv_sub hl [2, 3, 1, 0] rfl)
theorem m_X9_roomOf : Cond.instanceMethod yX9_roomOf ∈ lw_good ∧ Cond.selects RX9 yX9_roomOf yX9_roomOf ∈ lw_good ∧ Cond.initialized RX9 ∈ lw_good ∧ Cond.code yX9_roomOf cX9_roomOf 4 (some .int) ∈ lw_good := by decide +kernel
theorem k_X9_roomOf {p : Program} {l : Launch} {e : Env} {R : Room} {s : State} {m : MethodId} {args : Array Value} {below : List Frame} {meth : Method} {c : Code} {H : Heap} {locs : List Loc} {cells slots : Nat} {Q : State → Prop} {cc : ByteArray} {nL pc idx : Nat} {ls : Array Slot} {rest : List Value} {own : String} {G : Gm} {A : Nat → Prop} {H0 : Heap} {la : Nat} {w : CW} {x1 : Int32} {r : Int32} (X : CX own cc nL G p s m args c) (h : CH G (cw G la w) A H0 H locs) (hf : f_X9_roomOf x1 w = some r) (hlk : Cond.methodLink own idx yX9_roomOf ∈ lw_good) (hd : decode cc pc = .ok (.invokevirtual idx, 3)) (hsz : ls.size = nL) (hR : 3 ≤ R.frames ∧ 66 ≤ R.locals) (hrest : (rest.map fun v => v.category).sum ≤ 8) (hk : cells ≤ R.cells ∧ slots ≤ R.slots) (k : W p l e R s m args below meth c H locs cells slots Q (F0 m (pc + 3) ls (.int r :: rest))) : W p l e R s m args below meth c H locs cells slots Q (F0 m pc ls (.int x1 :: .ref (gq G 0) :: rest)) :=
  fin_r (runV (As := [.int x1]) X.1 1 (t_X9_roomOf l G la w x1 r hf) rfl rfl hlk m_X9_roomOf (by decide +kernel) ⟨hR.1, hR.2⟩ ⟨blindR, va_recv X.2.1 h.1 (ci := 8) (q0 := 0) rfl rfl, preR X.2 h⟩ rfl hsz hrest hd hk) k
def f_J9_floorMod_7cf53 (x0 : Int32) (x1 : Int32) : Option Int32 :=
 chk (¬ x1 = 0) (
 if 0 ≤ (x0 ^^^ x1) then
 (some (x0 - x0 / x1 * x1))
 else
 (if (x0 - x0 / x1 * x1) = 0 then
 (some (x0 - x0 / x1 * x1))
 else
 (some ((x0 - x0 / x1 * x1) + x1))))
set_option maxHeartbeats 4000000 in
set_option maxRecDepth 100000 in
theorem t_J9_floorMod_7cf53 (l : Launch) (x0 : Int32) (x1 : Int32) (r : Int32) (hf : f_J9_floorMod_7cf53 x0 x1 = some r) : MetP l yJ9_floorMod_7cf53 cJ9_floorMod_7cf53 3 (some .int) 0 0 [.int x0, .int x1] (.int r) := by
  refine ent (own := RJ9) (As := [.int x0, .int x1]) (by decide +kernel) rfl (Nat.le_of_ble_eq_true rfl) (fun _ _ h => h.1) ?_
  intro p e s m args below meth c ls B hr hlocks hv hl
  obtain ⟨hx, hb, hml, hown, hts⟩ := id B
  have hl : lv_has ls 3 [(0, .int x0), (1, .int x1)] := hl
  unfold f_J9_floorMod_7cf53 at hf
  refine lv_iload_n hx hb dJ9_floorMod_7cf53_0 rfl (lv_at hl 0 rfl) ?_
  refine lv_iload_n hx hb dJ9_floorMod_7cf53_1 rfl (lv_at hl 1 rfl) ?_
  obtain ⟨c1, hf⟩ := chk_some hf
  refine lv_irem hx hb dJ9_floorMod_7cf53_2 c1 ?_
  refine lv_istore_n (lv' := [(2, .int (x0 - x0 / x1 * x1)), (0, .int x0), (1, .int x1)]) hx hb dJ9_floorMod_7cf53_3 rfl hl (by decide) rfl (fun ls hl => ?_)
  refine lv_iload_n hx hb dJ9_floorMod_7cf53_4 rfl (lv_at hl 1 rfl) ?_
  refine lv_iload_n hx hb dJ9_floorMod_7cf53_5 rfl (lv_at hl 2 rfl) ?_
  refine lv_ixor hx hb dJ9_floorMod_7cf53_6 ?_
  refine lv_if_ge (tgt := 18) hx hb dJ9_floorMod_7cf53_7 (by decide) (fun c2 => ?_) (fun c2 => ?_)
  · have hf := if_t c2 hf
    refine lv_iload_n hx hb dJ9_floorMod_7cf53_18 rfl (lv_at hl 0 rfl) ?_
    cases hf
    exact rr_i B hr hlocks dJ9_floorMod_7cf53_19
  · have hf := if_f c2 hf
    refine lv_iload_n hx hb dJ9_floorMod_7cf53_10 rfl (lv_at hl 0 rfl) ?_
    refine lv_if_eq (tgt := 18) hx hb dJ9_floorMod_7cf53_11 (by decide) (fun c3 => ?_) (fun c3 => ?_)
    · have hf := if_t c3 hf
      refine lv_iload_n hx hb dJ9_floorMod_7cf53_18 rfl (lv_at hl 0 rfl) ?_
      cases hf
      exact rr_i B hr hlocks dJ9_floorMod_7cf53_19
    · have hf := if_f c3 hf
      refine lv_iload_n hx hb dJ9_floorMod_7cf53_14 rfl (lv_at hl 0 rfl) ?_
      refine lv_iload_n hx hb dJ9_floorMod_7cf53_15 rfl (lv_at hl 2 rfl) ?_
      refine lv_iadd hx hb dJ9_floorMod_7cf53_16 ?_
      cases hf
      exact rr_i B hr hlocks dJ9_floorMod_7cf53_17
theorem m_J9_floorMod_7cf53 : Cond.static yJ9_floorMod_7cf53 ∈ lw_good ∧ Cond.initialized yJ9_floorMod_7cf53.cls ∈ lw_good ∧ Cond.code yJ9_floorMod_7cf53 cJ9_floorMod_7cf53 3 (some .int) ∈ lw_good := by decide +kernel
theorem k_J9_floorMod_7cf53 {p : Program} {l : Launch} {e : Env} {R : Room} {s : State} {m : MethodId} {args : Array Value} {below : List Frame} {meth : Method} {c : Code} {H : Heap} {locs : List Loc} {cells slots : Nat} {Q : State → Prop} {cc : ByteArray} {nL pc idx : Nat} {ls : Array Slot} {rest : List Value} {own : String} {x0 : Int32} {x1 : Int32} {r : Int32} (B : CB own cc nL p s m args c) (hf : f_J9_floorMod_7cf53 x0 x1 = some r) (hlk : Cond.methodLink own idx yJ9_floorMod_7cf53 ∈ lw_good) (hd : decode cc pc = .ok (.invokestatic idx, 3)) (hsz : ls.size = nL) (hR : 1 ≤ R.frames ∧ 22 ≤ R.locals) (hrest : (rest.map fun v => v.category).sum ≤ 8) (hk : cells ≤ R.cells ∧ slots ≤ R.slots) (k : W p l e R s m args below meth c H locs cells slots Q (F0 m (pc + 3) ls (.int r :: rest))) : W p l e R s m args below meth c H locs cells slots Q (F0 m pc ls (.int x1 :: .int x0 :: rest)) :=
  fin_r (runS (As := [.int x0, .int x1]) B 2 (t_J9_floorMod_7cf53 l x0 x1 r hf) rfl rfl hlk m_J9_floorMod_7cf53 (by decide +kernel) ⟨hR.1, hR.2⟩ ⟨blindP, preP⟩ rfl hsz hrest hd hk) k
def f_X9_isTube (x0 : Int32) : Option Int32 :=
 (f_X9_within x0 ((0 : Int32)) ((11 : Int32))).bind fun y1 =>
 chk (y1 = 0 ∨ y1 = 1) (
 some y1)
set_option maxHeartbeats 4000000 in
set_option maxRecDepth 100000 in
theorem t_X9_isTube (l : Launch) (x0 : Int32) (r : Int32) (hf : f_X9_isTube x0 = some r) : MetP l yX9_isTube cX9_isTube 1 (some .boolean) 1 22 [.int x0] (.int r) := by
  refine ent (own := RX9) (As := [.int x0]) (by decide +kernel) rfl (Nat.le_of_ble_eq_true rfl) (fun _ _ h => h.1) ?_
  intro p e s m args below meth c ls B hr hlocks hv hl
  obtain ⟨hx, hb, hml, hown, hts⟩ := id B
  have hl : lv_has ls 1 [(0, .int x0)] := hl
  unfold f_X9_isTube at hf
  refine lv_iload_n hx hb dX9_isTube_0 rfl (lv_at hl 0 rfl) ?_
  refine lv_iconst (v := 0) hx hb dX9_isTube_1 (by decide) ?_
  refine lv_bipush (v := 11) hx hb dX9_isTube_2 (by decide) ?_
  obtain ⟨y1, ey1, hf⟩ := bnd_some hf
  refine k_X9_within B ey1 k_X9_92 dX9_isTube_4 hl.1 ⟨(Nat.le_of_ble_eq_true rfl), (Nat.le_of_ble_eq_true rfl)⟩ (Nat.le_of_ble_eq_true rfl) ⟨Nat.zero_le _, Nat.zero_le _⟩ ?_
  obtain ⟨c2, hf⟩ := chk_some hf
  cases hf
  exact rr_z B hr hlocks c2 dX9_isTube_7
theorem m_X9_isTube : Cond.static yX9_isTube ∈ lw_good ∧ Cond.initialized yX9_isTube.cls ∈ lw_good ∧ Cond.code yX9_isTube cX9_isTube 1 (some .boolean) ∈ lw_good := by decide +kernel
theorem k_X9_isTube {p : Program} {l : Launch} {e : Env} {R : Room} {s : State} {m : MethodId} {args : Array Value} {below : List Frame} {meth : Method} {c : Code} {H : Heap} {locs : List Loc} {cells slots : Nat} {Q : State → Prop} {cc : ByteArray} {nL pc idx : Nat} {ls : Array Slot} {rest : List Value} {own : String} {x0 : Int32} {r : Int32} (B : CB own cc nL p s m args c) (hf : f_X9_isTube x0 = some r) (hlk : Cond.methodLink own idx yX9_isTube ∈ lw_good) (hd : decode cc pc = .ok (.invokestatic idx, 3)) (hsz : ls.size = nL) (hR : 2 ≤ R.frames ∧ 42 ≤ R.locals) (hrest : (rest.map fun v => v.category).sum ≤ 8) (hk : cells ≤ R.cells ∧ slots ≤ R.slots) (k : W p l e R s m args below meth c H locs cells slots Q (F0 m (pc + 3) ls (.int r :: rest))) : W p l e R s m args below meth c H locs cells slots Q (F0 m pc ls (.int x0 :: rest)) :=
  fin_r (runS (As := [.int x0]) B 1 (t_X9_isTube l x0 r hf) rfl rfl hlk m_X9_isTube (by decide +kernel) ⟨hR.1, hR.2⟩ ⟨blindP, preP⟩ rfl hsz hrest hd hk) k
theorem kn_X9_isTube {p : Program} {l : Launch} {e : Env} {R : Room} {s : State} {m : MethodId} {args : Array Value} {below : List Frame} {meth : Method} {c : Code} {H : Heap} {locs : List Loc} {cells slots : Nat} {Q : State → Prop} {cc : ByteArray} {nL pc idx : Nat} {ls : Array Slot} {rest : List Value} {own : String} {x0 : Int32} {r : Int32} (B : CB own cc nL p s m args c) (hf : f_X9_isTube x0 = some r) (hlk : va_Nw (.methodLinkNest own idx yX9_isTube RX9) s) (hd : decode cc pc = .ok (.invokestatic idx, 3)) (hsz : ls.size = nL) (hR : 2 ≤ R.frames ∧ 42 ≤ R.locals) (hrest : (rest.map fun v => v.category).sum ≤ 8) (hk : cells ≤ R.cells ∧ slots ≤ R.slots) (k : W p l e R s m args below meth c H locs cells slots Q (F0 m (pc + 3) ls (.int r :: rest))) : W p l e R s m args below meth c H locs cells slots Q (F0 m pc ls (.int x0 :: rest)) :=
  fin_r (runSN (As := [.int x0]) B 1 (t_X9_isTube l x0 r hf) rfl rfl hlk m_X9_isTube (by decide +kernel) ⟨hR.1, hR.2⟩ ⟨blindP, preP⟩ rfl hsz hrest hd hk) k
def f_X9_enter (x1 : Int32) (w : CW) : Option CW :=
 (f_X9_isPlace x1).bind fun y1 =>
 if y1 = 0 then
 (some w)
 else
 (chk (inb x1 60) (
 (f_X9_read x1 ((8 : Int32)) w).bind fun y4 =>
 chk (inb x1 60) (
 some (cs w 5 x1.toNatClampNeg ((w.1 5 x1.toNatClampNeg) + (((1 : Int32)) + y4))))))
set_option maxHeartbeats 4000000 in
set_option maxRecDepth 100000 in
theorem t_X9_enter (l : Launch) (G : Gm) (la : Nat) (w0 : CW) (x1 : Int32) (w' : CW) (hf : f_X9_enter x1 w0 = some w') : MetV l yX9_enter cX9_enter 2 2 43 G (cw G la w0) [.ref (gq G 0), .int x1] (fun _ => cw G la (w')) 0 := by
  intro sz
  refine ent (own := RX9) (As := [.ref (gq G 0), .int x1]) (by decide +kernel) rfl (Nat.le_of_ble_eq_true rfl) (fun _ _ h => h.1) ?_
  intro p e s m args below meth c ls B hr hlocks hv hl
  obtain ⟨-, hsz, hP, hKK, hD⟩ := hv
  subst hsz
  have X : CX RX9 cX9_enter 2 G p s m args c := ⟨B, hKK⟩
  obtain ⟨hx, hb, hml, hown, hts⟩ := id B
  have hA : ∀ q : Nat, s.heap.size ≤ q → va_A (cw G la w0) s.heap.size q := fun q z => Or.inr z
  have h : CH G (cw G la w0) (va_A (cw G la w0) s.heap.size) s.heap s.heap [] := ⟨hP, hD.self, va_S.rf⟩
  obtain ⟨w, rfl⟩ : ∃ z, z = w0 := ⟨_, rfl⟩
  have hl : lv_has ls 2 [(0, .ref (gq G 0)), (1, .int x1)] := hl
  unfold f_X9_enter at hf
  refine lv_iload_n hx hb dX9_enter_0 rfl (lv_at hl 1 rfl) ?_
  obtain ⟨y1, ey1, hf⟩ := bnd_some hf
  refine k_X9_isPlace X.1 ey1 k_X9_88 dX9_enter_1 hl.1 ⟨(Nat.le_of_ble_eq_true rfl), (Nat.le_of_ble_eq_true rfl)⟩ (Nat.le_of_ble_eq_true rfl) ⟨Nat.zero_le _, Nat.zero_le _⟩ ?_
  refine lv_if_eq (tgt := 25) hx hb dX9_enter_4 (by decide) (fun c2 => ?_) (fun c2 => ?_)
  · have hf := if_t c2 hf
    exact e0_v (Wf := cw G la) X.1 hr hlocks hf h dX9_enter_25
  · have hf := if_f c2 hf
    refine lv_aload_n hx hb dX9_enter_7 rfl (lv_at hl 0 rfl) ?_
    refine GC_0_4 X h k_X9_55 dX9_enter_8 ?_
    refine lv_iload_n hx hb dX9_enter_11 rfl (lv_at hl 1 rfl) ?_
    refine lv_dup2_11 hx hb dX9_enter_12 rfl rfl ?_
    obtain ⟨c3, hf⟩ := chk_some hf
    refine LC_5 X h c3 dX9_enter_13 ?_
    refine lv_iconst (v := 1) hx hb dX9_enter_14 (by decide) ?_
    refine lv_aload_n hx hb dX9_enter_15 rfl (lv_at hl 0 rfl) ?_
    refine lv_iload_n hx hb dX9_enter_16 rfl (lv_at hl 1 rfl) ?_
    refine lv_bipush (v := 8) hx hb dX9_enter_17 (by decide) ?_
    obtain ⟨y4, ey4, hf⟩ := bnd_some hf
    refine k_X9_read X h ey4 k_X9_110 dX9_enter_19 hl.1 ⟨(Nat.le_of_ble_eq_true rfl), (Nat.le_of_ble_eq_true rfl)⟩ (Nat.le_of_ble_eq_true rfl) ⟨Nat.zero_le _, Nat.zero_le _⟩ ?_
    refine lv_iadd hx hb dX9_enter_22 ?_
    refine lv_iadd hx hb dX9_enter_23 ?_
    obtain ⟨c5, hf⟩ := chk_some hf
    refine SC_5 X h c5 dX9_enter_24 (fun H locs h => ?_)
    exact e0_v (Wf := cw G la) X.1 hr hlocks hf h dX9_enter_25
theorem m_X9_enter : Cond.instanceMethod yX9_enter ∈ lw_good ∧ Cond.selects RX9 yX9_enter yX9_enter ∈ lw_good ∧ Cond.initialized RX9 ∈ lw_good ∧ Cond.code yX9_enter cX9_enter 2 none ∈ lw_good := by decide +kernel
theorem k_X9_enter {p : Program} {l : Launch} {e : Env} {R : Room} {s : State} {m : MethodId} {args : Array Value} {below : List Frame} {meth : Method} {c : Code} {H : Heap} {locs : List Loc} {cells slots : Nat} {Q : State → Prop} {cc : ByteArray} {nL pc idx : Nat} {ls : Array Slot} {rest : List Value} {own : String} {G : Gm} {A : Nat → Prop} {H0 : Heap} {la : Nat} {w : CW} {x1 : Int32} {w' : CW} (X : CX own cc nL G p s m args c) (h : CH G (cw G la w) A H0 H locs) (hA : ∀ q, H0.size ≤ q → A q) (hf : f_X9_enter x1 w = some w') (hlk : Cond.methodLink own idx yX9_enter ∈ lw_good) (hd : decode cc pc = .ok (.invokevirtual idx, 3)) (hsz : ls.size = nL) (hR : 3 ≤ R.frames ∧ 64 ≤ R.locals) (hrest : (rest.map fun v => v.category).sum ≤ 8) (hk : cells ≤ R.cells ∧ slots ≤ R.slots) (k : ∀ (H : Heap) (locs : List Loc), CH G (cw G la (w')) A H0 H locs → W p l e R s m args below meth c H locs cells slots Q (F0 m (pc + 3) ls (rest))) : W p l e R s m args below meth c H locs cells slots Q (F0 m pc ls (.int x1 :: .ref (gq G 0) :: rest)) :=
  fin_v (n := 0) (runV (As := [.int x1]) X.1 1 (t_X9_enter l G la w x1 w' hf _) rfl rfl hlk m_X9_enter (by decide +kernel) ⟨hR.1, hR.2⟩ ⟨blindM, va_recv X.2.1 h.1 (ci := 8) (q0 := 0) rfl rfl, preM X.2 h⟩ rfl hsz hrest hd hk) h hA (fun _ H locs h => k H locs h)
def f_X9_isLoad (x1 : Int32) (w : CW) : Option Int32 :=
 (f_X1_get ((8550 : Int32)) w).bind fun y1 =>
 (f_X9_within x1 ((0 : Int32)) (y1 - ((1 : Int32)))).bind fun y2 =>
 chk (y2 = 0 ∨ y2 = 1) (
 some y2)
set_option maxHeartbeats 4000000 in
set_option maxRecDepth 100000 in
theorem t_X9_isLoad (l : Launch) (G : Gm) (la : Nat) (w : CW) (x1 : Int32) (r : Int32) (hf : f_X9_isLoad x1 w = some r) : MetR l yX9_isLoad cX9_isLoad 2 (some .boolean) 1 22 G (cw G la w) [.ref (gq G 0), .int x1] (.int r) := by
  refine ent (own := RX9) (As := [.ref (gq G 0), .int x1]) (by decide +kernel) rfl (Nat.le_of_ble_eq_true rfl) (fun _ _ h => h.1) ?_
  intro p e s m args below meth c ls B hr hlocks hv hl
  obtain ⟨-, hP, hKK, hD⟩ := hv
  have X : CX RX9 cX9_isLoad 2 G p s m args c := ⟨B, hKK⟩
  obtain ⟨hx, hb, hml, hown, hts⟩ := id B
  have h : CH G (cw G la w) (fun _ => True) s.heap s.heap [] := ⟨hP, hD, va_S.rf⟩
  have hl : lv_has ls 2 [(0, .ref (gq G 0)), (1, .int x1)] := hl
  unfold f_X9_isLoad at hf
  refine lv_iload_n hx hb dX9_isLoad_0 rfl (lv_at hl 1 rfl) ?_
  refine lv_iconst (v := 0) hx hb dX9_isLoad_1 (by decide) ?_
  refine lv_aload_n hx hb dX9_isLoad_2 rfl (lv_at hl 0 rfl) ?_
  refine GC_0_0 X h k_X9_12 dX9_isLoad_3 ?_
  refine lv_sipush (v := 8550) hx hb dX9_isLoad_6 (by decide) ?_
  obtain ⟨y1, ey1, hf⟩ := bnd_some hf
  refine k_X1_get X h ey1 k_X9_175 dX9_isLoad_9 hl.1 ⟨(Nat.le_of_ble_eq_true rfl), (Nat.le_of_ble_eq_true rfl)⟩ (Nat.le_of_ble_eq_true rfl) ⟨Nat.zero_le _, Nat.zero_le _⟩ ?_
  refine lv_iconst (v := 1) hx hb dX9_isLoad_12 (by decide) ?_
  refine lv_isub hx hb dX9_isLoad_13 ?_
  obtain ⟨y2, ey2, hf⟩ := bnd_some hf
  refine k_X9_within X.1 ey2 k_X9_92 dX9_isLoad_14 hl.1 ⟨(Nat.le_of_ble_eq_true rfl), (Nat.le_of_ble_eq_true rfl)⟩ (Nat.le_of_ble_eq_true rfl) ⟨Nat.zero_le _, Nat.zero_le _⟩ ?_
  obtain ⟨c3, hf⟩ := chk_some hf
  cases hf
  exact rr_z X.1 hr hlocks c3 dX9_isLoad_17
theorem m_X9_isLoad : Cond.instanceMethod yX9_isLoad ∈ lw_good ∧ Cond.selects RX9 yX9_isLoad yX9_isLoad ∈ lw_good ∧ Cond.initialized RX9 ∈ lw_good ∧ Cond.code yX9_isLoad cX9_isLoad 2 (some .boolean) ∈ lw_good := by decide +kernel
theorem k_X9_isLoad {p : Program} {l : Launch} {e : Env} {R : Room} {s : State} {m : MethodId} {args : Array Value} {below : List Frame} {meth : Method} {c : Code} {H : Heap} {locs : List Loc} {cells slots : Nat} {Q : State → Prop} {cc : ByteArray} {nL pc idx : Nat} {ls : Array Slot} {rest : List Value} {own : String} {G : Gm} {A : Nat → Prop} {H0 : Heap} {la : Nat} {w : CW} {x1 : Int32} {r : Int32} (X : CX own cc nL G p s m args c) (h : CH G (cw G la w) A H0 H locs) (hf : f_X9_isLoad x1 w = some r) (hlk : Cond.methodLink own idx yX9_isLoad ∈ lw_good) (hd : decode cc pc = .ok (.invokevirtual idx, 3)) (hsz : ls.size = nL) (hR : 2 ≤ R.frames ∧ 43 ≤ R.locals) (hrest : (rest.map fun v => v.category).sum ≤ 8) (hk : cells ≤ R.cells ∧ slots ≤ R.slots) (k : W p l e R s m args below meth c H locs cells slots Q (F0 m (pc + 3) ls (.int r :: rest))) : W p l e R s m args below meth c H locs cells slots Q (F0 m pc ls (.int x1 :: .ref (gq G 0) :: rest)) :=
  fin_r (runV (As := [.int x1]) X.1 1 (t_X9_isLoad l G la w x1 r hf) rfl rfl hlk m_X9_isLoad (by decide +kernel) ⟨hR.1, hR.2⟩ ⟨blindR, va_recv X.2.1 h.1 (ci := 8) (q0 := 0) rfl rfl, preR X.2 h⟩ rfl hsz hrest hd hk) k
def f_X1_beginMinute_b29 (w : CW) : Option CW :=
 some (cs w 1 5 ((w.1 1 5) + ((1 : Int32))))
def f_X1_beginMinute (w : CW) : Option CW :=
 if (w.1 1 5) = 0 then
 (chk (inb ((0 : Int32)) 301) (
 (some (cs (cs (cs (cs w 1 3 ((0 : Int32))) 1 4 ((0 : Int32))) 1 6 ((0 : Int32))) 12 ((0 : Int32)).toNatClampNeg ((0 : Int32)))).bind fun w3 =>
 f_X1_beginMinute_b29 w3))
 else
 (f_X1_beginMinute_b29 w)
set_option maxHeartbeats 4000000 in
set_option maxRecDepth 100000 in
theorem t_X1_beginMinute (l : Launch) (G : Gm) (la : Nat) (w0 : CW) (w' : CW) (hf : f_X1_beginMinute w0 = some w') : MetV l yX1_beginMinute cX1_beginMinute 1 0 0 G (cw G la w0) [.ref (gq G 1)] (fun _ => cw G la (w')) 0 := by
  intro sz
  refine ent (own := RX1) (As := [.ref (gq G 1)]) (by decide +kernel) rfl (Nat.le_of_ble_eq_true rfl) (fun _ _ h => h.1) ?_
  intro p e s m args below meth c ls B hr hlocks hv hl
  obtain ⟨-, hsz, hP, hKK, hD⟩ := hv
  subst hsz
  have X : CX RX1 cX1_beginMinute 1 G p s m args c := ⟨B, hKK⟩
  obtain ⟨hx, hb, hml, hown, hts⟩ := id B
  have hA : ∀ q : Nat, s.heap.size ≤ q → va_A (cw G la w0) s.heap.size q := fun q z => Or.inr z
  have h : CH G (cw G la w0) (va_A (cw G la w0) s.heap.size) s.heap s.heap [] := ⟨hP, hD.self, va_S.rf⟩
  have J29 : ∀ (w : CW) (H : Heap) (locs : List Loc) (ls : Array Slot), f_X1_beginMinute_b29 w = some w' → CH G (cw G la w) (va_A (cw G la w0) s.heap.size) s.heap H locs → lv_has ls 1 [(0, .ref (gq G 1))] → W p l e { frames := 0, cells := 0, slots := 4096 * 0, locals := 0 } s m args below meth c H locs 0 (4096 * 0) (MQ below (QV G (cw G la w0) s.heap.size (fun _ => cw G la (w'))) args s 0 (4096 * 0) (va_A (cw G la w0) s.heap.size)) (F0 m 29 ls []) := by
    intro w H locs ls hf h hl
    unfold f_X1_beginMinute_b29 at hf
    refine lv_aload_n hx hb dX1_beginMinute_29 rfl (lv_at hl 0 rfl) ?_
    refine lv_dup hx hb dX1_beginMinute_30 rfl ?_
    refine GC_1_5 X h k_X1_28 dX1_beginMinute_31 ?_
    refine lv_iconst (v := 1) hx hb dX1_beginMinute_34 (by decide) ?_
    refine lv_iadd hx hb dX1_beginMinute_35 ?_
    refine PC_1_5 X h k_X1_28 dX1_beginMinute_36 (fun H locs h => ?_)
    exact e0_v (Wf := cw G la) X.1 hr hlocks hf h dX1_beginMinute_39
  obtain ⟨w, rfl⟩ : ∃ z, z = w0 := ⟨_, rfl⟩
  have hl : lv_has ls 1 [(0, .ref (gq G 1))] := hl
  unfold f_X1_beginMinute at hf
  refine lv_aload_n hx hb dX1_beginMinute_0 rfl (lv_at hl 0 rfl) ?_
  refine GC_1_5 X h k_X1_28 dX1_beginMinute_1 ?_
  refine lv_if_ne (tgt := 29) hx hb dX1_beginMinute_4 (by decide) (fun c1 => ?_) (fun c1 => ?_)
  · have hf := if_f c1 hf
    exact J29 _ _ _ _ hf h (lv_sub hl [0] rfl)
  · have hf := if_t c1 hf
    refine lv_aload_n hx hb dX1_beginMinute_7 rfl (lv_at hl 0 rfl) ?_
    refine lv_iconst (v := 0) hx hb dX1_beginMinute_8 (by decide) ?_
    refine PC_1_3 X h k_X1_21 dX1_beginMinute_9 (fun H locs h => ?_)
    refine lv_aload_n hx hb dX1_beginMinute_12 rfl (lv_at hl 0 rfl) ?_
    refine lv_iconst (v := 0) hx hb dX1_beginMinute_13 (by decide) ?_
    refine PC_1_4 X h k_X1_25 dX1_beginMinute_14 (fun H locs h => ?_)
    refine lv_aload_n hx hb dX1_beginMinute_17 rfl (lv_at hl 0 rfl) ?_
    refine lv_iconst (v := 0) hx hb dX1_beginMinute_18 (by decide) ?_
    refine PC_1_6 X h k_X1_31 dX1_beginMinute_19 (fun H locs h => ?_)
    refine lv_aload_n hx hb dX1_beginMinute_22 rfl (lv_at hl 0 rfl) ?_
    refine GC_1_1 X h k_X1_15 dX1_beginMinute_23 ?_
    refine lv_iconst (v := 0) hx hb dX1_beginMinute_26 (by decide) ?_
    refine lv_iconst (v := 0) hx hb dX1_beginMinute_27 (by decide) ?_
    obtain ⟨c2, hf⟩ := chk_some hf
    refine SC_12 X h c2 dX1_beginMinute_28 (fun H locs h => ?_)
    obtain ⟨w3, ew3, hf⟩ := bnd_some hf
    have h := (Option.some.inj ew3) ▸ h
    exact J29 _ _ _ _ hf h (lv_sub hl [0] rfl)
theorem m_X1_beginMinute : Cond.instanceMethod yX1_beginMinute ∈ lw_good ∧ Cond.selects RX1 yX1_beginMinute yX1_beginMinute ∈ lw_good ∧ Cond.initialized RX1 ∈ lw_good ∧ Cond.code yX1_beginMinute cX1_beginMinute 1 none ∈ lw_good := by decide +kernel
theorem k_X1_beginMinute {p : Program} {l : Launch} {e : Env} {R : Room} {s : State} {m : MethodId} {args : Array Value} {below : List Frame} {meth : Method} {c : Code} {H : Heap} {locs : List Loc} {cells slots : Nat} {Q : State → Prop} {cc : ByteArray} {nL pc idx : Nat} {ls : Array Slot} {rest : List Value} {own : String} {G : Gm} {A : Nat → Prop} {H0 : Heap} {la : Nat} {w : CW} {w' : CW} (X : CX own cc nL G p s m args c) (h : CH G (cw G la w) A H0 H locs) (hA : ∀ q, H0.size ≤ q → A q) (hf : f_X1_beginMinute w = some w') (hlk : Cond.methodLink own idx yX1_beginMinute ∈ lw_good) (hd : decode cc pc = .ok (.invokevirtual idx, 3)) (hsz : ls.size = nL) (hR : 1 ≤ R.frames ∧ 20 ≤ R.locals) (hrest : (rest.map fun v => v.category).sum ≤ 8) (hk : cells ≤ R.cells ∧ slots ≤ R.slots) (k : ∀ (H : Heap) (locs : List Loc), CH G (cw G la (w')) A H0 H locs → W p l e R s m args below meth c H locs cells slots Q (F0 m (pc + 3) ls (rest))) : W p l e R s m args below meth c H locs cells slots Q (F0 m pc ls (.ref (gq G 1) :: rest)) :=
  fin_v (n := 0) (runV (As := []) X.1 0 (t_X1_beginMinute l G la w w' hf _) rfl rfl hlk m_X1_beginMinute (by decide +kernel) ⟨hR.1, hR.2⟩ ⟨blindM, va_recv X.2.1 h.1 (ci := 1) (q0 := 1) rfl rfl, preM X.2 h⟩ rfl hsz hrest hd hk) h hA (fun _ H locs h => k H locs h)
def f_X1_time (w : CW) : Option Int32 :=
 some (w.1 1 5)
set_option maxHeartbeats 4000000 in
set_option maxRecDepth 100000 in
theorem t_X1_time (l : Launch) (G : Gm) (la : Nat) (w : CW) (r : Int32) (hf : f_X1_time w = some r) : MetR l yX1_time cX1_time 1 (some .int) 0 0 G (cw G la w) [.ref (gq G 1)] (.int r) := by
  refine ent (own := RX1) (As := [.ref (gq G 1)]) (by decide +kernel) rfl (Nat.le_of_ble_eq_true rfl) (fun _ _ h => h.1) ?_
  intro p e s m args below meth c ls B hr hlocks hv hl
  obtain ⟨-, hP, hKK, hD⟩ := hv
  have X : CX RX1 cX1_time 1 G p s m args c := ⟨B, hKK⟩
  obtain ⟨hx, hb, hml, hown, hts⟩ := id B
  have h : CH G (cw G la w) (fun _ => True) s.heap s.heap [] := ⟨hP, hD, va_S.rf⟩
  have hl : lv_has ls 1 [(0, .ref (gq G 1))] := hl
  unfold f_X1_time at hf
  refine lv_aload_n hx hb dX1_time_0 rfl (lv_at hl 0 rfl) ?_
  refine GC_1_5 X h k_X1_28 dX1_time_1 ?_
  cases hf
  exact rr_i X.1 hr hlocks dX1_time_4
theorem m_X1_time : Cond.instanceMethod yX1_time ∈ lw_good ∧ Cond.selects RX1 yX1_time yX1_time ∈ lw_good ∧ Cond.initialized RX1 ∈ lw_good ∧ Cond.code yX1_time cX1_time 1 (some .int) ∈ lw_good := by decide +kernel
theorem k_X1_time {p : Program} {l : Launch} {e : Env} {R : Room} {s : State} {m : MethodId} {args : Array Value} {below : List Frame} {meth : Method} {c : Code} {H : Heap} {locs : List Loc} {cells slots : Nat} {Q : State → Prop} {cc : ByteArray} {nL pc idx : Nat} {ls : Array Slot} {rest : List Value} {own : String} {G : Gm} {A : Nat → Prop} {H0 : Heap} {la : Nat} {w : CW} {r : Int32} (X : CX own cc nL G p s m args c) (h : CH G (cw G la w) A H0 H locs) (hf : f_X1_time w = some r) (hlk : Cond.methodLink own idx yX1_time ∈ lw_good) (hd : decode cc pc = .ok (.invokevirtual idx, 3)) (hsz : ls.size = nL) (hR : 1 ≤ R.frames ∧ 20 ≤ R.locals) (hrest : (rest.map fun v => v.category).sum ≤ 8) (hk : cells ≤ R.cells ∧ slots ≤ R.slots) (k : W p l e R s m args below meth c H locs cells slots Q (F0 m (pc + 3) ls (.int r :: rest))) : W p l e R s m args below meth c H locs cells slots Q (F0 m pc ls (.ref (gq G 1) :: rest)) :=
  fin_r (runV (As := []) X.1 0 (t_X1_time l G la w r hf) rfl rfl hlk m_X1_time (by decide +kernel) ⟨hR.1, hR.2⟩ ⟨blindR, va_recv X.2.1 h.1 (ci := 1) (q0 := 1) rfl rfl, preR X.2 h⟩ rfl hsz hrest hd hk) k
def f_X1_slotOf (x0 : Int32) : Option Int32 :=
 (f_J9_floorMod_7cf53 x0 ((301 : Int32))).bind fun y1 =>
 some y1
set_option maxHeartbeats 4000000 in
set_option maxRecDepth 100000 in
theorem t_X1_slotOf (l : Launch) (x0 : Int32) (r : Int32) (hf : f_X1_slotOf x0 = some r) : MetP l yX1_slotOf cX1_slotOf 1 (some .int) 1 22 [.int x0] (.int r) := by
  refine ent (own := RX1) (As := [.int x0]) (by decide +kernel) rfl (Nat.le_of_ble_eq_true rfl) (fun _ _ h => h.1) ?_
  intro p e s m args below meth c ls B hr hlocks hv hl
  obtain ⟨hx, hb, hml, hown, hts⟩ := id B
  have hl : lv_has ls 1 [(0, .int x0)] := hl
  unfold f_X1_slotOf at hf
  refine lv_iload_n hx hb dX1_slotOf_0 rfl (lv_at hl 0 rfl) ?_
  refine lv_sipush (v := 301) hx hb dX1_slotOf_1 (by decide) ?_
  obtain ⟨y1, ey1, hf⟩ := bnd_some hf
  refine k_J9_floorMod_7cf53 B ey1 k_X1_71 dX1_slotOf_4 hl.1 ⟨(Nat.le_of_ble_eq_true rfl), (Nat.le_of_ble_eq_true rfl)⟩ (Nat.le_of_ble_eq_true rfl) ⟨Nat.zero_le _, Nat.zero_le _⟩ ?_
  cases hf
  exact rr_i B hr hlocks dX1_slotOf_7
theorem m_X1_slotOf : Cond.static yX1_slotOf ∈ lw_good ∧ Cond.initialized yX1_slotOf.cls ∈ lw_good ∧ Cond.code yX1_slotOf cX1_slotOf 1 (some .int) ∈ lw_good := by decide +kernel
theorem k_X1_slotOf {p : Program} {l : Launch} {e : Env} {R : Room} {s : State} {m : MethodId} {args : Array Value} {below : List Frame} {meth : Method} {c : Code} {H : Heap} {locs : List Loc} {cells slots : Nat} {Q : State → Prop} {cc : ByteArray} {nL pc idx : Nat} {ls : Array Slot} {rest : List Value} {own : String} {x0 : Int32} {r : Int32} (B : CB own cc nL p s m args c) (hf : f_X1_slotOf x0 = some r) (hlk : Cond.methodLink own idx yX1_slotOf ∈ lw_good) (hd : decode cc pc = .ok (.invokestatic idx, 3)) (hsz : ls.size = nL) (hR : 2 ≤ R.frames ∧ 42 ≤ R.locals) (hrest : (rest.map fun v => v.category).sum ≤ 8) (hk : cells ≤ R.cells ∧ slots ≤ R.slots) (k : W p l e R s m args below meth c H locs cells slots Q (F0 m (pc + 3) ls (.int r :: rest))) : W p l e R s m args below meth c H locs cells slots Q (F0 m pc ls (.int x0 :: rest)) :=
  fin_r (runS (As := [.int x0]) B 1 (t_X1_slotOf l x0 r hf) rfl rfl hlk m_X1_slotOf (by decide +kernel) ⟨hR.1, hR.2⟩ ⟨blindP, preP⟩ rfl hsz hrest hd hk) k
def f_X1_endMinute (w : CW) : Option CW :=
 (some (cs w 1 6 (if (w.1 1 6) < ((w.1 1 5) - ((300 : Int32))) then ((w.1 1 5) - ((300 : Int32))) else (w.1 1 6)))).bind fun w1 =>
 (f_X1_slotOf (w1.1 1 5)).bind fun y2 =>
 chk (inb y2 301) (
 (f_X1_slotOf ((cs w1 12 y2.toNatClampNeg (w1.1 1 4)).1 1 6)).bind fun y4 =>
 chk (inb y4 301) (
 (some (cs (cs w1 12 y2.toNatClampNeg (w1.1 1 4)) 1 3 ((cs w1 12 y2.toNatClampNeg (w1.1 1 4)).1 12 y4.toNatClampNeg))).bind fun w6 =>
 some w6))
set_option maxHeartbeats 4000000 in
set_option maxRecDepth 100000 in
theorem t_X1_endMinute (l : Launch) (G : Gm) (la : Nat) (w0 : CW) (w' : CW) (hf : f_X1_endMinute w0 = some w') : MetV l yX1_endMinute cX1_endMinute 1 2 42 G (cw G la w0) [.ref (gq G 1)] (fun _ => cw G la (w')) 0 := by
  intro sz
  refine ent (own := RX1) (As := [.ref (gq G 1)]) (by decide +kernel) rfl (Nat.le_of_ble_eq_true rfl) (fun _ _ h => h.1) ?_
  intro p e s m args below meth c ls B hr hlocks hv hl
  obtain ⟨-, hsz, hP, hKK, hD⟩ := hv
  subst hsz
  have X : CX RX1 cX1_endMinute 1 G p s m args c := ⟨B, hKK⟩
  obtain ⟨hx, hb, hml, hown, hts⟩ := id B
  have hA : ∀ q : Nat, s.heap.size ≤ q → va_A (cw G la w0) s.heap.size q := fun q z => Or.inr z
  have h : CH G (cw G la w0) (va_A (cw G la w0) s.heap.size) s.heap s.heap [] := ⟨hP, hD.self, va_S.rf⟩
  obtain ⟨w, rfl⟩ : ∃ z, z = w0 := ⟨_, rfl⟩
  have hl : lv_has ls 1 [(0, .ref (gq G 1))] := hl
  unfold f_X1_endMinute at hf
  refine lv_aload_n hx hb dX1_endMinute_0 rfl (lv_at hl 0 rfl) ?_
  refine lv_aload_n hx hb dX1_endMinute_1 rfl (lv_at hl 0 rfl) ?_
  refine GC_1_6 X h k_X1_31 dX1_endMinute_2 ?_
  refine lv_aload_n hx hb dX1_endMinute_5 rfl (lv_at hl 0 rfl) ?_
  refine GC_1_5 X h k_X1_28 dX1_endMinute_6 ?_
  refine lv_sipush (v := 300) hx hb dX1_endMinute_9 (by decide) ?_
  refine lv_isub hx hb dX1_endMinute_12 ?_
  refine m_max X.1 hl.1 k_X1_45 mx_w ⟨(Nat.le_of_ble_eq_true rfl), (Nat.le_of_ble_eq_true rfl)⟩ ⟨Nat.zero_le _, Nat.zero_le _⟩ dX1_endMinute_13 ?_
  refine PC_1_6 X h k_X1_31 dX1_endMinute_16 (fun H locs h => ?_)
  obtain ⟨w1, ew1, hf⟩ := bnd_some hf
  have h := (Option.some.inj ew1) ▸ h
  refine lv_aload_n hx hb dX1_endMinute_19 rfl (lv_at hl 0 rfl) ?_
  refine GC_1_1 X h k_X1_15 dX1_endMinute_20 ?_
  refine lv_aload_n hx hb dX1_endMinute_23 rfl (lv_at hl 0 rfl) ?_
  refine GC_1_5 X h k_X1_28 dX1_endMinute_24 ?_
  obtain ⟨y2, ey2, hf⟩ := bnd_some hf
  refine k_X1_slotOf X.1 ey2 k_X1_51 dX1_endMinute_27 hl.1 ⟨(Nat.le_of_ble_eq_true rfl), (Nat.le_of_ble_eq_true rfl)⟩ (Nat.le_of_ble_eq_true rfl) ⟨Nat.zero_le _, Nat.zero_le _⟩ ?_
  refine lv_aload_n hx hb dX1_endMinute_30 rfl (lv_at hl 0 rfl) ?_
  refine GC_1_4 X h k_X1_25 dX1_endMinute_31 ?_
  obtain ⟨c3, hf⟩ := chk_some hf
  refine SC_12 X h c3 dX1_endMinute_34 (fun H locs h => ?_)
  refine lv_aload_n hx hb dX1_endMinute_35 rfl (lv_at hl 0 rfl) ?_
  refine lv_aload_n hx hb dX1_endMinute_36 rfl (lv_at hl 0 rfl) ?_
  refine GC_1_1 X h k_X1_15 dX1_endMinute_37 ?_
  refine lv_aload_n hx hb dX1_endMinute_40 rfl (lv_at hl 0 rfl) ?_
  refine GC_1_6 X h k_X1_31 dX1_endMinute_41 ?_
  obtain ⟨y4, ey4, hf⟩ := bnd_some hf
  refine k_X1_slotOf X.1 ey4 k_X1_51 dX1_endMinute_44 hl.1 ⟨(Nat.le_of_ble_eq_true rfl), (Nat.le_of_ble_eq_true rfl)⟩ (Nat.le_of_ble_eq_true rfl) ⟨Nat.zero_le _, Nat.zero_le _⟩ ?_
  obtain ⟨c5, hf⟩ := chk_some hf
  refine LC_12 X h c5 dX1_endMinute_47 ?_
  refine PC_1_3 X h k_X1_21 dX1_endMinute_48 (fun H locs h => ?_)
  obtain ⟨w6, ew6, hf⟩ := bnd_some hf
  have h := (Option.some.inj ew6) ▸ h
  exact e0_v (Wf := cw G la) X.1 hr hlocks hf h dX1_endMinute_51
theorem m_X1_endMinute : Cond.instanceMethod yX1_endMinute ∈ lw_good ∧ Cond.selects RX1 yX1_endMinute yX1_endMinute ∈ lw_good ∧ Cond.initialized RX1 ∈ lw_good ∧ Cond.code yX1_endMinute cX1_endMinute 1 none ∈ lw_good := by decide +kernel
theorem k_X1_endMinute {p : Program} {l : Launch} {e : Env} {R : Room} {s : State} {m : MethodId} {args : Array Value} {below : List Frame} {meth : Method} {c : Code} {H : Heap} {locs : List Loc} {cells slots : Nat} {Q : State → Prop} {cc : ByteArray} {nL pc idx : Nat} {ls : Array Slot} {rest : List Value} {own : String} {G : Gm} {A : Nat → Prop} {H0 : Heap} {la : Nat} {w : CW} {w' : CW} (X : CX own cc nL G p s m args c) (h : CH G (cw G la w) A H0 H locs) (hA : ∀ q, H0.size ≤ q → A q) (hf : f_X1_endMinute w = some w') (hlk : Cond.methodLink own idx yX1_endMinute ∈ lw_good) (hd : decode cc pc = .ok (.invokevirtual idx, 3)) (hsz : ls.size = nL) (hR : 3 ≤ R.frames ∧ 62 ≤ R.locals) (hrest : (rest.map fun v => v.category).sum ≤ 8) (hk : cells ≤ R.cells ∧ slots ≤ R.slots) (k : ∀ (H : Heap) (locs : List Loc), CH G (cw G la (w')) A H0 H locs → W p l e R s m args below meth c H locs cells slots Q (F0 m (pc + 3) ls (rest))) : W p l e R s m args below meth c H locs cells slots Q (F0 m pc ls (.ref (gq G 1) :: rest)) :=
  fin_v (n := 0) (runV (As := []) X.1 0 (t_X1_endMinute l G la w w' hf _) rfl rfl hlk m_X1_endMinute (by decide +kernel) ⟨hR.1, hR.2⟩ ⟨blindM, va_recv X.2.1 h.1 (ci := 1) (q0 := 1) rfl rfl, preM X.2 h⟩ rfl hsz hrest hd hk) h hA (fun _ H locs h => k H locs h)
def f_X1_keptMinutes (w : CW) : Option Int32 :=
 some ((w.1 1 5) - (w.1 1 6))
set_option maxHeartbeats 4000000 in
set_option maxRecDepth 100000 in
theorem t_X1_keptMinutes (l : Launch) (G : Gm) (la : Nat) (w : CW) (r : Int32) (hf : f_X1_keptMinutes w = some r) : MetR l yX1_keptMinutes cX1_keptMinutes 1 (some .int) 0 0 G (cw G la w) [.ref (gq G 1)] (.int r) := by
  refine ent (own := RX1) (As := [.ref (gq G 1)]) (by decide +kernel) rfl (Nat.le_of_ble_eq_true rfl) (fun _ _ h => h.1) ?_
  intro p e s m args below meth c ls B hr hlocks hv hl
  obtain ⟨-, hP, hKK, hD⟩ := hv
  have X : CX RX1 cX1_keptMinutes 1 G p s m args c := ⟨B, hKK⟩
  obtain ⟨hx, hb, hml, hown, hts⟩ := id B
  have h : CH G (cw G la w) (fun _ => True) s.heap s.heap [] := ⟨hP, hD, va_S.rf⟩
  have hl : lv_has ls 1 [(0, .ref (gq G 1))] := hl
  unfold f_X1_keptMinutes at hf
  refine lv_aload_n hx hb dX1_keptMinutes_0 rfl (lv_at hl 0 rfl) ?_
  refine GC_1_5 X h k_X1_28 dX1_keptMinutes_1 ?_
  refine lv_aload_n hx hb dX1_keptMinutes_4 rfl (lv_at hl 0 rfl) ?_
  refine GC_1_6 X h k_X1_31 dX1_keptMinutes_5 ?_
  refine lv_isub hx hb dX1_keptMinutes_8 ?_
  cases hf
  exact rr_i X.1 hr hlocks dX1_keptMinutes_9
theorem m_X1_keptMinutes : Cond.instanceMethod yX1_keptMinutes ∈ lw_good ∧ Cond.selects RX1 yX1_keptMinutes yX1_keptMinutes ∈ lw_good ∧ Cond.initialized RX1 ∈ lw_good ∧ Cond.code yX1_keptMinutes cX1_keptMinutes 1 (some .int) ∈ lw_good := by decide +kernel
theorem k_X1_keptMinutes {p : Program} {l : Launch} {e : Env} {R : Room} {s : State} {m : MethodId} {args : Array Value} {below : List Frame} {meth : Method} {c : Code} {H : Heap} {locs : List Loc} {cells slots : Nat} {Q : State → Prop} {cc : ByteArray} {nL pc idx : Nat} {ls : Array Slot} {rest : List Value} {own : String} {G : Gm} {A : Nat → Prop} {H0 : Heap} {la : Nat} {w : CW} {r : Int32} (X : CX own cc nL G p s m args c) (h : CH G (cw G la w) A H0 H locs) (hf : f_X1_keptMinutes w = some r) (hlk : Cond.methodLink own idx yX1_keptMinutes ∈ lw_good) (hd : decode cc pc = .ok (.invokevirtual idx, 3)) (hsz : ls.size = nL) (hR : 1 ≤ R.frames ∧ 20 ≤ R.locals) (hrest : (rest.map fun v => v.category).sum ≤ 8) (hk : cells ≤ R.cells ∧ slots ≤ R.slots) (k : W p l e R s m args below meth c H locs cells slots Q (F0 m (pc + 3) ls (.int r :: rest))) : W p l e R s m args below meth c H locs cells slots Q (F0 m pc ls (.ref (gq G 1) :: rest)) :=
  fin_r (runV (As := []) X.1 0 (t_X1_keptMinutes l G la w r hf) rfl rfl hlk m_X1_keptMinutes (by decide +kernel) ⟨hR.1, hR.2⟩ ⟨blindR, va_recv X.2.1 h.1 (ci := 1) (q0 := 1) rfl rfl, preR X.2 h⟩ rfl hsz hrest hd hk) k
def f_X1_undoMinutes_b91 (k23 : (Int32 → CW → Option CW)) (x2 : Int32) (w : CW) : Option CW :=
 k23 x2 w
def f_X1_undoMinutes_l23_body (kself : (Int32 → CW → Option CW)) (x2 : Int32) (w : CW) : Option CW :=
 if (w.1 1 4) ≤ x2 then
 (some w)
 else
 (if (w.1 1 4) < ((2 : Int32)) then
 (some w)
 else
 (chk (inb ((cs w 1 4 ((w.1 1 4) - ((2 : Int32)))).1 1 4) (cs w 1 4 ((w.1 1 4) - ((2 : Int32)))).2) (
 (some ((cs w 1 4 ((w.1 1 4) - ((2 : Int32)))).1 13 ((cs w 1 4 ((w.1 1 4) - ((2 : Int32)))).1 1 4).toNatClampNeg)).bind fun z4 =>
 (f_X9_within z4 ((0 : Int32)) ((Int32.ofNat 8556) - ((1 : Int32)))).bind fun y5 =>
 if y5 = 0 then
 (f_X1_undoMinutes_b91 kself x2 (cs w 1 4 ((w.1 1 4) - ((2 : Int32)))))
 else
 (chk (inb (((cs w 1 4 ((w.1 1 4) - ((2 : Int32)))).1 1 4) + ((1 : Int32))) (cs w 1 4 ((w.1 1 4) - ((2 : Int32)))).2) (
 chk (inb z4 8556) (
 (some (cs (cs w 1 4 ((w.1 1 4) - ((2 : Int32)))) 11 z4.toNatClampNeg ((cs w 1 4 ((w.1 1 4) - ((2 : Int32)))).1 13 (((cs w 1 4 ((w.1 1 4) - ((2 : Int32)))).1 1 4) + ((1 : Int32))).toNatClampNeg))).bind fun w9 =>
 f_X1_undoMinutes_b91 kself x2 w9))))))
def f_X1_undoMinutes_l23 : Nat → Int32 → CW → Option CW
  | 0, _, _ => none
  | n + 1, x2, w => f_X1_undoMinutes_l23_body (f_X1_undoMinutes_l23 n) x2 w
def f_X1_undoMinutes (x1 : Int32) (w : CW) : Option CW :=
 (f_X1_slotOf ((cs w 1 5 ((w.1 1 5) - x1)).1 1 5)).bind fun y10 =>
 chk (inb y10 301) (
 (some ((cs w 1 5 ((w.1 1 5) - x1)).1 12 y10.toNatClampNeg)).bind fun z12 =>
 f_X1_undoMinutes_l23 FU z12 (cs w 1 5 ((w.1 1 5) - x1)))
set_option maxHeartbeats 4000000 in
set_option maxRecDepth 100000 in
theorem t_X1_undoMinutes (l : Launch) (G : Gm) (la : Nat) (w0 : CW) (x1 : Int32) (w' : CW) (hf : f_X1_undoMinutes x1 w0 = some w') : MetV l yX1_undoMinutes cX1_undoMinutes 4 2 42 G (cw G la w0) [.ref (gq G 1), .int x1] (fun _ => cw G la (w')) 0 := by
  intro sz
  refine ent (own := RX1) (As := [.ref (gq G 1), .int x1]) (by decide +kernel) rfl (Nat.le_of_ble_eq_true rfl) (fun _ _ h => h.1) ?_
  intro p e s m args below meth c ls B hr hlocks hv hl
  obtain ⟨-, hsz, hP, hKK, hD⟩ := hv
  subst hsz
  have X : CX RX1 cX1_undoMinutes 4 G p s m args c := ⟨B, hKK⟩
  obtain ⟨hx, hb, hml, hown, hts⟩ := id B
  have hA : ∀ q : Nat, s.heap.size ≤ q → va_A (cw G la w0) s.heap.size q := fun q z => Or.inr z
  have h : CH G (cw G la w0) (va_A (cw G la w0) s.heap.size) s.heap s.heap [] := ⟨hP, hD.self, va_S.rf⟩
  have L23 : ∀ (n23 : Nat) (x2 : Int32) (w : CW) (H : Heap) (locs : List Loc) (ls : Array Slot), f_X1_undoMinutes_l23 n23 x2 w = some w' → CH G (cw G la w) (va_A (cw G la w0) s.heap.size) s.heap H locs → lv_has ls 4 [(0, .ref (gq G 1)), (2, .int x2)] → W p l e { frames := 2, cells := 0, slots := 4096 * 0, locals := 42 } s m args below meth c H locs 0 (4096 * 0) (MQ below (QV G (cw G la w0) s.heap.size (fun _ => cw G la (w'))) args s 0 (4096 * 0) (va_A (cw G la w0) s.heap.size)) (F0 m 23 ls []) := by
    intro n23
    induction n23 with
    | zero =>
      intro x2 w H locs ls hf h hl
      cases (show (none : Option CW) = some _ from hf)
    | succ n23 ih23 =>
      have J91 : ∀ (x2 : Int32) (w : CW) (H : Heap) (locs : List Loc) (ls : Array Slot), f_X1_undoMinutes_b91 (f_X1_undoMinutes_l23 n23) x2 w = some w' → CH G (cw G la w) (va_A (cw G la w0) s.heap.size) s.heap H locs → lv_has ls 4 [(0, .ref (gq G 1)), (2, .int x2)] → W p l e { frames := 2, cells := 0, slots := 4096 * 0, locals := 42 } s m args below meth c H locs 0 (4096 * 0) (MQ below (QV G (cw G la w0) s.heap.size (fun _ => cw G la (w'))) args s 0 (4096 * 0) (va_A (cw G la w0) s.heap.size)) (F0 m 91 ls []) := by
        intro x2 w H locs ls hf h hl
        unfold f_X1_undoMinutes_b91 at hf
        refine lv_goto (tgt := 23) hx hb dX1_undoMinutes_91 (by decide) ?_
        exact ih23 _ _ _ _ _ hf h (lv_sub hl [0, 1] rfl)
      intro x2 w H locs ls hf h hl
      have hf : f_X1_undoMinutes_l23_body (f_X1_undoMinutes_l23 n23) x2 w = _ := hf
      unfold f_X1_undoMinutes_l23_body at hf
      refine lv_aload_n hx hb dX1_undoMinutes_23 rfl (lv_at hl 0 rfl) ?_
      refine GC_1_4 X h k_X1_25 dX1_undoMinutes_24 ?_
      refine lv_iload_n hx hb dX1_undoMinutes_27 rfl (lv_at hl 1 rfl) ?_
      refine lv_icmp_le (tgt := 94) hx hb dX1_undoMinutes_28 (by decide) (fun c1 => ?_) (fun c1 => ?_)
      · have hf := if_t c1 hf
        exact e0_v (Wf := cw G la) X.1 hr hlocks hf h dX1_undoMinutes_94
      · have hf := if_f c1 hf
        refine lv_aload_n hx hb dX1_undoMinutes_31 rfl (lv_at hl 0 rfl) ?_
        refine GC_1_4 X h k_X1_25 dX1_undoMinutes_32 ?_
        refine lv_iconst (v := 2) hx hb dX1_undoMinutes_35 (by decide) ?_
        refine lv_icmp_lt (tgt := 94) hx hb dX1_undoMinutes_36 (by decide) (fun c2 => ?_) (fun c2 => ?_)
        · have hf := if_t c2 hf
          exact e0_v (Wf := cw G la) X.1 hr hlocks hf h dX1_undoMinutes_94
        · have hf := if_f c2 hf
          refine lv_aload_n hx hb dX1_undoMinutes_39 rfl (lv_at hl 0 rfl) ?_
          refine lv_dup hx hb dX1_undoMinutes_40 rfl ?_
          refine GC_1_4 X h k_X1_25 dX1_undoMinutes_41 ?_
          refine lv_iconst (v := 2) hx hb dX1_undoMinutes_44 (by decide) ?_
          refine lv_isub hx hb dX1_undoMinutes_45 ?_
          refine PC_1_4 X h k_X1_25 dX1_undoMinutes_46 (fun H locs h => ?_)
          refine lv_aload_n hx hb dX1_undoMinutes_49 rfl (lv_at hl 0 rfl) ?_
          refine GC_1_2 X h k_X1_18 dX1_undoMinutes_50 ?_
          refine lv_aload_n hx hb dX1_undoMinutes_53 rfl (lv_at hl 0 rfl) ?_
          refine GC_1_4 X h k_X1_25 dX1_undoMinutes_54 ?_
          obtain ⟨c3, hf⟩ := chk_some hf
          refine LC_13 X h c3 dX1_undoMinutes_57 ?_
          obtain ⟨z4, ez4, hf⟩ := bnd_some hf
          refine nm_i (Option.some.inj ez4) ?_
          refine lv_istore_n (lv' := [(3, .int z4), (0, .ref (gq G 1)), (2, .int x2)]) hx hb dX1_undoMinutes_58 rfl hl (by decide) rfl (fun ls hl => ?_)
          refine lv_iload_n hx hb dX1_undoMinutes_59 rfl (lv_at hl 0 rfl) ?_
          refine lv_iconst (v := 0) hx hb dX1_undoMinutes_60 (by decide) ?_
          refine lv_aload_n hx hb dX1_undoMinutes_61 rfl (lv_at hl 1 rfl) ?_
          refine GC_1_0 X h k_X1_9 dX1_undoMinutes_62 ?_
          refine NC_11 X h dX1_undoMinutes_65 ?_
          refine lv_iconst (v := 1) hx hb dX1_undoMinutes_66 (by decide) ?_
          refine lv_isub hx hb dX1_undoMinutes_67 ?_
          obtain ⟨y5, ey5, hf⟩ := bnd_some hf
          refine kn_X9_within X.1 ey5 (X.2.2 _ (by decide +kernel)) dX1_undoMinutes_68 hl.1 ⟨(Nat.le_of_ble_eq_true rfl), (Nat.le_of_ble_eq_true rfl)⟩ (Nat.le_of_ble_eq_true rfl) ⟨Nat.zero_le _, Nat.zero_le _⟩ ?_
          refine lv_if_eq (tgt := 91) hx hb dX1_undoMinutes_71 (by decide) (fun c6 => ?_) (fun c6 => ?_)
          · have hf := if_t c6 hf
            exact J91 _ _ _ _ _ hf h (lv_sub hl [1, 2] rfl)
          · have hf := if_f c6 hf
            refine lv_aload_n hx hb dX1_undoMinutes_74 rfl (lv_at hl 1 rfl) ?_
            refine GC_1_0 X h k_X1_9 dX1_undoMinutes_75 ?_
            refine lv_iload_n hx hb dX1_undoMinutes_78 rfl (lv_at hl 0 rfl) ?_
            refine lv_aload_n hx hb dX1_undoMinutes_79 rfl (lv_at hl 1 rfl) ?_
            refine GC_1_2 X h k_X1_18 dX1_undoMinutes_80 ?_
            refine lv_aload_n hx hb dX1_undoMinutes_83 rfl (lv_at hl 1 rfl) ?_
            refine GC_1_4 X h k_X1_25 dX1_undoMinutes_84 ?_
            refine lv_iconst (v := 1) hx hb dX1_undoMinutes_87 (by decide) ?_
            refine lv_iadd hx hb dX1_undoMinutes_88 ?_
            obtain ⟨c7, hf⟩ := chk_some hf
            refine LC_13 X h c7 dX1_undoMinutes_89 ?_
            obtain ⟨c8, hf⟩ := chk_some hf
            refine SC_11 X h c8 dX1_undoMinutes_90 (fun H locs h => ?_)
            obtain ⟨w9, ew9, hf⟩ := bnd_some hf
            have h := (Option.some.inj ew9) ▸ h
            exact J91 _ _ _ _ _ hf h (lv_sub hl [1, 2] rfl)
  obtain ⟨w, rfl⟩ : ∃ z, z = w0 := ⟨_, rfl⟩
  have hl : lv_has ls 4 [(0, .ref (gq G 1)), (1, .int x1)] := hl
  unfold f_X1_undoMinutes at hf
  refine lv_aload_n hx hb dX1_undoMinutes_0 rfl (lv_at hl 0 rfl) ?_
  refine lv_dup hx hb dX1_undoMinutes_1 rfl ?_
  refine GC_1_5 X h k_X1_28 dX1_undoMinutes_2 ?_
  refine lv_iload_n hx hb dX1_undoMinutes_5 rfl (lv_at hl 1 rfl) ?_
  refine lv_isub hx hb dX1_undoMinutes_6 ?_
  refine PC_1_5 X h k_X1_28 dX1_undoMinutes_7 (fun H locs h => ?_)
  refine lv_aload_n hx hb dX1_undoMinutes_10 rfl (lv_at hl 0 rfl) ?_
  refine GC_1_1 X h k_X1_15 dX1_undoMinutes_11 ?_
  refine lv_aload_n hx hb dX1_undoMinutes_14 rfl (lv_at hl 0 rfl) ?_
  refine GC_1_5 X h k_X1_28 dX1_undoMinutes_15 ?_
  obtain ⟨y10, ey10, hf⟩ := bnd_some hf
  refine k_X1_slotOf X.1 ey10 k_X1_51 dX1_undoMinutes_18 hl.1 ⟨(Nat.le_of_ble_eq_true rfl), (Nat.le_of_ble_eq_true rfl)⟩ (Nat.le_of_ble_eq_true rfl) ⟨Nat.zero_le _, Nat.zero_le _⟩ ?_
  obtain ⟨c11, hf⟩ := chk_some hf
  refine LC_12 X h c11 dX1_undoMinutes_21 ?_
  obtain ⟨z12, ez12, hf⟩ := bnd_some hf
  refine nm_i (Option.some.inj ez12) ?_
  refine lv_istore_n (lv' := [(2, .int z12), (0, .ref (gq G 1)), (1, .int x1)]) hx hb dX1_undoMinutes_22 rfl hl (by decide) rfl (fun ls hl => ?_)
  exact L23 FU _ _ _ _ _ hf h (lv_sub hl [1, 0] rfl)
theorem m_X1_undoMinutes : Cond.instanceMethod yX1_undoMinutes ∈ lw_good ∧ Cond.selects RX1 yX1_undoMinutes yX1_undoMinutes ∈ lw_good ∧ Cond.initialized RX1 ∈ lw_good ∧ Cond.code yX1_undoMinutes cX1_undoMinutes 4 none ∈ lw_good := by decide +kernel
theorem k_X1_undoMinutes {p : Program} {l : Launch} {e : Env} {R : Room} {s : State} {m : MethodId} {args : Array Value} {below : List Frame} {meth : Method} {c : Code} {H : Heap} {locs : List Loc} {cells slots : Nat} {Q : State → Prop} {cc : ByteArray} {nL pc idx : Nat} {ls : Array Slot} {rest : List Value} {own : String} {G : Gm} {A : Nat → Prop} {H0 : Heap} {la : Nat} {w : CW} {x1 : Int32} {w' : CW} (X : CX own cc nL G p s m args c) (h : CH G (cw G la w) A H0 H locs) (hA : ∀ q, H0.size ≤ q → A q) (hf : f_X1_undoMinutes x1 w = some w') (hlk : Cond.methodLink own idx yX1_undoMinutes ∈ lw_good) (hd : decode cc pc = .ok (.invokevirtual idx, 3)) (hsz : ls.size = nL) (hR : 3 ≤ R.frames ∧ 65 ≤ R.locals) (hrest : (rest.map fun v => v.category).sum ≤ 8) (hk : cells ≤ R.cells ∧ slots ≤ R.slots) (k : ∀ (H : Heap) (locs : List Loc), CH G (cw G la (w')) A H0 H locs → W p l e R s m args below meth c H locs cells slots Q (F0 m (pc + 3) ls (rest))) : W p l e R s m args below meth c H locs cells slots Q (F0 m pc ls (.int x1 :: .ref (gq G 1) :: rest)) :=
  fin_v (n := 0) (runV (As := [.int x1]) X.1 1 (t_X1_undoMinutes l G la w x1 w' hf _) rfl rfl hlk m_X1_undoMinutes (by decide +kernel) ⟨hR.1, hR.2⟩ ⟨blindM, va_recv X.2.1 h.1 (ci := 1) (q0 := 1) rfl rfl, preM X.2 h⟩ rfl hsz hrest hd hk) h hA (fun _ H locs h => k H locs h)
