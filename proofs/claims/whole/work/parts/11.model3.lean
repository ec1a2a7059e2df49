def f_X10_refund (x1 : Int32) (w : MW) : Option (Int32 × MW) :=
 (f_X10_isPlace x1).bind fun y1 =>
 if y1 = 0 then
 (some ((-1 : Int32), mst w 0 0 ((0 : Int32))))
 else
 ((f_X10_isThere x1 (mst w 0 0 ((0 : Int32)))).bind fun y3 =>
 if y3 = 0 then
 ((f_X10_found ((1 : Int32)) (mst w 0 0 ((0 : Int32)))).bind fun y5 =>
 some (y5.1, y5.2))
 else
 ((f_X10_giveBack x1 (mst w 0 0 ((0 : Int32)))).bind fun y6 =>
 some (y6.1, y6.2)))
set_option maxHeartbeats 4000000 in
set_option maxRecDepth 100000 in
theorem t_X10_refund (l : Launch) (G : Gm) (w0 : MW) (x1 : Int32) (r : Int32) (w' : MW) (hf : f_X10_refund x1 w0 = some (r, w')) : MetI l yX10_refund cX10_refund 2 (some .int) 3 68 G (mw G w0) [.ref (gq G 0), .int x1] r (fun _ => mw G (w')) 0 := by
  intro sz
  refine ent (own := RX10) (As := [.ref (gq G 0), .int x1]) (by decide +kernel) rfl (Nat.le_of_ble_eq_true rfl) (fun _ _ h => h.1) ?_
  intro p e s m args below meth c ls B hr hlocks hv hl
  obtain ⟨-, hsz, hP, hKK, hD⟩ := hv
  subst hsz
  have X : CX RX10 cX10_refund 2 G p s m args c := ⟨B, hKK⟩
  obtain ⟨hx, hb, hml, hown, hts⟩ := id B
  have hA : ∀ q : Nat, s.heap.size ≤ q → va_A (mw G w0) s.heap.size q := fun q z => Or.inr z
  have h : CH G (mw G w0) (va_A (mw G w0) s.heap.size) s.heap s.heap [] := ⟨hP, hD.self, va_S.rf⟩
  obtain ⟨w, rfl⟩ : ∃ z, z = w0 := ⟨_, rfl⟩
  have hl : lv_has ls 2 [(0, .ref (gq G 0)), (1, .int x1)] := hl
  unfold f_X10_refund at hf
  refine lv_aload_n hx hb dX10_refund_0 rfl (lv_at hl 0 rfl) ?_
  refine lv_iconst (v := 0) hx hb dX10_refund_1 (by decide) ?_
  refine PM_0_0 X h k_X10_53 dX10_refund_2 (fun H locs h => ?_)
  refine lv_iload_n hx hb dX10_refund_5 rfl (lv_at hl 1 rfl) ?_
  obtain ⟨y1, ey1, hf⟩ := bnd_some hf
  refine k_X10_isPlace X.1 ey1 k_X10_106 dX10_refund_6 hl.1 ⟨(Nat.le_of_ble_eq_true rfl), (Nat.le_of_ble_eq_true rfl)⟩ (Nat.le_of_ble_eq_true rfl) ⟨Nat.zero_le _, Nat.zero_le _⟩ ?_
  refine lv_if_ne (tgt := 14) hx hb dX10_refund_9 (by decide) (fun c2 => ?_) (fun c2 => ?_)
  · have hf := if_f c2 hf
    refine lv_aload_n hx hb dX10_refund_14 rfl (lv_at hl 0 rfl) ?_
    refine lv_iload_n hx hb dX10_refund_15 rfl (lv_at hl 1 rfl) ?_
    obtain ⟨y3, ey3, hf⟩ := bnd_some hf
    refine k_X10_isThere X h ey3 k_X10_110 dX10_refund_16 hl.1 ⟨(Nat.le_of_ble_eq_true rfl), (Nat.le_of_ble_eq_true rfl)⟩ (Nat.le_of_ble_eq_true rfl) ⟨Nat.zero_le _, Nat.zero_le _⟩ ?_
    refine lv_if_eq (tgt := 30) hx hb dX10_refund_19 (by decide) (fun c4 => ?_) (fun c4 => ?_)
    · have hf := if_t c4 hf
      refine lv_aload_n hx hb dX10_refund_30 rfl (lv_at hl 0 rfl) ?_
      refine lv_iconst (v := 1) hx hb dX10_refund_31 (by decide) ?_
      obtain ⟨y5, ey5, hf⟩ := bnd_some hf
      refine k_X10_found X h hA ey5 k_X10_117 dX10_refund_32 hl.1 ⟨(Nat.le_of_ble_eq_true rfl), (Nat.le_of_ble_eq_true rfl)⟩ (Nat.le_of_ble_eq_true rfl) ⟨Nat.zero_le _, Nat.zero_le _⟩ (fun H locs h => ?_)
      exact e0_i (Wf := mw G) X.1 hr hlocks hf h dX10_refund_35
    · have hf := if_f c4 hf
      refine lv_aload_n hx hb dX10_refund_22 rfl (lv_at hl 0 rfl) ?_
      refine lv_iload_n hx hb dX10_refund_23 rfl (lv_at hl 1 rfl) ?_
      obtain ⟨y6, ey6, hf⟩ := bnd_some hf
      refine k_X10_giveBack X h hA ey6 k_X10_151 dX10_refund_24 hl.1 ⟨(Nat.le_of_ble_eq_true rfl), (Nat.le_of_ble_eq_true rfl)⟩ (Nat.le_of_ble_eq_true rfl) ⟨Nat.zero_le _, Nat.zero_le _⟩ (fun H locs h => ?_)
      refine lv_goto (tgt := 35) hx hb dX10_refund_27 (by decide) ?_
      exact e0_i (Wf := mw G) X.1 hr hlocks hf h dX10_refund_35
  · have hf := if_t c2 hf
    refine lv_iconst (v := (-1)) hx hb dX10_refund_12 (by decide) ?_
    exact e0_i (Wf := mw G) X.1 hr hlocks hf h dX10_refund_13
theorem m_X10_refund : Cond.instanceMethod yX10_refund ∈ lw_good ∧ Cond.selects RX10 yX10_refund yX10_refund ∈ lw_good ∧ Cond.initialized RX10 ∈ lw_good ∧ Cond.code yX10_refund cX10_refund 2 (some .int) ∈ lw_good := by decide +kernel
theorem k_X10_refund {p : Program} {l : Launch} {e : Env} {R : Room} {s : State} {m : MethodId} {args : Array Value} {below : List Frame} {meth : Method} {c : Code} {H : Heap} {locs : List Loc} {cells slots : Nat} {Q : State → Prop} {cc : ByteArray} {nL pc idx : Nat} {ls : Array Slot} {rest : List Value} {own : String} {G : Gm} {A : Nat → Prop} {H0 : Heap} {w : MW} {x1 : Int32} {y : Int32 × MW} (X : CX own cc nL G p s m args c) (h : CH G (mw G w) A H0 H locs) (hA : ∀ q, H0.size ≤ q → A q) (hf : f_X10_refund x1 w = some y) (hlk : Cond.methodLink own idx yX10_refund ∈ lw_good) (hd : decode cc pc = .ok (.invokevirtual idx, 3)) (hsz : ls.size = nL) (hR : 4 ≤ R.frames ∧ 89 ≤ R.locals) (hrest : (rest.map fun v => v.category).sum ≤ 8) (hk : cells ≤ R.cells ∧ slots ≤ R.slots) (k : ∀ (H : Heap) (locs : List Loc), CH G (mw G y.2) A H0 H locs → W p l e R s m args below meth c H locs cells slots Q (F0 m (pc + 3) ls (.int y.1 :: rest))) : W p l e R s m args below meth c H locs cells slots Q (F0 m pc ls (.int x1 :: .ref (gq G 0) :: rest)) :=
  fin_i (n := 0) (runV (As := [.int x1]) X.1 1 (t_X10_refund l G w x1 y.1 y.2 hf _) rfl rfl hlk m_X10_refund (by decide +kernel) ⟨hR.1, hR.2⟩ ⟨blindM, va_recv X.2.1 h.1 (ci := 9) (q0 := 0) rfl rfl, preM X.2 h⟩ rfl hsz hrest hd hk) h hA (fun _ H locs h => k H locs h)
def f_X10_given (x1 : Int32) (w : MW) : Option (Int32 × MW) :=
 (f_X10_isTube x1).bind fun y1 =>
 if y1 = 0 then
 (some ((-1 : Int32), mst w 0 0 ((0 : Int32))))
 else
 (chk (inb x1 12) (
 some ((mst w 0 0 ((0 : Int32))) 7 x1.toNatClampNeg, mst w 0 0 ((0 : Int32)))))
set_option maxHeartbeats 4000000 in
set_option maxRecDepth 100000 in
theorem t_X10_given (l : Launch) (G : Gm) (w0 : MW) (x1 : Int32) (r : Int32) (w' : MW) (hf : f_X10_given x1 w0 = some (r, w')) : MetI l yX10_given cX10_given 2 (some .int) 2 42 G (mw G w0) [.ref (gq G 0), .int x1] r (fun _ => mw G (w')) 0 := by
  intro sz
  refine ent (own := RX10) (As := [.ref (gq G 0), .int x1]) (by decide +kernel) rfl (Nat.le_of_ble_eq_true rfl) (fun _ _ h => h.1) ?_
  intro p e s m args below meth c ls B hr hlocks hv hl
  obtain ⟨-, hsz, hP, hKK, hD⟩ := hv
  subst hsz
  have X : CX RX10 cX10_given 2 G p s m args c := ⟨B, hKK⟩
  obtain ⟨hx, hb, hml, hown, hts⟩ := id B
  have hA : ∀ q : Nat, s.heap.size ≤ q → va_A (mw G w0) s.heap.size q := fun q z => Or.inr z
  have h : CH G (mw G w0) (va_A (mw G w0) s.heap.size) s.heap s.heap [] := ⟨hP, hD.self, va_S.rf⟩
  obtain ⟨w, rfl⟩ : ∃ z, z = w0 := ⟨_, rfl⟩
  have hl : lv_has ls 2 [(0, .ref (gq G 0)), (1, .int x1)] := hl
  unfold f_X10_given at hf
  refine lv_aload_n hx hb dX10_given_0 rfl (lv_at hl 0 rfl) ?_
  refine lv_iconst (v := 0) hx hb dX10_given_1 (by decide) ?_
  refine PM_0_0 X h k_X10_53 dX10_given_2 (fun H locs h => ?_)
  refine lv_iload_n hx hb dX10_given_5 rfl (lv_at hl 1 rfl) ?_
  obtain ⟨y1, ey1, hf⟩ := bnd_some hf
  refine k_X10_isTube X.1 ey1 k_X10_135 dX10_given_6 hl.1 ⟨(Nat.le_of_ble_eq_true rfl), (Nat.le_of_ble_eq_true rfl)⟩ (Nat.le_of_ble_eq_true rfl) ⟨Nat.zero_le _, Nat.zero_le _⟩ ?_
  refine lv_if_eq (tgt := 21) hx hb dX10_given_9 (by decide) (fun c2 => ?_) (fun c2 => ?_)
  · have hf := if_t c2 hf
    refine lv_iconst (v := (-1)) hx hb dX10_given_21 (by decide) ?_
    exact e0_i (Wf := mw G) X.1 hr hlocks hf h dX10_given_22
  · have hf := if_f c2 hf
    refine lv_aload_n hx hb dX10_given_12 rfl (lv_at hl 0 rfl) ?_
    refine GM_0_13 X h k_X10_29 dX10_given_13 ?_
    refine lv_iload_n hx hb dX10_given_16 rfl (lv_at hl 1 rfl) ?_
    obtain ⟨c3, hf⟩ := chk_some hf
    refine LM_7 X h c3 dX10_given_17 ?_
    refine lv_goto (tgt := 22) hx hb dX10_given_18 (by decide) ?_
    exact e0_i (Wf := mw G) X.1 hr hlocks hf h dX10_given_22
theorem m_X10_given : Cond.instanceMethod yX10_given ∈ lw_good ∧ Cond.selects RX10 yX10_given yX10_given ∈ lw_good ∧ Cond.initialized RX10 ∈ lw_good ∧ Cond.code yX10_given cX10_given 2 (some .int) ∈ lw_good := by decide +kernel
theorem k_X10_given {p : Program} {l : Launch} {e : Env} {R : Room} {s : State} {m : MethodId} {args : Array Value} {below : List Frame} {meth : Method} {c : Code} {H : Heap} {locs : List Loc} {cells slots : Nat} {Q : State → Prop} {cc : ByteArray} {nL pc idx : Nat} {ls : Array Slot} {rest : List Value} {own : String} {G : Gm} {A : Nat → Prop} {H0 : Heap} {w : MW} {x1 : Int32} {y : Int32 × MW} (X : CX own cc nL G p s m args c) (h : CH G (mw G w) A H0 H locs) (hA : ∀ q, H0.size ≤ q → A q) (hf : f_X10_given x1 w = some y) (hlk : Cond.methodLink own idx yX10_given ∈ lw_good) (hd : decode cc pc = .ok (.invokevirtual idx, 3)) (hsz : ls.size = nL) (hR : 3 ≤ R.frames ∧ 63 ≤ R.locals) (hrest : (rest.map fun v => v.category).sum ≤ 8) (hk : cells ≤ R.cells ∧ slots ≤ R.slots) (k : ∀ (H : Heap) (locs : List Loc), CH G (mw G y.2) A H0 H locs → W p l e R s m args below meth c H locs cells slots Q (F0 m (pc + 3) ls (.int y.1 :: rest))) : W p l e R s m args below meth c H locs cells slots Q (F0 m pc ls (.int x1 :: .ref (gq G 0) :: rest)) :=
  fin_i (n := 0) (runV (As := [.int x1]) X.1 1 (t_X10_given l G w x1 y.1 y.2 hf _) rfl rfl hlk m_X10_given (by decide +kernel) ⟨hR.1, hR.2⟩ ⟨blindM, va_recv X.2.1 h.1 (ci := 9) (q0 := 0) rfl rfl, preM X.2 h⟩ rfl hsz hrest hd hk) h hA (fun _ H locs h => k H locs h)
def f_X10_coins (x1 : Int32) (x2 : Int32) (w : MW) : Option (Int32 × MW) :=
 (f_X10_isTube x1).bind fun y1 =>
 if y1 = 0 then
 (some ((-1 : Int32), mst w 0 0 ((0 : Int32))))
 else
 ((f_X10_in x2 ((0 : Int32)) ((1 : Int32))).bind fun y3 =>
 if y3 = 0 then
 (some ((-2 : Int32), mst w 0 0 ((0 : Int32))))
 else
 (chk (inb ((((8720 : Int32)) + (((2 : Int32)) * x1)) + x2) 11360) (
 some ((mst w 0 0 ((0 : Int32))) 1 ((((8720 : Int32)) + (((2 : Int32)) * x1)) + x2).toNatClampNeg, mst w 0 0 ((0 : Int32))))))
set_option maxHeartbeats 4000000 in
set_option maxRecDepth 100000 in
theorem t_X10_coins (l : Launch) (G : Gm) (w0 : MW) (x1 : Int32) (x2 : Int32) (r : Int32) (w' : MW) (hf : f_X10_coins x1 x2 w0 = some (r, w')) : MetI l yX10_coins cX10_coins 3 (some .int) 2 42 G (mw G w0) [.ref (gq G 0), .int x1, .int x2] r (fun _ => mw G (w')) 0 := by
  intro sz
  refine ent (own := RX10) (As := [.ref (gq G 0), .int x1, .int x2]) (by decide +kernel) rfl (Nat.le_of_ble_eq_true rfl) (fun _ _ h => h.1) ?_
  intro p e s m args below meth c ls B hr hlocks hv hl
  obtain ⟨-, hsz, hP, hKK, hD⟩ := hv
  subst hsz
  have X : CX RX10 cX10_coins 3 G p s m args c := ⟨B, hKK⟩
  obtain ⟨hx, hb, hml, hown, hts⟩ := id B
  have hA : ∀ q : Nat, s.heap.size ≤ q → va_A (mw G w0) s.heap.size q := fun q z => Or.inr z
  have h : CH G (mw G w0) (va_A (mw G w0) s.heap.size) s.heap s.heap [] := ⟨hP, hD.self, va_S.rf⟩
  obtain ⟨w, rfl⟩ : ∃ z, z = w0 := ⟨_, rfl⟩
  have hl : lv_has ls 3 [(0, .ref (gq G 0)), (1, .int x1), (2, .int x2)] := hl
  unfold f_X10_coins at hf
  refine lv_aload_n hx hb dX10_coins_0 rfl (lv_at hl 0 rfl) ?_
  refine lv_iconst (v := 0) hx hb dX10_coins_1 (by decide) ?_
  refine PM_0_0 X h k_X10_53 dX10_coins_2 (fun H locs h => ?_)
  refine lv_iload_n hx hb dX10_coins_5 rfl (lv_at hl 1 rfl) ?_
  obtain ⟨y1, ey1, hf⟩ := bnd_some hf
  refine k_X10_isTube X.1 ey1 k_X10_135 dX10_coins_6 hl.1 ⟨(Nat.le_of_ble_eq_true rfl), (Nat.le_of_ble_eq_true rfl)⟩ (Nat.le_of_ble_eq_true rfl) ⟨Nat.zero_le _, Nat.zero_le _⟩ ?_
  refine lv_if_ne (tgt := 16) hx hb dX10_coins_9 (by decide) (fun c2 => ?_) (fun c2 => ?_)
  · have hf := if_f c2 hf
    refine lv_iload_n hx hb dX10_coins_16 rfl (lv_at hl 2 rfl) ?_
    refine lv_iconst (v := 0) hx hb dX10_coins_17 (by decide) ?_
    refine lv_iconst (v := 1) hx hb dX10_coins_18 (by decide) ?_
    obtain ⟨y3, ey3, hf⟩ := bnd_some hf
    refine k_X10_in X.1 ey3 k_X10_71 dX10_coins_19 hl.1 ⟨(Nat.le_of_ble_eq_true rfl), (Nat.le_of_ble_eq_true rfl)⟩ (Nat.le_of_ble_eq_true rfl) ⟨Nat.zero_le _, Nat.zero_le _⟩ ?_
    refine lv_if_ne (tgt := 30) hx hb dX10_coins_22 (by decide) (fun c4 => ?_) (fun c4 => ?_)
    · have hf := if_f c4 hf
      refine lv_aload_n hx hb dX10_coins_30 rfl (lv_at hl 0 rfl) ?_
      refine GM_0_1 X h k_X10_7 dX10_coins_31 ?_
      refine lv_sipush (v := 8720) hx hb dX10_coins_34 (by decide) ?_
      refine lv_iconst (v := 2) hx hb dX10_coins_37 (by decide) ?_
      refine lv_iload_n hx hb dX10_coins_38 rfl (lv_at hl 1 rfl) ?_
      refine lv_imul hx hb dX10_coins_39 ?_
      refine lv_iadd hx hb dX10_coins_40 ?_
      refine lv_iload_n hx hb dX10_coins_41 rfl (lv_at hl 2 rfl) ?_
      refine lv_iadd hx hb dX10_coins_42 ?_
      obtain ⟨c5, hf⟩ := chk_some hf
      refine LM_1 X h c5 dX10_coins_43 ?_
      exact e0_i (Wf := mw G) X.1 hr hlocks hf h dX10_coins_44
    · have hf := if_t c4 hf
      refine lv_bipush (v := (-2)) hx hb dX10_coins_25 (by decide) ?_
      refine lv_goto (tgt := 44) hx hb dX10_coins_27 (by decide) ?_
      exact e0_i (Wf := mw G) X.1 hr hlocks hf h dX10_coins_44
  · have hf := if_t c2 hf
    refine lv_iconst (v := (-1)) hx hb dX10_coins_12 (by decide) ?_
    refine lv_goto (tgt := 44) hx hb dX10_coins_13 (by decide) ?_
    exact e0_i (Wf := mw G) X.1 hr hlocks hf h dX10_coins_44
theorem m_X10_coins : Cond.instanceMethod yX10_coins ∈ lw_good ∧ Cond.selects RX10 yX10_coins yX10_coins ∈ lw_good ∧ Cond.initialized RX10 ∈ lw_good ∧ Cond.code yX10_coins cX10_coins 3 (some .int) ∈ lw_good := by decide +kernel
theorem k_X10_coins {p : Program} {l : Launch} {e : Env} {R : Room} {s : State} {m : MethodId} {args : Array Value} {below : List Frame} {meth : Method} {c : Code} {H : Heap} {locs : List Loc} {cells slots : Nat} {Q : State → Prop} {cc : ByteArray} {nL pc idx : Nat} {ls : Array Slot} {rest : List Value} {own : String} {G : Gm} {A : Nat → Prop} {H0 : Heap} {w : MW} {x1 : Int32} {x2 : Int32} {y : Int32 × MW} (X : CX own cc nL G p s m args c) (h : CH G (mw G w) A H0 H locs) (hA : ∀ q, H0.size ≤ q → A q) (hf : f_X10_coins x1 x2 w = some y) (hlk : Cond.methodLink own idx yX10_coins ∈ lw_good) (hd : decode cc pc = .ok (.invokevirtual idx, 3)) (hsz : ls.size = nL) (hR : 3 ≤ R.frames ∧ 64 ≤ R.locals) (hrest : (rest.map fun v => v.category).sum ≤ 8) (hk : cells ≤ R.cells ∧ slots ≤ R.slots) (k : ∀ (H : Heap) (locs : List Loc), CH G (mw G y.2) A H0 H locs → W p l e R s m args below meth c H locs cells slots Q (F0 m (pc + 3) ls (.int y.1 :: rest))) : W p l e R s m args below meth c H locs cells slots Q (F0 m pc ls (.int x2 :: .int x1 :: .ref (gq G 0) :: rest)) :=
  fin_i (n := 0) (runV (As := [.int x1, .int x2]) X.1 2 (t_X10_coins l G w x1 x2 y.1 y.2 hf _) rfl rfl hlk m_X10_coins (by decide +kernel) ⟨hR.1, hR.2⟩ ⟨blindM, va_recv X.2.1 h.1 (ci := 9) (q0 := 0) rfl rfl, preM X.2 h⟩ rfl hsz hrest hd hk) h hA (fun _ H locs h => k H locs h)
def f_X10_credit (x1 : Int32) (w : MW) : Option (Int32 × MW) :=
 (f_X10_isPlace x1).bind fun y1 =>
 if y1 = 0 then
 (some ((-1 : Int32), mst w 0 0 ((0 : Int32))))
 else
 ((f_X10_creditOf x1 (mst w 0 0 ((0 : Int32)))).bind fun y3 =>
 some (y3, mst w 0 0 ((0 : Int32))))
set_option maxHeartbeats 4000000 in
set_option maxRecDepth 100000 in
theorem t_X10_credit (l : Launch) (G : Gm) (w0 : MW) (x1 : Int32) (r : Int32) (w' : MW) (hf : f_X10_credit x1 w0 = some (r, w')) : MetI l yX10_credit cX10_credit 2 (some .int) 2 45 G (mw G w0) [.ref (gq G 0), .int x1] r (fun _ => mw G (w')) 0 := by
  intro sz
  refine ent (own := RX10) (As := [.ref (gq G 0), .int x1]) (by decide +kernel) rfl (Nat.le_of_ble_eq_true rfl) (fun _ _ h => h.1) ?_
  intro p e s m args below meth c ls B hr hlocks hv hl
  obtain ⟨-, hsz, hP, hKK, hD⟩ := hv
  subst hsz
  have X : CX RX10 cX10_credit 2 G p s m args c := ⟨B, hKK⟩
  obtain ⟨hx, hb, hml, hown, hts⟩ := id B
  have hA : ∀ q : Nat, s.heap.size ≤ q → va_A (mw G w0) s.heap.size q := fun q z => Or.inr z
  have h : CH G (mw G w0) (va_A (mw G w0) s.heap.size) s.heap s.heap [] := ⟨hP, hD.self, va_S.rf⟩
  obtain ⟨w, rfl⟩ : ∃ z, z = w0 := ⟨_, rfl⟩
  have hl : lv_has ls 2 [(0, .ref (gq G 0)), (1, .int x1)] := hl
  unfold f_X10_credit at hf
  refine lv_aload_n hx hb dX10_credit_0 rfl (lv_at hl 0 rfl) ?_
  refine lv_iconst (v := 0) hx hb dX10_credit_1 (by decide) ?_
  refine PM_0_0 X h k_X10_53 dX10_credit_2 (fun H locs h => ?_)
  refine lv_iload_n hx hb dX10_credit_5 rfl (lv_at hl 1 rfl) ?_
  obtain ⟨y1, ey1, hf⟩ := bnd_some hf
  refine k_X10_isPlace X.1 ey1 k_X10_106 dX10_credit_6 hl.1 ⟨(Nat.le_of_ble_eq_true rfl), (Nat.le_of_ble_eq_true rfl)⟩ (Nat.le_of_ble_eq_true rfl) ⟨Nat.zero_le _, Nat.zero_le _⟩ ?_
  refine lv_if_eq (tgt := 20) hx hb dX10_credit_9 (by decide) (fun c2 => ?_) (fun c2 => ?_)
  · have hf := if_t c2 hf
    refine lv_iconst (v := (-1)) hx hb dX10_credit_20 (by decide) ?_
    exact e0_i (Wf := mw G) X.1 hr hlocks hf h dX10_credit_21
  · have hf := if_f c2 hf
    refine lv_aload_n hx hb dX10_credit_12 rfl (lv_at hl 0 rfl) ?_
    refine lv_iload_n hx hb dX10_credit_13 rfl (lv_at hl 1 rfl) ?_
    obtain ⟨y3, ey3, hf⟩ := bnd_some hf
    refine k_X10_creditOf X h ey3 k_X10_123 dX10_credit_14 hl.1 ⟨(Nat.le_of_ble_eq_true rfl), (Nat.le_of_ble_eq_true rfl)⟩ (Nat.le_of_ble_eq_true rfl) ⟨Nat.zero_le _, Nat.zero_le _⟩ ?_
    refine lv_goto (tgt := 21) hx hb dX10_credit_17 (by decide) ?_
    exact e0_i (Wf := mw G) X.1 hr hlocks hf h dX10_credit_21
theorem m_X10_credit : Cond.instanceMethod yX10_credit ∈ lw_good ∧ Cond.selects RX10 yX10_credit yX10_credit ∈ lw_good ∧ Cond.initialized RX10 ∈ lw_good ∧ Cond.code yX10_credit cX10_credit 2 (some .int) ∈ lw_good := by decide +kernel
theorem k_X10_credit {p : Program} {l : Launch} {e : Env} {R : Room} {s : State} {m : MethodId} {args : Array Value} {below : List Frame} {meth : Method} {c : Code} {H : Heap} {locs : List Loc} {cells slots : Nat} {Q : State → Prop} {cc : ByteArray} {nL pc idx : Nat} {ls : Array Slot} {rest : List Value} {own : String} {G : Gm} {A : Nat → Prop} {H0 : Heap} {w : MW} {x1 : Int32} {y : Int32 × MW} (X : CX own cc nL G p s m args c) (h : CH G (mw G w) A H0 H locs) (hA : ∀ q, H0.size ≤ q → A q) (hf : f_X10_credit x1 w = some y) (hlk : Cond.methodLink own idx yX10_credit ∈ lw_good) (hd : decode cc pc = .ok (.invokevirtual idx, 3)) (hsz : ls.size = nL) (hR : 3 ≤ R.frames ∧ 66 ≤ R.locals) (hrest : (rest.map fun v => v.category).sum ≤ 8) (hk : cells ≤ R.cells ∧ slots ≤ R.slots) (k : ∀ (H : Heap) (locs : List Loc), CH G (mw G y.2) A H0 H locs → W p l e R s m args below meth c H locs cells slots Q (F0 m (pc + 3) ls (.int y.1 :: rest))) : W p l e R s m args below meth c H locs cells slots Q (F0 m pc ls (.int x1 :: .ref (gq G 0) :: rest)) :=
  fin_i (n := 0) (runV (As := [.int x1]) X.1 1 (t_X10_credit l G w x1 y.1 y.2 hf _) rfl rfl hlk m_X10_credit (by decide +kernel) ⟨hR.1, hR.2⟩ ⟨blindM, va_recv X.2.1 h.1 (ci := 9) (q0 := 0) rfl rfl, preM X.2 h⟩ rfl hsz hrest hd hk) h hA (fun _ H locs h => k H locs h)
def f_X10_isLoad (x1 : Int32) (w : MW) : Option Int32 :=
 chk (inb ((11345 : Int32)) 11360) (
 (f_X10_in x1 ((0 : Int32)) ((w 1 ((11345 : Int32)).toNatClampNeg) - ((1 : Int32)))).bind fun y2 =>
 chk (y2 = 0 ∨ y2 = 1) (
 some y2))
set_option maxHeartbeats 4000000 in
set_option maxRecDepth 100000 in
theorem t_X10_isLoad (l : Launch) (G : Gm) (w : MW) (x1 : Int32) (r : Int32) (hf : f_X10_isLoad x1 w = some r) : MetR l yX10_isLoad cX10_isLoad 2 (some .boolean) 1 22 G (mw G w) [.ref (gq G 0), .int x1] (.int r) := by
  refine ent (own := RX10) (As := [.ref (gq G 0), .int x1]) (by decide +kernel) rfl (Nat.le_of_ble_eq_true rfl) (fun _ _ h => h.1) ?_
  intro p e s m args below meth c ls B hr hlocks hv hl
  obtain ⟨-, hP, hKK, hD⟩ := hv
  have X : CX RX10 cX10_isLoad 2 G p s m args c := ⟨B, hKK⟩
  obtain ⟨hx, hb, hml, hown, hts⟩ := id B
  have h : CH G (mw G w) (fun _ => True) s.heap s.heap [] := ⟨hP, hD, va_S.rf⟩
  have hl : lv_has ls 2 [(0, .ref (gq G 0)), (1, .int x1)] := hl
  unfold f_X10_isLoad at hf
  refine lv_iload_n hx hb dX10_isLoad_0 rfl (lv_at hl 1 rfl) ?_
  refine lv_iconst (v := 0) hx hb dX10_isLoad_1 (by decide) ?_
  refine lv_aload_n hx hb dX10_isLoad_2 rfl (lv_at hl 0 rfl) ?_
  refine GM_0_1 X h k_X10_7 dX10_isLoad_3 ?_
  refine lv_sipush (v := 11345) hx hb dX10_isLoad_6 (by decide) ?_
  obtain ⟨c1, hf⟩ := chk_some hf
  refine LM_1 X h c1 dX10_isLoad_9 ?_
  refine lv_iconst (v := 1) hx hb dX10_isLoad_10 (by decide) ?_
  refine lv_isub hx hb dX10_isLoad_11 ?_
  obtain ⟨y2, ey2, hf⟩ := bnd_some hf
  refine k_X10_in X.1 ey2 k_X10_71 dX10_isLoad_12 hl.1 ⟨(Nat.le_of_ble_eq_true rfl), (Nat.le_of_ble_eq_true rfl)⟩ (Nat.le_of_ble_eq_true rfl) ⟨Nat.zero_le _, Nat.zero_le _⟩ ?_
  obtain ⟨c3, hf⟩ := chk_some hf
  cases hf
  exact rr_z X.1 hr hlocks c3 dX10_isLoad_15
theorem m_X10_isLoad : Cond.instanceMethod yX10_isLoad ∈ lw_good ∧ Cond.selects RX10 yX10_isLoad yX10_isLoad ∈ lw_good ∧ Cond.initialized RX10 ∈ lw_good ∧ Cond.code yX10_isLoad cX10_isLoad 2 (some .boolean) ∈ lw_good := by decide +kernel
theorem k_X10_isLoad {p : Program} {l : Launch} {e : Env} {R : Room} {s : State} {m : MethodId} {args : Array Value} {below : List Frame} {meth : Method} {c : Code} {H : Heap} {locs : List Loc} {cells slots : Nat} {Q : State → Prop} {cc : ByteArray} {nL pc idx : Nat} {ls : Array Slot} {rest : List Value} {own : String} {G : Gm} {A : Nat → Prop} {H0 : Heap} {w : MW} {x1 : Int32} {r : Int32} (X : CX own cc nL G p s m args c) (h : CH G (mw G w) A H0 H locs) (hf : f_X10_isLoad x1 w = some r) (hlk : Cond.methodLink own idx yX10_isLoad ∈ lw_good) (hd : decode cc pc = .ok (.invokevirtual idx, 3)) (hsz : ls.size = nL) (hR : 2 ≤ R.frames ∧ 43 ≤ R.locals) (hrest : (rest.map fun v => v.category).sum ≤ 8) (hk : cells ≤ R.cells ∧ slots ≤ R.slots) (k : W p l e R s m args below meth c H locs cells slots Q (F0 m (pc + 3) ls (.int r :: rest))) : W p l e R s m args below meth c H locs cells slots Q (F0 m pc ls (.int x1 :: .ref (gq G 0) :: rest)) :=
  fin_r (runV (As := [.int x1]) X.1 1 (t_X10_isLoad l G w x1 r hf) rfl rfl hlk m_X10_isLoad (by decide +kernel) ⟨hR.1, hR.2⟩ ⟨blindR, va_recv X.2.1 h.1 (ci := 9) (q0 := 0) rfl rfl, preR X.2 h⟩ rfl hsz hrest hd hk) k
def f_X10_load (x1 : Int32) (x2 : Int32) (x3 : Int32) (w : MW) : Option (Int32 × MW) :=
 (f_X10_in x1 ((0 : Int32)) ((9 : Int32))).bind fun y1 =>
 if y1 = 0 then
 (some ((-2 : Int32), mst w 0 0 ((0 : Int32))))
 else
 ((f_X10_in x2 ((1 : Int32)) ((20000 : Int32))).bind fun y3 =>
 if y3 = 0 then
 (some ((-2 : Int32), mst w 0 0 ((0 : Int32))))
 else
 ((f_X10_in x3 ((0 : Int32)) ((9 : Int32))).bind fun y5 =>
 if y5 = 0 then
 (some ((-2 : Int32), mst w 0 0 ((0 : Int32))))
 else
 (chk (inb ((11345 : Int32)) 11360) (
 (some ((mst w 0 0 ((0 : Int32))) 1 ((11345 : Int32)).toNatClampNeg)).bind fun z8 =>
 if z8 = ((500 : Int32)) then
 (some ((-4 : Int32), mst w 0 0 ((0 : Int32))))
 else
 ((f_X10_w (((8844 : Int32)) + (((5 : Int32)) * z8)) x1 (mst (mst w 0 0 ((0 : Int32))) 0 7 (((mst w 0 0 ((0 : Int32))) 0 7) + ((1 : Int32))))).bind fun y10 =>
 (f_X10_w ((((8844 : Int32)) + (((5 : Int32)) * z8)) + ((1 : Int32))) x2 y10).bind fun y11 =>
 (f_X10_w ((((8844 : Int32)) + (((5 : Int32)) * z8)) + ((2 : Int32))) x3 y11).bind fun y12 =>
 (f_X10_w ((((8844 : Int32)) + (((5 : Int32)) * z8)) + ((3 : Int32))) ((-1 : Int32)) y12).bind fun y13 =>
 (f_X10_w ((((8844 : Int32)) + (((5 : Int32)) * z8)) + ((4 : Int32))) (y13 0 7) y13).bind fun y14 =>
 (f_X10_w ((11345 : Int32)) (z8 + ((1 : Int32))) y14).bind fun y15 =>
 some (z8, y15))))))
set_option maxHeartbeats 4000000 in
set_option maxRecDepth 100000 in
theorem t_X10_load (l : Launch) (G : Gm) (w0 : MW) (x1 : Int32) (x2 : Int32) (x3 : Int32) (r : Int32) (w' : MW) (hf : f_X10_load x1 x2 x3 w0 = some (r, w')) : MetI l yX10_load cX10_load 5 (some .int) 1 22 G (mw G w0) [.ref (gq G 0), .int x1, .int x2, .int x3] r (fun _ => mw G (w')) 0 := by
  intro sz
  refine ent (own := RX10) (As := [.ref (gq G 0), .int x1, .int x2, .int x3]) (by decide +kernel) rfl (Nat.le_of_ble_eq_true rfl) (fun _ _ h => h.1) ?_
  intro p e s m args below meth c ls B hr hlocks hv hl
  obtain ⟨-, hsz, hP, hKK, hD⟩ := hv
  subst hsz
  have X : CX RX10 cX10_load 5 G p s m args c := ⟨B, hKK⟩
  obtain ⟨hx, hb, hml, hown, hts⟩ := id B
  have hA : ∀ q : Nat, s.heap.size ≤ q → va_A (mw G w0) s.heap.size q := fun q z => Or.inr z
  have h : CH G (mw G w0) (va_A (mw G w0) s.heap.size) s.heap s.heap [] := ⟨hP, hD.self, va_S.rf⟩
  obtain ⟨w, rfl⟩ : ∃ z, z = w0 := ⟨_, rfl⟩
  have hl : lv_has ls 5 [(0, .ref (gq G 0)), (1, .int x1), (2, .int x2), (3, .int x3)] := hl
  unfold f_X10_load at hf
  refine lv_aload_n hx hb dX10_load_0 rfl (lv_at hl 0 rfl) ?_
  refine lv_iconst (v := 0) hx hb dX10_load_1 (by decide) ?_
  refine PM_0_0 X h k_X10_53 dX10_load_2 (fun H locs h => ?_)
  refine lv_iload_n hx hb dX10_load_5 rfl (lv_at hl 1 rfl) ?_
  refine lv_iconst (v := 0) hx hb dX10_load_6 (by decide) ?_
  refine lv_bipush (v := 9) hx hb dX10_load_7 (by decide) ?_
  obtain ⟨y1, ey1, hf⟩ := bnd_some hf
  refine k_X10_in X.1 ey1 k_X10_71 dX10_load_9 hl.1 ⟨(Nat.le_of_ble_eq_true rfl), (Nat.le_of_ble_eq_true rfl)⟩ (Nat.le_of_ble_eq_true rfl) ⟨Nat.zero_le _, Nat.zero_le _⟩ ?_
  refine lv_if_eq (tgt := 36) hx hb dX10_load_12 (by decide) (fun c2 => ?_) (fun c2 => ?_)
  · have hf := if_t c2 hf
    refine lv_bipush (v := (-2)) hx hb dX10_load_36 (by decide) ?_
    exact e0_i (Wf := mw G) X.1 hr hlocks hf h dX10_load_38
  · have hf := if_f c2 hf
    refine lv_iload_n hx hb dX10_load_15 rfl (lv_at hl 2 rfl) ?_
    refine lv_iconst (v := 1) hx hb dX10_load_16 (by decide) ?_
    refine lv_sipush (v := 20000) hx hb dX10_load_17 (by decide) ?_
    obtain ⟨y3, ey3, hf⟩ := bnd_some hf
    refine k_X10_in X.1 ey3 k_X10_71 dX10_load_20 hl.1 ⟨(Nat.le_of_ble_eq_true rfl), (Nat.le_of_ble_eq_true rfl)⟩ (Nat.le_of_ble_eq_true rfl) ⟨Nat.zero_le _, Nat.zero_le _⟩ ?_
    refine lv_if_eq (tgt := 36) hx hb dX10_load_23 (by decide) (fun c4 => ?_) (fun c4 => ?_)
    · have hf := if_t c4 hf
      refine lv_bipush (v := (-2)) hx hb dX10_load_36 (by decide) ?_
      exact e0_i (Wf := mw G) X.1 hr hlocks hf h dX10_load_38
    · have hf := if_f c4 hf
      refine lv_iload_n hx hb dX10_load_26 rfl (lv_at hl 3 rfl) ?_
      refine lv_iconst (v := 0) hx hb dX10_load_27 (by decide) ?_
      refine lv_bipush (v := 9) hx hb dX10_load_28 (by decide) ?_
      obtain ⟨y5, ey5, hf⟩ := bnd_some hf
      refine k_X10_in X.1 ey5 k_X10_71 dX10_load_30 hl.1 ⟨(Nat.le_of_ble_eq_true rfl), (Nat.le_of_ble_eq_true rfl)⟩ (Nat.le_of_ble_eq_true rfl) ⟨Nat.zero_le _, Nat.zero_le _⟩ ?_
      refine lv_if_ne (tgt := 39) hx hb dX10_load_33 (by decide) (fun c6 => ?_) (fun c6 => ?_)
      · have hf := if_f c6 hf
        refine lv_aload_n hx hb dX10_load_39 rfl (lv_at hl 0 rfl) ?_
        refine GM_0_1 X h k_X10_7 dX10_load_40 ?_
        refine lv_sipush (v := 11345) hx hb dX10_load_43 (by decide) ?_
        obtain ⟨c7, hf⟩ := chk_some hf
        refine LM_1 X h c7 dX10_load_46 ?_
        obtain ⟨z8, ez8, hf⟩ := bnd_some hf
        refine nm_i (Option.some.inj ez8) ?_
        refine lv_istore (lv' := [(4, .int z8), (0, .ref (gq G 0)), (1, .int x1), (2, .int x2), (3, .int x3)]) hx hb dX10_load_47 hl (by decide) rfl (fun ls hl => ?_)
        refine lv_iload hx hb dX10_load_49 (lv_at hl 0 rfl) ?_
        refine lv_sipush (v := 500) hx hb dX10_load_51 (by decide) ?_
        refine lv_icmp_ne (tgt := 60) hx hb dX10_load_54 (by decide) (fun c9 => ?_) (fun c9 => ?_)
        · have hf := if_f c9 hf
          refine lv_aload_n hx hb dX10_load_60 rfl (lv_at hl 1 rfl) ?_
          refine lv_dup hx hb dX10_load_61 rfl ?_
          refine GM_0_7 X h k_X10_154 dX10_load_62 ?_
          refine lv_iconst (v := 1) hx hb dX10_load_65 (by decide) ?_
          refine lv_iadd hx hb dX10_load_66 ?_
          refine PM_0_7 X h k_X10_154 dX10_load_67 (fun H locs h => ?_)
          refine lv_aload_n hx hb dX10_load_70 rfl (lv_at hl 1 rfl) ?_
          refine lv_sipush (v := 8844) hx hb dX10_load_71 (by decide) ?_
          refine lv_iconst (v := 5) hx hb dX10_load_74 (by decide) ?_
          refine lv_iload hx hb dX10_load_75 (lv_at hl 0 rfl) ?_
          refine lv_imul hx hb dX10_load_77 ?_
          refine lv_iadd hx hb dX10_load_78 ?_
          refine lv_iload_n hx hb dX10_load_79 rfl (lv_at hl 2 rfl) ?_
          obtain ⟨y10, ey10, hf⟩ := bnd_some hf
          refine k_X10_w X h hA ey10 k_X10_67 dX10_load_80 hl.1 ⟨(Nat.le_of_ble_eq_true rfl), (Nat.le_of_ble_eq_true rfl)⟩ (Nat.le_of_ble_eq_true rfl) ⟨Nat.zero_le _, Nat.zero_le _⟩ (fun H locs h => ?_)
          refine lv_aload_n hx hb dX10_load_83 rfl (lv_at hl 1 rfl) ?_
          refine lv_sipush (v := 8844) hx hb dX10_load_84 (by decide) ?_
          refine lv_iconst (v := 5) hx hb dX10_load_87 (by decide) ?_
          refine lv_iload hx hb dX10_load_88 (lv_at hl 0 rfl) ?_
          refine lv_imul hx hb dX10_load_90 ?_
          refine lv_iadd hx hb dX10_load_91 ?_
          refine lv_iconst (v := 1) hx hb dX10_load_92 (by decide) ?_
          refine lv_iadd hx hb dX10_load_93 ?_
          refine lv_iload_n hx hb dX10_load_94 rfl (lv_at hl 3 rfl) ?_
          obtain ⟨y11, ey11, hf⟩ := bnd_some hf
          refine k_X10_w X h hA ey11 k_X10_67 dX10_load_95 hl.1 ⟨(Nat.le_of_ble_eq_true rfl), (Nat.le_of_ble_eq_true rfl)⟩ (Nat.le_of_ble_eq_true rfl) ⟨Nat.zero_le _, Nat.zero_le _⟩ (fun H locs h => ?_)
          refine lv_aload_n hx hb dX10_load_98 rfl (lv_at hl 1 rfl) ?_
          refine lv_sipush (v := 8844) hx hb dX10_load_99 (by decide) ?_
          refine lv_iconst (v := 5) hx hb dX10_load_102 (by decide) ?_
          refine lv_iload hx hb dX10_load_103 (lv_at hl 0 rfl) ?_
          refine lv_imul hx hb dX10_load_105 ?_
          refine lv_iadd hx hb dX10_load_106 ?_
          refine lv_iconst (v := 2) hx hb dX10_load_107 (by decide) ?_
          refine lv_iadd hx hb dX10_load_108 ?_
          refine lv_iload_n hx hb dX10_load_109 rfl (lv_at hl 4 rfl) ?_
          obtain ⟨y12, ey12, hf⟩ := bnd_some hf
          refine k_X10_w X h hA ey12 k_X10_67 dX10_load_110 hl.1 ⟨(Nat.le_of_ble_eq_true rfl), (Nat.le_of_ble_eq_true rfl)⟩ (Nat.le_of_ble_eq_true rfl) ⟨Nat.zero_le _, Nat.zero_le _⟩ (fun H locs h => ?_)
          refine lv_aload_n hx hb dX10_load_113 rfl (lv_at hl 1 rfl) ?_
          refine lv_sipush (v := 8844) hx hb dX10_load_114 (by decide) ?_
          refine lv_iconst (v := 5) hx hb dX10_load_117 (by decide) ?_
          refine lv_iload hx hb dX10_load_118 (lv_at hl 0 rfl) ?_
          refine lv_imul hx hb dX10_load_120 ?_
          refine lv_iadd hx hb dX10_load_121 ?_
          refine lv_iconst (v := 3) hx hb dX10_load_122 (by decide) ?_
          refine lv_iadd hx hb dX10_load_123 ?_
          refine lv_iconst (v := (-1)) hx hb dX10_load_124 (by decide) ?_
          obtain ⟨y13, ey13, hf⟩ := bnd_some hf
          refine k_X10_w X h hA ey13 k_X10_67 dX10_load_125 hl.1 ⟨(Nat.le_of_ble_eq_true rfl), (Nat.le_of_ble_eq_true rfl)⟩ (Nat.le_of_ble_eq_true rfl) ⟨Nat.zero_le _, Nat.zero_le _⟩ (fun H locs h => ?_)
          refine lv_aload_n hx hb dX10_load_128 rfl (lv_at hl 1 rfl) ?_
          refine lv_sipush (v := 8844) hx hb dX10_load_129 (by decide) ?_
          refine lv_iconst (v := 5) hx hb dX10_load_132 (by decide) ?_
          refine lv_iload hx hb dX10_load_133 (lv_at hl 0 rfl) ?_
          refine lv_imul hx hb dX10_load_135 ?_
          refine lv_iadd hx hb dX10_load_136 ?_
          refine lv_iconst (v := 4) hx hb dX10_load_137 (by decide) ?_
          refine lv_iadd hx hb dX10_load_138 ?_
          refine lv_aload_n hx hb dX10_load_139 rfl (lv_at hl 1 rfl) ?_
          refine GM_0_7 X h k_X10_154 dX10_load_140 ?_
          obtain ⟨y14, ey14, hf⟩ := bnd_some hf
          refine k_X10_w X h hA ey14 k_X10_67 dX10_load_143 hl.1 ⟨(Nat.le_of_ble_eq_true rfl), (Nat.le_of_ble_eq_true rfl)⟩ (Nat.le_of_ble_eq_true rfl) ⟨Nat.zero_le _, Nat.zero_le _⟩ (fun H locs h => ?_)
          refine lv_aload_n hx hb dX10_load_146 rfl (lv_at hl 1 rfl) ?_
          refine lv_sipush (v := 11345) hx hb dX10_load_147 (by decide) ?_
          refine lv_iload hx hb dX10_load_150 (lv_at hl 0 rfl) ?_
          refine lv_iconst (v := 1) hx hb dX10_load_152 (by decide) ?_
          refine lv_iadd hx hb dX10_load_153 ?_
          obtain ⟨y15, ey15, hf⟩ := bnd_some hf
          refine k_X10_w X h hA ey15 k_X10_67 dX10_load_154 hl.1 ⟨(Nat.le_of_ble_eq_true rfl), (Nat.le_of_ble_eq_true rfl)⟩ (Nat.le_of_ble_eq_true rfl) ⟨Nat.zero_le _, Nat.zero_le _⟩ (fun H locs h => ?_)
          refine lv_iload hx hb dX10_load_157 (lv_at hl 0 rfl) ?_
          exact e0_i (Wf := mw G) X.1 hr hlocks hf h dX10_load_159
        · have hf := if_t c9 hf
          refine lv_bipush (v := (-4)) hx hb dX10_load_57 (by decide) ?_
          exact e0_i (Wf := mw G) X.1 hr hlocks hf h dX10_load_59
      · have hf := if_t c6 hf
        refine lv_bipush (v := (-2)) hx hb dX10_load_36 (by decide) ?_
        exact e0_i (Wf := mw G) X.1 hr hlocks hf h dX10_load_38
theorem m_X10_load : Cond.instanceMethod yX10_load ∈ lw_good ∧ Cond.selects RX10 yX10_load yX10_load ∈ lw_good ∧ Cond.initialized RX10 ∈ lw_good ∧ Cond.code yX10_load cX10_load 5 (some .int) ∈ lw_good := by decide +kernel
theorem k_X10_load {p : Program} {l : Launch} {e : Env} {R : Room} {s : State} {m : MethodId} {args : Array Value} {below : List Frame} {meth : Method} {c : Code} {H : Heap} {locs : List Loc} {cells slots : Nat} {Q : State → Prop} {cc : ByteArray} {nL pc idx : Nat} {ls : Array Slot} {rest : List Value} {own : String} {G : Gm} {A : Nat → Prop} {H0 : Heap} {w : MW} {x1 : Int32} {x2 : Int32} {x3 : Int32} {y : Int32 × MW} (X : CX own cc nL G p s m args c) (h : CH G (mw G w) A H0 H locs) (hA : ∀ q, H0.size ≤ q → A q) (hf : f_X10_load x1 x2 x3 w = some y) (hlk : Cond.methodLink own idx yX10_load ∈ lw_good) (hd : decode cc pc = .ok (.invokevirtual idx, 3)) (hsz : ls.size = nL) (hR : 2 ≤ R.frames ∧ 46 ≤ R.locals) (hrest : (rest.map fun v => v.category).sum ≤ 8) (hk : cells ≤ R.cells ∧ slots ≤ R.slots) (k : ∀ (H : Heap) (locs : List Loc), CH G (mw G y.2) A H0 H locs → W p l e R s m args below meth c H locs cells slots Q (F0 m (pc + 3) ls (.int y.1 :: rest))) : W p l e R s m args below meth c H locs cells slots Q (F0 m pc ls (.int x3 :: .int x2 :: .int x1 :: .ref (gq G 0) :: rest)) :=
  fin_i (n := 0) (runV (As := [.int x1, .int x2, .int x3]) X.1 3 (t_X10_load l G w x1 x2 x3 y.1 y.2 hf _) rfl rfl hlk m_X10_load (by decide +kernel) ⟨hR.1, hR.2⟩ ⟨blindM, va_recv X.2.1 h.1 (ci := 9) (q0 := 0) rfl rfl, preM X.2 h⟩ rfl hsz hrest hd hk) h hA (fun _ H locs h => k H locs h)
def f_X10_mix_b95 (x4 : Int32) (xs1 : Int32) (xs2 : Int32) (w : MW) : Option (Int32 × MW) :=
 (f_X10_w xs1 xs2 w).bind fun y1 =>
 some (x4, y1)
def f_X10_mix_b72 (x1 : Int32) (x2 : Int32) (x3 : Int32) (x4 : Int32) (xs1 : Int32) (xs2 : Int32) (w : MW) : Option (Int32 × MW) :=
 (f_X10_w xs1 xs2 w).bind fun y2 =>
 if x3 = 0 then
 (f_X10_mix_b95 x4 ((((8744 : Int32)) + (((10 : Int32)) * x2)) + x1) ((1 : Int32)) y2)
 else
 (f_X10_mix_b95 x4 ((((8744 : Int32)) + (((10 : Int32)) * x2)) + x1) ((0 : Int32)) y2)
def f_X10_mix (x1 : Int32) (x2 : Int32) (x3 : Int32) (w : MW) : Option (Int32 × MW) :=
 (f_X10_in x1 ((0 : Int32)) ((9 : Int32))).bind fun y4 =>
 if y4 = 0 then
 (some ((-2 : Int32), mst w 0 0 ((0 : Int32))))
 else
 ((f_X10_in x2 ((0 : Int32)) ((9 : Int32))).bind fun y6 =>
 if y6 = 0 then
 (some ((-2 : Int32), mst w 0 0 ((0 : Int32))))
 else
 (if x1 = x2 then
 (some ((-2 : Int32), mst w 0 0 ((0 : Int32))))
 else
 (chk (inb ((((8744 : Int32)) + (((10 : Int32)) * x1)) + x2) 11360) (
 (some (((1 : Int32)) - ((mst w 0 0 ((0 : Int32))) 1 ((((8744 : Int32)) + (((10 : Int32)) * x1)) + x2).toNatClampNeg))).bind fun z10 =>
 if x3 = 0 then
 (f_X10_mix_b72 x1 x2 x3 z10 ((((8744 : Int32)) + (((10 : Int32)) * x1)) + x2) ((1 : Int32)) (mst w 0 0 ((0 : Int32))))
 else
 (f_X10_mix_b72 x1 x2 x3 z10 ((((8744 : Int32)) + (((10 : Int32)) * x1)) + x2) ((0 : Int32)) (mst w 0 0 ((0 : Int32))))))))
set_option maxHeartbeats 4000000 in
set_option maxRecDepth 100000 in
theorem t_X10_mix (l : Launch) (G : Gm) (w0 : MW) (x1 : Int32) (x2 : Int32) (x3 : Int32) (r : Int32) (w' : MW) (hf : f_X10_mix x1 x2 x3 w0 = some (r, w')) : MetI l yX10_mix cX10_mix 5 (some .int) 1 22 G (mw G w0) [.ref (gq G 0), .int x1, .int x2, .int x3] r (fun _ => mw G (w')) 0 := by
  intro sz
  refine ent (own := RX10) (As := [.ref (gq G 0), .int x1, .int x2, .int x3]) (by decide +kernel) rfl (Nat.le_of_ble_eq_true rfl) (fun _ _ h => h.1) ?_
  intro p e s m args below meth c ls B hr hlocks hv hl
  obtain ⟨-, hsz, hP, hKK, hD⟩ := hv
  subst hsz
  have X : CX RX10 cX10_mix 5 G p s m args c := ⟨B, hKK⟩
  obtain ⟨hx, hb, hml, hown, hts⟩ := id B
  have hA : ∀ q : Nat, s.heap.size ≤ q → va_A (mw G w0) s.heap.size q := fun q z => Or.inr z
  have h : CH G (mw G w0) (va_A (mw G w0) s.heap.size) s.heap s.heap [] := ⟨hP, hD.self, va_S.rf⟩
  have J95 : ∀ (x4 : Int32) (xs1 : Int32) (xs2 : Int32) (w : MW) (H : Heap) (locs : List Loc) (ls : Array Slot), f_X10_mix_b95 x4 xs1 xs2 w = some (r, w') → CH G (mw G w) (va_A (mw G w0) s.heap.size) s.heap H locs → lv_has ls 5 [(4, .int x4)] → W p l e { frames := 1, cells := 0, slots := 4096 * 0, locals := 22 } s m args below meth c H locs 0 (4096 * 0) (MQ below (QI G (mw G w0) s.heap.size r (fun _ => mw G (w'))) args s 0 (4096 * 0) (va_A (mw G w0) s.heap.size)) (F0 m 95 ls [.int xs2, .int xs1, .ref (gq G 0)]) := by
    intro x4 xs1 xs2 w H locs ls hf h hl
    unfold f_X10_mix_b95 at hf
    obtain ⟨y1, ey1, hf⟩ := bnd_some hf
    refine k_X10_w X h hA ey1 k_X10_67 dX10_mix_95 hl.1 ⟨(Nat.le_of_ble_eq_true rfl), (Nat.le_of_ble_eq_true rfl)⟩ (Nat.le_of_ble_eq_true rfl) ⟨Nat.zero_le _, Nat.zero_le _⟩ (fun H locs h => ?_)
    refine lv_iload hx hb dX10_mix_98 (lv_at hl 0 rfl) ?_
    exact e0_i (Wf := mw G) X.1 hr hlocks hf h dX10_mix_100
  have J72 : ∀ (x1 : Int32) (x2 : Int32) (x3 : Int32) (x4 : Int32) (xs1 : Int32) (xs2 : Int32) (w : MW) (H : Heap) (locs : List Loc) (ls : Array Slot), f_X10_mix_b72 x1 x2 x3 x4 xs1 xs2 w = some (r, w') → CH G (mw G w) (va_A (mw G w0) s.heap.size) s.heap H locs → lv_has ls 5 [(0, .ref (gq G 0)), (1, .int x1), (2, .int x2), (3, .int x3), (4, .int x4)] → W p l e { frames := 1, cells := 0, slots := 4096 * 0, locals := 22 } s m args below meth c H locs 0 (4096 * 0) (MQ below (QI G (mw G w0) s.heap.size r (fun _ => mw G (w'))) args s 0 (4096 * 0) (va_A (mw G w0) s.heap.size)) (F0 m 72 ls [.int xs2, .int xs1, .ref (gq G 0)]) := by
    intro x1 x2 x3 x4 xs1 xs2 w H locs ls hf h hl
    unfold f_X10_mix_b72 at hf
    obtain ⟨y2, ey2, hf⟩ := bnd_some hf
    refine k_X10_w X h hA ey2 k_X10_67 dX10_mix_72 hl.1 ⟨(Nat.le_of_ble_eq_true rfl), (Nat.le_of_ble_eq_true rfl)⟩ (Nat.le_of_ble_eq_true rfl) ⟨Nat.zero_le _, Nat.zero_le _⟩ (fun H locs h => ?_)
    refine lv_aload_n hx hb dX10_mix_75 rfl (lv_at hl 0 rfl) ?_
    refine lv_sipush (v := 8744) hx hb dX10_mix_76 (by decide) ?_
    refine lv_bipush (v := 10) hx hb dX10_mix_79 (by decide) ?_
    refine lv_iload_n hx hb dX10_mix_81 rfl (lv_at hl 2 rfl) ?_
    refine lv_imul hx hb dX10_mix_82 ?_
    refine lv_iadd hx hb dX10_mix_83 ?_
    refine lv_iload_n hx hb dX10_mix_84 rfl (lv_at hl 1 rfl) ?_
    refine lv_iadd hx hb dX10_mix_85 ?_
    refine lv_iload_n hx hb dX10_mix_86 rfl (lv_at hl 3 rfl) ?_
    refine lv_if_eq (tgt := 94) hx hb dX10_mix_87 (by decide) (fun c3 => ?_) (fun c3 => ?_)
    · have hf := if_t c3 hf
      refine lv_iconst (v := 1) hx hb dX10_mix_94 (by decide) ?_
      exact J95 _ _ _ _ _ _ _ hf h (lv_sub hl [4] rfl)
    · have hf := if_f c3 hf
      refine lv_iconst (v := 0) hx hb dX10_mix_90 (by decide) ?_
      refine lv_goto (tgt := 95) hx hb dX10_mix_91 (by decide) ?_
      exact J95 _ _ _ _ _ _ _ hf h (lv_sub hl [4] rfl)
  obtain ⟨w, rfl⟩ : ∃ z, z = w0 := ⟨_, rfl⟩
  have hl : lv_has ls 5 [(0, .ref (gq G 0)), (1, .int x1), (2, .int x2), (3, .int x3)] := hl
  unfold f_X10_mix at hf
  refine lv_aload_n hx hb dX10_mix_0 rfl (lv_at hl 0 rfl) ?_
  refine lv_iconst (v := 0) hx hb dX10_mix_1 (by decide) ?_
  refine PM_0_0 X h k_X10_53 dX10_mix_2 (fun H locs h => ?_)
  refine lv_iload_n hx hb dX10_mix_5 rfl (lv_at hl 1 rfl) ?_
  refine lv_iconst (v := 0) hx hb dX10_mix_6 (by decide) ?_
  refine lv_bipush (v := 9) hx hb dX10_mix_7 (by decide) ?_
  obtain ⟨y4, ey4, hf⟩ := bnd_some hf
  refine k_X10_in X.1 ey4 k_X10_71 dX10_mix_9 hl.1 ⟨(Nat.le_of_ble_eq_true rfl), (Nat.le_of_ble_eq_true rfl)⟩ (Nat.le_of_ble_eq_true rfl) ⟨Nat.zero_le _, Nat.zero_le _⟩ ?_
  refine lv_if_eq (tgt := 30) hx hb dX10_mix_12 (by decide) (fun c5 => ?_) (fun c5 => ?_)
  · have hf := if_t c5 hf
    refine lv_bipush (v := (-2)) hx hb dX10_mix_30 (by decide) ?_
    exact e0_i (Wf := mw G) X.1 hr hlocks hf h dX10_mix_32
  · have hf := if_f c5 hf
    refine lv_iload_n hx hb dX10_mix_15 rfl (lv_at hl 2 rfl) ?_
    refine lv_iconst (v := 0) hx hb dX10_mix_16 (by decide) ?_
    refine lv_bipush (v := 9) hx hb dX10_mix_17 (by decide) ?_
    obtain ⟨y6, ey6, hf⟩ := bnd_some hf
    refine k_X10_in X.1 ey6 k_X10_71 dX10_mix_19 hl.1 ⟨(Nat.le_of_ble_eq_true rfl), (Nat.le_of_ble_eq_true rfl)⟩ (Nat.le_of_ble_eq_true rfl) ⟨Nat.zero_le _, Nat.zero_le _⟩ ?_
    refine lv_if_eq (tgt := 30) hx hb dX10_mix_22 (by decide) (fun c7 => ?_) (fun c7 => ?_)
    · have hf := if_t c7 hf
      refine lv_bipush (v := (-2)) hx hb dX10_mix_30 (by decide) ?_
      exact e0_i (Wf := mw G) X.1 hr hlocks hf h dX10_mix_32
    · have hf := if_f c7 hf
      refine lv_iload_n hx hb dX10_mix_25 rfl (lv_at hl 1 rfl) ?_
      refine lv_iload_n hx hb dX10_mix_26 rfl (lv_at hl 2 rfl) ?_
      refine lv_icmp_ne (tgt := 33) hx hb dX10_mix_27 (by decide) (fun c8 => ?_) (fun c8 => ?_)
      · have hf := if_f c8 hf
        refine lv_iconst (v := 1) hx hb dX10_mix_33 (by decide) ?_
        refine lv_aload_n hx hb dX10_mix_34 rfl (lv_at hl 0 rfl) ?_
        refine GM_0_1 X h k_X10_7 dX10_mix_35 ?_
        refine lv_sipush (v := 8744) hx hb dX10_mix_38 (by decide) ?_
        refine lv_bipush (v := 10) hx hb dX10_mix_41 (by decide) ?_
        refine lv_iload_n hx hb dX10_mix_43 rfl (lv_at hl 1 rfl) ?_
        refine lv_imul hx hb dX10_mix_44 ?_
        refine lv_iadd hx hb dX10_mix_45 ?_
        refine lv_iload_n hx hb dX10_mix_46 rfl (lv_at hl 2 rfl) ?_
        refine lv_iadd hx hb dX10_mix_47 ?_
        obtain ⟨c9, hf⟩ := chk_some hf
        refine LM_1 X h c9 dX10_mix_48 ?_
        refine lv_isub hx hb dX10_mix_49 ?_
        obtain ⟨z10, ez10, hf⟩ := bnd_some hf
        refine nm_i (Option.some.inj ez10) ?_
        refine lv_istore (lv' := [(4, .int z10), (0, .ref (gq G 0)), (1, .int x1), (2, .int x2), (3, .int x3)]) hx hb dX10_mix_50 hl (by decide) rfl (fun ls hl => ?_)
        refine lv_aload_n hx hb dX10_mix_52 rfl (lv_at hl 1 rfl) ?_
        refine lv_sipush (v := 8744) hx hb dX10_mix_53 (by decide) ?_
        refine lv_bipush (v := 10) hx hb dX10_mix_56 (by decide) ?_
        refine lv_iload_n hx hb dX10_mix_58 rfl (lv_at hl 2 rfl) ?_
        refine lv_imul hx hb dX10_mix_59 ?_
        refine lv_iadd hx hb dX10_mix_60 ?_
        refine lv_iload_n hx hb dX10_mix_61 rfl (lv_at hl 3 rfl) ?_
        refine lv_iadd hx hb dX10_mix_62 ?_
        refine lv_iload_n hx hb dX10_mix_63 rfl (lv_at hl 4 rfl) ?_
        refine lv_if_eq (tgt := 71) hx hb dX10_mix_64 (by decide) (fun c11 => ?_) (fun c11 => ?_)
        · have hf := if_t c11 hf
          refine lv_iconst (v := 1) hx hb dX10_mix_71 (by decide) ?_
          exact J72 _ _ _ _ _ _ _ _ _ _ hf h (lv_sub hl [1, 2, 3, 4, 0] rfl)
        · have hf := if_f c11 hf
          refine lv_iconst (v := 0) hx hb dX10_mix_67 (by decide) ?_
          refine lv_goto (tgt := 72) hx hb dX10_mix_68 (by decide) ?_
          exact J72 _ _ _ _ _ _ _ _ _ _ hf h (lv_sub hl [1, 2, 3, 4, 0] rfl)
      · have hf := if_t c8 hf
        refine lv_bipush (v := (-2)) hx hb dX10_mix_30 (by decide) ?_
        exact e0_i (Wf := mw G) X.1 hr hlocks hf h dX10_mix_32
theorem m_X10_mix : Cond.instanceMethod yX10_mix ∈ lw_good ∧ Cond.selects RX10 yX10_mix yX10_mix ∈ lw_good ∧ Cond.initialized RX10 ∈ lw_good ∧ Cond.code yX10_mix cX10_mix 5 (some .int) ∈ lw_good := by decide +kernel
theorem k_X10_mix {p : Program} {l : Launch} {e : Env} {R : Room} {s : State} {m : MethodId} {args : Array Value} {below : List Frame} {meth : Method} {c : Code} {H : Heap} {locs : List Loc} {cells slots : Nat} {Q : State → Prop} {cc : ByteArray} {nL pc idx : Nat} {ls : Array Slot} {rest : List Value} {own : String} {G : Gm} {A : Nat → Prop} {H0 : Heap} {w : MW} {x1 : Int32} {x2 : Int32} {x3 : Int32} {y : Int32 × MW} (X : CX own cc nL G p s m args c) (h : CH G (mw G w) A H0 H locs) (hA : ∀ q, H0.size ≤ q → A q) (hf : f_X10_mix x1 x2 x3 w = some y) (hlk : Cond.methodLink own idx yX10_mix ∈ lw_good) (hd : decode cc pc = .ok (.invokevirtual idx, 3)) (hsz : ls.size = nL) (hR : 2 ≤ R.frames ∧ 46 ≤ R.locals) (hrest : (rest.map fun v => v.category).sum ≤ 8) (hk : cells ≤ R.cells ∧ slots ≤ R.slots) (k : ∀ (H : Heap) (locs : List Loc), CH G (mw G y.2) A H0 H locs → W p l e R s m args below meth c H locs cells slots Q (F0 m (pc + 3) ls (.int y.1 :: rest))) : W p l e R s m args below meth c H locs cells slots Q (F0 m pc ls (.int x3 :: .int x2 :: .int x1 :: .ref (gq G 0) :: rest)) :=
  fin_i (n := 0) (runV (As := [.int x1, .int x2, .int x3]) X.1 3 (t_X10_mix l G w x1 x2 x3 y.1 y.2 hf _) rfl rfl hlk m_X10_mix (by decide +kernel) ⟨hR.1, hR.2⟩ ⟨blindM, va_recv X.2.1 h.1 (ci := 9) (q0 := 0) rfl rfl, preM X.2 h⟩ rfl hsz hrest hd hk) h hA (fun _ H locs h => k H locs h)
def f_X10_put_b250 (k157 : (Int32 → Int32 → Int32 → Int32 → Int32 → Int32 → MW → Option (Int32 × MW))) (x1 : Int32) (x2 : Int32) (x3 : Int32) (x4 : Int32) (x5 : Int32) (x6 : Int32) (w : MW) : Option (Int32 × MW) :=
 k157 x1 x2 x3 x4 x5 (x6 + (1 : Int32)) w
def f_X10_put_b247 (k157 : (Int32 → Int32 → Int32 → Int32 → Int32 → Int32 → MW → Option (Int32 × MW))) (x1 : Int32) (x2 : Int32) (x3 : Int32) (x4 : Int32) (x6 : Int32) (xs0 : Int32) (xs1 : Int32) (w : MW) : Option (Int32 × MW) :=
 f_X10_put_b250 k157 x1 x2 x3 x4 (xs0 &&& xs1) x6 w
def f_X10_put_l157_body (kself : (Int32 → Int32 → Int32 → Int32 → Int32 → Int32 → MW → Option (Int32 × MW))) (x1 : Int32) (x2 : Int32) (x3 : Int32) (x4 : Int32) (x5 : Int32) (x6 : Int32) (w : MW) : Option (Int32 × MW) :=
 chk (inb ((11345 : Int32)) 11360) (
 if (w 1 ((11345 : Int32)).toNatClampNeg) ≤ x6 then
 ((f_X10_roomOf x1 w).bind fun y3 =>
 if x3 ≤ y3 then
 (if x5 = 0 then
 ((f_X10_found ((10 : Int32)) w).bind fun y9 =>
 some (y9.1, y9.2))
 else
 ((f_X10_loadsIn x1 w).bind fun y6 =>
 if y6 = ((8 : Int32)) then
 (some ((-4 : Int32), w))
 else
 ((f_X10_w ((((8844 : Int32)) + (((5 : Int32)) * x2)) + ((3 : Int32))) x1 w).bind fun y8 =>
 some (y6 + ((1 : Int32)), y8))))
 else
 ((f_X10_found ((11 : Int32)) w).bind fun y10 =>
 some (y10.1, y10.2)))
 else
 (chk (inb ((((8844 : Int32)) + (((5 : Int32)) * x6)) + ((3 : Int32))) 11360) (
 if (w 1 ((((8844 : Int32)) + (((5 : Int32)) * x6)) + ((3 : Int32))).toNatClampNeg) = x1 then
 (chk (inb ((((8844 : Int32)) + (((5 : Int32)) * x6)) + ((1 : Int32))) 11360) (
 (some (x3 + (w 1 ((((8844 : Int32)) + (((5 : Int32)) * x6)) + ((1 : Int32))).toNatClampNeg))).bind fun z14 =>
 chk (inb ((((8844 : Int32)) + (((5 : Int32)) * x6)) + ((2 : Int32))) 11360) (
 chk (inb ((((8744 : Int32)) + (((10 : Int32)) * x4)) + (w 1 ((((8844 : Int32)) + (((5 : Int32)) * x6)) + ((2 : Int32))).toNatClampNeg)) 11360) (
 if (w 1 ((((8744 : Int32)) + (((10 : Int32)) * x4)) + (w 1 ((((8844 : Int32)) + (((5 : Int32)) * x6)) + ((2 : Int32))).toNatClampNeg)).toNatClampNeg) = 0 then
 (f_X10_put_b247 kself x1 x2 z14 x4 x6 x5 ((1 : Int32)) w)
 else
 (f_X10_put_b247 kself x1 x2 z14 x4 x6 x5 ((0 : Int32)) w)))))
 else
 (f_X10_put_b250 kself x1 x2 x3 x4 x5 x6 w))))
def f_X10_put_l157 : Nat → Int32 → Int32 → Int32 → Int32 → Int32 → Int32 → MW → Option (Int32 × MW)
  | 0, _, _, _, _, _, _, _ => none
  | n + 1, x1, x2, x3, x4, x5, x6, w => f_X10_put_l157_body (f_X10_put_l157 n) x1 x2 x3 x4 x5 x6 w
def f_X10_put_b120 (x1 : Int32) (x2 : Int32) (w : MW) : Option (Int32 × MW) :=
 chk (inb ((((8844 : Int32)) + (((5 : Int32)) * x2)) + ((1 : Int32))) 11360) (
 (some (w 1 ((((8844 : Int32)) + (((5 : Int32)) * x2)) + ((1 : Int32))).toNatClampNeg)).bind fun z19 =>
 chk (inb ((((8844 : Int32)) + (((5 : Int32)) * x2)) + ((2 : Int32))) 11360) (
 (some (w 1 ((((8844 : Int32)) + (((5 : Int32)) * x2)) + ((2 : Int32))).toNatClampNeg)).bind fun z21 =>
 f_X10_put_l157 FU x1 x2 z19 z21 ((1 : Int32)) ((0 : Int32)) w))
def f_X10_put_b87 (w : MW) : Option (Int32 × MW) :=
 (f_X10_found ((7 : Int32)) w).bind fun y22 =>
 some (y22.1, y22.2)
def f_X10_put (x1 : Int32) (x2 : Int32) (w : MW) : Option (Int32 × MW) :=
 (f_X10_isPlace x1).bind fun y23 =>
 if y23 = 0 then
 (some ((-1 : Int32), mst w 0 0 ((0 : Int32))))
 else
 ((f_X10_isLoad x2 (mst w 0 0 ((0 : Int32)))).bind fun y25 =>
 if y25 = 0 then
 (some ((-1 : Int32), mst w 0 0 ((0 : Int32))))
 else
 ((f_X10_isThere x1 (mst w 0 0 ((0 : Int32)))).bind fun y27 =>
 if y27 = 0 then
 ((f_X10_found ((1 : Int32)) (mst w 0 0 ((0 : Int32)))).bind fun y42 =>
 some (y42.1, y42.2))
 else
 ((f_X10_touch x1 (mst w 0 0 ((0 : Int32)))).bind fun y29 =>
 chk (inb ((((8844 : Int32)) + (((5 : Int32)) * x2)) + ((3 : Int32))) 11360) (
 if (y29 1 ((((8844 : Int32)) + (((5 : Int32)) * x2)) + ((3 : Int32))).toNatClampNeg) = ((-1 : Int32)) then
 ((f_X10_of x1 ((26 : Int32)) y29).bind fun y32 =>
 if y32 = ((1 : Int32)) then
 (f_X10_put_b87 y29)
 else
 ((f_X10_of x1 ((101 : Int32)) y29).bind fun y34 =>
 if y34 = ((1 : Int32)) then
 (f_X10_put_b87 y29)
 else
 ((f_X10_kindOf x1 y29).bind fun y36 =>
 if y36 = ((4 : Int32)) then
 ((f_X10_of x1 ((7 : Int32)) y29).bind fun y38 =>
 if y38 = 0 then
 ((f_X10_found ((6 : Int32)) y29).bind fun y40 =>
 some (y40.1, y40.2))
 else
 (f_X10_put_b120 x1 x2 y29))
 else
 (f_X10_put_b120 x1 x2 y29))))
 else
 ((f_X10_found ((2 : Int32)) y29).bind fun y41 =>
 some (y41.1, y41.2))))))
set_option maxHeartbeats 4000000 in
set_option maxRecDepth 100000 in
theorem t_X10_put (l : Launch) (G : Gm) (w0 : MW) (x1 : Int32) (x2 : Int32) (r : Int32) (w' : MW) (hf : f_X10_put x1 x2 w0 = some (r, w')) : MetI l yX10_put cX10_put 7 (some .int) 3 66 G (mw G w0) [.ref (gq G 0), .int x1, .int x2] r (fun _ => mw G (w')) 0 := by
  intro sz
  refine ent (own := RX10) (As := [.ref (gq G 0), .int x1, .int x2]) (by decide +kernel) rfl (Nat.le_of_ble_eq_true rfl) (fun _ _ h => h.1) ?_
  intro p e s m args below meth c ls B hr hlocks hv hl
  obtain ⟨-, hsz, hP, hKK, hD⟩ := hv
  subst hsz
  have X : CX RX10 cX10_put 7 G p s m args c := ⟨B, hKK⟩
  obtain ⟨hx, hb, hml, hown, hts⟩ := id B
  have hA : ∀ q : Nat, s.heap.size ≤ q → va_A (mw G w0) s.heap.size q := fun q z => Or.inr z
  have h : CH G (mw G w0) (va_A (mw G w0) s.heap.size) s.heap s.heap [] := ⟨hP, hD.self, va_S.rf⟩
  have L157 : ∀ (n157 : Nat) (x1 : Int32) (x2 : Int32) (x3 : Int32) (x4 : Int32) (x5 : Int32) (x6 : Int32) (w : MW) (H : Heap) (locs : List Loc) (ls : Array Slot), f_X10_put_l157 n157 x1 x2 x3 x4 x5 x6 w = some (r, w') → CH G (mw G w) (va_A (mw G w0) s.heap.size) s.heap H locs → lv_has ls 7 [(0, .ref (gq G 0)), (1, .int x1), (2, .int x2), (3, .int x3), (4, .int x4), (5, .int x5), (6, .int x6)] → W p l e { frames := 3, cells := 0, slots := 4096 * 0, locals := 66 } s m args below meth c H locs 0 (4096 * 0) (MQ below (QI G (mw G w0) s.heap.size r (fun _ => mw G (w'))) args s 0 (4096 * 0) (va_A (mw G w0) s.heap.size)) (F0 m 157 ls []) := by
    intro n157
    induction n157 with
    | zero =>
      intro x1 x2 x3 x4 x5 x6 w H locs ls hf h hl
      cases (show (none : Option (Int32 × MW)) = some _ from hf)
    | succ n157 ih157 =>
      have J250 : ∀ (x1 : Int32) (x2 : Int32) (x3 : Int32) (x4 : Int32) (x5 : Int32) (x6 : Int32) (w : MW) (H : Heap) (locs : List Loc) (ls : Array Slot), f_X10_put_b250 (f_X10_put_l157 n157) x1 x2 x3 x4 x5 x6 w = some (r, w') → CH G (mw G w) (va_A (mw G w0) s.heap.size) s.heap H locs → lv_has ls 7 [(0, .ref (gq G 0)), (1, .int x1), (2, .int x2), (3, .int x3), (4, .int x4), (5, .int x5), (6, .int x6)] → W p l e { frames := 3, cells := 0, slots := 4096 * 0, locals := 66 } s m args below meth c H locs 0 (4096 * 0) (MQ below (QI G (mw G w0) s.heap.size r (fun _ => mw G (w'))) args s 0 (4096 * 0) (va_A (mw G w0) s.heap.size)) (F0 m 250 ls []) := by
        intro x1 x2 x3 x4 x5 x6 w H locs ls hf h hl
        unfold f_X10_put_b250 at hf
        refine lv_iinc (v := x6 + (1 : Int32)) (lv' := [(6, .int (x6 + (1 : Int32))), (0, .ref (gq G 0)), (1, .int x1), (2, .int x2), (3, .int x3), (4, .int x4), (5, .int x5)]) hx hb dX10_put_250 hl (k := 6) rfl (by rfl) (by decide) rfl (fun ls hl => ?_)
        refine lv_goto (tgt := 157) hx hb dX10_put_253 (by decide) ?_
        exact ih157 _ _ _ _ _ _ _ _ _ _ hf h (lv_sub hl [1, 2, 3, 4, 5, 6, 0] rfl)
      have J247 : ∀ (x1 : Int32) (x2 : Int32) (x3 : Int32) (x4 : Int32) (x6 : Int32) (xs0 : Int32) (xs1 : Int32) (w : MW) (H : Heap) (locs : List Loc) (ls : Array Slot), f_X10_put_b247 (f_X10_put_l157 n157) x1 x2 x3 x4 x6 xs0 xs1 w = some (r, w') → CH G (mw G w) (va_A (mw G w0) s.heap.size) s.heap H locs → lv_has ls 7 [(0, .ref (gq G 0)), (1, .int x1), (2, .int x2), (3, .int x3), (4, .int x4), (6, .int x6)] → W p l e { frames := 3, cells := 0, slots := 4096 * 0, locals := 66 } s m args below meth c H locs 0 (4096 * 0) (MQ below (QI G (mw G w0) s.heap.size r (fun _ => mw G (w'))) args s 0 (4096 * 0) (va_A (mw G w0) s.heap.size)) (F0 m 247 ls [.int xs1, .int xs0]) := by
        intro x1 x2 x3 x4 x6 xs0 xs1 w H locs ls hf h hl
        unfold f_X10_put_b247 at hf
        refine lv_iand hx hb dX10_put_247 ?_
        refine lv_istore (lv' := [(5, .int (xs0 &&& xs1)), (0, .ref (gq G 0)), (1, .int x1), (2, .int x2), (3, .int x3), (4, .int x4), (6, .int x6)]) hx hb dX10_put_248 hl (by decide) rfl (fun ls hl => ?_)
        exact J250 _ _ _ _ _ _ _ _ _ _ hf h (lv_sub hl [1, 2, 3, 4, 5, 0, 6] rfl)
      intro x1 x2 x3 x4 x5 x6 w H locs ls hf h hl
      have hf : f_X10_put_l157_body (f_X10_put_l157 n157) x1 x2 x3 x4 x5 x6 w = _ := hf
      unfold f_X10_put_l157_body at hf
      refine lv_iload hx hb dX10_put_157 (lv_at hl 6 rfl) ?_
      refine lv_aload_n hx hb dX10_put_159 rfl (lv_at hl 0 rfl) ?_
      refine GM_0_1 X h k_X10_7 dX10_put_160 ?_
      refine lv_sipush (v := 11345) hx hb dX10_put_163 (by decide) ?_
      obtain ⟨c1, hf⟩ := chk_some hf
      refine LM_1 X h c1 dX10_put_166 ?_
      refine lv_icmp_ge (tgt := 256) hx hb dX10_put_167 (by decide) (fun c2 => ?_) (fun c2 => ?_)
      · have hf := if_t c2 hf
        refine lv_iload_n hx hb dX10_put_256 rfl (lv_at hl 3 rfl) ?_
        refine lv_aload_n hx hb dX10_put_257 rfl (lv_at hl 0 rfl) ?_
        refine lv_iload_n hx hb dX10_put_258 rfl (lv_at hl 1 rfl) ?_
        obtain ⟨y3, ey3, hf⟩ := bnd_some hf
        refine k_X10_roomOf X h ey3 k_X10_126 dX10_put_259 hl.1 ⟨(Nat.le_of_ble_eq_true rfl), (Nat.le_of_ble_eq_true rfl)⟩ (Nat.le_of_ble_eq_true rfl) ⟨Nat.zero_le _, Nat.zero_le _⟩ ?_
        refine lv_icmp_le (tgt := 272) hx hb dX10_put_262 (by decide) (fun c4 => ?_) (fun c4 => ?_)
        · have hf := if_t c4 hf
          refine lv_iload hx hb dX10_put_272 (lv_at hl 5 rfl) ?_
          refine lv_if_ne (tgt := 284) hx hb dX10_put_274 (by decide) (fun c5 => ?_) (fun c5 => ?_)
          · have hf := if_f c5 hf
            refine lv_aload_n hx hb dX10_put_284 rfl (lv_at hl 0 rfl) ?_
            refine lv_iload_n hx hb dX10_put_285 rfl (lv_at hl 1 rfl) ?_
            obtain ⟨y6, ey6, hf⟩ := bnd_some hf
            refine k_X10_loadsIn X h ey6 k_X10_120 dX10_put_286 hl.1 ⟨(Nat.le_of_ble_eq_true rfl), (Nat.le_of_ble_eq_true rfl)⟩ (Nat.le_of_ble_eq_true rfl) ⟨Nat.zero_le _, Nat.zero_le _⟩ ?_
            refine lv_istore (lv' := [(6, .int y6), (0, .ref (gq G 0)), (1, .int x1), (2, .int x2), (3, .int x3), (4, .int x4), (5, .int x5)]) hx hb dX10_put_289 hl (by decide) rfl (fun ls hl => ?_)
            refine lv_iload hx hb dX10_put_291 (lv_at hl 0 rfl) ?_
            refine lv_bipush (v := 8) hx hb dX10_put_293 (by decide) ?_
            refine lv_icmp_ne (tgt := 301) hx hb dX10_put_295 (by decide) (fun c7 => ?_) (fun c7 => ?_)
            · have hf := if_f c7 hf
              refine lv_aload_n hx hb dX10_put_301 rfl (lv_at hl 1 rfl) ?_
              refine lv_sipush (v := 8844) hx hb dX10_put_302 (by decide) ?_
              refine lv_iconst (v := 5) hx hb dX10_put_305 (by decide) ?_
              refine lv_iload_n hx hb dX10_put_306 rfl (lv_at hl 3 rfl) ?_
              refine lv_imul hx hb dX10_put_307 ?_
              refine lv_iadd hx hb dX10_put_308 ?_
              refine lv_iconst (v := 3) hx hb dX10_put_309 (by decide) ?_
              refine lv_iadd hx hb dX10_put_310 ?_
              refine lv_iload_n hx hb dX10_put_311 rfl (lv_at hl 2 rfl) ?_
              obtain ⟨y8, ey8, hf⟩ := bnd_some hf
              refine k_X10_w X h hA ey8 k_X10_67 dX10_put_312 hl.1 ⟨(Nat.le_of_ble_eq_true rfl), (Nat.le_of_ble_eq_true rfl)⟩ (Nat.le_of_ble_eq_true rfl) ⟨Nat.zero_le _, Nat.zero_le _⟩ (fun H locs h => ?_)
              refine lv_iload hx hb dX10_put_315 (lv_at hl 0 rfl) ?_
              refine lv_iconst (v := 1) hx hb dX10_put_317 (by decide) ?_
              refine lv_iadd hx hb dX10_put_318 ?_
              exact e0_i (Wf := mw G) X.1 hr hlocks hf h dX10_put_319
            · have hf := if_t c7 hf
              refine lv_bipush (v := (-4)) hx hb dX10_put_298 (by decide) ?_
              exact e0_i (Wf := mw G) X.1 hr hlocks hf h dX10_put_300
          · have hf := if_t c5 hf
            refine lv_aload_n hx hb dX10_put_277 rfl (lv_at hl 0 rfl) ?_
            refine lv_bipush (v := 10) hx hb dX10_put_278 (by decide) ?_
            obtain ⟨y9, ey9, hf⟩ := bnd_some hf
            refine k_X10_found X h hA ey9 k_X10_117 dX10_put_280 hl.1 ⟨(Nat.le_of_ble_eq_true rfl), (Nat.le_of_ble_eq_true rfl)⟩ (Nat.le_of_ble_eq_true rfl) ⟨Nat.zero_le _, Nat.zero_le _⟩ (fun H locs h => ?_)
            exact e0_i (Wf := mw G) X.1 hr hlocks hf h dX10_put_283
        · have hf := if_f c4 hf
          refine lv_aload_n hx hb dX10_put_265 rfl (lv_at hl 0 rfl) ?_
          refine lv_bipush (v := 11) hx hb dX10_put_266 (by decide) ?_
          obtain ⟨y10, ey10, hf⟩ := bnd_some hf
          refine k_X10_found X h hA ey10 k_X10_117 dX10_put_268 hl.1 ⟨(Nat.le_of_ble_eq_true rfl), (Nat.le_of_ble_eq_true rfl)⟩ (Nat.le_of_ble_eq_true rfl) ⟨Nat.zero_le _, Nat.zero_le _⟩ (fun H locs h => ?_)
          exact e0_i (Wf := mw G) X.1 hr hlocks hf h dX10_put_271
      · have hf := if_f c2 hf
        refine lv_aload_n hx hb dX10_put_170 rfl (lv_at hl 0 rfl) ?_
        refine GM_0_1 X h k_X10_7 dX10_put_171 ?_
        refine lv_sipush (v := 8844) hx hb dX10_put_174 (by decide) ?_
        refine lv_iconst (v := 5) hx hb dX10_put_177 (by decide) ?_
        refine lv_iload hx hb dX10_put_178 (lv_at hl 6 rfl) ?_
        refine lv_imul hx hb dX10_put_180 ?_
        refine lv_iadd hx hb dX10_put_181 ?_
        refine lv_iconst (v := 3) hx hb dX10_put_182 (by decide) ?_
        refine lv_iadd hx hb dX10_put_183 ?_
        obtain ⟨c11, hf⟩ := chk_some hf
        refine LM_1 X h c11 dX10_put_184 ?_
        refine lv_iload_n hx hb dX10_put_185 rfl (lv_at hl 1 rfl) ?_
        refine lv_icmp_ne (tgt := 250) hx hb dX10_put_186 (by decide) (fun c12 => ?_) (fun c12 => ?_)
        · have hf := if_f c12 hf
          exact J250 _ _ _ _ _ _ _ _ _ _ hf h (lv_sub hl [0, 1, 2, 3, 4, 5, 6] rfl)
        · have hf := if_t c12 hf
          refine lv_iload_n hx hb dX10_put_189 rfl (lv_at hl 3 rfl) ?_
          refine lv_aload_n hx hb dX10_put_190 rfl (lv_at hl 0 rfl) ?_
          refine GM_0_1 X h k_X10_7 dX10_put_191 ?_
          refine lv_sipush (v := 8844) hx hb dX10_put_194 (by decide) ?_
          refine lv_iconst (v := 5) hx hb dX10_put_197 (by decide) ?_
          refine lv_iload hx hb dX10_put_198 (lv_at hl 6 rfl) ?_
          refine lv_imul hx hb dX10_put_200 ?_
          refine lv_iadd hx hb dX10_put_201 ?_
          refine lv_iconst (v := 1) hx hb dX10_put_202 (by decide) ?_
          refine lv_iadd hx hb dX10_put_203 ?_
          obtain ⟨c13, hf⟩ := chk_some hf
          refine LM_1 X h c13 dX10_put_204 ?_
          refine lv_iadd hx hb dX10_put_205 ?_
          obtain ⟨z14, ez14, hf⟩ := bnd_some hf
          refine nm_i (Option.some.inj ez14) ?_
          refine lv_istore_n (lv' := [(3, .int z14), (0, .ref (gq G 0)), (1, .int x1), (2, .int x2), (4, .int x4), (5, .int x5), (6, .int x6)]) hx hb dX10_put_206 rfl hl (by decide) rfl (fun ls hl => ?_)
          refine lv_iload hx hb dX10_put_207 (lv_at hl 5 rfl) ?_
          refine lv_aload_n hx hb dX10_put_209 rfl (lv_at hl 1 rfl) ?_
          refine GM_0_1 X h k_X10_7 dX10_put_210 ?_
          refine lv_sipush (v := 8744) hx hb dX10_put_213 (by decide) ?_
          refine lv_bipush (v := 10) hx hb dX10_put_216 (by decide) ?_
          refine lv_iload hx hb dX10_put_218 (lv_at hl 4 rfl) ?_
          refine lv_imul hx hb dX10_put_220 ?_
          refine lv_iadd hx hb dX10_put_221 ?_
          refine lv_aload_n hx hb dX10_put_222 rfl (lv_at hl 1 rfl) ?_
          refine GM_0_1 X h k_X10_7 dX10_put_223 ?_
          refine lv_sipush (v := 8844) hx hb dX10_put_226 (by decide) ?_
          refine lv_iconst (v := 5) hx hb dX10_put_229 (by decide) ?_
          refine lv_iload hx hb dX10_put_230 (lv_at hl 6 rfl) ?_
          refine lv_imul hx hb dX10_put_232 ?_
          refine lv_iadd hx hb dX10_put_233 ?_
          refine lv_iconst (v := 2) hx hb dX10_put_234 (by decide) ?_
          refine lv_iadd hx hb dX10_put_235 ?_
          obtain ⟨c15, hf⟩ := chk_some hf
          refine LM_1 X h c15 dX10_put_236 ?_
          refine lv_iadd hx hb dX10_put_237 ?_
          obtain ⟨c16, hf⟩ := chk_some hf
          refine LM_1 X h c16 dX10_put_238 ?_
          refine lv_if_ne (tgt := 246) hx hb dX10_put_239 (by decide) (fun c17 => ?_) (fun c17 => ?_)
          · have hf := if_f c17 hf
            refine lv_iconst (v := 0) hx hb dX10_put_246 (by decide) ?_
            exact J247 _ _ _ _ _ _ _ _ _ _ _ hf h (lv_sub hl [1, 2, 3, 0, 4, 6] rfl)
          · have hf := if_t c17 hf
            refine lv_iconst (v := 1) hx hb dX10_put_242 (by decide) ?_
            refine lv_goto (tgt := 247) hx hb dX10_put_243 (by decide) ?_
            exact J247 _ _ _ _ _ _ _ _ _ _ _ hf h (lv_sub hl [1, 2, 3, 0, 4, 6] rfl)
  have J120 : ∀ (x1 : Int32) (x2 : Int32) (w : MW) (H : Heap) (locs : List Loc) (ls : Array Slot), f_X10_put_b120 x1 x2 w = some (r, w') → CH G (mw G w) (va_A (mw G w0) s.heap.size) s.heap H locs → lv_has ls 7 [(0, .ref (gq G 0)), (1, .int x1), (2, .int x2)] → W p l e { frames := 3, cells := 0, slots := 4096 * 0, locals := 66 } s m args below meth c H locs 0 (4096 * 0) (MQ below (QI G (mw G w0) s.heap.size r (fun _ => mw G (w'))) args s 0 (4096 * 0) (va_A (mw G w0) s.heap.size)) (F0 m 120 ls []) := by
    intro x1 x2 w H locs ls hf h hl
    unfold f_X10_put_b120 at hf
    refine lv_aload_n hx hb dX10_put_120 rfl (lv_at hl 0 rfl) ?_
    refine GM_0_1 X h k_X10_7 dX10_put_121 ?_
    refine lv_sipush (v := 8844) hx hb dX10_put_124 (by decide) ?_
    refine lv_iconst (v := 5) hx hb dX10_put_127 (by decide) ?_
    refine lv_iload_n hx hb dX10_put_128 rfl (lv_at hl 2 rfl) ?_
    refine lv_imul hx hb dX10_put_129 ?_
    refine lv_iadd hx hb dX10_put_130 ?_
    refine lv_iconst (v := 1) hx hb dX10_put_131 (by decide) ?_
    refine lv_iadd hx hb dX10_put_132 ?_
    obtain ⟨c18, hf⟩ := chk_some hf
    refine LM_1 X h c18 dX10_put_133 ?_
    obtain ⟨z19, ez19, hf⟩ := bnd_some hf
    refine nm_i (Option.some.inj ez19) ?_
    refine lv_istore_n (lv' := [(3, .int z19), (0, .ref (gq G 0)), (1, .int x1), (2, .int x2)]) hx hb dX10_put_134 rfl hl (by decide) rfl (fun ls hl => ?_)
    refine lv_aload_n hx hb dX10_put_135 rfl (lv_at hl 1 rfl) ?_
    refine GM_0_1 X h k_X10_7 dX10_put_136 ?_
    refine lv_sipush (v := 8844) hx hb dX10_put_139 (by decide) ?_
    refine lv_iconst (v := 5) hx hb dX10_put_142 (by decide) ?_
    refine lv_iload_n hx hb dX10_put_143 rfl (lv_at hl 3 rfl) ?_
    refine lv_imul hx hb dX10_put_144 ?_
    refine lv_iadd hx hb dX10_put_145 ?_
    refine lv_iconst (v := 2) hx hb dX10_put_146 (by decide) ?_
    refine lv_iadd hx hb dX10_put_147 ?_
    obtain ⟨c20, hf⟩ := chk_some hf
    refine LM_1 X h c20 dX10_put_148 ?_
    obtain ⟨z21, ez21, hf⟩ := bnd_some hf
    refine nm_i (Option.some.inj ez21) ?_
    refine lv_istore (lv' := [(4, .int z21), (3, .int z19), (0, .ref (gq G 0)), (1, .int x1), (2, .int x2)]) hx hb dX10_put_149 hl (by decide) rfl (fun ls hl => ?_)
    refine lv_iconst (v := 1) hx hb dX10_put_151 (by decide) ?_
    refine lv_istore (lv' := [(5, .int ((1 : Int32))), (4, .int z21), (3, .int z19), (0, .ref (gq G 0)), (1, .int x1), (2, .int x2)]) hx hb dX10_put_152 hl (by decide) rfl (fun ls hl => ?_)
    refine lv_iconst (v := 0) hx hb dX10_put_154 (by decide) ?_
    refine lv_istore (lv' := [(6, .int ((0 : Int32))), (5, .int ((1 : Int32))), (4, .int z21), (3, .int z19), (0, .ref (gq G 0)), (1, .int x1), (2, .int x2)]) hx hb dX10_put_155 hl (by decide) rfl (fun ls hl => ?_)
    exact L157 FU _ _ _ _ _ _ _ _ _ _ hf h (lv_sub hl [4, 5, 6, 3, 2, 1, 0] rfl)
  have J87 : ∀ (w : MW) (H : Heap) (locs : List Loc) (ls : Array Slot), f_X10_put_b87 w = some (r, w') → CH G (mw G w) (va_A (mw G w0) s.heap.size) s.heap H locs → lv_has ls 7 [(0, .ref (gq G 0))] → W p l e { frames := 3, cells := 0, slots := 4096 * 0, locals := 66 } s m args below meth c H locs 0 (4096 * 0) (MQ below (QI G (mw G w0) s.heap.size r (fun _ => mw G (w'))) args s 0 (4096 * 0) (va_A (mw G w0) s.heap.size)) (F0 m 87 ls []) := by
    intro w H locs ls hf h hl
    unfold f_X10_put_b87 at hf
    refine lv_aload_n hx hb dX10_put_87 rfl (lv_at hl 0 rfl) ?_
    refine lv_bipush (v := 7) hx hb dX10_put_88 (by decide) ?_
    obtain ⟨y22, ey22, hf⟩ := bnd_some hf
    refine k_X10_found X h hA ey22 k_X10_117 dX10_put_90 hl.1 ⟨(Nat.le_of_ble_eq_true rfl), (Nat.le_of_ble_eq_true rfl)⟩ (Nat.le_of_ble_eq_true rfl) ⟨Nat.zero_le _, Nat.zero_le _⟩ (fun H locs h => ?_)
    exact e0_i (Wf := mw G) X.1 hr hlocks hf h dX10_put_93
  obtain ⟨w, rfl⟩ : ∃ z, z = w0 := ⟨_, rfl⟩
  have hl : lv_has ls 7 [(0, .ref (gq G 0)), (1, .int x1), (2, .int x2)] := hl
  unfold f_X10_put at hf
  refine lv_aload_n hx hb dX10_put_0 rfl (lv_at hl 0 rfl) ?_
  refine lv_iconst (v := 0) hx hb dX10_put_1 (by decide) ?_
  refine PM_0_0 X h k_X10_53 dX10_put_2 (fun H locs h => ?_)
  refine lv_iload_n hx hb dX10_put_5 rfl (lv_at hl 1 rfl) ?_
  obtain ⟨y23, ey23, hf⟩ := bnd_some hf
  refine k_X10_isPlace X.1 ey23 k_X10_106 dX10_put_6 hl.1 ⟨(Nat.le_of_ble_eq_true rfl), (Nat.le_of_ble_eq_true rfl)⟩ (Nat.le_of_ble_eq_true rfl) ⟨Nat.zero_le _, Nat.zero_le _⟩ ?_
  refine lv_if_eq (tgt := 20) hx hb dX10_put_9 (by decide) (fun c24 => ?_) (fun c24 => ?_)
  · have hf := if_t c24 hf
    refine lv_iconst (v := (-1)) hx hb dX10_put_20 (by decide) ?_
    exact e0_i (Wf := mw G) X.1 hr hlocks hf h dX10_put_21
  · have hf := if_f c24 hf
    refine lv_aload_n hx hb dX10_put_12 rfl (lv_at hl 0 rfl) ?_
    refine lv_iload_n hx hb dX10_put_13 rfl (lv_at hl 2 rfl) ?_
    obtain ⟨y25, ey25, hf⟩ := bnd_some hf
    refine k_X10_isLoad X h ey25 k_X10_157 dX10_put_14 hl.1 ⟨(Nat.le_of_ble_eq_true rfl), (Nat.le_of_ble_eq_true rfl)⟩ (Nat.le_of_ble_eq_true rfl) ⟨Nat.zero_le _, Nat.zero_le _⟩ ?_
    refine lv_if_ne (tgt := 22) hx hb dX10_put_17 (by decide) (fun c26 => ?_) (fun c26 => ?_)
    · have hf := if_f c26 hf
      refine lv_aload_n hx hb dX10_put_22 rfl (lv_at hl 0 rfl) ?_
      refine lv_iload_n hx hb dX10_put_23 rfl (lv_at hl 1 rfl) ?_
      obtain ⟨y27, ey27, hf⟩ := bnd_some hf
      refine k_X10_isThere X h ey27 k_X10_110 dX10_put_24 hl.1 ⟨(Nat.le_of_ble_eq_true rfl), (Nat.le_of_ble_eq_true rfl)⟩ (Nat.le_of_ble_eq_true rfl) ⟨Nat.zero_le _, Nat.zero_le _⟩ ?_
      refine lv_if_ne (tgt := 36) hx hb dX10_put_27 (by decide) (fun c28 => ?_) (fun c28 => ?_)
      · have hf := if_f c28 hf
        refine lv_aload_n hx hb dX10_put_36 rfl (lv_at hl 0 rfl) ?_
        refine lv_iload_n hx hb dX10_put_37 rfl (lv_at hl 1 rfl) ?_
        obtain ⟨y29, ey29, hf⟩ := bnd_some hf
        refine k_X10_touch X h hA ey29 k_X10_145 dX10_put_38 hl.1 ⟨(Nat.le_of_ble_eq_true rfl), (Nat.le_of_ble_eq_true rfl)⟩ (Nat.le_of_ble_eq_true rfl) ⟨Nat.zero_le _, Nat.zero_le _⟩ (fun H locs h => ?_)
        refine lv_aload_n hx hb dX10_put_41 rfl (lv_at hl 0 rfl) ?_
        refine GM_0_1 X h k_X10_7 dX10_put_42 ?_
        refine lv_sipush (v := 8844) hx hb dX10_put_45 (by decide) ?_
        refine lv_iconst (v := 5) hx hb dX10_put_48 (by decide) ?_
        refine lv_iload_n hx hb dX10_put_49 rfl (lv_at hl 2 rfl) ?_
        refine lv_imul hx hb dX10_put_50 ?_
        refine lv_iadd hx hb dX10_put_51 ?_
        refine lv_iconst (v := 3) hx hb dX10_put_52 (by decide) ?_
        refine lv_iadd hx hb dX10_put_53 ?_
        obtain ⟨c30, hf⟩ := chk_some hf
        refine LM_1 X h c30 dX10_put_54 ?_
        refine lv_iconst (v := (-1)) hx hb dX10_put_55 (by decide) ?_
        refine lv_icmp_eq (tgt := 65) hx hb dX10_put_56 (by decide) (fun c31 => ?_) (fun c31 => ?_)
        · have hf := if_t c31 hf
          refine lv_aload_n hx hb dX10_put_65 rfl (lv_at hl 0 rfl) ?_
          refine lv_iload_n hx hb dX10_put_66 rfl (lv_at hl 1 rfl) ?_
          refine lv_bipush (v := 26) hx hb dX10_put_67 (by decide) ?_
          obtain ⟨y32, ey32, hf⟩ := bnd_some hf
          refine k_X10_of X h ey32 k_X10_75 dX10_put_69 hl.1 ⟨(Nat.le_of_ble_eq_true rfl), (Nat.le_of_ble_eq_true rfl)⟩ (Nat.le_of_ble_eq_true rfl) ⟨Nat.zero_le _, Nat.zero_le _⟩ ?_
          refine lv_iconst (v := 1) hx hb dX10_put_72 (by decide) ?_
          refine lv_icmp_eq (tgt := 87) hx hb dX10_put_73 (by decide) (fun c33 => ?_) (fun c33 => ?_)
          · have hf := if_t c33 hf
            exact J87 _ _ _ _ hf h (lv_sub hl [0] rfl)
          · have hf := if_f c33 hf
            refine lv_aload_n hx hb dX10_put_76 rfl (lv_at hl 0 rfl) ?_
            refine lv_iload_n hx hb dX10_put_77 rfl (lv_at hl 1 rfl) ?_
            refine lv_bipush (v := 101) hx hb dX10_put_78 (by decide) ?_
            obtain ⟨y34, ey34, hf⟩ := bnd_some hf
            refine k_X10_of X h ey34 k_X10_75 dX10_put_80 hl.1 ⟨(Nat.le_of_ble_eq_true rfl), (Nat.le_of_ble_eq_true rfl)⟩ (Nat.le_of_ble_eq_true rfl) ⟨Nat.zero_le _, Nat.zero_le _⟩ ?_
            refine lv_iconst (v := 1) hx hb dX10_put_83 (by decide) ?_
            refine lv_icmp_ne (tgt := 94) hx hb dX10_put_84 (by decide) (fun c35 => ?_) (fun c35 => ?_)
            · have hf := if_f c35 hf
              refine lv_aload_n hx hb dX10_put_94 rfl (lv_at hl 0 rfl) ?_
              refine lv_iload_n hx hb dX10_put_95 rfl (lv_at hl 1 rfl) ?_
              obtain ⟨y36, ey36, hf⟩ := bnd_some hf
              refine k_X10_kindOf X h ey36 k_X10_79 dX10_put_96 hl.1 ⟨(Nat.le_of_ble_eq_true rfl), (Nat.le_of_ble_eq_true rfl)⟩ (Nat.le_of_ble_eq_true rfl) ⟨Nat.zero_le _, Nat.zero_le _⟩ ?_
              refine lv_iconst (v := 4) hx hb dX10_put_99 (by decide) ?_
              refine lv_icmp_ne (tgt := 120) hx hb dX10_put_100 (by decide) (fun c37 => ?_) (fun c37 => ?_)
              · have hf := if_f c37 hf
                exact J120 _ _ _ _ _ _ hf h (lv_sub hl [0, 1, 2] rfl)
              · have hf := if_t c37 hf
                refine lv_aload_n hx hb dX10_put_103 rfl (lv_at hl 0 rfl) ?_
                refine lv_iload_n hx hb dX10_put_104 rfl (lv_at hl 1 rfl) ?_
                refine lv_bipush (v := 7) hx hb dX10_put_105 (by decide) ?_
                obtain ⟨y38, ey38, hf⟩ := bnd_some hf
                refine k_X10_of X h ey38 k_X10_75 dX10_put_107 hl.1 ⟨(Nat.le_of_ble_eq_true rfl), (Nat.le_of_ble_eq_true rfl)⟩ (Nat.le_of_ble_eq_true rfl) ⟨Nat.zero_le _, Nat.zero_le _⟩ ?_
                refine lv_if_ne (tgt := 120) hx hb dX10_put_110 (by decide) (fun c39 => ?_) (fun c39 => ?_)
                · have hf := if_f c39 hf
                  exact J120 _ _ _ _ _ _ hf h (lv_sub hl [0, 1, 2] rfl)
                · have hf := if_t c39 hf
                  refine lv_aload_n hx hb dX10_put_113 rfl (lv_at hl 0 rfl) ?_
                  refine lv_bipush (v := 6) hx hb dX10_put_114 (by decide) ?_
                  obtain ⟨y40, ey40, hf⟩ := bnd_some hf
                  refine k_X10_found X h hA ey40 k_X10_117 dX10_put_116 hl.1 ⟨(Nat.le_of_ble_eq_true rfl), (Nat.le_of_ble_eq_true rfl)⟩ (Nat.le_of_ble_eq_true rfl) ⟨Nat.zero_le _, Nat.zero_le _⟩ (fun H locs h => ?_)
                  exact e0_i (Wf := mw G) X.1 hr hlocks hf h dX10_put_119
            · have hf := if_t c35 hf
              exact J87 _ _ _ _ hf h (lv_sub hl [0] rfl)
        · have hf := if_f c31 hf
          refine lv_aload_n hx hb dX10_put_59 rfl (lv_at hl 0 rfl) ?_
          refine lv_iconst (v := 2) hx hb dX10_put_60 (by decide) ?_
          obtain ⟨y41, ey41, hf⟩ := bnd_some hf
          refine k_X10_found X h hA ey41 k_X10_117 dX10_put_61 hl.1 ⟨(Nat.le_of_ble_eq_true rfl), (Nat.le_of_ble_eq_true rfl)⟩ (Nat.le_of_ble_eq_true rfl) ⟨Nat.zero_le _, Nat.zero_le _⟩ (fun H locs h => ?_)
          exact e0_i (Wf := mw G) X.1 hr hlocks hf h dX10_put_64
      · have hf := if_t c28 hf
        refine lv_aload_n hx hb dX10_put_30 rfl (lv_at hl 0 rfl) ?_
        refine lv_iconst (v := 1) hx hb dX10_put_31 (by decide) ?_
        obtain ⟨y42, ey42, hf⟩ := bnd_some hf
        refine k_X10_found X h hA ey42 k_X10_117 dX10_put_32 hl.1 ⟨(Nat.le_of_ble_eq_true rfl), (Nat.le_of_ble_eq_true rfl)⟩ (Nat.le_of_ble_eq_true rfl) ⟨Nat.zero_le _, Nat.zero_le _⟩ (fun H locs h => ?_)
        exact e0_i (Wf := mw G) X.1 hr hlocks hf h dX10_put_35
    · have hf := if_t c26 hf
      refine lv_iconst (v := (-1)) hx hb dX10_put_20 (by decide) ?_
      exact e0_i (Wf := mw G) X.1 hr hlocks hf h dX10_put_21
theorem m_X10_put : Cond.instanceMethod yX10_put ∈ lw_good ∧ Cond.selects RX10 yX10_put yX10_put ∈ lw_good ∧ Cond.initialized RX10 ∈ lw_good ∧ Cond.code yX10_put cX10_put 7 (some .int) ∈ lw_good := by decide +kernel
theorem k_X10_put {p : Program} {l : Launch} {e : Env} {R : Room} {s : State} {m : MethodId} {args : Array Value} {below : List Frame} {meth : Method} {c : Code} {H : Heap} {locs : List Loc} {cells slots : Nat} {Q : State → Prop} {cc : ByteArray} {nL pc idx : Nat} {ls : Array Slot} {rest : List Value} {own : String} {G : Gm} {A : Nat → Prop} {H0 : Heap} {w : MW} {x1 : Int32} {x2 : Int32} {y : Int32 × MW} (X : CX own cc nL G p s m args c) (h : CH G (mw G w) A H0 H locs) (hA : ∀ q, H0.size ≤ q → A q) (hf : f_X10_put x1 x2 w = some y) (hlk : Cond.methodLink own idx yX10_put ∈ lw_good) (hd : decode cc pc = .ok (.invokevirtual idx, 3)) (hsz : ls.size = nL) (hR : 4 ≤ R.frames ∧ 92 ≤ R.locals) (hrest : (rest.map fun v => v.category).sum ≤ 8) (hk : cells ≤ R.cells ∧ slots ≤ R.slots) (k : ∀ (H : Heap) (locs : List Loc), CH G (mw G y.2) A H0 H locs → W p l e R s m args below meth c H locs cells slots Q (F0 m (pc + 3) ls (.int y.1 :: rest))) : W p l e R s m args below meth c H locs cells slots Q (F0 m pc ls (.int x2 :: .int x1 :: .ref (gq G 0) :: rest)) :=
  fin_i (n := 0) (runV (As := [.int x1, .int x2]) X.1 2 (t_X10_put l G w x1 x2 y.1 y.2 hf _) rfl rfl hlk m_X10_put (by decide +kernel) ⟨hR.1, hR.2⟩ ⟨blindM, va_recv X.2.1 h.1 (ci := 9) (q0 := 0) rfl rfl, preM X.2 h⟩ rfl hsz hrest hd hk) h hA (fun _ H locs h => k H locs h)
def f_X10_fetch (x1 : Int32) (w : MW) : Option (Int32 × MW) :=
 (f_X10_isLoad x1 (mst w 0 0 ((0 : Int32)))).bind fun y1 =>
 if y1 = 0 then
 (some ((-1 : Int32), mst w 0 0 ((0 : Int32))))
 else
 (chk (inb ((((8844 : Int32)) + (((5 : Int32)) * x1)) + ((3 : Int32))) 11360) (
 (some ((mst w 0 0 ((0 : Int32))) 1 ((((8844 : Int32)) + (((5 : Int32)) * x1)) + ((3 : Int32))).toNatClampNeg)).bind fun z4 =>
 if 0 ≤ z4 then
 ((f_X10_touch z4 (mst w 0 0 ((0 : Int32)))).bind fun y6 =>
 (f_X10_of z4 ((26 : Int32)) y6).bind fun y7 =>
 if y7 = ((1 : Int32)) then
 ((f_X10_found ((7 : Int32)) y6).bind fun y10 =>
 some (y10.1, y10.2))
 else
 ((f_X10_w ((((8844 : Int32)) + (((5 : Int32)) * x1)) + ((3 : Int32))) ((-2 : Int32)) y6).bind fun y9 =>
 some (z4, y9)))
 else
 ((f_X10_found ((2 : Int32)) (mst w 0 0 ((0 : Int32)))).bind fun y11 =>
 some (y11.1, y11.2))))
set_option maxHeartbeats 4000000 in
set_option maxRecDepth 100000 in
theorem t_X10_fetch (l : Launch) (G : Gm) (w0 : MW) (x1 : Int32) (r : Int32) (w' : MW) (hf : f_X10_fetch x1 w0 = some (r, w')) : MetI l yX10_fetch cX10_fetch 3 (some .int) 2 43 G (mw G w0) [.ref (gq G 0), .int x1] r (fun _ => mw G (w')) 0 := by
  intro sz
  refine ent (own := RX10) (As := [.ref (gq G 0), .int x1]) (by decide +kernel) rfl (Nat.le_of_ble_eq_true rfl) (fun _ _ h => h.1) ?_
  intro p e s m args below meth c ls B hr hlocks hv hl
  obtain ⟨-, hsz, hP, hKK, hD⟩ := hv
  subst hsz
  have X : CX RX10 cX10_fetch 3 G p s m args c := ⟨B, hKK⟩
  obtain ⟨hx, hb, hml, hown, hts⟩ := id B
  have hA : ∀ q : Nat, s.heap.size ≤ q → va_A (mw G w0) s.heap.size q := fun q z => Or.inr z
  have h : CH G (mw G w0) (va_A (mw G w0) s.heap.size) s.heap s.heap [] := ⟨hP, hD.self, va_S.rf⟩
  obtain ⟨w, rfl⟩ : ∃ z, z = w0 := ⟨_, rfl⟩
  have hl : lv_has ls 3 [(0, .ref (gq G 0)), (1, .int x1)] := hl
  unfold f_X10_fetch at hf
  refine lv_aload_n hx hb dX10_fetch_0 rfl (lv_at hl 0 rfl) ?_
  refine lv_iconst (v := 0) hx hb dX10_fetch_1 (by decide) ?_
  refine PM_0_0 X h k_X10_53 dX10_fetch_2 (fun H locs h => ?_)
  refine lv_aload_n hx hb dX10_fetch_5 rfl (lv_at hl 0 rfl) ?_
  refine lv_iload_n hx hb dX10_fetch_6 rfl (lv_at hl 1 rfl) ?_
  obtain ⟨y1, ey1, hf⟩ := bnd_some hf
  refine k_X10_isLoad X h ey1 k_X10_157 dX10_fetch_7 hl.1 ⟨(Nat.le_of_ble_eq_true rfl), (Nat.le_of_ble_eq_true rfl)⟩ (Nat.le_of_ble_eq_true rfl) ⟨Nat.zero_le _, Nat.zero_le _⟩ ?_
  refine lv_if_ne (tgt := 15) hx hb dX10_fetch_10 (by decide) (fun c2 => ?_) (fun c2 => ?_)
  · have hf := if_f c2 hf
    refine lv_aload_n hx hb dX10_fetch_15 rfl (lv_at hl 0 rfl) ?_
    refine GM_0_1 X h k_X10_7 dX10_fetch_16 ?_
    refine lv_sipush (v := 8844) hx hb dX10_fetch_19 (by decide) ?_
    refine lv_iconst (v := 5) hx hb dX10_fetch_22 (by decide) ?_
    refine lv_iload_n hx hb dX10_fetch_23 rfl (lv_at hl 1 rfl) ?_
    refine lv_imul hx hb dX10_fetch_24 ?_
    refine lv_iadd hx hb dX10_fetch_25 ?_
    refine lv_iconst (v := 3) hx hb dX10_fetch_26 (by decide) ?_
    refine lv_iadd hx hb dX10_fetch_27 ?_
    obtain ⟨c3, hf⟩ := chk_some hf
    refine LM_1 X h c3 dX10_fetch_28 ?_
    obtain ⟨z4, ez4, hf⟩ := bnd_some hf
    refine nm_i (Option.some.inj ez4) ?_
    refine lv_istore_n (lv' := [(2, .int z4), (0, .ref (gq G 0)), (1, .int x1)]) hx hb dX10_fetch_29 rfl hl (by decide) rfl (fun ls hl => ?_)
    refine lv_iload_n hx hb dX10_fetch_30 rfl (lv_at hl 0 rfl) ?_
    refine lv_if_ge (tgt := 40) hx hb dX10_fetch_31 (by decide) (fun c5 => ?_) (fun c5 => ?_)
    · have hf := if_t c5 hf
      refine lv_aload_n hx hb dX10_fetch_40 rfl (lv_at hl 1 rfl) ?_
      refine lv_iload_n hx hb dX10_fetch_41 rfl (lv_at hl 0 rfl) ?_
      obtain ⟨y6, ey6, hf⟩ := bnd_some hf
      refine k_X10_touch X h hA ey6 k_X10_145 dX10_fetch_42 hl.1 ⟨(Nat.le_of_ble_eq_true rfl), (Nat.le_of_ble_eq_true rfl)⟩ (Nat.le_of_ble_eq_true rfl) ⟨Nat.zero_le _, Nat.zero_le _⟩ (fun H locs h => ?_)
      refine lv_aload_n hx hb dX10_fetch_45 rfl (lv_at hl 1 rfl) ?_
      refine lv_iload_n hx hb dX10_fetch_46 rfl (lv_at hl 0 rfl) ?_
      refine lv_bipush (v := 26) hx hb dX10_fetch_47 (by decide) ?_
      obtain ⟨y7, ey7, hf⟩ := bnd_some hf
      refine k_X10_of X h ey7 k_X10_75 dX10_fetch_49 hl.1 ⟨(Nat.le_of_ble_eq_true rfl), (Nat.le_of_ble_eq_true rfl)⟩ (Nat.le_of_ble_eq_true rfl) ⟨Nat.zero_le _, Nat.zero_le _⟩ ?_
      refine lv_iconst (v := 1) hx hb dX10_fetch_52 (by decide) ?_
      refine lv_icmp_ne (tgt := 63) hx hb dX10_fetch_53 (by decide) (fun c8 => ?_) (fun c8 => ?_)
      · have hf := if_f c8 hf
        refine lv_aload_n hx hb dX10_fetch_63 rfl (lv_at hl 1 rfl) ?_
        refine lv_sipush (v := 8844) hx hb dX10_fetch_64 (by decide) ?_
        refine lv_iconst (v := 5) hx hb dX10_fetch_67 (by decide) ?_
        refine lv_iload_n hx hb dX10_fetch_68 rfl (lv_at hl 2 rfl) ?_
        refine lv_imul hx hb dX10_fetch_69 ?_
        refine lv_iadd hx hb dX10_fetch_70 ?_
        refine lv_iconst (v := 3) hx hb dX10_fetch_71 (by decide) ?_
        refine lv_iadd hx hb dX10_fetch_72 ?_
        refine lv_bipush (v := (-2)) hx hb dX10_fetch_73 (by decide) ?_
        obtain ⟨y9, ey9, hf⟩ := bnd_some hf
        refine k_X10_w X h hA ey9 k_X10_67 dX10_fetch_75 hl.1 ⟨(Nat.le_of_ble_eq_true rfl), (Nat.le_of_ble_eq_true rfl)⟩ (Nat.le_of_ble_eq_true rfl) ⟨Nat.zero_le _, Nat.zero_le _⟩ (fun H locs h => ?_)
        refine lv_iload_n hx hb dX10_fetch_78 rfl (lv_at hl 0 rfl) ?_
        exact e0_i (Wf := mw G) X.1 hr hlocks hf h dX10_fetch_79
      · have hf := if_t c8 hf
        refine lv_aload_n hx hb dX10_fetch_56 rfl (lv_at hl 1 rfl) ?_
        refine lv_bipush (v := 7) hx hb dX10_fetch_57 (by decide) ?_
        obtain ⟨y10, ey10, hf⟩ := bnd_some hf
        refine k_X10_found X h hA ey10 k_X10_117 dX10_fetch_59 hl.1 ⟨(Nat.le_of_ble_eq_true rfl), (Nat.le_of_ble_eq_true rfl)⟩ (Nat.le_of_ble_eq_true rfl) ⟨Nat.zero_le _, Nat.zero_le _⟩ (fun H locs h => ?_)
        exact e0_i (Wf := mw G) X.1 hr hlocks hf h dX10_fetch_62
    · have hf := if_f c5 hf
      refine lv_aload_n hx hb dX10_fetch_34 rfl (lv_at hl 1 rfl) ?_
      refine lv_iconst (v := 2) hx hb dX10_fetch_35 (by decide) ?_
      obtain ⟨y11, ey11, hf⟩ := bnd_some hf
      refine k_X10_found X h hA ey11 k_X10_117 dX10_fetch_36 hl.1 ⟨(Nat.le_of_ble_eq_true rfl), (Nat.le_of_ble_eq_true rfl)⟩ (Nat.le_of_ble_eq_true rfl) ⟨Nat.zero_le _, Nat.zero_le _⟩ (fun H locs h => ?_)
      exact e0_i (Wf := mw G) X.1 hr hlocks hf h dX10_fetch_39
  · have hf := if_t c2 hf
    refine lv_iconst (v := (-1)) hx hb dX10_fetch_13 (by decide) ?_
    exact e0_i (Wf := mw G) X.1 hr hlocks hf h dX10_fetch_14
theorem m_X10_fetch : Cond.instanceMethod yX10_fetch ∈ lw_good ∧ Cond.selects RX10 yX10_fetch yX10_fetch ∈ lw_good ∧ Cond.initialized RX10 ∈ lw_good ∧ Cond.code yX10_fetch cX10_fetch 3 (some .int) ∈ lw_good := by decide +kernel
theorem k_X10_fetch {p : Program} {l : Launch} {e : Env} {R : Room} {s : State} {m : MethodId} {args : Array Value} {below : List Frame} {meth : Method} {c : Code} {H : Heap} {locs : List Loc} {cells slots : Nat} {Q : State → Prop} {cc : ByteArray} {nL pc idx : Nat} {ls : Array Slot} {rest : List Value} {own : String} {G : Gm} {A : Nat → Prop} {H0 : Heap} {w : MW} {x1 : Int32} {y : Int32 × MW} (X : CX own cc nL G p s m args c) (h : CH G (mw G w) A H0 H locs) (hA : ∀ q, H0.size ≤ q → A q) (hf : f_X10_fetch x1 w = some y) (hlk : Cond.methodLink own idx yX10_fetch ∈ lw_good) (hd : decode cc pc = .ok (.invokevirtual idx, 3)) (hsz : ls.size = nL) (hR : 3 ≤ R.frames ∧ 65 ≤ R.locals) (hrest : (rest.map fun v => v.category).sum ≤ 8) (hk : cells ≤ R.cells ∧ slots ≤ R.slots) (k : ∀ (H : Heap) (locs : List Loc), CH G (mw G y.2) A H0 H locs → W p l e R s m args below meth c H locs cells slots Q (F0 m (pc + 3) ls (.int y.1 :: rest))) : W p l e R s m args below meth c H locs cells slots Q (F0 m pc ls (.int x1 :: .ref (gq G 0) :: rest)) :=
  fin_i (n := 0) (runV (As := [.int x1]) X.1 1 (t_X10_fetch l G w x1 y.1 y.2 hf _) rfl rfl hlk m_X10_fetch (by decide +kernel) ⟨hR.1, hR.2⟩ ⟨blindM, va_recv X.2.1 h.1 (ci := 9) (q0 := 0) rfl rfl, preM X.2 h⟩ rfl hsz hrest hd hk) h hA (fun _ H locs h => k H locs h)
def f_X10_about (x1 : Int32) (x2 : Int32) (w : MW) : Option (Int32 × MW) :=
 (f_X10_isLoad x1 (mst w 0 0 ((0 : Int32)))).bind fun y1 =>
 if y1 = 0 then
 (some ((-1 : Int32), mst w 0 0 ((0 : Int32))))
 else
 ((f_X10_in x2 ((0 : Int32)) ((4 : Int32))).bind fun y3 =>
 if y3 = 0 then
 (some ((-2 : Int32), mst w 0 0 ((0 : Int32))))
 else
 (chk (inb ((((8844 : Int32)) + (((5 : Int32)) * x1)) + x2) 11360) (
 some ((mst w 0 0 ((0 : Int32))) 1 ((((8844 : Int32)) + (((5 : Int32)) * x1)) + x2).toNatClampNeg, mst w 0 0 ((0 : Int32))))))
set_option maxHeartbeats 4000000 in
set_option maxRecDepth 100000 in
theorem t_X10_about (l : Launch) (G : Gm) (w0 : MW) (x1 : Int32) (x2 : Int32) (r : Int32) (w' : MW) (hf : f_X10_about x1 x2 w0 = some (r, w')) : MetI l yX10_about cX10_about 3 (some .int) 2 43 G (mw G w0) [.ref (gq G 0), .int x1, .int x2] r (fun _ => mw G (w')) 0 := by
  intro sz
  refine ent (own := RX10) (As := [.ref (gq G 0), .int x1, .int x2]) (by decide +kernel) rfl (Nat.le_of_ble_eq_true rfl) (fun _ _ h => h.1) ?_
  intro p e s m args below meth c ls B hr hlocks hv hl
  obtain ⟨-, hsz, hP, hKK, hD⟩ := hv
  subst hsz
  have X : CX RX10 cX10_about 3 G p s m args c := ⟨B, hKK⟩
  obtain ⟨hx, hb, hml, hown, hts⟩ := id B
  have hA : ∀ q : Nat, s.heap.size ≤ q → va_A (mw G w0) s.heap.size q := fun q z => Or.inr z
  have h : CH G (mw G w0) (va_A (mw G w0) s.heap.size) s.heap s.heap [] := ⟨hP, hD.self, va_S.rf⟩
  obtain ⟨w, rfl⟩ : ∃ z, z = w0 := ⟨_, rfl⟩
  have hl : lv_has ls 3 [(0, .ref (gq G 0)), (1, .int x1), (2, .int x2)] := hl
  unfold f_X10_about at hf
  refine lv_aload_n hx hb dX10_about_0 rfl (lv_at hl 0 rfl) ?_
  refine lv_iconst (v := 0) hx hb dX10_about_1 (by decide) ?_
  refine PM_0_0 X h k_X10_53 dX10_about_2 (fun H locs h => ?_)
  refine lv_aload_n hx hb dX10_about_5 rfl (lv_at hl 0 rfl) ?_
  refine lv_iload_n hx hb dX10_about_6 rfl (lv_at hl 1 rfl) ?_
  obtain ⟨y1, ey1, hf⟩ := bnd_some hf
  refine k_X10_isLoad X h ey1 k_X10_157 dX10_about_7 hl.1 ⟨(Nat.le_of_ble_eq_true rfl), (Nat.le_of_ble_eq_true rfl)⟩ (Nat.le_of_ble_eq_true rfl) ⟨Nat.zero_le _, Nat.zero_le _⟩ ?_
  refine lv_if_ne (tgt := 17) hx hb dX10_about_10 (by decide) (fun c2 => ?_) (fun c2 => ?_)
  · have hf := if_f c2 hf
    refine lv_iload_n hx hb dX10_about_17 rfl (lv_at hl 2 rfl) ?_
    refine lv_iconst (v := 0) hx hb dX10_about_18 (by decide) ?_
    refine lv_iconst (v := 4) hx hb dX10_about_19 (by decide) ?_
    obtain ⟨y3, ey3, hf⟩ := bnd_some hf
    refine k_X10_in X.1 ey3 k_X10_71 dX10_about_20 hl.1 ⟨(Nat.le_of_ble_eq_true rfl), (Nat.le_of_ble_eq_true rfl)⟩ (Nat.le_of_ble_eq_true rfl) ⟨Nat.zero_le _, Nat.zero_le _⟩ ?_
    refine lv_if_ne (tgt := 31) hx hb dX10_about_23 (by decide) (fun c4 => ?_) (fun c4 => ?_)
    · have hf := if_f c4 hf
      refine lv_aload_n hx hb dX10_about_31 rfl (lv_at hl 0 rfl) ?_
      refine GM_0_1 X h k_X10_7 dX10_about_32 ?_
      refine lv_sipush (v := 8844) hx hb dX10_about_35 (by decide) ?_
      refine lv_iconst (v := 5) hx hb dX10_about_38 (by decide) ?_
      refine lv_iload_n hx hb dX10_about_39 rfl (lv_at hl 1 rfl) ?_
      refine lv_imul hx hb dX10_about_40 ?_
      refine lv_iadd hx hb dX10_about_41 ?_
      refine lv_iload_n hx hb dX10_about_42 rfl (lv_at hl 2 rfl) ?_
      refine lv_iadd hx hb dX10_about_43 ?_
      obtain ⟨c5, hf⟩ := chk_some hf
      refine LM_1 X h c5 dX10_about_44 ?_
      exact e0_i (Wf := mw G) X.1 hr hlocks hf h dX10_about_45
    · have hf := if_t c4 hf
      refine lv_bipush (v := (-2)) hx hb dX10_about_26 (by decide) ?_
      refine lv_goto (tgt := 45) hx hb dX10_about_28 (by decide) ?_
      exact e0_i (Wf := mw G) X.1 hr hlocks hf h dX10_about_45
  · have hf := if_t c2 hf
    refine lv_iconst (v := (-1)) hx hb dX10_about_13 (by decide) ?_
    refine lv_goto (tgt := 45) hx hb dX10_about_14 (by decide) ?_
    exact e0_i (Wf := mw G) X.1 hr hlocks hf h dX10_about_45
theorem m_X10_about : Cond.instanceMethod yX10_about ∈ lw_good ∧ Cond.selects RX10 yX10_about yX10_about ∈ lw_good ∧ Cond.initialized RX10 ∈ lw_good ∧ Cond.code yX10_about cX10_about 3 (some .int) ∈ lw_good := by decide +kernel
theorem k_X10_about {p : Program} {l : Launch} {e : Env} {R : Room} {s : State} {m : MethodId} {args : Array Value} {below : List Frame} {meth : Method} {c : Code} {H : Heap} {locs : List Loc} {cells slots : Nat} {Q : State → Prop} {cc : ByteArray} {nL pc idx : Nat} {ls : Array Slot} {rest : List Value} {own : String} {G : Gm} {A : Nat → Prop} {H0 : Heap} {w : MW} {x1 : Int32} {x2 : Int32} {y : Int32 × MW} (X : CX own cc nL G p s m args c) (h : CH G (mw G w) A H0 H locs) (hA : ∀ q, H0.size ≤ q → A q) (hf : f_X10_about x1 x2 w = some y) (hlk : Cond.methodLink own idx yX10_about ∈ lw_good) (hd : decode cc pc = .ok (.invokevirtual idx, 3)) (hsz : ls.size = nL) (hR : 3 ≤ R.frames ∧ 65 ≤ R.locals) (hrest : (rest.map fun v => v.category).sum ≤ 8) (hk : cells ≤ R.cells ∧ slots ≤ R.slots) (k : ∀ (H : Heap) (locs : List Loc), CH G (mw G y.2) A H0 H locs → W p l e R s m args below meth c H locs cells slots Q (F0 m (pc + 3) ls (.int y.1 :: rest))) : W p l e R s m args below meth c H locs cells slots Q (F0 m pc ls (.int x2 :: .int x1 :: .ref (gq G 0) :: rest)) :=
  fin_i (n := 0) (runV (As := [.int x1, .int x2]) X.1 2 (t_X10_about l G w x1 x2 y.1 y.2 hf _) rfl rfl hlk m_X10_about (by decide +kernel) ⟨hR.1, hR.2⟩ ⟨blindM, va_recv X.2.1 h.1 (ci := 9) (q0 := 0) rfl rfl, preM X.2 h⟩ rfl hsz hrest hd hk) h hA (fun _ H locs h => k H locs h)
def f_X10_shareOf_b126 (k56 : (Int32 → Int32 → Int32 → Int64 → Int64 → Int64 → Int32 → Int32 → MW → Option Int32)) (x1 : Int32) (x2 : Int32) (x3 : Int32) (x4 : Int64) (x6 : Int64) (x8 : Int64) (x11 : Int32) (xs0 : Int32) (xs1 : Int32) (w : MW) : Option Int32 :=
 k56 x1 x2 x3 x4 x6 x8 (xs0 + xs1) (x11 + (1 : Int32)) w
def f_X10_shareOf_b125 (k56 : (Int32 → Int32 → Int32 → Int64 → Int64 → Int64 → Int32 → Int32 → MW → Option Int32)) (x1 : Int32) (x2 : Int32) (x3 : Int32) (x4 : Int64) (x6 : Int64) (x8 : Int64) (x11 : Int32) (xs0 : Int32) (w : MW) : Option Int32 :=
 f_X10_shareOf_b126 k56 x1 x2 x3 x4 x6 x8 x11 xs0 ((0 : Int32)) w
def f_X10_shareOf_b121 (k56 : (Int32 → Int32 → Int32 → Int64 → Int64 → Int64 → Int32 → Int32 → MW → Option Int32)) (x1 : Int32) (x2 : Int32) (x3 : Int32) (x4 : Int64) (x6 : Int64) (x8 : Int64) (x11 : Int32) (xs0 : Int32) (w : MW) : Option Int32 :=
 f_X10_shareOf_b126 k56 x1 x2 x3 x4 x6 x8 x11 xs0 ((1 : Int32)) w
def f_X10_shareOf_l56_body (kself : (Int32 → Int32 → Int32 → Int64 → Int64 → Int64 → Int32 → Int32 → MW → Option Int32)) (x1 : Int32) (x2 : Int32) (x3 : Int32) (x4 : Int64) (x6 : Int64) (x8 : Int64) (x10 : Int32) (x11 : Int32) (w : MW) : Option Int32 :=
 if x2 ≤ x11 then
 (chk (inb x3 60) (
 chk (¬ x4 = 0) (
 if 0 ≤ (lg_cmp x10.toInt64 x6) then
 (some ((((x1.toInt64 * ((w 12 x3.toNatClampNeg).toInt64)) / x4).toInt32) + ((0 : Int32))))
 else
 (some ((((x1.toInt64 * ((w 12 x3.toNatClampNeg).toInt64)) / x4).toInt32) + ((1 : Int32)))))))
 else
 (chk (inb x11 60) (
 chk (¬ x4 = 0) (
 (some (x6 - ((x1.toInt64 * ((w 12 x11.toNatClampNeg).toInt64)) / x4))).bind fun z7 =>
 chk (inb x11 60) (
 chk (¬ x4 = 0) (
 (some ((x1.toInt64 * ((w 12 x11.toNatClampNeg).toInt64)) - (x1.toInt64 * ((w 12 x11.toNatClampNeg).toInt64)) / x4 * x4)).bind fun z10 =>
 if 0 < (lg_cmp z10 x8) then
 (f_X10_shareOf_b121 kself x1 x2 x3 x4 z7 x8 x11 x10 w)
 else
 (if (lg_cmp z10 x8) = 0 then
 (if x3 ≤ x11 then
 (f_X10_shareOf_b125 kself x1 x2 x3 x4 z7 x8 x11 x10 w)
 else
 (f_X10_shareOf_b121 kself x1 x2 x3 x4 z7 x8 x11 x10 w))
 else
 (f_X10_shareOf_b125 kself x1 x2 x3 x4 z7 x8 x11 x10 w)))))))
def f_X10_shareOf_l56 : Nat → Int32 → Int32 → Int32 → Int64 → Int64 → Int64 → Int32 → Int32 → MW → Option Int32
  | 0, _, _, _, _, _, _, _, _, _ => none
  | n + 1, x1, x2, x3, x4, x6, x8, x10, x11, w => f_X10_shareOf_l56_body (f_X10_shareOf_l56 n) x1 x2 x3 x4 x6 x8 x10 x11 w
def f_X10_shareOf_l6_body (kself : (Int32 → Int32 → Int32 → Int64 → Int32 → MW → Option Int32)) (x1 : Int32) (x2 : Int32) (x3 : Int32) (x4 : Int64) (x6 : Int32) (w : MW) : Option Int32 :=
 if x2 ≤ x6 then
 (chk (inb x3 60) (
 chk (¬ x4 = 0) (
 (some ((x1.toInt64 * ((w 12 x3.toNatClampNeg).toInt64)) - (x1.toInt64 * ((w 12 x3.toNatClampNeg).toInt64)) / x4 * x4)).bind fun z17 =>
 f_X10_shareOf_l56 FU x1 x2 x3 x4 x1.toInt64 z17 ((0 : Int32)) ((0 : Int32)) w)))
 else
 (chk (inb x6 60) (
 kself x1 x2 x3 (x4 + ((w 12 x6.toNatClampNeg).toInt64)) (x6 + (1 : Int32)) w))
def f_X10_shareOf_l6 : Nat → Int32 → Int32 → Int32 → Int64 → Int32 → MW → Option Int32
  | 0, _, _, _, _, _, _ => none
  | n + 1, x1, x2, x3, x4, x6, w => f_X10_shareOf_l6_body (f_X10_shareOf_l6 n) x1 x2 x3 x4 x6 w
def f_X10_shareOf (x1 : Int32) (x2 : Int32) (x3 : Int32) (w : MW) : Option Int32 :=
 f_X10_shareOf_l6 FU x1 x2 x3 ((0 : Int64)) ((0 : Int32)) w
set_option maxHeartbeats 4000000 in
set_option maxRecDepth 100000 in
theorem t_X10_shareOf (l : Launch) (G : Gm) (w : MW) (x1 : Int32) (x2 : Int32) (x3 : Int32) (r : Int32) (hf : f_X10_shareOf x1 x2 x3 w = some r) : MetR l yX10_shareOf cX10_shareOf 14 (some .int) 0 0 G (mw G w) [.ref (gq G 0), .int x1, .int x2, .int x3] (.int r) := by
  refine ent (own := RX10) (As := [.ref (gq G 0), .int x1, .int x2, .int x3]) (by decide +kernel) rfl (Nat.le_of_ble_eq_true rfl) (fun _ _ h => h.1) ?_
  intro p e s m args below meth c ls B hr hlocks hv hl
  obtain ⟨-, hP, hKK, hD⟩ := hv
  have X : CX RX10 cX10_shareOf 14 G p s m args c := ⟨B, hKK⟩
  obtain ⟨hx, hb, hml, hown, hts⟩ := id B
  have h : CH G (mw G w) (fun _ => True) s.heap s.heap [] := ⟨hP, hD, va_S.rf⟩
  have L56 : ∀ (n56 : Nat) (x1 : Int32) (x2 : Int32) (x3 : Int32) (x4 : Int64) (x6 : Int64) (x8 : Int64) (x10 : Int32) (x11 : Int32) (ls : Array Slot), f_X10_shareOf_l56 n56 x1 x2 x3 x4 x6 x8 x10 x11 w = some r → lv_has ls 14 [(0, .ref (gq G 0)), (1, .int x1), (2, .int x2), (3, .int x3), (4, .long x4), (6, .long x6), (8, .long x8), (10, .int x10), (11, .int x11)] → W p l e { frames := 0, cells := 0, slots := 0, locals := 0 } s m args below meth c s.heap [] 0 0 (MQ below (QcV (.int r)) args s 0 0 (fun _ => False)) (F0 m 56 ls []) := by
    intro n56
    induction n56 with
    | zero =>
      intro x1 x2 x3 x4 x6 x8 x10 x11 ls hf hl
      cases (show (none : Option Int32) = some _ from hf)
    | succ n56 ih56 =>
      have J126 : ∀ (x1 : Int32) (x2 : Int32) (x3 : Int32) (x4 : Int64) (x6 : Int64) (x8 : Int64) (x11 : Int32) (xs0 : Int32) (xs1 : Int32) (ls : Array Slot), f_X10_shareOf_b126 (f_X10_shareOf_l56 n56) x1 x2 x3 x4 x6 x8 x11 xs0 xs1 w = some r → lv_has ls 14 [(0, .ref (gq G 0)), (1, .int x1), (2, .int x2), (3, .int x3), (4, .long x4), (6, .long x6), (8, .long x8), (11, .int x11)] → W p l e { frames := 0, cells := 0, slots := 0, locals := 0 } s m args below meth c s.heap [] 0 0 (MQ below (QcV (.int r)) args s 0 0 (fun _ => False)) (F0 m 126 ls [.int xs1, .int xs0]) := by
        intro x1 x2 x3 x4 x6 x8 x11 xs0 xs1 ls hf hl
        unfold f_X10_shareOf_b126 at hf
        refine lv_iadd hx hb dX10_shareOf_126 ?_
        refine lv_istore (lv' := [(10, .int (xs0 + xs1)), (0, .ref (gq G 0)), (1, .int x1), (2, .int x2), (3, .int x3), (4, .long x4), (6, .long x6), (8, .long x8), (11, .int x11)]) hx hb dX10_shareOf_127 hl (by decide) rfl (fun ls hl => ?_)
        refine lv_iinc (v := x11 + (1 : Int32)) (lv' := [(11, .int (x11 + (1 : Int32))), (10, .int (xs0 + xs1)), (0, .ref (gq G 0)), (1, .int x1), (2, .int x2), (3, .int x3), (4, .long x4), (6, .long x6), (8, .long x8)]) hx hb dX10_shareOf_129 hl (k := 8) rfl (by rfl) (by decide) rfl (fun ls hl => ?_)
        refine lv_goto (tgt := 56) hx hb dX10_shareOf_132 (by decide) ?_
        exact ih56 _ _ _ _ _ _ _ _ _ hf (lv_sub hl [2, 3, 4, 5, 6, 7, 8, 1, 0] rfl)
      have J125 : ∀ (x1 : Int32) (x2 : Int32) (x3 : Int32) (x4 : Int64) (x6 : Int64) (x8 : Int64) (x11 : Int32) (xs0 : Int32) (ls : Array Slot), f_X10_shareOf_b125 (f_X10_shareOf_l56 n56) x1 x2 x3 x4 x6 x8 x11 xs0 w = some r → lv_has ls 14 [(0, .ref (gq G 0)), (1, .int x1), (2, .int x2), (3, .int x3), (4, .long x4), (6, .long x6), (8, .long x8), (11, .int x11)] → W p l e { frames := 0, cells := 0, slots := 0, locals := 0 } s m args below meth c s.heap [] 0 0 (MQ below (QcV (.int r)) args s 0 0 (fun _ => False)) (F0 m 125 ls [.int xs0]) := by
        intro x1 x2 x3 x4 x6 x8 x11 xs0 ls hf hl
        unfold f_X10_shareOf_b125 at hf
        refine lv_iconst (v := 0) hx hb dX10_shareOf_125 (by decide) ?_
        exact J126 _ _ _ _ _ _ _ _ _ _ hf (lv_sub hl [0, 1, 2, 3, 4, 5, 6, 7] rfl)
      have J121 : ∀ (x1 : Int32) (x2 : Int32) (x3 : Int32) (x4 : Int64) (x6 : Int64) (x8 : Int64) (x11 : Int32) (xs0 : Int32) (ls : Array Slot), f_X10_shareOf_b121 (f_X10_shareOf_l56 n56) x1 x2 x3 x4 x6 x8 x11 xs0 w = some r → lv_has ls 14 [(0, .ref (gq G 0)), (1, .int x1), (2, .int x2), (3, .int x3), (4, .long x4), (6, .long x6), (8, .long x8), (11, .int x11)] → W p l e { frames := 0, cells := 0, slots := 0, locals := 0 } s m args below meth c s.heap [] 0 0 (MQ below (QcV (.int r)) args s 0 0 (fun _ => False)) (F0 m 121 ls [.int xs0]) := by
        intro x1 x2 x3 x4 x6 x8 x11 xs0 ls hf hl
        unfold f_X10_shareOf_b121 at hf
        refine lv_iconst (v := 1) hx hb dX10_shareOf_121 (by decide) ?_
        refine lv_goto (tgt := 126) hx hb dX10_shareOf_122 (by decide) ?_
        exact J126 _ _ _ _ _ _ _ _ _ _ hf (lv_sub hl [0, 1, 2, 3, 4, 5, 6, 7] rfl)
      intro x1 x2 x3 x4 x6 x8 x10 x11 ls hf hl
      have hf : f_X10_shareOf_l56_body (f_X10_shareOf_l56 n56) x1 x2 x3 x4 x6 x8 x10 x11 w = _ := hf
      unfold f_X10_shareOf_l56_body at hf
      refine lv_iload hx hb dX10_shareOf_56 (lv_at hl 8 rfl) ?_
      refine lv_iload_n hx hb dX10_shareOf_58 rfl (lv_at hl 2 rfl) ?_
      refine lv_icmp_ge (tgt := 135) hx hb dX10_shareOf_59 (by decide) (fun c1 => ?_) (fun c1 => ?_)
      · have hf := if_t c1 hf
        refine lv_iload_n hx hb dX10_shareOf_135 rfl (lv_at hl 1 rfl) ?_
        refine lv_i2l hx hb dX10_shareOf_136 rfl ?_
        refine lv_aload_n hx hb dX10_shareOf_137 rfl (lv_at hl 0 rfl) ?_
        refine GM_0_19 X h k_X10_44 dX10_shareOf_138 ?_
        refine lv_iload_n hx hb dX10_shareOf_141 rfl (lv_at hl 3 rfl) ?_
        obtain ⟨c2, hf⟩ := chk_some hf
        refine LM_12 X h c2 dX10_shareOf_142 ?_
        refine lv_i2l hx hb dX10_shareOf_143 rfl ?_
        refine lv_lmul hx hb dX10_shareOf_144 ?_
        refine lv_lload hx hb dX10_shareOf_145 (lv_at hl 4 rfl) ?_
        obtain ⟨c3, hf⟩ := chk_some hf
        refine lv_ldiv hx hb dX10_shareOf_147 c3 ?_
        refine lv_l2i hx hb dX10_shareOf_148 rfl ?_
        refine lv_iload hx hb dX10_shareOf_149 (lv_at hl 7 rfl) ?_
        refine lv_i2l hx hb dX10_shareOf_151 rfl ?_
        refine lv_lload hx hb dX10_shareOf_152 (lv_at hl 5 rfl) ?_
        refine W.lcmp hx hb dX10_shareOf_154 ?_
        refine lv_if_ge (tgt := 162) hx hb dX10_shareOf_155 (by decide) (fun c4 => ?_) (fun c4 => ?_)
        · have hf := if_t c4 hf
          refine lv_iconst (v := 0) hx hb dX10_shareOf_162 (by decide) ?_
          refine lv_iadd hx hb dX10_shareOf_163 ?_
          cases hf
          exact rr_i X.1 hr hlocks dX10_shareOf_164
        · have hf := if_f c4 hf
          refine lv_iconst (v := 1) hx hb dX10_shareOf_158 (by decide) ?_
          refine lv_goto (tgt := 163) hx hb dX10_shareOf_159 (by decide) ?_
          refine lv_iadd hx hb dX10_shareOf_163 ?_
          cases hf
          exact rr_i X.1 hr hlocks dX10_shareOf_164
      · have hf := if_f c1 hf
        refine lv_lload hx hb dX10_shareOf_62 (lv_at hl 5 rfl) ?_
        refine lv_iload_n hx hb dX10_shareOf_64 rfl (lv_at hl 1 rfl) ?_
        refine lv_i2l hx hb dX10_shareOf_65 rfl ?_
        refine lv_aload_n hx hb dX10_shareOf_66 rfl (lv_at hl 0 rfl) ?_
        refine GM_0_19 X h k_X10_44 dX10_shareOf_67 ?_
        refine lv_iload hx hb dX10_shareOf_70 (lv_at hl 8 rfl) ?_
        obtain ⟨c5, hf⟩ := chk_some hf
        refine LM_12 X h c5 dX10_shareOf_72 ?_
        refine lv_i2l hx hb dX10_shareOf_73 rfl ?_
        refine lv_lmul hx hb dX10_shareOf_74 ?_
        refine lv_lload hx hb dX10_shareOf_75 (lv_at hl 4 rfl) ?_
        obtain ⟨c6, hf⟩ := chk_some hf
        refine lv_ldiv hx hb dX10_shareOf_77 c6 ?_
        refine lv_lsub hx hb dX10_shareOf_78 ?_
        obtain ⟨z7, ez7, hf⟩ := bnd_some hf
        refine nm_l (Option.some.inj ez7) ?_
        refine lv_lstore (lv' := [(6, .long z7), (0, .ref (gq G 0)), (1, .int x1), (2, .int x2), (3, .int x3), (4, .long x4), (8, .long x8), (10, .int x10), (11, .int x11)]) hx hb dX10_shareOf_79 hl (by decide) rfl (fun ls hl => ?_)
        refine lv_iload_n hx hb dX10_shareOf_81 rfl (lv_at hl 2 rfl) ?_
        refine lv_i2l hx hb dX10_shareOf_82 rfl ?_
        refine lv_aload_n hx hb dX10_shareOf_83 rfl (lv_at hl 1 rfl) ?_
        refine GM_0_19 X h k_X10_44 dX10_shareOf_84 ?_
        refine lv_iload hx hb dX10_shareOf_87 (lv_at hl 8 rfl) ?_
        obtain ⟨c8, hf⟩ := chk_some hf
        refine LM_12 X h c8 dX10_shareOf_89 ?_
        refine lv_i2l hx hb dX10_shareOf_90 rfl ?_
        refine lv_lmul hx hb dX10_shareOf_91 ?_
        refine lv_lload hx hb dX10_shareOf_92 (lv_at hl 5 rfl) ?_
        obtain ⟨c9, hf⟩ := chk_some hf
        refine lv_lrem hx hb dX10_shareOf_94 c9 ?_
        obtain ⟨z10, ez10, hf⟩ := bnd_some hf
        refine nm_l (Option.some.inj ez10) ?_
        refine lv_lstore (lv' := [(12, .long z10), (6, .long z7), (0, .ref (gq G 0)), (1, .int x1), (2, .int x2), (3, .int x3), (4, .long x4), (8, .long x8), (10, .int x10), (11, .int x11)]) hx hb dX10_shareOf_95 hl (by decide) rfl (fun ls hl => ?_)
        refine lv_iload hx hb dX10_shareOf_97 (lv_at hl 8 rfl) ?_
        refine lv_lload hx hb dX10_shareOf_99 (lv_at hl 0 rfl) ?_
        refine lv_lload hx hb dX10_shareOf_101 (lv_at hl 7 rfl) ?_
        refine W.lcmp hx hb dX10_shareOf_103 ?_
        refine lv_if_gt (tgt := 121) hx hb dX10_shareOf_104 (by decide) (fun c11 => ?_) (fun c11 => ?_)
        · have hf := if_t c11 hf
          exact J121 _ _ _ _ _ _ _ _ _ hf (lv_sub hl [2, 3, 4, 5, 6, 1, 7, 9] rfl)
        · have hf := if_f c11 hf
          refine lv_lload hx hb dX10_shareOf_107 (lv_at hl 0 rfl) ?_
          refine lv_lload hx hb dX10_shareOf_109 (lv_at hl 7 rfl) ?_
          refine W.lcmp hx hb dX10_shareOf_111 ?_
          refine lv_if_ne (tgt := 125) hx hb dX10_shareOf_112 (by decide) (fun c12 => ?_) (fun c12 => ?_)
          · have hf := if_f c12 hf
            exact J125 _ _ _ _ _ _ _ _ _ hf (lv_sub hl [2, 3, 4, 5, 6, 1, 7, 9] rfl)
          · have hf := if_t c12 hf
            refine lv_iload hx hb dX10_shareOf_115 (lv_at hl 9 rfl) ?_
            refine lv_iload_n hx hb dX10_shareOf_117 rfl (lv_at hl 5 rfl) ?_
            refine lv_icmp_ge (tgt := 125) hx hb dX10_shareOf_118 (by decide) (fun c13 => ?_) (fun c13 => ?_)
            · have hf := if_t c13 hf
              exact J125 _ _ _ _ _ _ _ _ _ hf (lv_sub hl [2, 3, 4, 5, 6, 1, 7, 9] rfl)
            · have hf := if_f c13 hf
              exact J121 _ _ _ _ _ _ _ _ _ hf (lv_sub hl [2, 3, 4, 5, 6, 1, 7, 9] rfl)
  have L6 : ∀ (n6 : Nat) (x1 : Int32) (x2 : Int32) (x3 : Int32) (x4 : Int64) (x6 : Int32) (ls : Array Slot), f_X10_shareOf_l6 n6 x1 x2 x3 x4 x6 w = some r → lv_has ls 14 [(0, .ref (gq G 0)), (1, .int x1), (2, .int x2), (3, .int x3), (4, .long x4), (6, .int x6)] → W p l e { frames := 0, cells := 0, slots := 0, locals := 0 } s m args below meth c s.heap [] 0 0 (MQ below (QcV (.int r)) args s 0 0 (fun _ => False)) (F0 m 6 ls []) := by
    intro n6
    induction n6 with
    | zero =>
      intro x1 x2 x3 x4 x6 ls hf hl
      cases (show (none : Option Int32) = some _ from hf)
    | succ n6 ih6 =>
      intro x1 x2 x3 x4 x6 ls hf hl
      have hf : f_X10_shareOf_l6_body (f_X10_shareOf_l6 n6) x1 x2 x3 x4 x6 w = _ := hf
      unfold f_X10_shareOf_l6_body at hf
      refine lv_iload hx hb dX10_shareOf_6 (lv_at hl 5 rfl) ?_
      refine lv_iload_n hx hb dX10_shareOf_8 rfl (lv_at hl 2 rfl) ?_
      refine lv_icmp_ge (tgt := 31) hx hb dX10_shareOf_9 (by decide) (fun c14 => ?_) (fun c14 => ?_)
      · have hf := if_t c14 hf
        refine lv_iload_n hx hb dX10_shareOf_31 rfl (lv_at hl 1 rfl) ?_
        refine lv_i2l hx hb dX10_shareOf_32 rfl ?_
        refine lv_lstore (lv' := [(6, .long x1.toInt64), (0, .ref (gq G 0)), (1, .int x1), (2, .int x2), (3, .int x3), (4, .long x4)]) hx hb dX10_shareOf_33 hl (by decide) rfl (fun ls hl => ?_)
        refine lv_iload_n hx hb dX10_shareOf_35 rfl (lv_at hl 2 rfl) ?_
        refine lv_i2l hx hb dX10_shareOf_36 rfl ?_
        refine lv_aload_n hx hb dX10_shareOf_37 rfl (lv_at hl 1 rfl) ?_
        refine GM_0_19 X h k_X10_44 dX10_shareOf_38 ?_
        refine lv_iload_n hx hb dX10_shareOf_41 rfl (lv_at hl 4 rfl) ?_
        obtain ⟨c15, hf⟩ := chk_some hf
        refine LM_12 X h c15 dX10_shareOf_42 ?_
        refine lv_i2l hx hb dX10_shareOf_43 rfl ?_
        refine lv_lmul hx hb dX10_shareOf_44 ?_
        refine lv_lload hx hb dX10_shareOf_45 (lv_at hl 5 rfl) ?_
        obtain ⟨c16, hf⟩ := chk_some hf
        refine lv_lrem hx hb dX10_shareOf_47 c16 ?_
        obtain ⟨z17, ez17, hf⟩ := bnd_some hf
        refine nm_l (Option.some.inj ez17) ?_
        refine lv_lstore (lv' := [(8, .long z17), (6, .long x1.toInt64), (0, .ref (gq G 0)), (1, .int x1), (2, .int x2), (3, .int x3), (4, .long x4)]) hx hb dX10_shareOf_48 hl (by decide) rfl (fun ls hl => ?_)
        refine lv_iconst (v := 0) hx hb dX10_shareOf_50 (by decide) ?_
        refine lv_istore (lv' := [(10, .int ((0 : Int32))), (8, .long z17), (6, .long x1.toInt64), (0, .ref (gq G 0)), (1, .int x1), (2, .int x2), (3, .int x3), (4, .long x4)]) hx hb dX10_shareOf_51 hl (by decide) rfl (fun ls hl => ?_)
        refine lv_iconst (v := 0) hx hb dX10_shareOf_53 (by decide) ?_
        refine lv_istore (lv' := [(11, .int ((0 : Int32))), (10, .int ((0 : Int32))), (8, .long z17), (6, .long x1.toInt64), (0, .ref (gq G 0)), (1, .int x1), (2, .int x2), (3, .int x3), (4, .long x4)]) hx hb dX10_shareOf_54 hl (by decide) rfl (fun ls hl => ?_)
        exact L56 FU _ _ _ _ _ _ _ _ _ hf (lv_sub hl [4, 5, 6, 7, 8, 3, 2, 1, 0] rfl)
      · have hf := if_f c14 hf
        refine lv_lload hx hb dX10_shareOf_12 (lv_at hl 4 rfl) ?_
        refine lv_aload_n hx hb dX10_shareOf_14 rfl (lv_at hl 0 rfl) ?_
        refine GM_0_19 X h k_X10_44 dX10_shareOf_15 ?_
        refine lv_iload hx hb dX10_shareOf_18 (lv_at hl 5 rfl) ?_
        obtain ⟨c18, hf⟩ := chk_some hf
        refine LM_12 X h c18 dX10_shareOf_20 ?_
        refine lv_i2l hx hb dX10_shareOf_21 rfl ?_
        refine lv_ladd hx hb dX10_shareOf_22 ?_
        refine lv_lstore (lv' := [(4, .long (x4 + ((w 12 x6.toNatClampNeg).toInt64))), (0, .ref (gq G 0)), (1, .int x1), (2, .int x2), (3, .int x3), (6, .int x6)]) hx hb dX10_shareOf_23 hl (by decide) rfl (fun ls hl => ?_)
        refine lv_iinc (v := x6 + (1 : Int32)) (lv' := [(6, .int (x6 + (1 : Int32))), (4, .long (x4 + ((w 12 x6.toNatClampNeg).toInt64))), (0, .ref (gq G 0)), (1, .int x1), (2, .int x2), (3, .int x3)]) hx hb dX10_shareOf_25 hl (k := 5) rfl (by rfl) (by decide) rfl (fun ls hl => ?_)
        refine lv_goto (tgt := 6) hx hb dX10_shareOf_28 (by decide) ?_
        exact ih6 _ _ _ _ _ _ hf (lv_sub hl [2, 3, 4, 5, 1, 0] rfl)
  have hl : lv_has ls 14 [(0, .ref (gq G 0)), (1, .int x1), (2, .int x2), (3, .int x3)] := hl
  unfold f_X10_shareOf at hf
  refine lv_lconst (v := 0) hx hb dX10_shareOf_0 (by decide) ?_
  refine lv_lstore (lv' := [(4, .long ((0 : Int64))), (0, .ref (gq G 0)), (1, .int x1), (2, .int x2), (3, .int x3)]) hx hb dX10_shareOf_1 hl (by decide) rfl (fun ls hl => ?_)
  refine lv_iconst (v := 0) hx hb dX10_shareOf_3 (by decide) ?_
  refine lv_istore (lv' := [(6, .int ((0 : Int32))), (4, .long ((0 : Int64))), (0, .ref (gq G 0)), (1, .int x1), (2, .int x2), (3, .int x3)]) hx hb dX10_shareOf_4 hl (by decide) rfl (fun ls hl => ?_)
  exact L6 FU _ _ _ _ _ _ hf (lv_sub hl [2, 3, 4, 5, 1, 0] rfl)
theorem m_X10_shareOf : Cond.instanceMethod yX10_shareOf ∈ lw_good ∧ Cond.selects RX10 yX10_shareOf yX10_shareOf ∈ lw_good ∧ Cond.initialized RX10 ∈ lw_good ∧ Cond.code yX10_shareOf cX10_shareOf 14 (some .int) ∈ lw_good := by decide +kernel
theorem k_X10_shareOf {p : Program} {l : Launch} {e : Env} {R : Room} {s : State} {m : MethodId} {args : Array Value} {below : List Frame} {meth : Method} {c : Code} {H : Heap} {locs : List Loc} {cells slots : Nat} {Q : State → Prop} {cc : ByteArray} {nL pc idx : Nat} {ls : Array Slot} {rest : List Value} {own : String} {G : Gm} {A : Nat → Prop} {H0 : Heap} {w : MW} {x1 : Int32} {x2 : Int32} {x3 : Int32} {r : Int32} (X : CX own cc nL G p s m args c) (h : CH G (mw G w) A H0 H locs) (hf : f_X10_shareOf x1 x2 x3 w = some r) (hlk : Cond.methodLink own idx yX10_shareOf ∈ lw_good) (hd : decode cc pc = .ok (.invokevirtual idx, 3)) (hsz : ls.size = nL) (hR : 1 ≤ R.frames ∧ 33 ≤ R.locals) (hrest : (rest.map fun v => v.category).sum ≤ 8) (hk : cells ≤ R.cells ∧ slots ≤ R.slots) (k : W p l e R s m args below meth c H locs cells slots Q (F0 m (pc + 3) ls (.int r :: rest))) : W p l e R s m args below meth c H locs cells slots Q (F0 m pc ls (.int x3 :: .int x2 :: .int x1 :: .ref (gq G 0) :: rest)) :=
  fin_r (runV (As := [.int x1, .int x2, .int x3]) X.1 3 (t_X10_shareOf l G w x1 x2 x3 r hf) rfl rfl hlk m_X10_shareOf (by decide +kernel) ⟨hR.1, hR.2⟩ ⟨blindR, va_recv X.2.1 h.1 (ci := 9) (q0 := 0) rfl rfl, preR X.2 h⟩ rfl hsz hrest hd hk) k
def f_X10_share_l85_body (kself : (Int32 → Int32 → Int32 → Int32 → Int32 → MW → Option (Int32 × MW))) (x1 : Int32) (x2 : Int32) (x3 : Int32) (x4 : Int32) (x5 : Int32) (w : MW) : Option (Int32 × MW) :=
 if x4 ≤ x5 then
 (chk (inb ((((8844 : Int32)) + (((5 : Int32)) * x1)) + ((1 : Int32))) 11360) (
 (f_X10_shareOf (w 1 ((((8844 : Int32)) + (((5 : Int32)) * x1)) + ((1 : Int32))).toNatClampNeg) x4 x2 w).bind fun y3 =>
 some (y3, w)))
 else
 ((f_X10_of x3 (((8 : Int32)) + x5) w).bind fun y4 =>
 chk (inb x5 60) (
 kself x1 x2 x3 x4 (x5 + (1 : Int32)) (mst w 12 x5.toNatClampNeg y4)))
def f_X10_share_l85 : Nat → Int32 → Int32 → Int32 → Int32 → Int32 → MW → Option (Int32 × MW)
  | 0, _, _, _, _, _, _ => none
  | n + 1, x1, x2, x3, x4, x5, w => f_X10_share_l85_body (f_X10_share_l85 n) x1 x2 x3 x4 x5 w
def f_X10_share (x1 : Int32) (x2 : Int32) (w : MW) : Option (Int32 × MW) :=
 (f_X10_isLoad x1 (mst w 0 0 ((0 : Int32)))).bind fun y6 =>
 if y6 = 0 then
 (some ((-1 : Int32), mst w 0 0 ((0 : Int32))))
 else
 (chk (inb ((((8844 : Int32)) + (((5 : Int32)) * x1)) + ((3 : Int32))) 11360) (
 (some ((mst w 0 0 ((0 : Int32))) 1 ((((8844 : Int32)) + (((5 : Int32)) * x1)) + ((3 : Int32))).toNatClampNeg)).bind fun z9 =>
 if 0 ≤ z9 then
 ((f_X10_kindOf z9 (mst w 0 0 ((0 : Int32)))).bind fun y11 =>
 if y11 = ((4 : Int32)) then
 ((f_X10_of z9 ((7 : Int32)) (mst w 0 0 ((0 : Int32)))).bind fun y13 =>
 (f_X10_in x2 ((0 : Int32)) (y13 - ((1 : Int32)))).bind fun y14 =>
 if y14 = 0 then
 ((f_X10_found ((4 : Int32)) (mst w 0 0 ((0 : Int32)))).bind fun y16 =>
 some (y16.1, y16.2))
 else
 (f_X10_share_l85 FU x1 x2 z9 y13 ((0 : Int32)) (mst w 0 0 ((0 : Int32)))))
 else
 ((f_X10_found ((5 : Int32)) (mst w 0 0 ((0 : Int32)))).bind fun y17 =>
 some (y17.1, y17.2)))
 else
 ((f_X10_found ((2 : Int32)) (mst w 0 0 ((0 : Int32)))).bind fun y18 =>
 some (y18.1, y18.2))))
set_option maxHeartbeats 4000000 in
set_option maxRecDepth 100000 in
theorem t_X10_share (l : Launch) (G : Gm) (w0 : MW) (x1 : Int32) (x2 : Int32) (r : Int32) (w' : MW) (hf : f_X10_share x1 x2 w0 = some (r, w')) : MetI l yX10_share cX10_share 6 (some .int) 2 43 G (mw G w0) [.ref (gq G 0), .int x1, .int x2] r (fun _ => mw G (w')) 0 := by
  intro sz
  refine ent (own := RX10) (As := [.ref (gq G 0), .int x1, .int x2]) (by decide +kernel) rfl (Nat.le_of_ble_eq_true rfl) (fun _ _ h => h.1) ?_
  intro p e s m args below meth c ls B hr hlocks hv hl
  obtain ⟨-, hsz, hP, hKK, hD⟩ := hv
  subst hsz
  have X : CX RX10 cX10_share 6 G p s m args c := ⟨B, hKK⟩
  obtain ⟨hx, hb, hml, hown, hts⟩ := id B
  have hA : ∀ q : Nat, s.heap.size ≤ q → va_A (mw G w0) s.heap.size q := fun q z => Or.inr z
  have h : CH G (mw G w0) (va_A (mw G w0) s.heap.size) s.heap s.heap [] := ⟨hP, hD.self, va_S.rf⟩
  have L85 : ∀ (n85 : Nat) (x1 : Int32) (x2 : Int32) (x3 : Int32) (x4 : Int32) (x5 : Int32) (w : MW) (H : Heap) (locs : List Loc) (ls : Array Slot), f_X10_share_l85 n85 x1 x2 x3 x4 x5 w = some (r, w') → CH G (mw G w) (va_A (mw G w0) s.heap.size) s.heap H locs → lv_has ls 6 [(0, .ref (gq G 0)), (1, .int x1), (2, .int x2), (3, .int x3), (4, .int x4), (5, .int x5)] → W p l e { frames := 2, cells := 0, slots := 4096 * 0, locals := 43 } s m args below meth c H locs 0 (4096 * 0) (MQ below (QI G (mw G w0) s.heap.size r (fun _ => mw G (w'))) args s 0 (4096 * 0) (va_A (mw G w0) s.heap.size)) (F0 m 85 ls []) := by
    intro n85
    induction n85 with
    | zero =>
      intro x1 x2 x3 x4 x5 w H locs ls hf h hl
      cases (show (none : Option (Int32 × MW)) = some _ from hf)
    | succ n85 ih85 =>
      intro x1 x2 x3 x4 x5 w H locs ls hf h hl
      have hf : f_X10_share_l85_body (f_X10_share_l85 n85) x1 x2 x3 x4 x5 w = _ := hf
      unfold f_X10_share_l85_body at hf
      refine lv_iload hx hb dX10_share_85 (lv_at hl 5 rfl) ?_
      refine lv_iload hx hb dX10_share_87 (lv_at hl 4 rfl) ?_
      refine lv_icmp_ge (tgt := 115) hx hb dX10_share_89 (by decide) (fun c1 => ?_) (fun c1 => ?_)
      · have hf := if_t c1 hf
        refine lv_aload_n hx hb dX10_share_115 rfl (lv_at hl 0 rfl) ?_
        refine lv_aload_n hx hb dX10_share_116 rfl (lv_at hl 0 rfl) ?_
        refine GM_0_1 X h k_X10_7 dX10_share_117 ?_
        refine lv_sipush (v := 8844) hx hb dX10_share_120 (by decide) ?_
        refine lv_iconst (v := 5) hx hb dX10_share_123 (by decide) ?_
        refine lv_iload_n hx hb dX10_share_124 rfl (lv_at hl 1 rfl) ?_
        refine lv_imul hx hb dX10_share_125 ?_
        refine lv_iadd hx hb dX10_share_126 ?_
        refine lv_iconst (v := 1) hx hb dX10_share_127 (by decide) ?_
        refine lv_iadd hx hb dX10_share_128 ?_
        obtain ⟨c2, hf⟩ := chk_some hf
        refine LM_1 X h c2 dX10_share_129 ?_
        refine lv_iload hx hb dX10_share_130 (lv_at hl 4 rfl) ?_
        refine lv_iload_n hx hb dX10_share_132 rfl (lv_at hl 2 rfl) ?_
        obtain ⟨y3, ey3, hf⟩ := bnd_some hf
        refine k_X10_shareOf X h ey3 k_X10_160 dX10_share_133 hl.1 ⟨(Nat.le_of_ble_eq_true rfl), (Nat.le_of_ble_eq_true rfl)⟩ (Nat.le_of_ble_eq_true rfl) ⟨Nat.zero_le _, Nat.zero_le _⟩ ?_
        exact e0_i (Wf := mw G) X.1 hr hlocks hf h dX10_share_136
      · have hf := if_f c1 hf
        refine lv_aload_n hx hb dX10_share_92 rfl (lv_at hl 0 rfl) ?_
        refine GM_0_19 X h k_X10_44 dX10_share_93 ?_
        refine lv_iload hx hb dX10_share_96 (lv_at hl 5 rfl) ?_
        refine lv_aload_n hx hb dX10_share_98 rfl (lv_at hl 0 rfl) ?_
        refine lv_iload_n hx hb dX10_share_99 rfl (lv_at hl 3 rfl) ?_
        refine lv_bipush (v := 8) hx hb dX10_share_100 (by decide) ?_
        refine lv_iload hx hb dX10_share_102 (lv_at hl 5 rfl) ?_
        refine lv_iadd hx hb dX10_share_104 ?_
        obtain ⟨y4, ey4, hf⟩ := bnd_some hf
        refine k_X10_of X h ey4 k_X10_75 dX10_share_105 hl.1 ⟨(Nat.le_of_ble_eq_true rfl), (Nat.le_of_ble_eq_true rfl)⟩ (Nat.le_of_ble_eq_true rfl) ⟨Nat.zero_le _, Nat.zero_le _⟩ ?_
        obtain ⟨c5, hf⟩ := chk_some hf
        refine SM_12 X h c5 dX10_share_108 (fun H locs h => ?_)
        refine lv_iinc (v := x5 + (1 : Int32)) (lv' := [(5, .int (x5 + (1 : Int32))), (0, .ref (gq G 0)), (1, .int x1), (2, .int x2), (3, .int x3), (4, .int x4)]) hx hb dX10_share_109 hl (k := 5) rfl (by rfl) (by decide) rfl (fun ls hl => ?_)
        refine lv_goto (tgt := 85) hx hb dX10_share_112 (by decide) ?_
        exact ih85 _ _ _ _ _ _ _ _ _ hf h (lv_sub hl [1, 2, 3, 4, 5, 0] rfl)
  obtain ⟨w, rfl⟩ : ∃ z, z = w0 := ⟨_, rfl⟩
  have hl : lv_has ls 6 [(0, .ref (gq G 0)), (1, .int x1), (2, .int x2)] := hl
  unfold f_X10_share at hf
  refine lv_aload_n hx hb dX10_share_0 rfl (lv_at hl 0 rfl) ?_
  refine lv_iconst (v := 0) hx hb dX10_share_1 (by decide) ?_
  refine PM_0_0 X h k_X10_53 dX10_share_2 (fun H locs h => ?_)
  refine lv_aload_n hx hb dX10_share_5 rfl (lv_at hl 0 rfl) ?_
  refine lv_iload_n hx hb dX10_share_6 rfl (lv_at hl 1 rfl) ?_
  obtain ⟨y6, ey6, hf⟩ := bnd_some hf
  refine k_X10_isLoad X h ey6 k_X10_157 dX10_share_7 hl.1 ⟨(Nat.le_of_ble_eq_true rfl), (Nat.le_of_ble_eq_true rfl)⟩ (Nat.le_of_ble_eq_true rfl) ⟨Nat.zero_le _, Nat.zero_le _⟩ ?_
  refine lv_if_ne (tgt := 15) hx hb dX10_share_10 (by decide) (fun c7 => ?_) (fun c7 => ?_)
  · have hf := if_f c7 hf
    refine lv_aload_n hx hb dX10_share_15 rfl (lv_at hl 0 rfl) ?_
    refine GM_0_1 X h k_X10_7 dX10_share_16 ?_
    refine lv_sipush (v := 8844) hx hb dX10_share_19 (by decide) ?_
    refine lv_iconst (v := 5) hx hb dX10_share_22 (by decide) ?_
    refine lv_iload_n hx hb dX10_share_23 rfl (lv_at hl 1 rfl) ?_
    refine lv_imul hx hb dX10_share_24 ?_
    refine lv_iadd hx hb dX10_share_25 ?_
    refine lv_iconst (v := 3) hx hb dX10_share_26 (by decide) ?_
    refine lv_iadd hx hb dX10_share_27 ?_
    obtain ⟨c8, hf⟩ := chk_some hf
    refine LM_1 X h c8 dX10_share_28 ?_
    obtain ⟨z9, ez9, hf⟩ := bnd_some hf
    refine nm_i (Option.some.inj ez9) ?_
    refine lv_istore_n (lv' := [(3, .int z9), (0, .ref (gq G 0)), (1, .int x1), (2, .int x2)]) hx hb dX10_share_29 rfl hl (by decide) rfl (fun ls hl => ?_)
    refine lv_iload_n hx hb dX10_share_30 rfl (lv_at hl 0 rfl) ?_
    refine lv_if_ge (tgt := 40) hx hb dX10_share_31 (by decide) (fun c10 => ?_) (fun c10 => ?_)
    · have hf := if_t c10 hf
      refine lv_aload_n hx hb dX10_share_40 rfl (lv_at hl 1 rfl) ?_
      refine lv_iload_n hx hb dX10_share_41 rfl (lv_at hl 0 rfl) ?_
      obtain ⟨y11, ey11, hf⟩ := bnd_some hf
      refine k_X10_kindOf X h ey11 k_X10_79 dX10_share_42 hl.1 ⟨(Nat.le_of_ble_eq_true rfl), (Nat.le_of_ble_eq_true rfl)⟩ (Nat.le_of_ble_eq_true rfl) ⟨Nat.zero_le _, Nat.zero_le _⟩ ?_
      refine lv_iconst (v := 4) hx hb dX10_share_45 (by decide) ?_
      refine lv_icmp_eq (tgt := 55) hx hb dX10_share_46 (by decide) (fun c12 => ?_) (fun c12 => ?_)
      · have hf := if_t c12 hf
        refine lv_aload_n hx hb dX10_share_55 rfl (lv_at hl 1 rfl) ?_
        refine lv_iload_n hx hb dX10_share_56 rfl (lv_at hl 0 rfl) ?_
        refine lv_bipush (v := 7) hx hb dX10_share_57 (by decide) ?_
        obtain ⟨y13, ey13, hf⟩ := bnd_some hf
        refine k_X10_of X h ey13 k_X10_75 dX10_share_59 hl.1 ⟨(Nat.le_of_ble_eq_true rfl), (Nat.le_of_ble_eq_true rfl)⟩ (Nat.le_of_ble_eq_true rfl) ⟨Nat.zero_le _, Nat.zero_le _⟩ ?_
        refine lv_istore (lv' := [(4, .int y13), (3, .int z9), (0, .ref (gq G 0)), (1, .int x1), (2, .int x2)]) hx hb dX10_share_62 hl (by decide) rfl (fun ls hl => ?_)
        refine lv_iload_n hx hb dX10_share_64 rfl (lv_at hl 4 rfl) ?_
        refine lv_iconst (v := 0) hx hb dX10_share_65 (by decide) ?_
        refine lv_iload hx hb dX10_share_66 (lv_at hl 0 rfl) ?_
        refine lv_iconst (v := 1) hx hb dX10_share_68 (by decide) ?_
        refine lv_isub hx hb dX10_share_69 ?_
        obtain ⟨y14, ey14, hf⟩ := bnd_some hf
        refine k_X10_in X.1 ey14 k_X10_71 dX10_share_70 hl.1 ⟨(Nat.le_of_ble_eq_true rfl), (Nat.le_of_ble_eq_true rfl)⟩ (Nat.le_of_ble_eq_true rfl) ⟨Nat.zero_le _, Nat.zero_le _⟩ ?_
        refine lv_if_ne (tgt := 82) hx hb dX10_share_73 (by decide) (fun c15 => ?_) (fun c15 => ?_)
        · have hf := if_f c15 hf
          refine lv_iconst (v := 0) hx hb dX10_share_82 (by decide) ?_
          refine lv_istore (lv' := [(5, .int ((0 : Int32))), (4, .int y13), (3, .int z9), (0, .ref (gq G 0)), (1, .int x1), (2, .int x2)]) hx hb dX10_share_83 hl (by decide) rfl (fun ls hl => ?_)
          exact L85 FU _ _ _ _ _ _ _ _ _ hf h (lv_sub hl [3, 4, 5, 2, 1, 0] rfl)
        · have hf := if_t c15 hf
          refine lv_aload_n hx hb dX10_share_76 rfl (lv_at hl 2 rfl) ?_
          refine lv_iconst (v := 4) hx hb dX10_share_77 (by decide) ?_
          obtain ⟨y16, ey16, hf⟩ := bnd_some hf
          refine k_X10_found X h hA ey16 k_X10_117 dX10_share_78 hl.1 ⟨(Nat.le_of_ble_eq_true rfl), (Nat.le_of_ble_eq_true rfl)⟩ (Nat.le_of_ble_eq_true rfl) ⟨Nat.zero_le _, Nat.zero_le _⟩ (fun H locs h => ?_)
          exact e0_i (Wf := mw G) X.1 hr hlocks hf h dX10_share_81
      · have hf := if_f c12 hf
        refine lv_aload_n hx hb dX10_share_49 rfl (lv_at hl 1 rfl) ?_
        refine lv_iconst (v := 5) hx hb dX10_share_50 (by decide) ?_
        obtain ⟨y17, ey17, hf⟩ := bnd_some hf
        refine k_X10_found X h hA ey17 k_X10_117 dX10_share_51 hl.1 ⟨(Nat.le_of_ble_eq_true rfl), (Nat.le_of_ble_eq_true rfl)⟩ (Nat.le_of_ble_eq_true rfl) ⟨Nat.zero_le _, Nat.zero_le _⟩ (fun H locs h => ?_)
        exact e0_i (Wf := mw G) X.1 hr hlocks hf h dX10_share_54
    · have hf := if_f c10 hf
      refine lv_aload_n hx hb dX10_share_34 rfl (lv_at hl 1 rfl) ?_
      refine lv_iconst (v := 2) hx hb dX10_share_35 (by decide) ?_
      obtain ⟨y18, ey18, hf⟩ := bnd_some hf
      refine k_X10_found X h hA ey18 k_X10_117 dX10_share_36 hl.1 ⟨(Nat.le_of_ble_eq_true rfl), (Nat.le_of_ble_eq_true rfl)⟩ (Nat.le_of_ble_eq_true rfl) ⟨Nat.zero_le _, Nat.zero_le _⟩ (fun H locs h => ?_)
      exact e0_i (Wf := mw G) X.1 hr hlocks hf h dX10_share_39
  · have hf := if_t c7 hf
    refine lv_iconst (v := (-1)) hx hb dX10_share_13 (by decide) ?_
    exact e0_i (Wf := mw G) X.1 hr hlocks hf h dX10_share_14
theorem m_X10_share : Cond.instanceMethod yX10_share ∈ lw_good ∧ Cond.selects RX10 yX10_share yX10_share ∈ lw_good ∧ Cond.initialized RX10 ∈ lw_good ∧ Cond.code yX10_share cX10_share 6 (some .int) ∈ lw_good := by decide +kernel
theorem k_X10_share {p : Program} {l : Launch} {e : Env} {R : Room} {s : State} {m : MethodId} {args : Array Value} {below : List Frame} {meth : Method} {c : Code} {H : Heap} {locs : List Loc} {cells slots : Nat} {Q : State → Prop} {cc : ByteArray} {nL pc idx : Nat} {ls : Array Slot} {rest : List Value} {own : String} {G : Gm} {A : Nat → Prop} {H0 : Heap} {w : MW} {x1 : Int32} {x2 : Int32} {y : Int32 × MW} (X : CX own cc nL G p s m args c) (h : CH G (mw G w) A H0 H locs) (hA : ∀ q, H0.size ≤ q → A q) (hf : f_X10_share x1 x2 w = some y) (hlk : Cond.methodLink own idx yX10_share ∈ lw_good) (hd : decode cc pc = .ok (.invokevirtual idx, 3)) (hsz : ls.size = nL) (hR : 3 ≤ R.frames ∧ 68 ≤ R.locals) (hrest : (rest.map fun v => v.category).sum ≤ 8) (hk : cells ≤ R.cells ∧ slots ≤ R.slots) (k : ∀ (H : Heap) (locs : List Loc), CH G (mw G y.2) A H0 H locs → W p l e R s m args below meth c H locs cells slots Q (F0 m (pc + 3) ls (.int y.1 :: rest))) : W p l e R s m args below meth c H locs cells slots Q (F0 m pc ls (.int x2 :: .int x1 :: .ref (gq G 0) :: rest)) :=
  fin_i (n := 0) (runV (As := [.int x1, .int x2]) X.1 2 (t_X10_share l G w x1 x2 y.1 y.2 hf _) rfl rfl hlk m_X10_share (by decide +kernel) ⟨hR.1, hR.2⟩ ⟨blindM, va_recv X.2.1 h.1 (ci := 9) (q0 := 0) rfl rfl, preM X.2 h⟩ rfl hsz hrest hd hk) h hA (fun _ H locs h => k H locs h)
def f_X10_ask_l2_body (kself : (Int32 → Int32 → Int32 → MW → Option MW)) (x1 : Int32) (x2 : Int32) (x3 : Int32) (w : MW) : Option MW :=
 if ((3 : Int32)) ≤ x3 then
 (some w)
 else
 ((f_X10_wishOf x1 x3 x2 w).bind fun y2 =>
 chk (inb x3 3) (
 kself x1 x2 (x3 + (1 : Int32)) (mst y2.2 13 x3.toNatClampNeg y2.1)))
def f_X10_ask_l2 : Nat → Int32 → Int32 → Int32 → MW → Option MW
  | 0, _, _, _, _ => none
  | n + 1, x1, x2, x3, w => f_X10_ask_l2_body (f_X10_ask_l2 n) x1 x2 x3 w
def f_X10_ask (x1 : Int32) (x2 : Int32) (w : MW) : Option MW :=
 f_X10_ask_l2 FU x1 x2 ((0 : Int32)) w
set_option maxHeartbeats 4000000 in
set_option maxRecDepth 100000 in
theorem t_X10_ask (l : Launch) (G : Gm) (w0 : MW) (x1 : Int32) (x2 : Int32) (w' : MW) (hf : f_X10_ask x1 x2 w0 = some w') : MetV l yX10_ask cX10_ask 4 4 92 G (mw G w0) [.ref (gq G 0), .int x1, .int x2] (fun _ => mw G (w')) 0 := by
  intro sz
  refine ent (own := RX10) (As := [.ref (gq G 0), .int x1, .int x2]) (by decide +kernel) rfl (Nat.le_of_ble_eq_true rfl) (fun _ _ h => h.1) ?_
  intro p e s m args below meth c ls B hr hlocks hv hl
  obtain ⟨-, hsz, hP, hKK, hD⟩ := hv
  subst hsz
  have X : CX RX10 cX10_ask 4 G p s m args c := ⟨B, hKK⟩
  obtain ⟨hx, hb, hml, hown, hts⟩ := id B
  have hA : ∀ q : Nat, s.heap.size ≤ q → va_A (mw G w0) s.heap.size q := fun q z => Or.inr z
  have h : CH G (mw G w0) (va_A (mw G w0) s.heap.size) s.heap s.heap [] := ⟨hP, hD.self, va_S.rf⟩
  have L2 : ∀ (n2 : Nat) (x1 : Int32) (x2 : Int32) (x3 : Int32) (w : MW) (H : Heap) (locs : List Loc) (ls : Array Slot), f_X10_ask_l2 n2 x1 x2 x3 w = some w' → CH G (mw G w) (va_A (mw G w0) s.heap.size) s.heap H locs → lv_has ls 4 [(0, .ref (gq G 0)), (1, .int x1), (2, .int x2), (3, .int x3)] → W p l e { frames := 4, cells := 0, slots := 4096 * 0, locals := 92 } s m args below meth c H locs 0 (4096 * 0) (MQ below (QV G (mw G w0) s.heap.size (fun _ => mw G (w'))) args s 0 (4096 * 0) (va_A (mw G w0) s.heap.size)) (F0 m 2 ls []) := by
    intro n2
    induction n2 with
    | zero =>
      intro x1 x2 x3 w H locs ls hf h hl
      cases (show (none : Option MW) = some _ from hf)
    | succ n2 ih2 =>
      intro x1 x2 x3 w H locs ls hf h hl
      have hf : f_X10_ask_l2_body (f_X10_ask_l2 n2) x1 x2 x3 w = _ := hf
      unfold f_X10_ask_l2_body at hf
      refine lv_iload_n hx hb dX10_ask_2 rfl (lv_at hl 3 rfl) ?_
      refine lv_iconst (v := 3) hx hb dX10_ask_3 (by decide) ?_
      refine lv_icmp_ge (tgt := 26) hx hb dX10_ask_4 (by decide) (fun c1 => ?_) (fun c1 => ?_)
      · have hf := if_t c1 hf
        exact e0_v (Wf := mw G) X.1 hr hlocks hf h dX10_ask_26
      · have hf := if_f c1 hf
        refine lv_aload_n hx hb dX10_ask_7 rfl (lv_at hl 0 rfl) ?_
        refine GM_0_20 X h k_X10_47 dX10_ask_8 ?_
        refine lv_iload_n hx hb dX10_ask_11 rfl (lv_at hl 3 rfl) ?_
        refine lv_aload_n hx hb dX10_ask_12 rfl (lv_at hl 0 rfl) ?_
        refine lv_iload_n hx hb dX10_ask_13 rfl (lv_at hl 1 rfl) ?_
        refine lv_iload_n hx hb dX10_ask_14 rfl (lv_at hl 3 rfl) ?_
        refine lv_iload_n hx hb dX10_ask_15 rfl (lv_at hl 2 rfl) ?_
        obtain ⟨y2, ey2, hf⟩ := bnd_some hf
        refine k_X10_wishOf X h hA ey2 k_X10_98 dX10_ask_16 hl.1 ⟨(Nat.le_of_ble_eq_true rfl), (Nat.le_of_ble_eq_true rfl)⟩ (Nat.le_of_ble_eq_true rfl) ⟨Nat.zero_le _, Nat.zero_le _⟩ (fun H locs h => ?_)
        obtain ⟨c3, hf⟩ := chk_some hf
        refine SM_13 X h c3 dX10_ask_19 (fun H locs h => ?_)
        refine lv_iinc (v := x3 + (1 : Int32)) (lv' := [(3, .int (x3 + (1 : Int32))), (0, .ref (gq G 0)), (1, .int x1), (2, .int x2)]) hx hb dX10_ask_20 hl (k := 3) rfl (by rfl) (by decide) rfl (fun ls hl => ?_)
        refine lv_goto (tgt := 2) hx hb dX10_ask_23 (by decide) ?_
        exact ih2 _ _ _ _ _ _ _ hf h (lv_sub hl [1, 2, 3, 0] rfl)
  obtain ⟨w, rfl⟩ : ∃ z, z = w0 := ⟨_, rfl⟩
  have hl : lv_has ls 4 [(0, .ref (gq G 0)), (1, .int x1), (2, .int x2)] := hl
  unfold f_X10_ask at hf
  refine lv_iconst (v := 0) hx hb dX10_ask_0 (by decide) ?_
  refine lv_istore_n (lv' := [(3, .int ((0 : Int32))), (0, .ref (gq G 0)), (1, .int x1), (2, .int x2)]) hx hb dX10_ask_1 rfl hl (by decide) rfl (fun ls hl => ?_)
  exact L2 FU _ _ _ _ _ _ _ hf h (lv_sub hl [1, 2, 3, 0] rfl)
theorem m_X10_ask : Cond.instanceMethod yX10_ask ∈ lw_good ∧ Cond.selects RX10 yX10_ask yX10_ask ∈ lw_good ∧ Cond.initialized RX10 ∈ lw_good ∧ Cond.code yX10_ask cX10_ask 4 none ∈ lw_good := by decide +kernel
theorem k_X10_ask {p : Program} {l : Launch} {e : Env} {R : Room} {s : State} {m : MethodId} {args : Array Value} {below : List Frame} {meth : Method} {c : Code} {H : Heap} {locs : List Loc} {cells slots : Nat} {Q : State → Prop} {cc : ByteArray} {nL pc idx : Nat} {ls : Array Slot} {rest : List Value} {own : String} {G : Gm} {A : Nat → Prop} {H0 : Heap} {w : MW} {x1 : Int32} {x2 : Int32} {w' : MW} (X : CX own cc nL G p s m args c) (h : CH G (mw G w) A H0 H locs) (hA : ∀ q, H0.size ≤ q → A q) (hf : f_X10_ask x1 x2 w = some w') (hlk : Cond.methodLink own idx yX10_ask ∈ lw_good) (hd : decode cc pc = .ok (.invokevirtual idx, 3)) (hsz : ls.size = nL) (hR : 5 ≤ R.frames ∧ 115 ≤ R.locals) (hrest : (rest.map fun v => v.category).sum ≤ 8) (hk : cells ≤ R.cells ∧ slots ≤ R.slots) (k : ∀ (H : Heap) (locs : List Loc), CH G (mw G (w')) A H0 H locs → W p l e R s m args below meth c H locs cells slots Q (F0 m (pc + 3) ls (rest))) : W p l e R s m args below meth c H locs cells slots Q (F0 m pc ls (.int x2 :: .int x1 :: .ref (gq G 0) :: rest)) :=
  fin_v (n := 0) (runV (As := [.int x1, .int x2]) X.1 2 (t_X10_ask l G w x1 x2 w' hf _) rfl rfl hlk m_X10_ask (by decide +kernel) ⟨hR.1, hR.2⟩ ⟨blindM, va_recv X.2.1 h.1 (ci := 9) (q0 := 0) rfl rfl, preM X.2 h⟩ rfl hsz hrest hd hk) h hA (fun _ H locs h => k H locs h)
def f_X10_ends (x1 : Int32) (w : MW) : Option MW :=
 chk (inb ((11349 : Int32)) 11360) (
 (f_X10_of x1 ((5 : Int32)) w).bind fun y2 =>
 (f_X10_w ((11349 : Int32)) ((w 1 ((11349 : Int32)).toNatClampNeg) + y2) w).bind fun y3 =>
 (f_X10_let x1 ((5 : Int32)) ((0 : Int32)) y3).bind fun y4 =>
 (f_X10_let x1 ((3 : Int32)) ((1 : Int32)) y4).bind fun y5 =>
 (f_X10_let x1 ((4 : Int32)) ((1 : Int32)) y5).bind fun y6 =>
 (f_X10_let x1 ((6 : Int32)) ((0 : Int32)) y6).bind fun y7 =>
 (f_X10_let x1 ((26 : Int32)) ((0 : Int32)) y7).bind fun y8 =>
 (f_X10_let x1 ((30 : Int32)) ((0 : Int32)) y8).bind fun y9 =>
 some y9)
set_option maxHeartbeats 4000000 in
set_option maxRecDepth 100000 in
theorem t_X10_ends (l : Launch) (G : Gm) (w0 : MW) (x1 : Int32) (w' : MW) (hf : f_X10_ends x1 w0 = some w') : MetV l yX10_ends cX10_ends 2 2 45 G (mw G w0) [.ref (gq G 0), .int x1] (fun _ => mw G (w')) 0 := by
  intro sz
  refine ent (own := RX10) (As := [.ref (gq G 0), .int x1]) (by decide +kernel) rfl (Nat.le_of_ble_eq_true rfl) (fun _ _ h => h.1) ?_
  intro p e s m args below meth c ls B hr hlocks hv hl
  obtain ⟨-, hsz, hP, hKK, hD⟩ := hv
  subst hsz
  have X : CX RX10 cX10_ends 2 G p s m args c := ⟨B, hKK⟩
  obtain ⟨hx, hb, hml, hown, hts⟩ := id B
  have hA : ∀ q : Nat, s.heap.size ≤ q → va_A (mw G w0) s.heap.size q := fun q z => Or.inr z
  have h : CH G (mw G w0) (va_A (mw G w0) s.heap.size) s.heap s.heap [] := ⟨hP, hD.self, va_S.rf⟩
  obtain ⟨w, rfl⟩ : ∃ z, z = w0 := ⟨_, rfl⟩
  have hl : lv_has ls 2 [(0, .ref (gq G 0)), (1, .int x1)] := hl
  unfold f_X10_ends at hf
  refine lv_aload_n hx hb dX10_ends_0 rfl (lv_at hl 0 rfl) ?_
  refine lv_sipush (v := 11349) hx hb dX10_ends_1 (by decide) ?_
  refine lv_aload_n hx hb dX10_ends_4 rfl (lv_at hl 0 rfl) ?_
  refine GM_0_1 X h k_X10_7 dX10_ends_5 ?_
  refine lv_sipush (v := 11349) hx hb dX10_ends_8 (by decide) ?_
  obtain ⟨c1, hf⟩ := chk_some hf
  refine LM_1 X h c1 dX10_ends_11 ?_
  refine lv_aload_n hx hb dX10_ends_12 rfl (lv_at hl 0 rfl) ?_
  refine lv_iload_n hx hb dX10_ends_13 rfl (lv_at hl 1 rfl) ?_
  refine lv_iconst (v := 5) hx hb dX10_ends_14 (by decide) ?_
  obtain ⟨y2, ey2, hf⟩ := bnd_some hf
  refine k_X10_of X h ey2 k_X10_75 dX10_ends_15 hl.1 ⟨(Nat.le_of_ble_eq_true rfl), (Nat.le_of_ble_eq_true rfl)⟩ (Nat.le_of_ble_eq_true rfl) ⟨Nat.zero_le _, Nat.zero_le _⟩ ?_
  refine lv_iadd hx hb dX10_ends_18 ?_
  obtain ⟨y3, ey3, hf⟩ := bnd_some hf
  refine k_X10_w X h hA ey3 k_X10_67 dX10_ends_19 hl.1 ⟨(Nat.le_of_ble_eq_true rfl), (Nat.le_of_ble_eq_true rfl)⟩ (Nat.le_of_ble_eq_true rfl) ⟨Nat.zero_le _, Nat.zero_le _⟩ (fun H locs h => ?_)
  refine lv_aload_n hx hb dX10_ends_22 rfl (lv_at hl 0 rfl) ?_
  refine lv_iload_n hx hb dX10_ends_23 rfl (lv_at hl 1 rfl) ?_
  refine lv_iconst (v := 5) hx hb dX10_ends_24 (by decide) ?_
  refine lv_iconst (v := 0) hx hb dX10_ends_25 (by decide) ?_
  obtain ⟨y4, ey4, hf⟩ := bnd_some hf
  refine k_X10_let X h hA ey4 k_X10_113 dX10_ends_26 hl.1 ⟨(Nat.le_of_ble_eq_true rfl), (Nat.le_of_ble_eq_true rfl)⟩ (Nat.le_of_ble_eq_true rfl) ⟨Nat.zero_le _, Nat.zero_le _⟩ (fun H locs h => ?_)
  refine lv_aload_n hx hb dX10_ends_29 rfl (lv_at hl 0 rfl) ?_
  refine lv_iload_n hx hb dX10_ends_30 rfl (lv_at hl 1 rfl) ?_
  refine lv_iconst (v := 3) hx hb dX10_ends_31 (by decide) ?_
  refine lv_iconst (v := 1) hx hb dX10_ends_32 (by decide) ?_
  obtain ⟨y5, ey5, hf⟩ := bnd_some hf
  refine k_X10_let X h hA ey5 k_X10_113 dX10_ends_33 hl.1 ⟨(Nat.le_of_ble_eq_true rfl), (Nat.le_of_ble_eq_true rfl)⟩ (Nat.le_of_ble_eq_true rfl) ⟨Nat.zero_le _, Nat.zero_le _⟩ (fun H locs h => ?_)
  refine lv_aload_n hx hb dX10_ends_36 rfl (lv_at hl 0 rfl) ?_
  refine lv_iload_n hx hb dX10_ends_37 rfl (lv_at hl 1 rfl) ?_
  refine lv_iconst (v := 4) hx hb dX10_ends_38 (by decide) ?_
  refine lv_iconst (v := 1) hx hb dX10_ends_39 (by decide) ?_
  obtain ⟨y6, ey6, hf⟩ := bnd_some hf
  refine k_X10_let X h hA ey6 k_X10_113 dX10_ends_40 hl.1 ⟨(Nat.le_of_ble_eq_true rfl), (Nat.le_of_ble_eq_true rfl)⟩ (Nat.le_of_ble_eq_true rfl) ⟨Nat.zero_le _, Nat.zero_le _⟩ (fun H locs h => ?_)
  refine lv_aload_n hx hb dX10_ends_43 rfl (lv_at hl 0 rfl) ?_
  refine lv_iload_n hx hb dX10_ends_44 rfl (lv_at hl 1 rfl) ?_
  refine lv_bipush (v := 6) hx hb dX10_ends_45 (by decide) ?_
  refine lv_iconst (v := 0) hx hb dX10_ends_47 (by decide) ?_
  obtain ⟨y7, ey7, hf⟩ := bnd_some hf
  refine k_X10_let X h hA ey7 k_X10_113 dX10_ends_48 hl.1 ⟨(Nat.le_of_ble_eq_true rfl), (Nat.le_of_ble_eq_true rfl)⟩ (Nat.le_of_ble_eq_true rfl) ⟨Nat.zero_le _, Nat.zero_le _⟩ (fun H locs h => ?_)
  refine lv_aload_n hx hb dX10_ends_51 rfl (lv_at hl 0 rfl) ?_
  refine lv_iload_n hx hb dX10_ends_52 rfl (lv_at hl 1 rfl) ?_
  refine lv_bipush (v := 26) hx hb dX10_ends_53 (by decide) ?_
  refine lv_iconst (v := 0) hx hb dX10_ends_55 (by decide) ?_
  obtain ⟨y8, ey8, hf⟩ := bnd_some hf
  refine k_X10_let X h hA ey8 k_X10_113 dX10_ends_56 hl.1 ⟨(Nat.le_of_ble_eq_true rfl), (Nat.le_of_ble_eq_true rfl)⟩ (Nat.le_of_ble_eq_true rfl) ⟨Nat.zero_le _, Nat.zero_le _⟩ (fun H locs h => ?_)
  refine lv_aload_n hx hb dX10_ends_59 rfl (lv_at hl 0 rfl) ?_
  refine lv_iload_n hx hb dX10_ends_60 rfl (lv_at hl 1 rfl) ?_
  refine lv_bipush (v := 30) hx hb dX10_ends_61 (by decide) ?_
  refine lv_iconst (v := 0) hx hb dX10_ends_63 (by decide) ?_
  obtain ⟨y9, ey9, hf⟩ := bnd_some hf
  refine k_X10_let X h hA ey9 k_X10_113 dX10_ends_64 hl.1 ⟨(Nat.le_of_ble_eq_true rfl), (Nat.le_of_ble_eq_true rfl)⟩ (Nat.le_of_ble_eq_true rfl) ⟨Nat.zero_le _, Nat.zero_le _⟩ (fun H locs h => ?_)
  exact e0_v (Wf := mw G) X.1 hr hlocks hf h dX10_ends_67
theorem m_X10_ends : Cond.instanceMethod yX10_ends ∈ lw_good ∧ Cond.selects RX10 yX10_ends yX10_ends ∈ lw_good ∧ Cond.initialized RX10 ∈ lw_good ∧ Cond.code yX10_ends cX10_ends 2 none ∈ lw_good := by decide +kernel
theorem k_X10_ends {p : Program} {l : Launch} {e : Env} {R : Room} {s : State} {m : MethodId} {args : Array Value} {below : List Frame} {meth : Method} {c : Code} {H : Heap} {locs : List Loc} {cells slots : Nat} {Q : State → Prop} {cc : ByteArray} {nL pc idx : Nat} {ls : Array Slot} {rest : List Value} {own : String} {G : Gm} {A : Nat → Prop} {H0 : Heap} {w : MW} {x1 : Int32} {w' : MW} (X : CX own cc nL G p s m args c) (h : CH G (mw G w) A H0 H locs) (hA : ∀ q, H0.size ≤ q → A q) (hf : f_X10_ends x1 w = some w') (hlk : Cond.methodLink own idx yX10_ends ∈ lw_good) (hd : decode cc pc = .ok (.invokevirtual idx, 3)) (hsz : ls.size = nL) (hR : 3 ≤ R.frames ∧ 66 ≤ R.locals) (hrest : (rest.map fun v => v.category).sum ≤ 8) (hk : cells ≤ R.cells ∧ slots ≤ R.slots) (k : ∀ (H : Heap) (locs : List Loc), CH G (mw G (w')) A H0 H locs → W p l e R s m args below meth c H locs cells slots Q (F0 m (pc + 3) ls (rest))) : W p l e R s m args below meth c H locs cells slots Q (F0 m pc ls (.int x1 :: .ref (gq G 0) :: rest)) :=
  fin_v (n := 0) (runV (As := [.int x1]) X.1 1 (t_X10_ends l G w x1 w' hf _) rfl rfl hlk m_X10_ends (by decide +kernel) ⟨hR.1, hR.2⟩ ⟨blindM, va_recv X.2.1 h.1 (ci := 9) (q0 := 0) rfl rfl, preM X.2 h⟩ rfl hsz hrest hd hk) h hA (fun _ H locs h => k H locs h)
def f_X10_leftOf_l31_body (kself : (Int32 → Int32 → Int32 → MW → Option Int32)) (x1 : Int32) (x2 : Int32) (x3 : Int32) (w : MW) : Option Int32 :=
 (f_X10_of x1 ((27 : Int32)) w).bind fun y1 =>
 if y1 ≤ x3 then
 (some x2)
 else
 ((f_X10_of x1 (((71 : Int32)) + x3) w).bind fun y3 =>
 kself x1 (x2 + y3) (x3 + (1 : Int32)) w)
def f_X10_leftOf_l31 : Nat → Int32 → Int32 → Int32 → MW → Option Int32
  | 0, _, _, _, _ => none
  | n + 1, x1, x2, x3, w => f_X10_leftOf_l31_body (f_X10_leftOf_l31 n) x1 x2 x3 w
def f_X10_leftOf (x1 : Int32) (w : MW) : Option Int32 :=
 (f_X10_of x1 ((26 : Int32)) w).bind fun y4 =>
 if y4 = ((1 : Int32)) then
 ((f_X10_of x1 ((29 : Int32)) w).bind fun y6 =>
 (f_X10_of x1 ((28 : Int32)) w).bind fun y7 =>
 f_X10_leftOf_l31 FU x1 y6 (y7 + ((1 : Int32))) w)
 else
 (some ((0 : Int32)))
set_option maxHeartbeats 4000000 in
set_option maxRecDepth 100000 in
theorem t_X10_leftOf (l : Launch) (G : Gm) (w : MW) (x1 : Int32) (r : Int32) (hf : f_X10_leftOf x1 w = some r) : MetR l yX10_leftOf cX10_leftOf 4 (some .int) 1 22 G (mw G w) [.ref (gq G 0), .int x1] (.int r) := by
  refine ent (own := RX10) (As := [.ref (gq G 0), .int x1]) (by decide +kernel) rfl (Nat.le_of_ble_eq_true rfl) (fun _ _ h => h.1) ?_
  intro p e s m args below meth c ls B hr hlocks hv hl
  obtain ⟨-, hP, hKK, hD⟩ := hv
  have X : CX RX10 cX10_leftOf 4 G p s m args c := ⟨B, hKK⟩
  obtain ⟨hx, hb, hml, hown, hts⟩ := id B
  have h : CH G (mw G w) (fun _ => True) s.heap s.heap [] := ⟨hP, hD, va_S.rf⟩
  have L31 : ∀ (n31 : Nat) (x1 : Int32) (x2 : Int32) (x3 : Int32) (ls : Array Slot), f_X10_leftOf_l31 n31 x1 x2 x3 w = some r → lv_has ls 4 [(0, .ref (gq G 0)), (1, .int x1), (2, .int x2), (3, .int x3)] → W p l e { frames := 1, cells := 0, slots := 0, locals := 22 } s m args below meth c s.heap [] 0 0 (MQ below (QcV (.int r)) args s 0 0 (fun _ => False)) (F0 m 31 ls []) := by
    intro n31
    induction n31 with
    | zero =>
      intro x1 x2 x3 ls hf hl
      cases (show (none : Option Int32) = some _ from hf)
    | succ n31 ih31 =>
      intro x1 x2 x3 ls hf hl
      have hf : f_X10_leftOf_l31_body (f_X10_leftOf_l31 n31) x1 x2 x3 w = _ := hf
      unfold f_X10_leftOf_l31_body at hf
      refine lv_iload_n hx hb dX10_leftOf_31 rfl (lv_at hl 3 rfl) ?_
      refine lv_aload_n hx hb dX10_leftOf_32 rfl (lv_at hl 0 rfl) ?_
      refine lv_iload_n hx hb dX10_leftOf_33 rfl (lv_at hl 1 rfl) ?_
      refine lv_bipush (v := 27) hx hb dX10_leftOf_34 (by decide) ?_
      obtain ⟨y1, ey1, hf⟩ := bnd_some hf
      refine k_X10_of X h ey1 k_X10_75 dX10_leftOf_36 hl.1 ⟨(Nat.le_of_ble_eq_true rfl), (Nat.le_of_ble_eq_true rfl)⟩ (Nat.le_of_ble_eq_true rfl) ⟨Nat.zero_le _, Nat.zero_le _⟩ ?_
      refine lv_icmp_ge (tgt := 60) hx hb dX10_leftOf_39 (by decide) (fun c2 => ?_) (fun c2 => ?_)
      · have hf := if_t c2 hf
        refine lv_iload_n hx hb dX10_leftOf_60 rfl (lv_at hl 2 rfl) ?_
        cases hf
        exact rr_i X.1 hr hlocks dX10_leftOf_61
      · have hf := if_f c2 hf
        refine lv_iload_n hx hb dX10_leftOf_42 rfl (lv_at hl 2 rfl) ?_
        refine lv_aload_n hx hb dX10_leftOf_43 rfl (lv_at hl 0 rfl) ?_
        refine lv_iload_n hx hb dX10_leftOf_44 rfl (lv_at hl 1 rfl) ?_
        refine lv_bipush (v := 71) hx hb dX10_leftOf_45 (by decide) ?_
        refine lv_iload_n hx hb dX10_leftOf_47 rfl (lv_at hl 3 rfl) ?_
        refine lv_iadd hx hb dX10_leftOf_48 ?_
        obtain ⟨y3, ey3, hf⟩ := bnd_some hf
        refine k_X10_of X h ey3 k_X10_75 dX10_leftOf_49 hl.1 ⟨(Nat.le_of_ble_eq_true rfl), (Nat.le_of_ble_eq_true rfl)⟩ (Nat.le_of_ble_eq_true rfl) ⟨Nat.zero_le _, Nat.zero_le _⟩ ?_
        refine lv_iadd hx hb dX10_leftOf_52 ?_
        refine lv_istore_n (lv' := [(2, .int (x2 + y3)), (0, .ref (gq G 0)), (1, .int x1), (3, .int x3)]) hx hb dX10_leftOf_53 rfl hl (by decide) rfl (fun ls hl => ?_)
        refine lv_iinc (v := x3 + (1 : Int32)) (lv' := [(3, .int (x3 + (1 : Int32))), (2, .int (x2 + y3)), (0, .ref (gq G 0)), (1, .int x1)]) hx hb dX10_leftOf_54 hl (k := 3) rfl (by rfl) (by decide) rfl (fun ls hl => ?_)
        refine lv_goto (tgt := 31) hx hb dX10_leftOf_57 (by decide) ?_
        exact ih31 _ _ _ _ hf (lv_sub hl [2, 3, 1, 0] rfl)
  have hl : lv_has ls 4 [(0, .ref (gq G 0)), (1, .int x1)] := hl
  unfold f_X10_leftOf at hf
  refine lv_iconst (v := 0) hx hb dX10_leftOf_0 (by decide) ?_
  refine lv_istore_n (lv' := [(2, .int ((0 : Int32))), (0, .ref (gq G 0)), (1, .int x1)]) hx hb dX10_leftOf_1 rfl hl (by decide) rfl (fun ls hl => ?_)
  refine lv_aload_n hx hb dX10_leftOf_2 rfl (lv_at hl 1 rfl) ?_
  refine lv_iload_n hx hb dX10_leftOf_3 rfl (lv_at hl 2 rfl) ?_
  refine lv_bipush (v := 26) hx hb dX10_leftOf_4 (by decide) ?_
  obtain ⟨y4, ey4, hf⟩ := bnd_some hf
  refine k_X10_of X h ey4 k_X10_75 dX10_leftOf_6 hl.1 ⟨(Nat.le_of_ble_eq_true rfl), (Nat.le_of_ble_eq_true rfl)⟩ (Nat.le_of_ble_eq_true rfl) ⟨Nat.zero_le _, Nat.zero_le _⟩ ?_
  refine lv_iconst (v := 1) hx hb dX10_leftOf_9 (by decide) ?_
  refine lv_icmp_ne (tgt := 60) hx hb dX10_leftOf_10 (by decide) (fun c5 => ?_) (fun c5 => ?_)
  · have hf := if_f c5 hf
    refine lv_iload_n hx hb dX10_leftOf_60 rfl (lv_at hl 0 rfl) ?_
    cases hf
    exact rr_i X.1 hr hlocks dX10_leftOf_61
  · have hf := if_t c5 hf
    refine lv_aload_n hx hb dX10_leftOf_13 rfl (lv_at hl 1 rfl) ?_
    refine lv_iload_n hx hb dX10_leftOf_14 rfl (lv_at hl 2 rfl) ?_
    refine lv_bipush (v := 29) hx hb dX10_leftOf_15 (by decide) ?_
    obtain ⟨y6, ey6, hf⟩ := bnd_some hf
    refine k_X10_of X h ey6 k_X10_75 dX10_leftOf_17 hl.1 ⟨(Nat.le_of_ble_eq_true rfl), (Nat.le_of_ble_eq_true rfl)⟩ (Nat.le_of_ble_eq_true rfl) ⟨Nat.zero_le _, Nat.zero_le _⟩ ?_
    refine lv_istore_n (lv' := [(2, .int y6), (0, .ref (gq G 0)), (1, .int x1)]) hx hb dX10_leftOf_20 rfl hl (by decide) rfl (fun ls hl => ?_)
    refine lv_aload_n hx hb dX10_leftOf_21 rfl (lv_at hl 1 rfl) ?_
    refine lv_iload_n hx hb dX10_leftOf_22 rfl (lv_at hl 2 rfl) ?_
    refine lv_bipush (v := 28) hx hb dX10_leftOf_23 (by decide) ?_
    obtain ⟨y7, ey7, hf⟩ := bnd_some hf
    refine k_X10_of X h ey7 k_X10_75 dX10_leftOf_25 hl.1 ⟨(Nat.le_of_ble_eq_true rfl), (Nat.le_of_ble_eq_true rfl)⟩ (Nat.le_of_ble_eq_true rfl) ⟨Nat.zero_le _, Nat.zero_le _⟩ ?_
    refine lv_iconst (v := 1) hx hb dX10_leftOf_28 (by decide) ?_
    refine lv_iadd hx hb dX10_leftOf_29 ?_
    refine lv_istore_n (lv' := [(3, .int (y7 + ((1 : Int32)))), (2, .int y6), (0, .ref (gq G 0)), (1, .int x1)]) hx hb dX10_leftOf_30 rfl hl (by decide) rfl (fun ls hl => ?_)
    exact L31 FU _ _ _ _ hf (lv_sub hl [2, 3, 1, 0] rfl)
theorem m_X10_leftOf : Cond.instanceMethod yX10_leftOf ∈ lw_good ∧ Cond.selects RX10 yX10_leftOf yX10_leftOf ∈ lw_good ∧ Cond.initialized RX10 ∈ lw_good ∧ Cond.code yX10_leftOf cX10_leftOf 4 (some .int) ∈ lw_good := by decide +kernel
theorem k_X10_leftOf {p : Program} {l : Launch} {e : Env} {R : Room} {s : State} {m : MethodId} {args : Array Value} {below : List Frame} {meth : Method} {c : Code} {H : Heap} {locs : List Loc} {cells slots : Nat} {Q : State → Prop} {cc : ByteArray} {nL pc idx : Nat} {ls : Array Slot} {rest : List Value} {own : String} {G : Gm} {A : Nat → Prop} {H0 : Heap} {w : MW} {x1 : Int32} {r : Int32} (X : CX own cc nL G p s m args c) (h : CH G (mw G w) A H0 H locs) (hf : f_X10_leftOf x1 w = some r) (hlk : Cond.methodLink own idx yX10_leftOf ∈ lw_good) (hd : decode cc pc = .ok (.invokevirtual idx, 3)) (hsz : ls.size = nL) (hR : 2 ≤ R.frames ∧ 45 ≤ R.locals) (hrest : (rest.map fun v => v.category).sum ≤ 8) (hk : cells ≤ R.cells ∧ slots ≤ R.slots) (k : W p l e R s m args below meth c H locs cells slots Q (F0 m (pc + 3) ls (.int r :: rest))) : W p l e R s m args below meth c H locs cells slots Q (F0 m pc ls (.int x1 :: .ref (gq G 0) :: rest)) :=
  fin_r (runV (As := [.int x1]) X.1 1 (t_X10_leftOf l G w x1 r hf) rfl rfl hlk m_X10_leftOf (by decide +kernel) ⟨hR.1, hR.2⟩ ⟨blindR, va_recv X.2.1 h.1 (ci := 9) (q0 := 0) rfl rfl, preR X.2 h⟩ rfl hsz hrest hd hk) k
def f_X10_against_l71_body (kself : (Int32 → Int32 → Int32 → MW → Option (Int32 × MW))) (x1 : Int32) (x3 : Int32) (x4 : Int32) (w : MW) : Option (Int32 × MW) :=
 chk (inb (x3 + ((1 : Int32))) 11360) (
 if (w 1 (x3 + ((1 : Int32))).toNatClampNeg) ≤ x4 then
 (some ((0 : Int32), w))
 else
 (chk (inb ((x3 + ((2 : Int32))) + x4) 11360) (
 (f_X10_kindOf x1 w).bind fun y4 =>
 (f_X10_canDo y4 (w 1 ((x3 + ((2 : Int32))) + x4).toNatClampNeg)).bind fun y5 =>
 if y5 = 0 then
 (some ((5 : Int32), w))
 else
 ((f_X10_ask x1 (w 1 ((x3 + ((2 : Int32))) + x4).toNatClampNeg) w).bind fun y7 =>
 chk (inb ((0 : Int32)) 3) (
 chk (inb ((11353 : Int32)) 11360) (
 if (y7 1 ((11353 : Int32)).toNatClampNeg) < (y7 13 ((0 : Int32)).toNatClampNeg) then
 (some ((12 : Int32), y7))
 else
 (chk (inb ((1 : Int32)) 3) (
 chk (inb ((11354 : Int32)) 11360) (
 if (y7 1 ((11354 : Int32)).toNatClampNeg) < (y7 13 ((1 : Int32)).toNatClampNeg) then
 (some ((12 : Int32), y7))
 else
 (chk (inb ((2 : Int32)) 3) (
 chk (inb ((11355 : Int32)) 11360) (
 if (y7 13 ((2 : Int32)).toNatClampNeg) ≤ (y7 1 ((11355 : Int32)).toNatClampNeg) then
 (kself x1 x3 (x4 + (1 : Int32)) y7)
 else
 (some ((12 : Int32), y7))))))))))))))
def f_X10_against_l71 : Nat → Int32 → Int32 → Int32 → MW → Option (Int32 × MW)
  | 0, _, _, _, _ => none
  | n + 1, x1, x3, x4, w => f_X10_against_l71_body (f_X10_against_l71 n) x1 x3 x4 w
def f_X10_against (x1 : Int32) (x2 : Int32) (w : MW) : Option (Int32 × MW) :=
 (f_X10_of x1 ((26 : Int32)) w).bind fun y17 =>
 if y17 = ((1 : Int32)) then
 (some ((7 : Int32), w))
 else
 ((f_X10_of x1 ((101 : Int32)) w).bind fun y19 =>
 if y19 = ((1 : Int32)) then
 (some ((7 : Int32), w))
 else
 (chk (inb (((6240 : Int32)) + (((62 : Int32)) * x2)) 11360) (
 if (w 1 (((6240 : Int32)) + (((62 : Int32)) * x2)).toNatClampNeg) = 0 then
 (some ((3 : Int32), w))
 else
 ((f_X10_loadsIn x1 w).bind fun y23 =>
 if y23 = 0 then
 (some ((2 : Int32), w))
 else
 ((f_X10_of x1 ((6 : Int32)) w).bind fun y25 =>
 if y25 = 0 then
 (some ((8 : Int32), w))
 else
 (f_X10_against_l71 FU x1 (((6240 : Int32)) + (((62 : Int32)) * x2)) ((0 : Int32)) w))))))
set_option maxHeartbeats 4000000 in
set_option maxRecDepth 100000 in
theorem t_X10_against (l : Launch) (G : Gm) (w0 : MW) (x1 : Int32) (x2 : Int32) (r : Int32) (w' : MW) (hf : f_X10_against x1 x2 w0 = some (r, w')) : MetI l yX10_against cX10_against 6 (some .int) 5 115 G (mw G w0) [.ref (gq G 0), .int x1, .int x2] r (fun _ => mw G (w')) 0 := by
  intro sz
  refine ent (own := RX10) (As := [.ref (gq G 0), .int x1, .int x2]) (by decide +kernel) rfl (Nat.le_of_ble_eq_true rfl) (fun _ _ h => h.1) ?_
  intro p e s m args below meth c ls B hr hlocks hv hl
  obtain ⟨-, hsz, hP, hKK, hD⟩ := hv
  subst hsz
  have X : CX RX10 cX10_against 6 G p s m args c := ⟨B, hKK⟩
  obtain ⟨hx, hb, hml, hown, hts⟩ := id B
  have hA : ∀ q : Nat, s.heap.size ≤ q → va_A (mw G w0) s.heap.size q := fun q z => Or.inr z
  have h : CH G (mw G w0) (va_A (mw G w0) s.heap.size) s.heap s.heap [] := ⟨hP, hD.self, va_S.rf⟩
  have L71 : ∀ (n71 : Nat) (x1 : Int32) (x3 : Int32) (x4 : Int32) (w : MW) (H : Heap) (locs : List Loc) (ls : Array Slot), f_X10_against_l71 n71 x1 x3 x4 w = some (r, w') → CH G (mw G w) (va_A (mw G w0) s.heap.size) s.heap H locs → lv_has ls 6 [(0, .ref (gq G 0)), (1, .int x1), (3, .int x3), (4, .int x4)] → W p l e { frames := 5, cells := 0, slots := 4096 * 0, locals := 115 } s m args below meth c H locs 0 (4096 * 0) (MQ below (QI G (mw G w0) s.heap.size r (fun _ => mw G (w'))) args s 0 (4096 * 0) (va_A (mw G w0) s.heap.size)) (F0 m 71 ls []) := by
    intro n71
    induction n71 with
    | zero =>
      intro x1 x3 x4 w H locs ls hf h hl
      cases (show (none : Option (Int32 × MW)) = some _ from hf)
    | succ n71 ih71 =>
      intro x1 x3 x4 w H locs ls hf h hl
      have hf : f_X10_against_l71_body (f_X10_against_l71 n71) x1 x3 x4 w = _ := hf
      unfold f_X10_against_l71_body at hf
      refine lv_iload hx hb dX10_against_71 (lv_at hl 3 rfl) ?_
      refine lv_aload_n hx hb dX10_against_73 rfl (lv_at hl 0 rfl) ?_
      refine GM_0_1 X h k_X10_7 dX10_against_74 ?_
      refine lv_iload_n hx hb dX10_against_77 rfl (lv_at hl 2 rfl) ?_
      refine lv_iconst (v := 1) hx hb dX10_against_78 (by decide) ?_
      refine lv_iadd hx hb dX10_against_79 ?_
      obtain ⟨c1, hf⟩ := chk_some hf
      refine LM_1 X h c1 dX10_against_80 ?_
      refine lv_icmp_ge (tgt := 179) hx hb dX10_against_81 (by decide) (fun c2 => ?_) (fun c2 => ?_)
      · have hf := if_t c2 hf
        refine lv_iconst (v := 0) hx hb dX10_against_179 (by decide) ?_
        exact e0_i (Wf := mw G) X.1 hr hlocks hf h dX10_against_180
      · have hf := if_f c2 hf
        refine lv_aload_n hx hb dX10_against_84 rfl (lv_at hl 0 rfl) ?_
        refine GM_0_1 X h k_X10_7 dX10_against_85 ?_
        refine lv_iload_n hx hb dX10_against_88 rfl (lv_at hl 2 rfl) ?_
        refine lv_iconst (v := 2) hx hb dX10_against_89 (by decide) ?_
        refine lv_iadd hx hb dX10_against_90 ?_
        refine lv_iload hx hb dX10_against_91 (lv_at hl 3 rfl) ?_
        refine lv_iadd hx hb dX10_against_93 ?_
        obtain ⟨c3, hf⟩ := chk_some hf
        refine LM_1 X h c3 dX10_against_94 ?_
        refine lv_istore (lv' := [(5, .int (w 1 ((x3 + ((2 : Int32))) + x4).toNatClampNeg)), (0, .ref (gq G 0)), (1, .int x1), (3, .int x3), (4, .int x4)]) hx hb dX10_against_95 hl (by decide) rfl (fun ls hl => ?_)
        refine lv_aload_n hx hb dX10_against_97 rfl (lv_at hl 1 rfl) ?_
        refine lv_iload_n hx hb dX10_against_98 rfl (lv_at hl 2 rfl) ?_
        obtain ⟨y4, ey4, hf⟩ := bnd_some hf
        refine k_X10_kindOf X h ey4 k_X10_79 dX10_against_99 hl.1 ⟨(Nat.le_of_ble_eq_true rfl), (Nat.le_of_ble_eq_true rfl)⟩ (Nat.le_of_ble_eq_true rfl) ⟨Nat.zero_le _, Nat.zero_le _⟩ ?_
        refine lv_iload hx hb dX10_against_102 (lv_at hl 0 rfl) ?_
        obtain ⟨y5, ey5, hf⟩ := bnd_some hf
        refine k_X10_canDo X.1 ey5 k_X10_163 dX10_against_104 hl.1 ⟨(Nat.le_of_ble_eq_true rfl), (Nat.le_of_ble_eq_true rfl)⟩ (Nat.le_of_ble_eq_true rfl) ⟨Nat.zero_le _, Nat.zero_le _⟩ ?_
        refine lv_if_ne (tgt := 112) hx hb dX10_against_107 (by decide) (fun c6 => ?_) (fun c6 => ?_)
        · have hf := if_f c6 hf
          refine lv_aload_n hx hb dX10_against_112 rfl (lv_at hl 1 rfl) ?_
          refine lv_iload_n hx hb dX10_against_113 rfl (lv_at hl 2 rfl) ?_
          refine lv_iload hx hb dX10_against_114 (lv_at hl 0 rfl) ?_
          obtain ⟨y7, ey7, hf⟩ := bnd_some hf
          refine k_X10_ask X h hA ey7 k_X10_166 dX10_against_116 hl.1 ⟨(Nat.le_of_ble_eq_true rfl), (Nat.le_of_ble_eq_true rfl)⟩ (Nat.le_of_ble_eq_true rfl) ⟨Nat.zero_le _, Nat.zero_le _⟩ (fun H locs h => ?_)
          refine lv_aload_n hx hb dX10_against_119 rfl (lv_at hl 1 rfl) ?_
          refine GM_0_20 X h k_X10_47 dX10_against_120 ?_
          refine lv_iconst (v := 0) hx hb dX10_against_123 (by decide) ?_
          obtain ⟨c8, hf⟩ := chk_some hf
          refine LM_13 X h c8 dX10_against_124 ?_
          refine lv_aload_n hx hb dX10_against_125 rfl (lv_at hl 1 rfl) ?_
          refine GM_0_1 X h k_X10_7 dX10_against_126 ?_
          refine lv_sipush (v := 11353) hx hb dX10_against_129 (by decide) ?_
          obtain ⟨c9, hf⟩ := chk_some hf
          refine LM_1 X h c9 dX10_against_132 ?_
          refine lv_icmp_gt (tgt := 170) hx hb dX10_against_133 (by decide) (fun c10 => ?_) (fun c10 => ?_)
          · have hf := if_t c10 hf
            refine lv_bipush (v := 12) hx hb dX10_against_170 (by decide) ?_
            exact e0_i (Wf := mw G) X.1 hr hlocks hf h dX10_against_172
          · have hf := if_f c10 hf
            refine lv_aload_n hx hb dX10_against_136 rfl (lv_at hl 1 rfl) ?_
            refine GM_0_20 X h k_X10_47 dX10_against_137 ?_
            refine lv_iconst (v := 1) hx hb dX10_against_140 (by decide) ?_
            obtain ⟨c11, hf⟩ := chk_some hf
            refine LM_13 X h c11 dX10_against_141 ?_
            refine lv_aload_n hx hb dX10_against_142 rfl (lv_at hl 1 rfl) ?_
            refine GM_0_1 X h k_X10_7 dX10_against_143 ?_
            refine lv_sipush (v := 11354) hx hb dX10_against_146 (by decide) ?_
            obtain ⟨c12, hf⟩ := chk_some hf
            refine LM_1 X h c12 dX10_against_149 ?_
            refine lv_icmp_gt (tgt := 170) hx hb dX10_against_150 (by decide) (fun c13 => ?_) (fun c13 => ?_)
            · have hf := if_t c13 hf
              refine lv_bipush (v := 12) hx hb dX10_against_170 (by decide) ?_
              exact e0_i (Wf := mw G) X.1 hr hlocks hf h dX10_against_172
            · have hf := if_f c13 hf
              refine lv_aload_n hx hb dX10_against_153 rfl (lv_at hl 1 rfl) ?_
              refine GM_0_20 X h k_X10_47 dX10_against_154 ?_
              refine lv_iconst (v := 2) hx hb dX10_against_157 (by decide) ?_
              obtain ⟨c14, hf⟩ := chk_some hf
              refine LM_13 X h c14 dX10_against_158 ?_
              refine lv_aload_n hx hb dX10_against_159 rfl (lv_at hl 1 rfl) ?_
              refine GM_0_1 X h k_X10_7 dX10_against_160 ?_
              refine lv_sipush (v := 11355) hx hb dX10_against_163 (by decide) ?_
              obtain ⟨c15, hf⟩ := chk_some hf
              refine LM_1 X h c15 dX10_against_166 ?_
              refine lv_icmp_le (tgt := 173) hx hb dX10_against_167 (by decide) (fun c16 => ?_) (fun c16 => ?_)
              · have hf := if_t c16 hf
                refine lv_iinc (v := x4 + (1 : Int32)) (lv' := [(4, .int (x4 + (1 : Int32))), (5, .int (w 1 ((x3 + ((2 : Int32))) + x4).toNatClampNeg)), (0, .ref (gq G 0)), (1, .int x1), (3, .int x3)]) hx hb dX10_against_173 hl (k := 4) rfl (by rfl) (by decide) rfl (fun ls hl => ?_)
                refine lv_goto (tgt := 71) hx hb dX10_against_176 (by decide) ?_
                exact ih71 _ _ _ _ _ _ _ hf h (lv_sub hl [2, 3, 4, 0] rfl)
              · have hf := if_f c16 hf
                refine lv_bipush (v := 12) hx hb dX10_against_170 (by decide) ?_
                exact e0_i (Wf := mw G) X.1 hr hlocks hf h dX10_against_172
        · have hf := if_t c6 hf
          refine lv_iconst (v := 5) hx hb dX10_against_110 (by decide) ?_
          exact e0_i (Wf := mw G) X.1 hr hlocks hf h dX10_against_111
  obtain ⟨w, rfl⟩ : ∃ z, z = w0 := ⟨_, rfl⟩
  have hl : lv_has ls 6 [(0, .ref (gq G 0)), (1, .int x1), (2, .int x2)] := hl
  unfold f_X10_against at hf
  refine lv_sipush (v := 6240) hx hb dX10_against_0 (by decide) ?_
  refine lv_bipush (v := 62) hx hb dX10_against_3 (by decide) ?_
  refine lv_iload_n hx hb dX10_against_5 rfl (lv_at hl 2 rfl) ?_
  refine lv_imul hx hb dX10_against_6 ?_
  refine lv_iadd hx hb dX10_against_7 ?_
  refine lv_istore_n (lv' := [(3, .int (((6240 : Int32)) + (((62 : Int32)) * x2))), (0, .ref (gq G 0)), (1, .int x1), (2, .int x2)]) hx hb dX10_against_8 rfl hl (by decide) rfl (fun ls hl => ?_)
  refine lv_aload_n hx hb dX10_against_9 rfl (lv_at hl 1 rfl) ?_
  refine lv_iload_n hx hb dX10_against_10 rfl (lv_at hl 2 rfl) ?_
  refine lv_bipush (v := 26) hx hb dX10_against_11 (by decide) ?_
  obtain ⟨y17, ey17, hf⟩ := bnd_some hf
  refine k_X10_of X h ey17 k_X10_75 dX10_against_13 hl.1 ⟨(Nat.le_of_ble_eq_true rfl), (Nat.le_of_ble_eq_true rfl)⟩ (Nat.le_of_ble_eq_true rfl) ⟨Nat.zero_le _, Nat.zero_le _⟩ ?_
  refine lv_iconst (v := 1) hx hb dX10_against_16 (by decide) ?_
  refine lv_icmp_eq (tgt := 31) hx hb dX10_against_17 (by decide) (fun c18 => ?_) (fun c18 => ?_)
  · have hf := if_t c18 hf
    refine lv_bipush (v := 7) hx hb dX10_against_31 (by decide) ?_
    exact e0_i (Wf := mw G) X.1 hr hlocks hf h dX10_against_33
  · have hf := if_f c18 hf
    refine lv_aload_n hx hb dX10_against_20 rfl (lv_at hl 1 rfl) ?_
    refine lv_iload_n hx hb dX10_against_21 rfl (lv_at hl 2 rfl) ?_
    refine lv_bipush (v := 101) hx hb dX10_against_22 (by decide) ?_
    obtain ⟨y19, ey19, hf⟩ := bnd_some hf
    refine k_X10_of X h ey19 k_X10_75 dX10_against_24 hl.1 ⟨(Nat.le_of_ble_eq_true rfl), (Nat.le_of_ble_eq_true rfl)⟩ (Nat.le_of_ble_eq_true rfl) ⟨Nat.zero_le _, Nat.zero_le _⟩ ?_
    refine lv_iconst (v := 1) hx hb dX10_against_27 (by decide) ?_
    refine lv_icmp_ne (tgt := 34) hx hb dX10_against_28 (by decide) (fun c20 => ?_) (fun c20 => ?_)
    · have hf := if_f c20 hf
      refine lv_aload_n hx hb dX10_against_34 rfl (lv_at hl 1 rfl) ?_
      refine GM_0_1 X h k_X10_7 dX10_against_35 ?_
      refine lv_iload_n hx hb dX10_against_38 rfl (lv_at hl 0 rfl) ?_
      obtain ⟨c21, hf⟩ := chk_some hf
      refine LM_1 X h c21 dX10_against_39 ?_
      refine lv_if_ne (tgt := 45) hx hb dX10_against_40 (by decide) (fun c22 => ?_) (fun c22 => ?_)
      · have hf := if_f c22 hf
        refine lv_aload_n hx hb dX10_against_45 rfl (lv_at hl 1 rfl) ?_
        refine lv_iload_n hx hb dX10_against_46 rfl (lv_at hl 2 rfl) ?_
        obtain ⟨y23, ey23, hf⟩ := bnd_some hf
        refine k_X10_loadsIn X h ey23 k_X10_120 dX10_against_47 hl.1 ⟨(Nat.le_of_ble_eq_true rfl), (Nat.le_of_ble_eq_true rfl)⟩ (Nat.le_of_ble_eq_true rfl) ⟨Nat.zero_le _, Nat.zero_le _⟩ ?_
        refine lv_if_ne (tgt := 55) hx hb dX10_against_50 (by decide) (fun c24 => ?_) (fun c24 => ?_)
        · have hf := if_f c24 hf
          refine lv_aload_n hx hb dX10_against_55 rfl (lv_at hl 1 rfl) ?_
          refine lv_iload_n hx hb dX10_against_56 rfl (lv_at hl 2 rfl) ?_
          refine lv_bipush (v := 6) hx hb dX10_against_57 (by decide) ?_
          obtain ⟨y25, ey25, hf⟩ := bnd_some hf
          refine k_X10_of X h ey25 k_X10_75 dX10_against_59 hl.1 ⟨(Nat.le_of_ble_eq_true rfl), (Nat.le_of_ble_eq_true rfl)⟩ (Nat.le_of_ble_eq_true rfl) ⟨Nat.zero_le _, Nat.zero_le _⟩ ?_
          refine lv_if_ne (tgt := 68) hx hb dX10_against_62 (by decide) (fun c26 => ?_) (fun c26 => ?_)
          · have hf := if_f c26 hf
            refine lv_iconst (v := 0) hx hb dX10_against_68 (by decide) ?_
            refine lv_istore (lv' := [(4, .int ((0 : Int32))), (3, .int (((6240 : Int32)) + (((62 : Int32)) * x2))), (0, .ref (gq G 0)), (1, .int x1), (2, .int x2)]) hx hb dX10_against_69 hl (by decide) rfl (fun ls hl => ?_)
            exact L71 FU _ _ _ _ _ _ _ hf h (lv_sub hl [2, 3, 1, 0] rfl)
          · have hf := if_t c26 hf
            refine lv_bipush (v := 8) hx hb dX10_against_65 (by decide) ?_
            exact e0_i (Wf := mw G) X.1 hr hlocks hf h dX10_against_67
        · have hf := if_t c24 hf
          refine lv_iconst (v := 2) hx hb dX10_against_53 (by decide) ?_
          exact e0_i (Wf := mw G) X.1 hr hlocks hf h dX10_against_54
      · have hf := if_t c22 hf
        refine lv_iconst (v := 3) hx hb dX10_against_43 (by decide) ?_
        exact e0_i (Wf := mw G) X.1 hr hlocks hf h dX10_against_44
    · have hf := if_t c20 hf
      refine lv_bipush (v := 7) hx hb dX10_against_31 (by decide) ?_
      exact e0_i (Wf := mw G) X.1 hr hlocks hf h dX10_against_33
theorem m_X10_against : Cond.instanceMethod yX10_against ∈ lw_good ∧ Cond.selects RX10 yX10_against yX10_against ∈ lw_good ∧ Cond.initialized RX10 ∈ lw_good ∧ Cond.code yX10_against cX10_against 6 (some .int) ∈ lw_good := by decide +kernel
theorem k_X10_against {p : Program} {l : Launch} {e : Env} {R : Room} {s : State} {m : MethodId} {args : Array Value} {below : List Frame} {meth : Method} {c : Code} {H : Heap} {locs : List Loc} {cells slots : Nat} {Q : State → Prop} {cc : ByteArray} {nL pc idx : Nat} {ls : Array Slot} {rest : List Value} {own : String} {G : Gm} {A : Nat → Prop} {H0 : Heap} {w : MW} {x1 : Int32} {x2 : Int32} {y : Int32 × MW} (X : CX own cc nL G p s m args c) (h : CH G (mw G w) A H0 H locs) (hA : ∀ q, H0.size ≤ q → A q) (hf : f_X10_against x1 x2 w = some y) (hlk : Cond.methodLink own idx yX10_against ∈ lw_good) (hd : decode cc pc = .ok (.invokevirtual idx, 3)) (hsz : ls.size = nL) (hR : 6 ≤ R.frames ∧ 140 ≤ R.locals) (hrest : (rest.map fun v => v.category).sum ≤ 8) (hk : cells ≤ R.cells ∧ slots ≤ R.slots) (k : ∀ (H : Heap) (locs : List Loc), CH G (mw G y.2) A H0 H locs → W p l e R s m args below meth c H locs cells slots Q (F0 m (pc + 3) ls (.int y.1 :: rest))) : W p l e R s m args below meth c H locs cells slots Q (F0 m pc ls (.int x2 :: .int x1 :: .ref (gq G 0) :: rest)) :=
  fin_i (n := 0) (runV (As := [.int x1, .int x2]) X.1 2 (t_X10_against l G w x1 x2 y.1 y.2 hf _) rfl rfl hlk m_X10_against (by decide +kernel) ⟨hR.1, hR.2⟩ ⟨blindM, va_recv X.2.1 h.1 (ci := 9) (q0 := 0) rfl rfl, preM X.2 h⟩ rfl hsz hrest hd hk) h hA (fun _ H locs h => k H locs h)
def f_X10_start_l117_body (kself : (Int32 → Int32 → Int32 → Int32 → MW → Option (Int32 × MW))) (x1 : Int32) (x4 : Int32) (x5 : Int32) (x6 : Int32) (w : MW) : Option (Int32 × MW) :=
 if x5 ≤ x6 then
 ((f_X10_let x1 ((27 : Int32)) x5 w).bind fun y2 =>
 (f_X10_let x1 ((28 : Int32)) ((0 : Int32)) y2).bind fun y3 =>
 chk (inb (x4 + ((32 : Int32))) 11360) (
 (f_X10_let x1 ((29 : Int32)) (y3 1 (x4 + ((32 : Int32))).toNatClampNeg) y3).bind fun y5 =>
 (f_X10_let x1 ((30 : Int32)) ((0 : Int32)) y5).bind fun y6 =>
 (f_X10_let x1 ((26 : Int32)) ((1 : Int32)) y6).bind fun y7 =>
 (f_X10_let x1 ((3 : Int32)) ((0 : Int32)) y7).bind fun y8 =>
 (f_X10_let x1 ((4 : Int32)) ((2 : Int32)) y8).bind fun y9 =>
 some ((1 : Int32), y9)))
 else
 (chk (inb ((x4 + ((2 : Int32))) + x6) 11360) (
 (f_X10_let x1 (((41 : Int32)) + x6) (w 1 ((x4 + ((2 : Int32))) + x6).toNatClampNeg) w).bind fun y11 =>
 chk (inb ((x4 + ((32 : Int32))) + x6) 11360) (
 (f_X10_let x1 (((71 : Int32)) + x6) (y11 1 ((x4 + ((32 : Int32))) + x6).toNatClampNeg) y11).bind fun y13 =>
 kself x1 x4 x5 (x6 + (1 : Int32)) y13)))
def f_X10_start_l117 : Nat → Int32 → Int32 → Int32 → Int32 → MW → Option (Int32 × MW)
  | 0, _, _, _, _, _ => none
  | n + 1, x1, x4, x5, x6, w => f_X10_start_l117_body (f_X10_start_l117 n) x1 x4 x5 x6 w
def f_X10_start (x1 : Int32) (x2 : Int32) (w : MW) : Option (Int32 × MW) :=
 (f_X10_isPlace x1).bind fun y14 =>
 if y14 = 0 then
 (some ((-1 : Int32), mst w 0 0 ((0 : Int32))))
 else
 ((f_X10_isProgram x2).bind fun y16 =>
 if y16 = 0 then
 (some ((-1 : Int32), mst w 0 0 ((0 : Int32))))
 else
 ((f_X10_isThere x1 (mst w 0 0 ((0 : Int32)))).bind fun y18 =>
 if y18 = 0 then
 ((f_X10_found ((1 : Int32)) (mst w 0 0 ((0 : Int32)))).bind fun y31 =>
 some (y31.1, y31.2))
 else
 ((f_X10_touch x1 (mst w 0 0 ((0 : Int32)))).bind fun y20 =>
 (f_X10_against x1 x2 y20).bind fun y21 =>
 if y21.1 ≤ 0 then
 (chk (inb ((((6240 : Int32)) + (((62 : Int32)) * x2)) + ((1 : Int32))) 11360) (
 (some (y21.2 1 ((((6240 : Int32)) + (((62 : Int32)) * x2)) + ((1 : Int32))).toNatClampNeg)).bind fun z24 =>
 (f_X10_w ((11356 : Int32)) ((1 : Int32)) y21.2).bind fun y25 =>
 (f_X10_of x1 ((38 : Int32)) y25).bind fun y26 =>
 (f_X10_let x1 ((38 : Int32)) (y26 + ((1 : Int32))) y25).bind fun y27 =>
 if z24 = 0 then
 ((f_X10_ends x1 y27).bind fun y29 =>
 some ((1 : Int32), y29))
 else
 (f_X10_start_l117 FU x1 (((6240 : Int32)) + (((62 : Int32)) * x2)) z24 ((0 : Int32)) y27)))
 else
 ((f_X10_found y21.1 y21.2).bind fun y30 =>
 some (y30.1, y30.2)))))
set_option maxHeartbeats 4000000 in
set_option maxRecDepth 100000 in
theorem t_X10_start (l : Launch) (G : Gm) (w0 : MW) (x1 : Int32) (x2 : Int32) (r : Int32) (w' : MW) (hf : f_X10_start x1 x2 w0 = some (r, w')) : MetI l yX10_start cX10_start 7 (some .int) 6 140 G (mw G w0) [.ref (gq G 0), .int x1, .int x2] r (fun _ => mw G (w')) 0 := by
  intro sz
  refine ent (own := RX10) (As := [.ref (gq G 0), .int x1, .int x2]) (by decide +kernel) rfl (Nat.le_of_ble_eq_true rfl) (fun _ _ h => h.1) ?_
  intro p e s m args below meth c ls B hr hlocks hv hl
  obtain ⟨-, hsz, hP, hKK, hD⟩ := hv
  subst hsz
  have X : CX RX10 cX10_start 7 G p s m args c := ⟨B, hKK⟩
  obtain ⟨hx, hb, hml, hown, hts⟩ := id B
  have hA : ∀ q : Nat, s.heap.size ≤ q → va_A (mw G w0) s.heap.size q := fun q z => Or.inr z
  have h : CH G (mw G w0) (va_A (mw G w0) s.heap.size) s.heap s.heap [] := ⟨hP, hD.self, va_S.rf⟩
  have L117 : ∀ (n117 : Nat) (x1 : Int32) (x4 : Int32) (x5 : Int32) (x6 : Int32) (w : MW) (H : Heap) (locs : List Loc) (ls : Array Slot), f_X10_start_l117 n117 x1 x4 x5 x6 w = some (r, w') → CH G (mw G w) (va_A (mw G w0) s.heap.size) s.heap H locs → lv_has ls 7 [(0, .ref (gq G 0)), (1, .int x1), (4, .int x4), (5, .int x5), (6, .int x6)] → W p l e { frames := 6, cells := 0, slots := 4096 * 0, locals := 140 } s m args below meth c H locs 0 (4096 * 0) (MQ below (QI G (mw G w0) s.heap.size r (fun _ => mw G (w'))) args s 0 (4096 * 0) (va_A (mw G w0) s.heap.size)) (F0 m 117 ls []) := by
    intro n117
    induction n117 with
    | zero =>
      intro x1 x4 x5 x6 w H locs ls hf h hl
      cases (show (none : Option (Int32 × MW)) = some _ from hf)
    | succ n117 ih117 =>
      intro x1 x4 x5 x6 w H locs ls hf h hl
      have hf : f_X10_start_l117_body (f_X10_start_l117 n117) x1 x4 x5 x6 w = _ := hf
      unfold f_X10_start_l117_body at hf
      refine lv_iload hx hb dX10_start_117 (lv_at hl 4 rfl) ?_
      refine lv_iload hx hb dX10_start_119 (lv_at hl 3 rfl) ?_
      refine lv_icmp_ge (tgt := 175) hx hb dX10_start_121 (by decide) (fun c1 => ?_) (fun c1 => ?_)
      · have hf := if_t c1 hf
        refine lv_aload_n hx hb dX10_start_175 rfl (lv_at hl 0 rfl) ?_
        refine lv_iload_n hx hb dX10_start_176 rfl (lv_at hl 1 rfl) ?_
        refine lv_bipush (v := 27) hx hb dX10_start_177 (by decide) ?_
        refine lv_iload hx hb dX10_start_179 (lv_at hl 3 rfl) ?_
        obtain ⟨y2, ey2, hf⟩ := bnd_some hf
        refine k_X10_let X h hA ey2 k_X10_113 dX10_start_181 hl.1 ⟨(Nat.le_of_ble_eq_true rfl), (Nat.le_of_ble_eq_true rfl)⟩ (Nat.le_of_ble_eq_true rfl) ⟨Nat.zero_le _, Nat.zero_le _⟩ (fun H locs h => ?_)
        refine lv_aload_n hx hb dX10_start_184 rfl (lv_at hl 0 rfl) ?_
        refine lv_iload_n hx hb dX10_start_185 rfl (lv_at hl 1 rfl) ?_
        refine lv_bipush (v := 28) hx hb dX10_start_186 (by decide) ?_
        refine lv_iconst (v := 0) hx hb dX10_start_188 (by decide) ?_
        obtain ⟨y3, ey3, hf⟩ := bnd_some hf
        refine k_X10_let X h hA ey3 k_X10_113 dX10_start_189 hl.1 ⟨(Nat.le_of_ble_eq_true rfl), (Nat.le_of_ble_eq_true rfl)⟩ (Nat.le_of_ble_eq_true rfl) ⟨Nat.zero_le _, Nat.zero_le _⟩ (fun H locs h => ?_)
        refine lv_aload_n hx hb dX10_start_192 rfl (lv_at hl 0 rfl) ?_
        refine lv_iload_n hx hb dX10_start_193 rfl (lv_at hl 1 rfl) ?_
        refine lv_bipush (v := 29) hx hb dX10_start_194 (by decide) ?_
        refine lv_aload_n hx hb dX10_start_196 rfl (lv_at hl 0 rfl) ?_
        refine GM_0_1 X h k_X10_7 dX10_start_197 ?_
        refine lv_iload hx hb dX10_start_200 (lv_at hl 2 rfl) ?_
        refine lv_bipush (v := 32) hx hb dX10_start_202 (by decide) ?_
        refine lv_iadd hx hb dX10_start_204 ?_
        obtain ⟨c4, hf⟩ := chk_some hf
        refine LM_1 X h c4 dX10_start_205 ?_
        obtain ⟨y5, ey5, hf⟩ := bnd_some hf
        refine k_X10_let X h hA ey5 k_X10_113 dX10_start_206 hl.1 ⟨(Nat.le_of_ble_eq_true rfl), (Nat.le_of_ble_eq_true rfl)⟩ (Nat.le_of_ble_eq_true rfl) ⟨Nat.zero_le _, Nat.zero_le _⟩ (fun H locs h => ?_)
        refine lv_aload_n hx hb dX10_start_209 rfl (lv_at hl 0 rfl) ?_
        refine lv_iload_n hx hb dX10_start_210 rfl (lv_at hl 1 rfl) ?_
        refine lv_bipush (v := 30) hx hb dX10_start_211 (by decide) ?_
        refine lv_iconst (v := 0) hx hb dX10_start_213 (by decide) ?_
        obtain ⟨y6, ey6, hf⟩ := bnd_some hf
        refine k_X10_let X h hA ey6 k_X10_113 dX10_start_214 hl.1 ⟨(Nat.le_of_ble_eq_true rfl), (Nat.le_of_ble_eq_true rfl)⟩ (Nat.le_of_ble_eq_true rfl) ⟨Nat.zero_le _, Nat.zero_le _⟩ (fun H locs h => ?_)
        refine lv_aload_n hx hb dX10_start_217 rfl (lv_at hl 0 rfl) ?_
        refine lv_iload_n hx hb dX10_start_218 rfl (lv_at hl 1 rfl) ?_
        refine lv_bipush (v := 26) hx hb dX10_start_219 (by decide) ?_
        refine lv_iconst (v := 1) hx hb dX10_start_221 (by decide) ?_
        obtain ⟨y7, ey7, hf⟩ := bnd_some hf
        refine k_X10_let X h hA ey7 k_X10_113 dX10_start_222 hl.1 ⟨(Nat.le_of_ble_eq_true rfl), (Nat.le_of_ble_eq_true rfl)⟩ (Nat.le_of_ble_eq_true rfl) ⟨Nat.zero_le _, Nat.zero_le _⟩ (fun H locs h => ?_)
        refine lv_aload_n hx hb dX10_start_225 rfl (lv_at hl 0 rfl) ?_
        refine lv_iload_n hx hb dX10_start_226 rfl (lv_at hl 1 rfl) ?_
        refine lv_iconst (v := 3) hx hb dX10_start_227 (by decide) ?_
        refine lv_iconst (v := 0) hx hb dX10_start_228 (by decide) ?_
        obtain ⟨y8, ey8, hf⟩ := bnd_some hf
        refine k_X10_let X h hA ey8 k_X10_113 dX10_start_229 hl.1 ⟨(Nat.le_of_ble_eq_true rfl), (Nat.le_of_ble_eq_true rfl)⟩ (Nat.le_of_ble_eq_true rfl) ⟨Nat.zero_le _, Nat.zero_le _⟩ (fun H locs h => ?_)
        refine lv_aload_n hx hb dX10_start_232 rfl (lv_at hl 0 rfl) ?_
        refine lv_iload_n hx hb dX10_start_233 rfl (lv_at hl 1 rfl) ?_
        refine lv_iconst (v := 4) hx hb dX10_start_234 (by decide) ?_
        refine lv_iconst (v := 2) hx hb dX10_start_235 (by decide) ?_
        obtain ⟨y9, ey9, hf⟩ := bnd_some hf
        refine k_X10_let X h hA ey9 k_X10_113 dX10_start_236 hl.1 ⟨(Nat.le_of_ble_eq_true rfl), (Nat.le_of_ble_eq_true rfl)⟩ (Nat.le_of_ble_eq_true rfl) ⟨Nat.zero_le _, Nat.zero_le _⟩ (fun H locs h => ?_)
        refine lv_iconst (v := 1) hx hb dX10_start_239 (by decide) ?_
        exact e0_i (Wf := mw G) X.1 hr hlocks hf h dX10_start_240
      · have hf := if_f c1 hf
        refine lv_aload_n hx hb dX10_start_124 rfl (lv_at hl 0 rfl) ?_
        refine lv_iload_n hx hb dX10_start_125 rfl (lv_at hl 1 rfl) ?_
        refine lv_bipush (v := 41) hx hb dX10_start_126 (by decide) ?_
        refine lv_iload hx hb dX10_start_128 (lv_at hl 4 rfl) ?_
        refine lv_iadd hx hb dX10_start_130 ?_
        refine lv_aload_n hx hb dX10_start_131 rfl (lv_at hl 0 rfl) ?_
        refine GM_0_1 X h k_X10_7 dX10_start_132 ?_
        refine lv_iload hx hb dX10_start_135 (lv_at hl 2 rfl) ?_
        refine lv_iconst (v := 2) hx hb dX10_start_137 (by decide) ?_
        refine lv_iadd hx hb dX10_start_138 ?_
        refine lv_iload hx hb dX10_start_139 (lv_at hl 4 rfl) ?_
        refine lv_iadd hx hb dX10_start_141 ?_
        obtain ⟨c10, hf⟩ := chk_some hf
        refine LM_1 X h c10 dX10_start_142 ?_
        obtain ⟨y11, ey11, hf⟩ := bnd_some hf
        refine k_X10_let X h hA ey11 k_X10_113 dX10_start_143 hl.1 ⟨(Nat.le_of_ble_eq_true rfl), (Nat.le_of_ble_eq_true rfl)⟩ (Nat.le_of_ble_eq_true rfl) ⟨Nat.zero_le _, Nat.zero_le _⟩ (fun H locs h => ?_)
        refine lv_aload_n hx hb dX10_start_146 rfl (lv_at hl 0 rfl) ?_
        refine lv_iload_n hx hb dX10_start_147 rfl (lv_at hl 1 rfl) ?_
        refine lv_bipush (v := 71) hx hb dX10_start_148 (by decide) ?_
        refine lv_iload hx hb dX10_start_150 (lv_at hl 4 rfl) ?_
        refine lv_iadd hx hb dX10_start_152 ?_
        refine lv_aload_n hx hb dX10_start_153 rfl (lv_at hl 0 rfl) ?_
        refine GM_0_1 X h k_X10_7 dX10_start_154 ?_
        refine lv_iload hx hb dX10_start_157 (lv_at hl 2 rfl) ?_
        refine lv_bipush (v := 32) hx hb dX10_start_159 (by decide) ?_
        refine lv_iadd hx hb dX10_start_161 ?_
        refine lv_iload hx hb dX10_start_162 (lv_at hl 4 rfl) ?_
        refine lv_iadd hx hb dX10_start_164 ?_
        obtain ⟨c12, hf⟩ := chk_some hf
        refine LM_1 X h c12 dX10_start_165 ?_
        obtain ⟨y13, ey13, hf⟩ := bnd_some hf
        refine k_X10_let X h hA ey13 k_X10_113 dX10_start_166 hl.1 ⟨(Nat.le_of_ble_eq_true rfl), (Nat.le_of_ble_eq_true rfl)⟩ (Nat.le_of_ble_eq_true rfl) ⟨Nat.zero_le _, Nat.zero_le _⟩ (fun H locs h => ?_)
        refine lv_iinc (v := x6 + (1 : Int32)) (lv' := [(6, .int (x6 + (1 : Int32))), (0, .ref (gq G 0)), (1, .int x1), (4, .int x4), (5, .int x5)]) hx hb dX10_start_169 hl (k := 4) rfl (by rfl) (by decide) rfl (fun ls hl => ?_)
        refine lv_goto (tgt := 117) hx hb dX10_start_172 (by decide) ?_
        exact ih117 _ _ _ _ _ _ _ _ hf h (lv_sub hl [1, 2, 3, 4, 0] rfl)
  obtain ⟨w, rfl⟩ : ∃ z, z = w0 := ⟨_, rfl⟩
  have hl : lv_has ls 7 [(0, .ref (gq G 0)), (1, .int x1), (2, .int x2)] := hl
  unfold f_X10_start at hf
  refine lv_aload_n hx hb dX10_start_0 rfl (lv_at hl 0 rfl) ?_
  refine lv_iconst (v := 0) hx hb dX10_start_1 (by decide) ?_
  refine PM_0_0 X h k_X10_53 dX10_start_2 (fun H locs h => ?_)
  refine lv_iload_n hx hb dX10_start_5 rfl (lv_at hl 1 rfl) ?_
  obtain ⟨y14, ey14, hf⟩ := bnd_some hf
  refine k_X10_isPlace X.1 ey14 k_X10_106 dX10_start_6 hl.1 ⟨(Nat.le_of_ble_eq_true rfl), (Nat.le_of_ble_eq_true rfl)⟩ (Nat.le_of_ble_eq_true rfl) ⟨Nat.zero_le _, Nat.zero_le _⟩ ?_
  refine lv_if_eq (tgt := 19) hx hb dX10_start_9 (by decide) (fun c15 => ?_) (fun c15 => ?_)
  · have hf := if_t c15 hf
    refine lv_iconst (v := (-1)) hx hb dX10_start_19 (by decide) ?_
    exact e0_i (Wf := mw G) X.1 hr hlocks hf h dX10_start_20
  · have hf := if_f c15 hf
    refine lv_iload_n hx hb dX10_start_12 rfl (lv_at hl 2 rfl) ?_
    obtain ⟨y16, ey16, hf⟩ := bnd_some hf
    refine k_X10_isProgram X.1 ey16 k_X10_132 dX10_start_13 hl.1 ⟨(Nat.le_of_ble_eq_true rfl), (Nat.le_of_ble_eq_true rfl)⟩ (Nat.le_of_ble_eq_true rfl) ⟨Nat.zero_le _, Nat.zero_le _⟩ ?_
    refine lv_if_ne (tgt := 21) hx hb dX10_start_16 (by decide) (fun c17 => ?_) (fun c17 => ?_)
    · have hf := if_f c17 hf
      refine lv_aload_n hx hb dX10_start_21 rfl (lv_at hl 0 rfl) ?_
      refine lv_iload_n hx hb dX10_start_22 rfl (lv_at hl 1 rfl) ?_
      obtain ⟨y18, ey18, hf⟩ := bnd_some hf
      refine k_X10_isThere X h ey18 k_X10_110 dX10_start_23 hl.1 ⟨(Nat.le_of_ble_eq_true rfl), (Nat.le_of_ble_eq_true rfl)⟩ (Nat.le_of_ble_eq_true rfl) ⟨Nat.zero_le _, Nat.zero_le _⟩ ?_
      refine lv_if_ne (tgt := 35) hx hb dX10_start_26 (by decide) (fun c19 => ?_) (fun c19 => ?_)
      · have hf := if_f c19 hf
        refine lv_aload_n hx hb dX10_start_35 rfl (lv_at hl 0 rfl) ?_
        refine lv_iload_n hx hb dX10_start_36 rfl (lv_at hl 1 rfl) ?_
        obtain ⟨y20, ey20, hf⟩ := bnd_some hf
        refine k_X10_touch X h hA ey20 k_X10_145 dX10_start_37 hl.1 ⟨(Nat.le_of_ble_eq_true rfl), (Nat.le_of_ble_eq_true rfl)⟩ (Nat.le_of_ble_eq_true rfl) ⟨Nat.zero_le _, Nat.zero_le _⟩ (fun H locs h => ?_)
        refine lv_aload_n hx hb dX10_start_40 rfl (lv_at hl 0 rfl) ?_
        refine lv_iload_n hx hb dX10_start_41 rfl (lv_at hl 1 rfl) ?_
        refine lv_iload_n hx hb dX10_start_42 rfl (lv_at hl 2 rfl) ?_
        obtain ⟨y21, ey21, hf⟩ := bnd_some hf
        refine k_X10_against X h hA ey21 k_X10_169 dX10_start_43 hl.1 ⟨(Nat.le_of_ble_eq_true rfl), (Nat.le_of_ble_eq_true rfl)⟩ (Nat.le_of_ble_eq_true rfl) ⟨Nat.zero_le _, Nat.zero_le _⟩ (fun H locs h => ?_)
        refine lv_istore_n (lv' := [(3, .int y21.1), (0, .ref (gq G 0)), (1, .int x1), (2, .int x2)]) hx hb dX10_start_46 rfl hl (by decide) rfl (fun ls hl => ?_)
        refine lv_iload_n hx hb dX10_start_47 rfl (lv_at hl 0 rfl) ?_
        refine lv_if_le (tgt := 57) hx hb dX10_start_48 (by decide) (fun c22 => ?_) (fun c22 => ?_)
        · have hf := if_t c22 hf
          refine lv_sipush (v := 6240) hx hb dX10_start_57 (by decide) ?_
          refine lv_bipush (v := 62) hx hb dX10_start_60 (by decide) ?_
          refine lv_iload_n hx hb dX10_start_62 rfl (lv_at hl 3 rfl) ?_
          refine lv_imul hx hb dX10_start_63 ?_
          refine lv_iadd hx hb dX10_start_64 ?_
          refine lv_istore (lv' := [(4, .int (((6240 : Int32)) + (((62 : Int32)) * x2))), (3, .int y21.1), (0, .ref (gq G 0)), (1, .int x1), (2, .int x2)]) hx hb dX10_start_65 hl (by decide) rfl (fun ls hl => ?_)
          refine lv_aload_n hx hb dX10_start_67 rfl (lv_at hl 2 rfl) ?_
          refine GM_0_1 X h k_X10_7 dX10_start_68 ?_
          refine lv_iload hx hb dX10_start_71 (lv_at hl 0 rfl) ?_
          refine lv_iconst (v := 1) hx hb dX10_start_73 (by decide) ?_
          refine lv_iadd hx hb dX10_start_74 ?_
          obtain ⟨c23, hf⟩ := chk_some hf
          refine LM_1 X h c23 dX10_start_75 ?_
          obtain ⟨z24, ez24, hf⟩ := bnd_some hf
          refine nm_i (Option.some.inj ez24) ?_
          refine lv_istore (lv' := [(5, .int z24), (4, .int (((6240 : Int32)) + (((62 : Int32)) * x2))), (3, .int y21.1), (0, .ref (gq G 0)), (1, .int x1), (2, .int x2)]) hx hb dX10_start_76 hl (by decide) rfl (fun ls hl => ?_)
          refine lv_aload_n hx hb dX10_start_78 rfl (lv_at hl 3 rfl) ?_
          refine lv_sipush (v := 11356) hx hb dX10_start_79 (by decide) ?_
          refine lv_iconst (v := 1) hx hb dX10_start_82 (by decide) ?_
          obtain ⟨y25, ey25, hf⟩ := bnd_some hf
          refine k_X10_w X h hA ey25 k_X10_67 dX10_start_83 hl.1 ⟨(Nat.le_of_ble_eq_true rfl), (Nat.le_of_ble_eq_true rfl)⟩ (Nat.le_of_ble_eq_true rfl) ⟨Nat.zero_le _, Nat.zero_le _⟩ (fun H locs h => ?_)
          refine lv_aload_n hx hb dX10_start_86 rfl (lv_at hl 3 rfl) ?_
          refine lv_iload_n hx hb dX10_start_87 rfl (lv_at hl 4 rfl) ?_
          refine lv_bipush (v := 38) hx hb dX10_start_88 (by decide) ?_
          refine lv_aload_n hx hb dX10_start_90 rfl (lv_at hl 3 rfl) ?_
          refine lv_iload_n hx hb dX10_start_91 rfl (lv_at hl 4 rfl) ?_
          refine lv_bipush (v := 38) hx hb dX10_start_92 (by decide) ?_
          obtain ⟨y26, ey26, hf⟩ := bnd_some hf
          refine k_X10_of X h ey26 k_X10_75 dX10_start_94 hl.1 ⟨(Nat.le_of_ble_eq_true rfl), (Nat.le_of_ble_eq_true rfl)⟩ (Nat.le_of_ble_eq_true rfl) ⟨Nat.zero_le _, Nat.zero_le _⟩ ?_
          refine lv_iconst (v := 1) hx hb dX10_start_97 (by decide) ?_
          refine lv_iadd hx hb dX10_start_98 ?_
          obtain ⟨y27, ey27, hf⟩ := bnd_some hf
          refine k_X10_let X h hA ey27 k_X10_113 dX10_start_99 hl.1 ⟨(Nat.le_of_ble_eq_true rfl), (Nat.le_of_ble_eq_true rfl)⟩ (Nat.le_of_ble_eq_true rfl) ⟨Nat.zero_le _, Nat.zero_le _⟩ (fun H locs h => ?_)
          refine lv_iload hx hb dX10_start_102 (lv_at hl 0 rfl) ?_
          refine lv_if_ne (tgt := 114) hx hb dX10_start_104 (by decide) (fun c28 => ?_) (fun c28 => ?_)
          · have hf := if_f c28 hf
            refine lv_iconst (v := 0) hx hb dX10_start_114 (by decide) ?_
            refine lv_istore (lv' := [(6, .int ((0 : Int32))), (5, .int z24), (4, .int (((6240 : Int32)) + (((62 : Int32)) * x2))), (3, .int y21.1), (0, .ref (gq G 0)), (1, .int x1), (2, .int x2)]) hx hb dX10_start_115 hl (by decide) rfl (fun ls hl => ?_)
            exact L117 FU _ _ _ _ _ _ _ _ hf h (lv_sub hl [4, 5, 2, 1, 0] rfl)
          · have hf := if_t c28 hf
            refine lv_aload_n hx hb dX10_start_107 rfl (lv_at hl 3 rfl) ?_
            refine lv_iload_n hx hb dX10_start_108 rfl (lv_at hl 4 rfl) ?_
            obtain ⟨y29, ey29, hf⟩ := bnd_some hf
            refine k_X10_ends X h hA ey29 k_X10_172 dX10_start_109 hl.1 ⟨(Nat.le_of_ble_eq_true rfl), (Nat.le_of_ble_eq_true rfl)⟩ (Nat.le_of_ble_eq_true rfl) ⟨Nat.zero_le _, Nat.zero_le _⟩ (fun H locs h => ?_)
            refine lv_iconst (v := 1) hx hb dX10_start_112 (by decide) ?_
            exact e0_i (Wf := mw G) X.1 hr hlocks hf h dX10_start_113
        · have hf := if_f c22 hf
          refine lv_aload_n hx hb dX10_start_51 rfl (lv_at hl 1 rfl) ?_
          refine lv_iload_n hx hb dX10_start_52 rfl (lv_at hl 0 rfl) ?_
          obtain ⟨y30, ey30, hf⟩ := bnd_some hf
          refine k_X10_found X h hA ey30 k_X10_117 dX10_start_53 hl.1 ⟨(Nat.le_of_ble_eq_true rfl), (Nat.le_of_ble_eq_true rfl)⟩ (Nat.le_of_ble_eq_true rfl) ⟨Nat.zero_le _, Nat.zero_le _⟩ (fun H locs h => ?_)
          exact e0_i (Wf := mw G) X.1 hr hlocks hf h dX10_start_56
      · have hf := if_t c19 hf
        refine lv_aload_n hx hb dX10_start_29 rfl (lv_at hl 0 rfl) ?_
        refine lv_iconst (v := 1) hx hb dX10_start_30 (by decide) ?_
        obtain ⟨y31, ey31, hf⟩ := bnd_some hf
        refine k_X10_found X h hA ey31 k_X10_117 dX10_start_31 hl.1 ⟨(Nat.le_of_ble_eq_true rfl), (Nat.le_of_ble_eq_true rfl)⟩ (Nat.le_of_ble_eq_true rfl) ⟨Nat.zero_le _, Nat.zero_le _⟩ (fun H locs h => ?_)
        exact e0_i (Wf := mw G) X.1 hr hlocks hf h dX10_start_34
    · have hf := if_t c17 hf
      refine lv_iconst (v := (-1)) hx hb dX10_start_19 (by decide) ?_
      exact e0_i (Wf := mw G) X.1 hr hlocks hf h dX10_start_20
theorem m_X10_start : Cond.instanceMethod yX10_start ∈ lw_good ∧ Cond.selects RX10 yX10_start yX10_start ∈ lw_good ∧ Cond.initialized RX10 ∈ lw_good ∧ Cond.code yX10_start cX10_start 7 (some .int) ∈ lw_good := by decide +kernel
theorem k_X10_start {p : Program} {l : Launch} {e : Env} {R : Room} {s : State} {m : MethodId} {args : Array Value} {below : List Frame} {meth : Method} {c : Code} {H : Heap} {locs : List Loc} {cells slots : Nat} {Q : State → Prop} {cc : ByteArray} {nL pc idx : Nat} {ls : Array Slot} {rest : List Value} {own : String} {G : Gm} {A : Nat → Prop} {H0 : Heap} {w : MW} {x1 : Int32} {x2 : Int32} {y : Int32 × MW} (X : CX own cc nL G p s m args c) (h : CH G (mw G w) A H0 H locs) (hA : ∀ q, H0.size ≤ q → A q) (hf : f_X10_start x1 x2 w = some y) (hlk : Cond.methodLink own idx yX10_start ∈ lw_good) (hd : decode cc pc = .ok (.invokevirtual idx, 3)) (hsz : ls.size = nL) (hR : 7 ≤ R.frames ∧ 166 ≤ R.locals) (hrest : (rest.map fun v => v.category).sum ≤ 8) (hk : cells ≤ R.cells ∧ slots ≤ R.slots) (k : ∀ (H : Heap) (locs : List Loc), CH G (mw G y.2) A H0 H locs → W p l e R s m args below meth c H locs cells slots Q (F0 m (pc + 3) ls (.int y.1 :: rest))) : W p l e R s m args below meth c H locs cells slots Q (F0 m pc ls (.int x2 :: .int x1 :: .ref (gq G 0) :: rest)) :=
  fin_i (n := 0) (runV (As := [.int x1, .int x2]) X.1 2 (t_X10_start l G w x1 x2 y.1 y.2 hf _) rfl rfl hlk m_X10_start (by decide +kernel) ⟨hR.1, hR.2⟩ ⟨blindM, va_recv X.2.1 h.1 (ci := 9) (q0 := 0) rfl rfl, preM X.2 h⟩ rfl hsz hrest hd hk) h hA (fun _ H locs h => k H locs h)
