def f_X10_in (x0 : Int32) (x1 : Int32) (x2 : Int32) : Option Int32 :=
 if x0 < x1 then
 (some ((0 : Int32)))
 else
 (if x2 < x0 then
 (some ((0 : Int32)))
 else
 (some ((1 : Int32))))
set_option maxHeartbeats 4000000 in
set_option maxRecDepth 100000 in
theorem t_X10_in (l : Launch) (x0 : Int32) (x1 : Int32) (x2 : Int32) (r : Int32) (hf : f_X10_in x0 x1 x2 = some r) : MetP l yX10_in cX10_in 3 (some .boolean) 0 0 [.int x0, .int x1, .int x2] (.int r) := by
  refine ent (own := RX10) (As := [.int x0, .int x1, .int x2]) (by decide +kernel) rfl (Nat.le_of_ble_eq_true rfl) (fun _ _ h => h.1) ?_
  intro p e s m args below meth c ls B hr hlocks hv hl
  obtain ⟨hx, hb, hml, hown, hts⟩ := id B
  have hl : lv_has ls 3 [(0, .int x0), (1, .int x1), (2, .int x2)] := hl
  unfold f_X10_in at hf
  refine lv_iload_n hx hb dX10_in_0 rfl (lv_at hl 0 rfl) ?_
  refine lv_iload_n hx hb dX10_in_1 rfl (lv_at hl 1 rfl) ?_
  refine lv_icmp_lt (tgt := 14) hx hb dX10_in_2 (by decide) (fun c1 => ?_) (fun c1 => ?_)
  · have hf := if_t c1 hf
    refine lv_iconst (v := 0) hx hb dX10_in_14 (by decide) ?_
    cases hf
    exact rr_z B hr hlocks (Or.inl rfl) dX10_in_15
  · have hf := if_f c1 hf
    refine lv_iload_n hx hb dX10_in_5 rfl (lv_at hl 0 rfl) ?_
    refine lv_iload_n hx hb dX10_in_6 rfl (lv_at hl 2 rfl) ?_
    refine lv_icmp_gt (tgt := 14) hx hb dX10_in_7 (by decide) (fun c2 => ?_) (fun c2 => ?_)
    · have hf := if_t c2 hf
      refine lv_iconst (v := 0) hx hb dX10_in_14 (by decide) ?_
      cases hf
      exact rr_z B hr hlocks (Or.inl rfl) dX10_in_15
    · have hf := if_f c2 hf
      refine lv_iconst (v := 1) hx hb dX10_in_10 (by decide) ?_
      refine lv_goto (tgt := 15) hx hb dX10_in_11 (by decide) ?_
      cases hf
      exact rr_z B hr hlocks (Or.inr rfl) dX10_in_15
theorem m_X10_in : Cond.static yX10_in ∈ lw_good ∧ Cond.initialized yX10_in.cls ∈ lw_good ∧ Cond.code yX10_in cX10_in 3 (some .boolean) ∈ lw_good := by decide +kernel
theorem k_X10_in {p : Program} {l : Launch} {e : Env} {R : Room} {s : State} {m : MethodId} {args : Array Value} {below : List Frame} {meth : Method} {c : Code} {H : Heap} {locs : List Loc} {cells slots : Nat} {Q : State → Prop} {cc : ByteArray} {nL pc idx : Nat} {ls : Array Slot} {rest : List Value} {own : String} {x0 : Int32} {x1 : Int32} {x2 : Int32} {r : Int32} (B : CB own cc nL p s m args c) (hf : f_X10_in x0 x1 x2 = some r) (hlk : Cond.methodLink own idx yX10_in ∈ lw_good) (hd : decode cc pc = .ok (.invokestatic idx, 3)) (hsz : ls.size = nL) (hR : 1 ≤ R.frames ∧ 22 ≤ R.locals) (hrest : (rest.map fun v => v.category).sum ≤ 8) (hk : cells ≤ R.cells ∧ slots ≤ R.slots) (k : W p l e R s m args below meth c H locs cells slots Q (F0 m (pc + 3) ls (.int r :: rest))) : W p l e R s m args below meth c H locs cells slots Q (F0 m pc ls (.int x2 :: .int x1 :: .int x0 :: rest)) :=
  fin_r (runS (As := [.int x0, .int x1, .int x2]) B 3 (t_X10_in l x0 x1 x2 r hf) rfl rfl hlk m_X10_in (by decide +kernel) ⟨hR.1, hR.2⟩ ⟨blindP, preP⟩ rfl hsz hrest hd hk) k
def f_X10_w (x1 : Int32) (x2 : Int32) (w : MW) : Option MW :=
 chk (inb x1 11360) (
 if (w 1 x1.toNatClampNeg) = x2 then
 (some w)
 else
 (chk (inb ((w 0 4) &&& ((524287 : Int32))) 524288) (
 chk (inb x1 11360) (
 chk (inb (((mst w 2 ((w 0 4) &&& ((524287 : Int32))).toNatClampNeg x1) 0 4) &&& ((524287 : Int32))) 524288) (
 (some (mst (mst w 2 ((w 0 4) &&& ((524287 : Int32))).toNatClampNeg x1) 3 (((mst w 2 ((w 0 4) &&& ((524287 : Int32))).toNatClampNeg x1) 0 4) &&& ((524287 : Int32))).toNatClampNeg ((mst w 2 ((w 0 4) &&& ((524287 : Int32))).toNatClampNeg x1) 1 x1.toNatClampNeg))).bind fun w6 =>
 chk (inb x1 11360) (
 some (mst (mst w6 0 4 ((w6 0 4) + ((1 : Int32)))) 1 x1.toNatClampNeg x2)))))))
set_option maxHeartbeats 4000000 in
set_option maxRecDepth 100000 in
theorem t_X10_w (l : Launch) (G : Gm) (w0 : MW) (x1 : Int32) (x2 : Int32) (w' : MW) (hf : f_X10_w x1 x2 w0 = some w') : MetV l yX10_w cX10_w 3 0 0 G (mw G w0) [.ref (gq G 0), .int x1, .int x2] (fun _ => mw G (w')) 0 := by
  intro sz
  refine ent (own := RX10) (As := [.ref (gq G 0), .int x1, .int x2]) (by decide +kernel) rfl (Nat.le_of_ble_eq_true rfl) (fun _ _ h => h.1) ?_
  intro p e s m args below meth c ls B hr hlocks hv hl
  obtain ⟨-, hsz, hP, hKK, hD⟩ := hv
  subst hsz
  have X : CX RX10 cX10_w 3 G p s m args c := ⟨B, hKK⟩
  obtain ⟨hx, hb, hml, hown, hts⟩ := id B
  have hA : ∀ q : Nat, s.heap.size ≤ q → va_A (mw G w0) s.heap.size q := fun q z => Or.inr z
  have h : CH G (mw G w0) (va_A (mw G w0) s.heap.size) s.heap s.heap [] := ⟨hP, hD.self, va_S.rf⟩
  obtain ⟨w, rfl⟩ : ∃ z, z = w0 := ⟨_, rfl⟩
  have hl : lv_has ls 3 [(0, .ref (gq G 0)), (1, .int x1), (2, .int x2)] := hl
  unfold f_X10_w at hf
  refine lv_aload_n hx hb dX10_w_0 rfl (lv_at hl 0 rfl) ?_
  refine GM_0_1 X h k_X10_7 dX10_w_1 ?_
  refine lv_iload_n hx hb dX10_w_4 rfl (lv_at hl 1 rfl) ?_
  obtain ⟨c1, hf⟩ := chk_some hf
  refine LM_1 X h c1 dX10_w_5 ?_
  refine lv_iload_n hx hb dX10_w_6 rfl (lv_at hl 2 rfl) ?_
  refine lv_icmp_eq (tgt := 58) hx hb dX10_w_7 (by decide) (fun c2 => ?_) (fun c2 => ?_)
  · have hf := if_t c2 hf
    exact e0_v (Wf := mw G) X.1 hr hlocks hf h dX10_w_58
  · have hf := if_f c2 hf
    refine lv_aload_n hx hb dX10_w_10 rfl (lv_at hl 0 rfl) ?_
    refine GM_0_2 X h k_X10_14 dX10_w_11 ?_
    refine lv_aload_n hx hb dX10_w_14 rfl (lv_at hl 0 rfl) ?_
    refine GM_0_4 X h k_X10_57 dX10_w_15 ?_
    refine lv_ldc (v := 524287) hx hb hown (hts _ k_X10_60) dX10_w_18 ?_
    refine lv_iand hx hb dX10_w_20 ?_
    refine lv_iload_n hx hb dX10_w_21 rfl (lv_at hl 1 rfl) ?_
    obtain ⟨c3, hf⟩ := chk_some hf
    refine SM_2 X h c3 dX10_w_22 (fun H locs h => ?_)
    refine lv_aload_n hx hb dX10_w_23 rfl (lv_at hl 0 rfl) ?_
    refine GM_0_3 X h k_X10_17 dX10_w_24 ?_
    refine lv_aload_n hx hb dX10_w_27 rfl (lv_at hl 0 rfl) ?_
    refine GM_0_4 X h k_X10_57 dX10_w_28 ?_
    refine lv_ldc (v := 524287) hx hb hown (hts _ k_X10_60) dX10_w_31 ?_
    refine lv_iand hx hb dX10_w_33 ?_
    refine lv_aload_n hx hb dX10_w_34 rfl (lv_at hl 0 rfl) ?_
    refine GM_0_1 X h k_X10_7 dX10_w_35 ?_
    refine lv_iload_n hx hb dX10_w_38 rfl (lv_at hl 1 rfl) ?_
    obtain ⟨c4, hf⟩ := chk_some hf
    refine LM_1 X h c4 dX10_w_39 ?_
    obtain ⟨c5, hf⟩ := chk_some hf
    refine SM_3 X h c5 dX10_w_40 (fun H locs h => ?_)
    obtain ⟨w6, ew6, hf⟩ := bnd_some hf
    have h := (Option.some.inj ew6) ▸ h
    refine lv_aload_n hx hb dX10_w_41 rfl (lv_at hl 0 rfl) ?_
    refine lv_dup hx hb dX10_w_42 rfl ?_
    refine GM_0_4 X h k_X10_57 dX10_w_43 ?_
    refine lv_iconst (v := 1) hx hb dX10_w_46 (by decide) ?_
    refine lv_iadd hx hb dX10_w_47 ?_
    refine PM_0_4 X h k_X10_57 dX10_w_48 (fun H locs h => ?_)
    refine lv_aload_n hx hb dX10_w_51 rfl (lv_at hl 0 rfl) ?_
    refine GM_0_1 X h k_X10_7 dX10_w_52 ?_
    refine lv_iload_n hx hb dX10_w_55 rfl (lv_at hl 1 rfl) ?_
    refine lv_iload_n hx hb dX10_w_56 rfl (lv_at hl 2 rfl) ?_
    obtain ⟨c7, hf⟩ := chk_some hf
    refine SM_1 X h c7 dX10_w_57 (fun H locs h => ?_)
    exact e0_v (Wf := mw G) X.1 hr hlocks hf h dX10_w_58
theorem m_X10_w : Cond.instanceMethod yX10_w ∈ lw_good ∧ Cond.selects RX10 yX10_w yX10_w ∈ lw_good ∧ Cond.initialized RX10 ∈ lw_good ∧ Cond.code yX10_w cX10_w 3 none ∈ lw_good := by decide +kernel
theorem k_X10_w {p : Program} {l : Launch} {e : Env} {R : Room} {s : State} {m : MethodId} {args : Array Value} {below : List Frame} {meth : Method} {c : Code} {H : Heap} {locs : List Loc} {cells slots : Nat} {Q : State → Prop} {cc : ByteArray} {nL pc idx : Nat} {ls : Array Slot} {rest : List Value} {own : String} {G : Gm} {A : Nat → Prop} {H0 : Heap} {w : MW} {x1 : Int32} {x2 : Int32} {w' : MW} (X : CX own cc nL G p s m args c) (h : CH G (mw G w) A H0 H locs) (hA : ∀ q, H0.size ≤ q → A q) (hf : f_X10_w x1 x2 w = some w') (hlk : Cond.methodLink own idx yX10_w ∈ lw_good) (hd : decode cc pc = .ok (.invokevirtual idx, 3)) (hsz : ls.size = nL) (hR : 1 ≤ R.frames ∧ 22 ≤ R.locals) (hrest : (rest.map fun v => v.category).sum ≤ 8) (hk : cells ≤ R.cells ∧ slots ≤ R.slots) (k : ∀ (H : Heap) (locs : List Loc), CH G (mw G (w')) A H0 H locs → W p l e R s m args below meth c H locs cells slots Q (F0 m (pc + 3) ls (rest))) : W p l e R s m args below meth c H locs cells slots Q (F0 m pc ls (.int x2 :: .int x1 :: .ref (gq G 0) :: rest)) :=
  fin_v (n := 0) (runV (As := [.int x1, .int x2]) X.1 2 (t_X10_w l G w x1 x2 w' hf _) rfl rfl hlk m_X10_w (by decide +kernel) ⟨hR.1, hR.2⟩ ⟨blindM, va_recv X.2.1 h.1 (ci := 9) (q0 := 0) rfl rfl, preM X.2 h⟩ rfl hsz hrest hd hk) h hA (fun _ H locs h => k H locs h)
def f_X10_found (x1 : Int32) (w : MW) : Option (Int32 × MW) :=
 some (((-20 : Int32)) - x1, mst (mst w 0 9 x1) 0 8 (((mst w 0 9 x1) 0 8) + ((1 : Int32))))
set_option maxHeartbeats 4000000 in
set_option maxRecDepth 100000 in
theorem t_X10_found (l : Launch) (G : Gm) (w0 : MW) (x1 : Int32) (r : Int32) (w' : MW) (hf : f_X10_found x1 w0 = some (r, w')) : MetI l yX10_found cX10_found 2 (some .int) 0 0 G (mw G w0) [.ref (gq G 0), .int x1] r (fun _ => mw G (w')) 0 := by
  intro sz
  refine ent (own := RX10) (As := [.ref (gq G 0), .int x1]) (by decide +kernel) rfl (Nat.le_of_ble_eq_true rfl) (fun _ _ h => h.1) ?_
  intro p e s m args below meth c ls B hr hlocks hv hl
  obtain ⟨-, hsz, hP, hKK, hD⟩ := hv
  subst hsz
  have X : CX RX10 cX10_found 2 G p s m args c := ⟨B, hKK⟩
  obtain ⟨hx, hb, hml, hown, hts⟩ := id B
  have hA : ∀ q : Nat, s.heap.size ≤ q → va_A (mw G w0) s.heap.size q := fun q z => Or.inr z
  have h : CH G (mw G w0) (va_A (mw G w0) s.heap.size) s.heap s.heap [] := ⟨hP, hD.self, va_S.rf⟩
  obtain ⟨w, rfl⟩ : ∃ z, z = w0 := ⟨_, rfl⟩
  have hl : lv_has ls 2 [(0, .ref (gq G 0)), (1, .int x1)] := hl
  unfold f_X10_found at hf
  refine lv_aload_n hx hb dX10_found_0 rfl (lv_at hl 0 rfl) ?_
  refine lv_iload_n hx hb dX10_found_1 rfl (lv_at hl 1 rfl) ?_
  refine PM_0_9 X h k_X10_61 dX10_found_2 (fun H locs h => ?_)
  refine lv_aload_n hx hb dX10_found_5 rfl (lv_at hl 0 rfl) ?_
  refine lv_dup hx hb dX10_found_6 rfl ?_
  refine GM_0_8 X h k_X10_64 dX10_found_7 ?_
  refine lv_iconst (v := 1) hx hb dX10_found_10 (by decide) ?_
  refine lv_iadd hx hb dX10_found_11 ?_
  refine PM_0_8 X h k_X10_64 dX10_found_12 (fun H locs h => ?_)
  refine lv_bipush (v := (-20)) hx hb dX10_found_15 (by decide) ?_
  refine lv_iload_n hx hb dX10_found_17 rfl (lv_at hl 1 rfl) ?_
  refine lv_isub hx hb dX10_found_18 ?_
  exact e0_i (Wf := mw G) X.1 hr hlocks hf h dX10_found_19
theorem m_X10_found : Cond.instanceMethod yX10_found ∈ lw_good ∧ Cond.selects RX10 yX10_found yX10_found ∈ lw_good ∧ Cond.initialized RX10 ∈ lw_good ∧ Cond.code yX10_found cX10_found 2 (some .int) ∈ lw_good := by decide +kernel
theorem k_X10_found {p : Program} {l : Launch} {e : Env} {R : Room} {s : State} {m : MethodId} {args : Array Value} {below : List Frame} {meth : Method} {c : Code} {H : Heap} {locs : List Loc} {cells slots : Nat} {Q : State → Prop} {cc : ByteArray} {nL pc idx : Nat} {ls : Array Slot} {rest : List Value} {own : String} {G : Gm} {A : Nat → Prop} {H0 : Heap} {w : MW} {x1 : Int32} {y : Int32 × MW} (X : CX own cc nL G p s m args c) (h : CH G (mw G w) A H0 H locs) (hA : ∀ q, H0.size ≤ q → A q) (hf : f_X10_found x1 w = some y) (hlk : Cond.methodLink own idx yX10_found ∈ lw_good) (hd : decode cc pc = .ok (.invokevirtual idx, 3)) (hsz : ls.size = nL) (hR : 1 ≤ R.frames ∧ 21 ≤ R.locals) (hrest : (rest.map fun v => v.category).sum ≤ 8) (hk : cells ≤ R.cells ∧ slots ≤ R.slots) (k : ∀ (H : Heap) (locs : List Loc), CH G (mw G y.2) A H0 H locs → W p l e R s m args below meth c H locs cells slots Q (F0 m (pc + 3) ls (.int y.1 :: rest))) : W p l e R s m args below meth c H locs cells slots Q (F0 m pc ls (.int x1 :: .ref (gq G 0) :: rest)) :=
  fin_i (n := 0) (runV (As := [.int x1]) X.1 1 (t_X10_found l G w x1 y.1 y.2 hf _) rfl rfl hlk m_X10_found (by decide +kernel) ⟨hR.1, hR.2⟩ ⟨blindM, va_recv X.2.1 h.1 (ci := 9) (q0 := 0) rfl rfl, preM X.2 h⟩ rfl hsz hrest hd hk) h hA (fun _ H locs h => k H locs h)
def f_X10_of (x1 : Int32) (x2 : Int32) (w : MW) : Option Int32 :=
 chk (inb ((((104 : Int32)) * x1) + x2) 11360) (
 some (w 1 ((((104 : Int32)) * x1) + x2).toNatClampNeg))
set_option maxHeartbeats 4000000 in
set_option maxRecDepth 100000 in
theorem t_X10_of (l : Launch) (G : Gm) (w : MW) (x1 : Int32) (x2 : Int32) (r : Int32) (hf : f_X10_of x1 x2 w = some r) : MetR l yX10_of cX10_of 3 (some .int) 0 0 G (mw G w) [.ref (gq G 0), .int x1, .int x2] (.int r) := by
  refine ent (own := RX10) (As := [.ref (gq G 0), .int x1, .int x2]) (by decide +kernel) rfl (Nat.le_of_ble_eq_true rfl) (fun _ _ h => h.1) ?_
  intro p e s m args below meth c ls B hr hlocks hv hl
  obtain ⟨-, hP, hKK, hD⟩ := hv
  have X : CX RX10 cX10_of 3 G p s m args c := ⟨B, hKK⟩
  obtain ⟨hx, hb, hml, hown, hts⟩ := id B
  have h : CH G (mw G w) (fun _ => True) s.heap s.heap [] := ⟨hP, hD, va_S.rf⟩
  have hl : lv_has ls 3 [(0, .ref (gq G 0)), (1, .int x1), (2, .int x2)] := hl
  unfold f_X10_of at hf
  refine lv_aload_n hx hb dX10_of_0 rfl (lv_at hl 0 rfl) ?_
  refine GM_0_1 X h k_X10_7 dX10_of_1 ?_
  refine lv_bipush (v := 104) hx hb dX10_of_4 (by decide) ?_
  refine lv_iload_n hx hb dX10_of_6 rfl (lv_at hl 1 rfl) ?_
  refine lv_imul hx hb dX10_of_7 ?_
  refine lv_iload_n hx hb dX10_of_8 rfl (lv_at hl 2 rfl) ?_
  refine lv_iadd hx hb dX10_of_9 ?_
  obtain ⟨c1, hf⟩ := chk_some hf
  refine LM_1 X h c1 dX10_of_10 ?_
  cases hf
  exact rr_i X.1 hr hlocks dX10_of_11
theorem m_X10_of : Cond.instanceMethod yX10_of ∈ lw_good ∧ Cond.selects RX10 yX10_of yX10_of ∈ lw_good ∧ Cond.initialized RX10 ∈ lw_good ∧ Cond.code yX10_of cX10_of 3 (some .int) ∈ lw_good := by decide +kernel
theorem k_X10_of {p : Program} {l : Launch} {e : Env} {R : Room} {s : State} {m : MethodId} {args : Array Value} {below : List Frame} {meth : Method} {c : Code} {H : Heap} {locs : List Loc} {cells slots : Nat} {Q : State → Prop} {cc : ByteArray} {nL pc idx : Nat} {ls : Array Slot} {rest : List Value} {own : String} {G : Gm} {A : Nat → Prop} {H0 : Heap} {w : MW} {x1 : Int32} {x2 : Int32} {r : Int32} (X : CX own cc nL G p s m args c) (h : CH G (mw G w) A H0 H locs) (hf : f_X10_of x1 x2 w = some r) (hlk : Cond.methodLink own idx yX10_of ∈ lw_good) (hd : decode cc pc = .ok (.invokevirtual idx, 3)) (hsz : ls.size = nL) (hR : 1 ≤ R.frames ∧ 22 ≤ R.locals) (hrest : (rest.map fun v => v.category).sum ≤ 8) (hk : cells ≤ R.cells ∧ slots ≤ R.slots) (k : W p l e R s m args below meth c H locs cells slots Q (F0 m (pc + 3) ls (.int r :: rest))) : W p l e R s m args below meth c H locs cells slots Q (F0 m pc ls (.int x2 :: .int x1 :: .ref (gq G 0) :: rest)) :=
  fin_r (runV (As := [.int x1, .int x2]) X.1 2 (t_X10_of l G w x1 x2 r hf) rfl rfl hlk m_X10_of (by decide +kernel) ⟨hR.1, hR.2⟩ ⟨blindR, va_recv X.2.1 h.1 (ci := 9) (q0 := 0) rfl rfl, preR X.2 h⟩ rfl hsz hrest hd hk) k
def f_X10_let (x1 : Int32) (x2 : Int32) (x3 : Int32) (w : MW) : Option MW :=
 (f_X10_w ((((104 : Int32)) * x1) + x2) x3 w).bind fun y1 =>
 some y1
set_option maxHeartbeats 4000000 in
set_option maxRecDepth 100000 in
theorem t_X10_let (l : Launch) (G : Gm) (w0 : MW) (x1 : Int32) (x2 : Int32) (x3 : Int32) (w' : MW) (hf : f_X10_let x1 x2 x3 w0 = some w') : MetV l yX10_let cX10_let 4 1 22 G (mw G w0) [.ref (gq G 0), .int x1, .int x2, .int x3] (fun _ => mw G (w')) 0 := by
  intro sz
  refine ent (own := RX10) (As := [.ref (gq G 0), .int x1, .int x2, .int x3]) (by decide +kernel) rfl (Nat.le_of_ble_eq_true rfl) (fun _ _ h => h.1) ?_
  intro p e s m args below meth c ls B hr hlocks hv hl
  obtain ⟨-, hsz, hP, hKK, hD⟩ := hv
  subst hsz
  have X : CX RX10 cX10_let 4 G p s m args c := ⟨B, hKK⟩
  obtain ⟨hx, hb, hml, hown, hts⟩ := id B
  have hA : ∀ q : Nat, s.heap.size ≤ q → va_A (mw G w0) s.heap.size q := fun q z => Or.inr z
  have h : CH G (mw G w0) (va_A (mw G w0) s.heap.size) s.heap s.heap [] := ⟨hP, hD.self, va_S.rf⟩
  obtain ⟨w, rfl⟩ : ∃ z, z = w0 := ⟨_, rfl⟩
  have hl : lv_has ls 4 [(0, .ref (gq G 0)), (1, .int x1), (2, .int x2), (3, .int x3)] := hl
  unfold f_X10_let at hf
  refine lv_aload_n hx hb dX10_let_0 rfl (lv_at hl 0 rfl) ?_
  refine lv_bipush (v := 104) hx hb dX10_let_1 (by decide) ?_
  refine lv_iload_n hx hb dX10_let_3 rfl (lv_at hl 1 rfl) ?_
  refine lv_imul hx hb dX10_let_4 ?_
  refine lv_iload_n hx hb dX10_let_5 rfl (lv_at hl 2 rfl) ?_
  refine lv_iadd hx hb dX10_let_6 ?_
  refine lv_iload_n hx hb dX10_let_7 rfl (lv_at hl 3 rfl) ?_
  obtain ⟨y1, ey1, hf⟩ := bnd_some hf
  refine k_X10_w X h hA ey1 k_X10_67 dX10_let_8 hl.1 ⟨(Nat.le_of_ble_eq_true rfl), (Nat.le_of_ble_eq_true rfl)⟩ (Nat.le_of_ble_eq_true rfl) ⟨Nat.zero_le _, Nat.zero_le _⟩ (fun H locs h => ?_)
  exact e0_v (Wf := mw G) X.1 hr hlocks hf h dX10_let_11
theorem m_X10_let : Cond.instanceMethod yX10_let ∈ lw_good ∧ Cond.selects RX10 yX10_let yX10_let ∈ lw_good ∧ Cond.initialized RX10 ∈ lw_good ∧ Cond.code yX10_let cX10_let 4 none ∈ lw_good := by decide +kernel
theorem k_X10_let {p : Program} {l : Launch} {e : Env} {R : Room} {s : State} {m : MethodId} {args : Array Value} {below : List Frame} {meth : Method} {c : Code} {H : Heap} {locs : List Loc} {cells slots : Nat} {Q : State → Prop} {cc : ByteArray} {nL pc idx : Nat} {ls : Array Slot} {rest : List Value} {own : String} {G : Gm} {A : Nat → Prop} {H0 : Heap} {w : MW} {x1 : Int32} {x2 : Int32} {x3 : Int32} {w' : MW} (X : CX own cc nL G p s m args c) (h : CH G (mw G w) A H0 H locs) (hA : ∀ q, H0.size ≤ q → A q) (hf : f_X10_let x1 x2 x3 w = some w') (hlk : Cond.methodLink own idx yX10_let ∈ lw_good) (hd : decode cc pc = .ok (.invokevirtual idx, 3)) (hsz : ls.size = nL) (hR : 2 ≤ R.frames ∧ 45 ≤ R.locals) (hrest : (rest.map fun v => v.category).sum ≤ 8) (hk : cells ≤ R.cells ∧ slots ≤ R.slots) (k : ∀ (H : Heap) (locs : List Loc), CH G (mw G (w')) A H0 H locs → W p l e R s m args below meth c H locs cells slots Q (F0 m (pc + 3) ls (rest))) : W p l e R s m args below meth c H locs cells slots Q (F0 m pc ls (.int x3 :: .int x2 :: .int x1 :: .ref (gq G 0) :: rest)) :=
  fin_v (n := 0) (runV (As := [.int x1, .int x2, .int x3]) X.1 3 (t_X10_let l G w x1 x2 x3 w' hf _) rfl rfl hlk m_X10_let (by decide +kernel) ⟨hR.1, hR.2⟩ ⟨blindM, va_recv X.2.1 h.1 (ci := 9) (q0 := 0) rfl rfl, preM X.2 h⟩ rfl hsz hrest hd hk) h hA (fun _ H locs h => k H locs h)
def f_X10_isPlace (x0 : Int32) : Option Int32 :=
 (f_X10_in x0 ((0 : Int32)) ((59 : Int32))).bind fun y1 =>
 chk (y1 = 0 ∨ y1 = 1) (
 some y1)
set_option maxHeartbeats 4000000 in
set_option maxRecDepth 100000 in
theorem t_X10_isPlace (l : Launch) (x0 : Int32) (r : Int32) (hf : f_X10_isPlace x0 = some r) : MetP l yX10_isPlace cX10_isPlace 1 (some .boolean) 1 22 [.int x0] (.int r) := by
  refine ent (own := RX10) (As := [.int x0]) (by decide +kernel) rfl (Nat.le_of_ble_eq_true rfl) (fun _ _ h => h.1) ?_
  intro p e s m args below meth c ls B hr hlocks hv hl
  obtain ⟨hx, hb, hml, hown, hts⟩ := id B
  have hl : lv_has ls 1 [(0, .int x0)] := hl
  unfold f_X10_isPlace at hf
  refine lv_iload_n hx hb dX10_isPlace_0 rfl (lv_at hl 0 rfl) ?_
  refine lv_iconst (v := 0) hx hb dX10_isPlace_1 (by decide) ?_
  refine lv_bipush (v := 59) hx hb dX10_isPlace_2 (by decide) ?_
  obtain ⟨y1, ey1, hf⟩ := bnd_some hf
  refine k_X10_in B ey1 k_X10_71 dX10_isPlace_4 hl.1 ⟨(Nat.le_of_ble_eq_true rfl), (Nat.le_of_ble_eq_true rfl)⟩ (Nat.le_of_ble_eq_true rfl) ⟨Nat.zero_le _, Nat.zero_le _⟩ ?_
  obtain ⟨c2, hf⟩ := chk_some hf
  cases hf
  exact rr_z B hr hlocks c2 dX10_isPlace_7
theorem m_X10_isPlace : Cond.static yX10_isPlace ∈ lw_good ∧ Cond.initialized yX10_isPlace.cls ∈ lw_good ∧ Cond.code yX10_isPlace cX10_isPlace 1 (some .boolean) ∈ lw_good := by decide +kernel
theorem k_X10_isPlace {p : Program} {l : Launch} {e : Env} {R : Room} {s : State} {m : MethodId} {args : Array Value} {below : List Frame} {meth : Method} {c : Code} {H : Heap} {locs : List Loc} {cells slots : Nat} {Q : State → Prop} {cc : ByteArray} {nL pc idx : Nat} {ls : Array Slot} {rest : List Value} {own : String} {x0 : Int32} {r : Int32} (B : CB own cc nL p s m args c) (hf : f_X10_isPlace x0 = some r) (hlk : Cond.methodLink own idx yX10_isPlace ∈ lw_good) (hd : decode cc pc = .ok (.invokestatic idx, 3)) (hsz : ls.size = nL) (hR : 2 ≤ R.frames ∧ 42 ≤ R.locals) (hrest : (rest.map fun v => v.category).sum ≤ 8) (hk : cells ≤ R.cells ∧ slots ≤ R.slots) (k : W p l e R s m args below meth c H locs cells slots Q (F0 m (pc + 3) ls (.int r :: rest))) : W p l e R s m args below meth c H locs cells slots Q (F0 m pc ls (.int x0 :: rest)) :=
  fin_r (runS (As := [.int x0]) B 1 (t_X10_isPlace l x0 r hf) rfl rfl hlk m_X10_isPlace (by decide +kernel) ⟨hR.1, hR.2⟩ ⟨blindP, preP⟩ rfl hsz hrest hd hk) k
def f_X10_isThere (x1 : Int32) (w : MW) : Option Int32 :=
 (f_X10_of x1 ((0 : Int32)) w).bind fun y1 =>
 if y1 ≤ 0 then
 (some ((0 : Int32)))
 else
 (some ((1 : Int32)))
set_option maxHeartbeats 4000000 in
set_option maxRecDepth 100000 in
theorem t_X10_isThere (l : Launch) (G : Gm) (w : MW) (x1 : Int32) (r : Int32) (hf : f_X10_isThere x1 w = some r) : MetR l yX10_isThere cX10_isThere 2 (some .boolean) 1 22 G (mw G w) [.ref (gq G 0), .int x1] (.int r) := by
  refine ent (own := RX10) (As := [.ref (gq G 0), .int x1]) (by decide +kernel) rfl (Nat.le_of_ble_eq_true rfl) (fun _ _ h => h.1) ?_
  intro p e s m args below meth c ls B hr hlocks hv hl
  obtain ⟨-, hP, hKK, hD⟩ := hv
  have X : CX RX10 cX10_isThere 2 G p s m args c := ⟨B, hKK⟩
  obtain ⟨hx, hb, hml, hown, hts⟩ := id B
  have h : CH G (mw G w) (fun _ => True) s.heap s.heap [] := ⟨hP, hD, va_S.rf⟩
  have hl : lv_has ls 2 [(0, .ref (gq G 0)), (1, .int x1)] := hl
  unfold f_X10_isThere at hf
  refine lv_aload_n hx hb dX10_isThere_0 rfl (lv_at hl 0 rfl) ?_
  refine lv_iload_n hx hb dX10_isThere_1 rfl (lv_at hl 1 rfl) ?_
  refine lv_iconst (v := 0) hx hb dX10_isThere_2 (by decide) ?_
  obtain ⟨y1, ey1, hf⟩ := bnd_some hf
  refine k_X10_of X h ey1 k_X10_75 dX10_isThere_3 hl.1 ⟨(Nat.le_of_ble_eq_true rfl), (Nat.le_of_ble_eq_true rfl)⟩ (Nat.le_of_ble_eq_true rfl) ⟨Nat.zero_le _, Nat.zero_le _⟩ ?_
  refine lv_if_le (tgt := 13) hx hb dX10_isThere_6 (by decide) (fun c2 => ?_) (fun c2 => ?_)
  · have hf := if_t c2 hf
    refine lv_iconst (v := 0) hx hb dX10_isThere_13 (by decide) ?_
    cases hf
    exact rr_z X.1 hr hlocks (Or.inl rfl) dX10_isThere_14
  · have hf := if_f c2 hf
    refine lv_iconst (v := 1) hx hb dX10_isThere_9 (by decide) ?_
    refine lv_goto (tgt := 14) hx hb dX10_isThere_10 (by decide) ?_
    cases hf
    exact rr_z X.1 hr hlocks (Or.inr rfl) dX10_isThere_14
theorem m_X10_isThere : Cond.instanceMethod yX10_isThere ∈ lw_good ∧ Cond.selects RX10 yX10_isThere yX10_isThere ∈ lw_good ∧ Cond.initialized RX10 ∈ lw_good ∧ Cond.code yX10_isThere cX10_isThere 2 (some .boolean) ∈ lw_good := by decide +kernel
theorem k_X10_isThere {p : Program} {l : Launch} {e : Env} {R : Room} {s : State} {m : MethodId} {args : Array Value} {below : List Frame} {meth : Method} {c : Code} {H : Heap} {locs : List Loc} {cells slots : Nat} {Q : State → Prop} {cc : ByteArray} {nL pc idx : Nat} {ls : Array Slot} {rest : List Value} {own : String} {G : Gm} {A : Nat → Prop} {H0 : Heap} {w : MW} {x1 : Int32} {r : Int32} (X : CX own cc nL G p s m args c) (h : CH G (mw G w) A H0 H locs) (hf : f_X10_isThere x1 w = some r) (hlk : Cond.methodLink own idx yX10_isThere ∈ lw_good) (hd : decode cc pc = .ok (.invokevirtual idx, 3)) (hsz : ls.size = nL) (hR : 2 ≤ R.frames ∧ 43 ≤ R.locals) (hrest : (rest.map fun v => v.category).sum ≤ 8) (hk : cells ≤ R.cells ∧ slots ≤ R.slots) (k : W p l e R s m args below meth c H locs cells slots Q (F0 m (pc + 3) ls (.int r :: rest))) : W p l e R s m args below meth c H locs cells slots Q (F0 m pc ls (.int x1 :: .ref (gq G 0) :: rest)) :=
  fin_r (runV (As := [.int x1]) X.1 1 (t_X10_isThere l G w x1 r hf) rfl rfl hlk m_X10_isThere (by decide +kernel) ⟨hR.1, hR.2⟩ ⟨blindR, va_recv X.2.1 h.1 (ci := 9) (q0 := 0) rfl rfl, preR X.2 h⟩ rfl hsz hrest hd hk) k
def f_X10_kindOf (x1 : Int32) (w : MW) : Option Int32 :=
 (f_X10_of x1 ((0 : Int32)) w).bind fun y1 =>
 some (y1 - ((1 : Int32)))
set_option maxHeartbeats 4000000 in
set_option maxRecDepth 100000 in
theorem t_X10_kindOf (l : Launch) (G : Gm) (w : MW) (x1 : Int32) (r : Int32) (hf : f_X10_kindOf x1 w = some r) : MetR l yX10_kindOf cX10_kindOf 2 (some .int) 1 22 G (mw G w) [.ref (gq G 0), .int x1] (.int r) := by
  refine ent (own := RX10) (As := [.ref (gq G 0), .int x1]) (by decide +kernel) rfl (Nat.le_of_ble_eq_true rfl) (fun _ _ h => h.1) ?_
  intro p e s m args below meth c ls B hr hlocks hv hl
  obtain ⟨-, hP, hKK, hD⟩ := hv
  have X : CX RX10 cX10_kindOf 2 G p s m args c := ⟨B, hKK⟩
  obtain ⟨hx, hb, hml, hown, hts⟩ := id B
  have h : CH G (mw G w) (fun _ => True) s.heap s.heap [] := ⟨hP, hD, va_S.rf⟩
  have hl : lv_has ls 2 [(0, .ref (gq G 0)), (1, .int x1)] := hl
  unfold f_X10_kindOf at hf
  refine lv_aload_n hx hb dX10_kindOf_0 rfl (lv_at hl 0 rfl) ?_
  refine lv_iload_n hx hb dX10_kindOf_1 rfl (lv_at hl 1 rfl) ?_
  refine lv_iconst (v := 0) hx hb dX10_kindOf_2 (by decide) ?_
  obtain ⟨y1, ey1, hf⟩ := bnd_some hf
  refine k_X10_of X h ey1 k_X10_75 dX10_kindOf_3 hl.1 ⟨(Nat.le_of_ble_eq_true rfl), (Nat.le_of_ble_eq_true rfl)⟩ (Nat.le_of_ble_eq_true rfl) ⟨Nat.zero_le _, Nat.zero_le _⟩ ?_
  refine lv_iconst (v := 1) hx hb dX10_kindOf_6 (by decide) ?_
  refine lv_isub hx hb dX10_kindOf_7 ?_
  cases hf
  exact rr_i X.1 hr hlocks dX10_kindOf_8
theorem m_X10_kindOf : Cond.instanceMethod yX10_kindOf ∈ lw_good ∧ Cond.selects RX10 yX10_kindOf yX10_kindOf ∈ lw_good ∧ Cond.initialized RX10 ∈ lw_good ∧ Cond.code yX10_kindOf cX10_kindOf 2 (some .int) ∈ lw_good := by decide +kernel
theorem k_X10_kindOf {p : Program} {l : Launch} {e : Env} {R : Room} {s : State} {m : MethodId} {args : Array Value} {below : List Frame} {meth : Method} {c : Code} {H : Heap} {locs : List Loc} {cells slots : Nat} {Q : State → Prop} {cc : ByteArray} {nL pc idx : Nat} {ls : Array Slot} {rest : List Value} {own : String} {G : Gm} {A : Nat → Prop} {H0 : Heap} {w : MW} {x1 : Int32} {r : Int32} (X : CX own cc nL G p s m args c) (h : CH G (mw G w) A H0 H locs) (hf : f_X10_kindOf x1 w = some r) (hlk : Cond.methodLink own idx yX10_kindOf ∈ lw_good) (hd : decode cc pc = .ok (.invokevirtual idx, 3)) (hsz : ls.size = nL) (hR : 2 ≤ R.frames ∧ 43 ≤ R.locals) (hrest : (rest.map fun v => v.category).sum ≤ 8) (hk : cells ≤ R.cells ∧ slots ≤ R.slots) (k : W p l e R s m args below meth c H locs cells slots Q (F0 m (pc + 3) ls (.int r :: rest))) : W p l e R s m args below meth c H locs cells slots Q (F0 m pc ls (.int x1 :: .ref (gq G 0) :: rest)) :=
  fin_r (runV (As := [.int x1]) X.1 1 (t_X10_kindOf l G w x1 r hf) rfl rfl hlk m_X10_kindOf (by decide +kernel) ⟨hR.1, hR.2⟩ ⟨blindR, va_recv X.2.1 h.1 (ci := 9) (q0 := 0) rfl rfl, preR X.2 h⟩ rfl hsz hrest hd hk) k
def f_X10_touch (x1 : Int32) (w : MW) : Option MW :=
 chk (inb x1 60) (
 (f_X10_of x1 ((7 : Int32)) w).bind fun y2 =>
 chk (inb x1 60) (
 some (mst w 6 x1.toNatClampNeg ((w 6 x1.toNatClampNeg) + (((1 : Int32)) + y2)))))
set_option maxHeartbeats 4000000 in
set_option maxRecDepth 100000 in
theorem t_X10_touch (l : Launch) (G : Gm) (w0 : MW) (x1 : Int32) (w' : MW) (hf : f_X10_touch x1 w0 = some w') : MetV l yX10_touch cX10_touch 2 1 22 G (mw G w0) [.ref (gq G 0), .int x1] (fun _ => mw G (w')) 0 := by
  intro sz
  refine ent (own := RX10) (As := [.ref (gq G 0), .int x1]) (by decide +kernel) rfl (Nat.le_of_ble_eq_true rfl) (fun _ _ h => h.1) ?_
  intro p e s m args below meth c ls B hr hlocks hv hl
  obtain ⟨-, hsz, hP, hKK, hD⟩ := hv
  subst hsz
  have X : CX RX10 cX10_touch 2 G p s m args c := ⟨B, hKK⟩
  obtain ⟨hx, hb, hml, hown, hts⟩ := id B
  have hA : ∀ q : Nat, s.heap.size ≤ q → va_A (mw G w0) s.heap.size q := fun q z => Or.inr z
  have h : CH G (mw G w0) (va_A (mw G w0) s.heap.size) s.heap s.heap [] := ⟨hP, hD.self, va_S.rf⟩
  obtain ⟨w, rfl⟩ : ∃ z, z = w0 := ⟨_, rfl⟩
  have hl : lv_has ls 2 [(0, .ref (gq G 0)), (1, .int x1)] := hl
  unfold f_X10_touch at hf
  refine lv_aload_n hx hb dX10_touch_0 rfl (lv_at hl 0 rfl) ?_
  refine GM_0_12 X h k_X10_26 dX10_touch_1 ?_
  refine lv_iload_n hx hb dX10_touch_4 rfl (lv_at hl 1 rfl) ?_
  refine lv_dup2_11 hx hb dX10_touch_5 rfl rfl ?_
  obtain ⟨c1, hf⟩ := chk_some hf
  refine LM_6 X h c1 dX10_touch_6 ?_
  refine lv_iconst (v := 1) hx hb dX10_touch_7 (by decide) ?_
  refine lv_aload_n hx hb dX10_touch_8 rfl (lv_at hl 0 rfl) ?_
  refine lv_iload_n hx hb dX10_touch_9 rfl (lv_at hl 1 rfl) ?_
  refine lv_bipush (v := 7) hx hb dX10_touch_10 (by decide) ?_
  obtain ⟨y2, ey2, hf⟩ := bnd_some hf
  refine k_X10_of X h ey2 k_X10_75 dX10_touch_12 hl.1 ⟨(Nat.le_of_ble_eq_true rfl), (Nat.le_of_ble_eq_true rfl)⟩ (Nat.le_of_ble_eq_true rfl) ⟨Nat.zero_le _, Nat.zero_le _⟩ ?_
  refine lv_iadd hx hb dX10_touch_15 ?_
  refine lv_iadd hx hb dX10_touch_16 ?_
  obtain ⟨c3, hf⟩ := chk_some hf
  refine SM_6 X h c3 dX10_touch_17 (fun H locs h => ?_)
  exact e0_v (Wf := mw G) X.1 hr hlocks hf h dX10_touch_18
theorem m_X10_touch : Cond.instanceMethod yX10_touch ∈ lw_good ∧ Cond.selects RX10 yX10_touch yX10_touch ∈ lw_good ∧ Cond.initialized RX10 ∈ lw_good ∧ Cond.code yX10_touch cX10_touch 2 none ∈ lw_good := by decide +kernel
theorem k_X10_touch {p : Program} {l : Launch} {e : Env} {R : Room} {s : State} {m : MethodId} {args : Array Value} {below : List Frame} {meth : Method} {c : Code} {H : Heap} {locs : List Loc} {cells slots : Nat} {Q : State → Prop} {cc : ByteArray} {nL pc idx : Nat} {ls : Array Slot} {rest : List Value} {own : String} {G : Gm} {A : Nat → Prop} {H0 : Heap} {w : MW} {x1 : Int32} {w' : MW} (X : CX own cc nL G p s m args c) (h : CH G (mw G w) A H0 H locs) (hA : ∀ q, H0.size ≤ q → A q) (hf : f_X10_touch x1 w = some w') (hlk : Cond.methodLink own idx yX10_touch ∈ lw_good) (hd : decode cc pc = .ok (.invokevirtual idx, 3)) (hsz : ls.size = nL) (hR : 2 ≤ R.frames ∧ 43 ≤ R.locals) (hrest : (rest.map fun v => v.category).sum ≤ 8) (hk : cells ≤ R.cells ∧ slots ≤ R.slots) (k : ∀ (H : Heap) (locs : List Loc), CH G (mw G (w')) A H0 H locs → W p l e R s m args below meth c H locs cells slots Q (F0 m (pc + 3) ls (rest))) : W p l e R s m args below meth c H locs cells slots Q (F0 m pc ls (.int x1 :: .ref (gq G 0) :: rest)) :=
  fin_v (n := 0) (runV (As := [.int x1]) X.1 1 (t_X10_touch l G w x1 w' hf _) rfl rfl hlk m_X10_touch (by decide +kernel) ⟨hR.1, hR.2⟩ ⟨blindM, va_recv X.2.1 h.1 (ci := 9) (q0 := 0) rfl rfl, preM X.2 h⟩ rfl hsz hrest hd hk) h hA (fun _ H locs h => k H locs h)
def f_X10_loadsIn_b40 (k4 : (Int32 → Int32 → Int32 → MW → Option Int32)) (x1 : Int32) (x3 : Int32) (xs0 : Int32) (xs1 : Int32) (w : MW) : Option Int32 :=
 k4 x1 (xs0 + xs1) (x3 + (1 : Int32)) w
def f_X10_loadsIn_l4_body (kself : (Int32 → Int32 → Int32 → MW → Option Int32)) (x1 : Int32) (x2 : Int32) (x3 : Int32) (w : MW) : Option Int32 :=
 chk (inb ((11345 : Int32)) 11360) (
 if (w 1 ((11345 : Int32)).toNatClampNeg) ≤ x3 then
 (some x2)
 else
 (chk (inb ((((8844 : Int32)) + (((5 : Int32)) * x3)) + ((3 : Int32))) 11360) (
 if (w 1 ((((8844 : Int32)) + (((5 : Int32)) * x3)) + ((3 : Int32))).toNatClampNeg) = x1 then
 (f_X10_loadsIn_b40 kself x1 x3 x2 ((1 : Int32)) w)
 else
 (f_X10_loadsIn_b40 kself x1 x3 x2 ((0 : Int32)) w))))
def f_X10_loadsIn_l4 : Nat → Int32 → Int32 → Int32 → MW → Option Int32
  | 0, _, _, _, _ => none
  | n + 1, x1, x2, x3, w => f_X10_loadsIn_l4_body (f_X10_loadsIn_l4 n) x1 x2 x3 w
def f_X10_loadsIn (x1 : Int32) (w : MW) : Option Int32 :=
 f_X10_loadsIn_l4 FU x1 ((0 : Int32)) ((0 : Int32)) w
set_option maxHeartbeats 4000000 in
set_option maxRecDepth 100000 in
theorem t_X10_loadsIn (l : Launch) (G : Gm) (w : MW) (x1 : Int32) (r : Int32) (hf : f_X10_loadsIn x1 w = some r) : MetR l yX10_loadsIn cX10_loadsIn 4 (some .int) 0 0 G (mw G w) [.ref (gq G 0), .int x1] (.int r) := by
  refine ent (own := RX10) (As := [.ref (gq G 0), .int x1]) (by decide +kernel) rfl (Nat.le_of_ble_eq_true rfl) (fun _ _ h => h.1) ?_
  intro p e s m args below meth c ls B hr hlocks hv hl
  obtain ⟨-, hP, hKK, hD⟩ := hv
  have X : CX RX10 cX10_loadsIn 4 G p s m args c := ⟨B, hKK⟩
  obtain ⟨hx, hb, hml, hown, hts⟩ := id B
  have h : CH G (mw G w) (fun _ => True) s.heap s.heap [] := ⟨hP, hD, va_S.rf⟩
  have L4 : ∀ (n4 : Nat) (x1 : Int32) (x2 : Int32) (x3 : Int32) (ls : Array Slot), f_X10_loadsIn_l4 n4 x1 x2 x3 w = some r → lv_has ls 4 [(0, .ref (gq G 0)), (1, .int x1), (2, .int x2), (3, .int x3)] → W p l e { frames := 0, cells := 0, slots := 0, locals := 0 } s m args below meth c s.heap [] 0 0 (MQ below (QcV (.int r)) args s 0 0 (fun _ => False)) (F0 m 4 ls []) := by
    intro n4
    induction n4 with
    | zero =>
      intro x1 x2 x3 ls hf hl
      cases (show (none : Option Int32) = some _ from hf)
    | succ n4 ih4 =>
      have J40 : ∀ (x1 : Int32) (x3 : Int32) (xs0 : Int32) (xs1 : Int32) (ls : Array Slot), f_X10_loadsIn_b40 (f_X10_loadsIn_l4 n4) x1 x3 xs0 xs1 w = some r → lv_has ls 4 [(0, .ref (gq G 0)), (1, .int x1), (3, .int x3)] → W p l e { frames := 0, cells := 0, slots := 0, locals := 0 } s m args below meth c s.heap [] 0 0 (MQ below (QcV (.int r)) args s 0 0 (fun _ => False)) (F0 m 40 ls [.int xs1, .int xs0]) := by
        intro x1 x3 xs0 xs1 ls hf hl
        unfold f_X10_loadsIn_b40 at hf
        refine lv_iadd hx hb dX10_loadsIn_40 ?_
        refine lv_istore_n (lv' := [(2, .int (xs0 + xs1)), (0, .ref (gq G 0)), (1, .int x1), (3, .int x3)]) hx hb dX10_loadsIn_41 rfl hl (by decide) rfl (fun ls hl => ?_)
        refine lv_iinc (v := x3 + (1 : Int32)) (lv' := [(3, .int (x3 + (1 : Int32))), (2, .int (xs0 + xs1)), (0, .ref (gq G 0)), (1, .int x1)]) hx hb dX10_loadsIn_42 hl (k := 3) rfl (by rfl) (by decide) rfl (fun ls hl => ?_)
        refine lv_goto (tgt := 4) hx hb dX10_loadsIn_45 (by decide) ?_
        exact ih4 _ _ _ _ hf (lv_sub hl [2, 3, 1, 0] rfl)
      intro x1 x2 x3 ls hf hl
      have hf : f_X10_loadsIn_l4_body (f_X10_loadsIn_l4 n4) x1 x2 x3 w = _ := hf
      unfold f_X10_loadsIn_l4_body at hf
      refine lv_iload_n hx hb dX10_loadsIn_4 rfl (lv_at hl 3 rfl) ?_
      refine lv_aload_n hx hb dX10_loadsIn_5 rfl (lv_at hl 0 rfl) ?_
      refine GM_0_1 X h k_X10_7 dX10_loadsIn_6 ?_
      refine lv_sipush (v := 11345) hx hb dX10_loadsIn_9 (by decide) ?_
      obtain ⟨c1, hf⟩ := chk_some hf
      refine LM_1 X h c1 dX10_loadsIn_12 ?_
      refine lv_icmp_ge (tgt := 48) hx hb dX10_loadsIn_13 (by decide) (fun c2 => ?_) (fun c2 => ?_)
      · have hf := if_t c2 hf
        refine lv_iload_n hx hb dX10_loadsIn_48 rfl (lv_at hl 2 rfl) ?_
        cases hf
        exact rr_i X.1 hr hlocks dX10_loadsIn_49
      · have hf := if_f c2 hf
        refine lv_iload_n hx hb dX10_loadsIn_16 rfl (lv_at hl 2 rfl) ?_
        refine lv_aload_n hx hb dX10_loadsIn_17 rfl (lv_at hl 0 rfl) ?_
        refine GM_0_1 X h k_X10_7 dX10_loadsIn_18 ?_
        refine lv_sipush (v := 8844) hx hb dX10_loadsIn_21 (by decide) ?_
        refine lv_iconst (v := 5) hx hb dX10_loadsIn_24 (by decide) ?_
        refine lv_iload_n hx hb dX10_loadsIn_25 rfl (lv_at hl 3 rfl) ?_
        refine lv_imul hx hb dX10_loadsIn_26 ?_
        refine lv_iadd hx hb dX10_loadsIn_27 ?_
        refine lv_iconst (v := 3) hx hb dX10_loadsIn_28 (by decide) ?_
        refine lv_iadd hx hb dX10_loadsIn_29 ?_
        obtain ⟨c3, hf⟩ := chk_some hf
        refine LM_1 X h c3 dX10_loadsIn_30 ?_
        refine lv_iload_n hx hb dX10_loadsIn_31 rfl (lv_at hl 1 rfl) ?_
        refine lv_icmp_ne (tgt := 39) hx hb dX10_loadsIn_32 (by decide) (fun c4 => ?_) (fun c4 => ?_)
        · have hf := if_f c4 hf
          refine lv_iconst (v := 0) hx hb dX10_loadsIn_39 (by decide) ?_
          exact J40 _ _ _ _ _ hf (lv_sub hl [0, 1, 3] rfl)
        · have hf := if_t c4 hf
          refine lv_iconst (v := 1) hx hb dX10_loadsIn_35 (by decide) ?_
          refine lv_goto (tgt := 40) hx hb dX10_loadsIn_36 (by decide) ?_
          exact J40 _ _ _ _ _ hf (lv_sub hl [0, 1, 3] rfl)
  have hl : lv_has ls 4 [(0, .ref (gq G 0)), (1, .int x1)] := hl
  unfold f_X10_loadsIn at hf
  refine lv_iconst (v := 0) hx hb dX10_loadsIn_0 (by decide) ?_
  refine lv_istore_n (lv' := [(2, .int ((0 : Int32))), (0, .ref (gq G 0)), (1, .int x1)]) hx hb dX10_loadsIn_1 rfl hl (by decide) rfl (fun ls hl => ?_)
  refine lv_iconst (v := 0) hx hb dX10_loadsIn_2 (by decide) ?_
  refine lv_istore_n (lv' := [(3, .int ((0 : Int32))), (2, .int ((0 : Int32))), (0, .ref (gq G 0)), (1, .int x1)]) hx hb dX10_loadsIn_3 rfl hl (by decide) rfl (fun ls hl => ?_)
  exact L4 FU _ _ _ _ hf (lv_sub hl [2, 3, 1, 0] rfl)
theorem m_X10_loadsIn : Cond.instanceMethod yX10_loadsIn ∈ lw_good ∧ Cond.selects RX10 yX10_loadsIn yX10_loadsIn ∈ lw_good ∧ Cond.initialized RX10 ∈ lw_good ∧ Cond.code yX10_loadsIn cX10_loadsIn 4 (some .int) ∈ lw_good := by decide +kernel
theorem k_X10_loadsIn {p : Program} {l : Launch} {e : Env} {R : Room} {s : State} {m : MethodId} {args : Array Value} {below : List Frame} {meth : Method} {c : Code} {H : Heap} {locs : List Loc} {cells slots : Nat} {Q : State → Prop} {cc : ByteArray} {nL pc idx : Nat} {ls : Array Slot} {rest : List Value} {own : String} {G : Gm} {A : Nat → Prop} {H0 : Heap} {w : MW} {x1 : Int32} {r : Int32} (X : CX own cc nL G p s m args c) (h : CH G (mw G w) A H0 H locs) (hf : f_X10_loadsIn x1 w = some r) (hlk : Cond.methodLink own idx yX10_loadsIn ∈ lw_good) (hd : decode cc pc = .ok (.invokevirtual idx, 3)) (hsz : ls.size = nL) (hR : 1 ≤ R.frames ∧ 23 ≤ R.locals) (hrest : (rest.map fun v => v.category).sum ≤ 8) (hk : cells ≤ R.cells ∧ slots ≤ R.slots) (k : W p l e R s m args below meth c H locs cells slots Q (F0 m (pc + 3) ls (.int r :: rest))) : W p l e R s m args below meth c H locs cells slots Q (F0 m pc ls (.int x1 :: .ref (gq G 0) :: rest)) :=
  fin_r (runV (As := [.int x1]) X.1 1 (t_X10_loadsIn l G w x1 r hf) rfl rfl hlk m_X10_loadsIn (by decide +kernel) ⟨hR.1, hR.2⟩ ⟨blindR, va_recv X.2.1 h.1 (ci := 9) (q0 := 0) rfl rfl, preR X.2 h⟩ rfl hsz hrest hd hk) k
def f_X10_creditOf_l4_body (kself : (Int32 → Int32 → Int32 → MW → Option Int32)) (x1 : Int32) (x2 : Int32) (x3 : Int32) (w : MW) : Option Int32 :=
 if ((12 : Int32)) ≤ x3 then
 (some x2)
 else
 ((f_X10_of x1 (((14 : Int32)) + x3) w).bind fun y2 =>
 chk (inb (((8720 : Int32)) + (((2 : Int32)) * x3)) 11360) (
 (some (x2 + (y2 * (w 1 (((8720 : Int32)) + (((2 : Int32)) * x3)).toNatClampNeg)))).bind fun z4 =>
 kself x1 z4 (x3 + (1 : Int32)) w))
def f_X10_creditOf_l4 : Nat → Int32 → Int32 → Int32 → MW → Option Int32
  | 0, _, _, _, _ => none
  | n + 1, x1, x2, x3, w => f_X10_creditOf_l4_body (f_X10_creditOf_l4 n) x1 x2 x3 w
def f_X10_creditOf (x1 : Int32) (w : MW) : Option Int32 :=
 f_X10_creditOf_l4 FU x1 ((0 : Int32)) ((0 : Int32)) w
set_option maxHeartbeats 4000000 in
set_option maxRecDepth 100000 in
theorem t_X10_creditOf (l : Launch) (G : Gm) (w : MW) (x1 : Int32) (r : Int32) (hf : f_X10_creditOf x1 w = some r) : MetR l yX10_creditOf cX10_creditOf 4 (some .int) 1 22 G (mw G w) [.ref (gq G 0), .int x1] (.int r) := by
  refine ent (own := RX10) (As := [.ref (gq G 0), .int x1]) (by decide +kernel) rfl (Nat.le_of_ble_eq_true rfl) (fun _ _ h => h.1) ?_
  intro p e s m args below meth c ls B hr hlocks hv hl
  obtain ⟨-, hP, hKK, hD⟩ := hv
  have X : CX RX10 cX10_creditOf 4 G p s m args c := ⟨B, hKK⟩
  obtain ⟨hx, hb, hml, hown, hts⟩ := id B
  have h : CH G (mw G w) (fun _ => True) s.heap s.heap [] := ⟨hP, hD, va_S.rf⟩
  have L4 : ∀ (n4 : Nat) (x1 : Int32) (x2 : Int32) (x3 : Int32) (ls : Array Slot), f_X10_creditOf_l4 n4 x1 x2 x3 w = some r → lv_has ls 4 [(0, .ref (gq G 0)), (1, .int x1), (2, .int x2), (3, .int x3)] → W p l e { frames := 1, cells := 0, slots := 0, locals := 22 } s m args below meth c s.heap [] 0 0 (MQ below (QcV (.int r)) args s 0 0 (fun _ => False)) (F0 m 4 ls []) := by
    intro n4
    induction n4 with
    | zero =>
      intro x1 x2 x3 ls hf hl
      cases (show (none : Option Int32) = some _ from hf)
    | succ n4 ih4 =>
      intro x1 x2 x3 ls hf hl
      have hf : f_X10_creditOf_l4_body (f_X10_creditOf_l4 n4) x1 x2 x3 w = _ := hf
      unfold f_X10_creditOf_l4_body at hf
      refine lv_iload_n hx hb dX10_creditOf_4 rfl (lv_at hl 3 rfl) ?_
      refine lv_bipush (v := 12) hx hb dX10_creditOf_5 (by decide) ?_
      refine lv_icmp_ge (tgt := 41) hx hb dX10_creditOf_7 (by decide) (fun c1 => ?_) (fun c1 => ?_)
      · have hf := if_t c1 hf
        refine lv_iload_n hx hb dX10_creditOf_41 rfl (lv_at hl 2 rfl) ?_
        cases hf
        exact rr_i X.1 hr hlocks dX10_creditOf_42
      · have hf := if_f c1 hf
        refine lv_iload_n hx hb dX10_creditOf_10 rfl (lv_at hl 2 rfl) ?_
        refine lv_aload_n hx hb dX10_creditOf_11 rfl (lv_at hl 0 rfl) ?_
        refine lv_iload_n hx hb dX10_creditOf_12 rfl (lv_at hl 1 rfl) ?_
        refine lv_bipush (v := 14) hx hb dX10_creditOf_13 (by decide) ?_
        refine lv_iload_n hx hb dX10_creditOf_15 rfl (lv_at hl 3 rfl) ?_
        refine lv_iadd hx hb dX10_creditOf_16 ?_
        obtain ⟨y2, ey2, hf⟩ := bnd_some hf
        refine k_X10_of X h ey2 k_X10_75 dX10_creditOf_17 hl.1 ⟨(Nat.le_of_ble_eq_true rfl), (Nat.le_of_ble_eq_true rfl)⟩ (Nat.le_of_ble_eq_true rfl) ⟨Nat.zero_le _, Nat.zero_le _⟩ ?_
        refine lv_aload_n hx hb dX10_creditOf_20 rfl (lv_at hl 0 rfl) ?_
        refine GM_0_1 X h k_X10_7 dX10_creditOf_21 ?_
        refine lv_sipush (v := 8720) hx hb dX10_creditOf_24 (by decide) ?_
        refine lv_iconst (v := 2) hx hb dX10_creditOf_27 (by decide) ?_
        refine lv_iload_n hx hb dX10_creditOf_28 rfl (lv_at hl 3 rfl) ?_
        refine lv_imul hx hb dX10_creditOf_29 ?_
        refine lv_iadd hx hb dX10_creditOf_30 ?_
        obtain ⟨c3, hf⟩ := chk_some hf
        refine LM_1 X h c3 dX10_creditOf_31 ?_
        refine lv_imul hx hb dX10_creditOf_32 ?_
        refine lv_iadd hx hb dX10_creditOf_33 ?_
        obtain ⟨z4, ez4, hf⟩ := bnd_some hf
        refine nm_i (Option.some.inj ez4) ?_
        refine lv_istore_n (lv' := [(2, .int z4), (0, .ref (gq G 0)), (1, .int x1), (3, .int x3)]) hx hb dX10_creditOf_34 rfl hl (by decide) rfl (fun ls hl => ?_)
        refine lv_iinc (v := x3 + (1 : Int32)) (lv' := [(3, .int (x3 + (1 : Int32))), (2, .int z4), (0, .ref (gq G 0)), (1, .int x1)]) hx hb dX10_creditOf_35 hl (k := 3) rfl (by rfl) (by decide) rfl (fun ls hl => ?_)
        refine lv_goto (tgt := 4) hx hb dX10_creditOf_38 (by decide) ?_
        exact ih4 _ _ _ _ hf (lv_sub hl [2, 3, 1, 0] rfl)
  have hl : lv_has ls 4 [(0, .ref (gq G 0)), (1, .int x1)] := hl
  unfold f_X10_creditOf at hf
  refine lv_iconst (v := 0) hx hb dX10_creditOf_0 (by decide) ?_
  refine lv_istore_n (lv' := [(2, .int ((0 : Int32))), (0, .ref (gq G 0)), (1, .int x1)]) hx hb dX10_creditOf_1 rfl hl (by decide) rfl (fun ls hl => ?_)
  refine lv_iconst (v := 0) hx hb dX10_creditOf_2 (by decide) ?_
  refine lv_istore_n (lv' := [(3, .int ((0 : Int32))), (2, .int ((0 : Int32))), (0, .ref (gq G 0)), (1, .int x1)]) hx hb dX10_creditOf_3 rfl hl (by decide) rfl (fun ls hl => ?_)
  exact L4 FU _ _ _ _ hf (lv_sub hl [2, 3, 1, 0] rfl)
theorem m_X10_creditOf : Cond.instanceMethod yX10_creditOf ∈ lw_good ∧ Cond.selects RX10 yX10_creditOf yX10_creditOf ∈ lw_good ∧ Cond.initialized RX10 ∈ lw_good ∧ Cond.code yX10_creditOf cX10_creditOf 4 (some .int) ∈ lw_good := by decide +kernel
theorem k_X10_creditOf {p : Program} {l : Launch} {e : Env} {R : Room} {s : State} {m : MethodId} {args : Array Value} {below : List Frame} {meth : Method} {c : Code} {H : Heap} {locs : List Loc} {cells slots : Nat} {Q : State → Prop} {cc : ByteArray} {nL pc idx : Nat} {ls : Array Slot} {rest : List Value} {own : String} {G : Gm} {A : Nat → Prop} {H0 : Heap} {w : MW} {x1 : Int32} {r : Int32} (X : CX own cc nL G p s m args c) (h : CH G (mw G w) A H0 H locs) (hf : f_X10_creditOf x1 w = some r) (hlk : Cond.methodLink own idx yX10_creditOf ∈ lw_good) (hd : decode cc pc = .ok (.invokevirtual idx, 3)) (hsz : ls.size = nL) (hR : 2 ≤ R.frames ∧ 45 ≤ R.locals) (hrest : (rest.map fun v => v.category).sum ≤ 8) (hk : cells ≤ R.cells ∧ slots ≤ R.slots) (k : W p l e R s m args below meth c H locs cells slots Q (F0 m (pc + 3) ls (.int r :: rest))) : W p l e R s m args below meth c H locs cells slots Q (F0 m pc ls (.int x1 :: .ref (gq G 0) :: rest)) :=
  fin_r (runV (As := [.int x1]) X.1 1 (t_X10_creditOf l G w x1 r hf) rfl rfl hlk m_X10_creditOf (by decide +kernel) ⟨hR.1, hR.2⟩ ⟨blindR, va_recv X.2.1 h.1 (ci := 9) (q0 := 0) rfl rfl, preR X.2 h⟩ rfl hsz hrest hd hk) k
def f_X10_roomOf_l4_body (kself : (Int32 → Int32 → Int32 → MW → Option Int32)) (x1 : Int32) (x2 : Int32) (x3 : Int32) (w : MW) : Option Int32 :=
 (f_X10_of x1 ((7 : Int32)) w).bind fun y1 =>
 if y1 ≤ x3 then
 ((f_X10_kindOf x1 w).bind fun y3 =>
 if y3 = ((4 : Int32)) then
 (some x2)
 else
 ((f_X10_of x1 ((1 : Int32)) w).bind fun y5 =>
 some y5))
 else
 ((f_X10_of x1 (((8 : Int32)) + x3) w).bind fun y6 =>
 kself x1 (x2 + y6) (x3 + (1 : Int32)) w)
def f_X10_roomOf_l4 : Nat → Int32 → Int32 → Int32 → MW → Option Int32
  | 0, _, _, _, _ => none
  | n + 1, x1, x2, x3, w => f_X10_roomOf_l4_body (f_X10_roomOf_l4 n) x1 x2 x3 w
def f_X10_roomOf (x1 : Int32) (w : MW) : Option Int32 :=
 f_X10_roomOf_l4 FU x1 ((0 : Int32)) ((0 : Int32)) w
set_option maxHeartbeats 4000000 in
set_option maxRecDepth 100000 in
theorem t_X10_roomOf (l : Launch) (G : Gm) (w : MW) (x1 : Int32) (r : Int32) (hf : f_X10_roomOf x1 w = some r) : MetR l yX10_roomOf cX10_roomOf 4 (some .int) 2 43 G (mw G w) [.ref (gq G 0), .int x1] (.int r) := by
  refine ent (own := RX10) (As := [.ref (gq G 0), .int x1]) (by decide +kernel) rfl (Nat.le_of_ble_eq_true rfl) (fun _ _ h => h.1) ?_
  intro p e s m args below meth c ls B hr hlocks hv hl
  obtain ⟨-, hP, hKK, hD⟩ := hv
  have X : CX RX10 cX10_roomOf 4 G p s m args c := ⟨B, hKK⟩
  obtain ⟨hx, hb, hml, hown, hts⟩ := id B
  have h : CH G (mw G w) (fun _ => True) s.heap s.heap [] := ⟨hP, hD, va_S.rf⟩
  have L4 : ∀ (n4 : Nat) (x1 : Int32) (x2 : Int32) (x3 : Int32) (ls : Array Slot), f_X10_roomOf_l4 n4 x1 x2 x3 w = some r → lv_has ls 4 [(0, .ref (gq G 0)), (1, .int x1), (2, .int x2), (3, .int x3)] → W p l e { frames := 2, cells := 0, slots := 0, locals := 43 } s m args below meth c s.heap [] 0 0 (MQ below (QcV (.int r)) args s 0 0 (fun _ => False)) (F0 m 4 ls []) := by
    intro n4
    induction n4 with
    | zero =>
      intro x1 x2 x3 ls hf hl
      cases (show (none : Option Int32) = some _ from hf)
    | succ n4 ih4 =>
      intro x1 x2 x3 ls hf hl
      have hf : f_X10_roomOf_l4_body (f_X10_roomOf_l4 n4) x1 x2 x3 w = _ := hf
      unfold f_X10_roomOf_l4_body at hf
      refine lv_iload_n hx hb dX10_roomOf_4 rfl (lv_at hl 3 rfl) ?_
      refine lv_aload_n hx hb dX10_roomOf_5 rfl (lv_at hl 0 rfl) ?_
      refine lv_iload_n hx hb dX10_roomOf_6 rfl (lv_at hl 1 rfl) ?_
      refine lv_bipush (v := 7) hx hb dX10_roomOf_7 (by decide) ?_
      obtain ⟨y1, ey1, hf⟩ := bnd_some hf
      refine k_X10_of X h ey1 k_X10_75 dX10_roomOf_9 hl.1 ⟨(Nat.le_of_ble_eq_true rfl), (Nat.le_of_ble_eq_true rfl)⟩ (Nat.le_of_ble_eq_true rfl) ⟨Nat.zero_le _, Nat.zero_le _⟩ ?_
      refine lv_icmp_ge (tgt := 33) hx hb dX10_roomOf_12 (by decide) (fun c2 => ?_) (fun c2 => ?_)
      · have hf := if_t c2 hf
        refine lv_aload_n hx hb dX10_roomOf_33 rfl (lv_at hl 0 rfl) ?_
        refine lv_iload_n hx hb dX10_roomOf_34 rfl (lv_at hl 1 rfl) ?_
        obtain ⟨y3, ey3, hf⟩ := bnd_some hf
        refine k_X10_kindOf X h ey3 k_X10_79 dX10_roomOf_35 hl.1 ⟨(Nat.le_of_ble_eq_true rfl), (Nat.le_of_ble_eq_true rfl)⟩ (Nat.le_of_ble_eq_true rfl) ⟨Nat.zero_le _, Nat.zero_le _⟩ ?_
        refine lv_iconst (v := 4) hx hb dX10_roomOf_38 (by decide) ?_
        refine lv_icmp_ne (tgt := 46) hx hb dX10_roomOf_39 (by decide) (fun c4 => ?_) (fun c4 => ?_)
        · have hf := if_f c4 hf
          refine lv_aload_n hx hb dX10_roomOf_46 rfl (lv_at hl 0 rfl) ?_
          refine lv_iload_n hx hb dX10_roomOf_47 rfl (lv_at hl 1 rfl) ?_
          refine lv_iconst (v := 1) hx hb dX10_roomOf_48 (by decide) ?_
          obtain ⟨y5, ey5, hf⟩ := bnd_some hf
          refine k_X10_of X h ey5 k_X10_75 dX10_roomOf_49 hl.1 ⟨(Nat.le_of_ble_eq_true rfl), (Nat.le_of_ble_eq_true rfl)⟩ (Nat.le_of_ble_eq_true rfl) ⟨Nat.zero_le _, Nat.zero_le _⟩ ?_
          cases hf
          exact rr_i X.1 hr hlocks dX10_roomOf_52
        · have hf := if_t c4 hf
          refine lv_iload_n hx hb dX10_roomOf_42 rfl (lv_at hl 2 rfl) ?_
          refine lv_goto (tgt := 52) hx hb dX10_roomOf_43 (by decide) ?_
          cases hf
          exact rr_i X.1 hr hlocks dX10_roomOf_52
      · have hf := if_f c2 hf
        refine lv_iload_n hx hb dX10_roomOf_15 rfl (lv_at hl 2 rfl) ?_
        refine lv_aload_n hx hb dX10_roomOf_16 rfl (lv_at hl 0 rfl) ?_
        refine lv_iload_n hx hb dX10_roomOf_17 rfl (lv_at hl 1 rfl) ?_
        refine lv_bipush (v := 8) hx hb dX10_roomOf_18 (by decide) ?_
        refine lv_iload_n hx hb dX10_roomOf_20 rfl (lv_at hl 3 rfl) ?_
        refine lv_iadd hx hb dX10_roomOf_21 ?_
        obtain ⟨y6, ey6, hf⟩ := bnd_some hf
        refine k_X10_of X h ey6 k_X10_75 dX10_roomOf_22 hl.1 ⟨(Nat.le_of_ble_eq_true rfl), (Nat.le_of_ble_eq_true rfl)⟩ (Nat.le_of_ble_eq_true rfl) ⟨Nat.zero_le _, Nat.zero_le _⟩ ?_
        refine lv_iadd hx hb dX10_roomOf_25 ?_
        refine lv_istore_n (lv' := [(2, .int (x2 + y6)), (0, .ref (gq G 0)), (1, .int x1), (3, .int x3)]) hx hb dX10_roomOf_26 rfl hl (by decide) rfl (fun ls hl => ?_)
        refine lv_iinc (v := x3 + (1 : Int32)) (lv' := [(3, .int (x3 + (1 : Int32))), (2, .int (x2 + y6)), (0, .ref (gq G 0)), (1, .int x1)]) hx hb dX10_roomOf_27 hl (k := 3) rfl (by rfl) (by decide) rfl (fun ls hl => ?_)
        refine lv_goto (tgt := 4) hx hb dX10_roomOf_30 (by decide) ?_
        exact ih4 _ _ _ _ hf (lv_sub hl [2, 3, 1, 0] rfl)
  have hl : lv_has ls 4 [(0, .ref (gq G 0)), (1, .int x1)] := hl
  unfold f_X10_roomOf at hf
  refine lv_iconst (v := 0) hx hb dX10_roomOf_0 (by decide) ?_
  refine lv_istore_n (lv' := [(2, .int ((0 : Int32))), (0, .ref (gq G 0)), (1, .int x1)]) hx hb dX10_roomOf_1 rfl hl (by decide) rfl (fun ls hl => ?_)
  refine lv_iconst (v := 0) hx hb dX10_roomOf_2 (by decide) ?_
  refine lv_istore_n (lv' := [(3, .int ((0 : Int32))), (2, .int ((0 : Int32))), (0, .ref (gq G 0)), (1, .int x1)]) hx hb dX10_roomOf_3 rfl hl (by decide) rfl (fun ls hl => ?_)
  exact L4 FU _ _ _ _ hf (lv_sub hl [2, 3, 1, 0] rfl)
theorem m_X10_roomOf : Cond.instanceMethod yX10_roomOf ∈ lw_good ∧ Cond.selects RX10 yX10_roomOf yX10_roomOf ∈ lw_good ∧ Cond.initialized RX10 ∈ lw_good ∧ Cond.code yX10_roomOf cX10_roomOf 4 (some .int) ∈ lw_good := by decide +kernel
theorem k_X10_roomOf {p : Program} {l : Launch} {e : Env} {R : Room} {s : State} {m : MethodId} {args : Array Value} {below : List Frame} {meth : Method} {c : Code} {H : Heap} {locs : List Loc} {cells slots : Nat} {Q : State → Prop} {cc : ByteArray} {nL pc idx : Nat} {ls : Array Slot} {rest : List Value} {own : String} {G : Gm} {A : Nat → Prop} {H0 : Heap} {w : MW} {x1 : Int32} {r : Int32} (X : CX own cc nL G p s m args c) (h : CH G (mw G w) A H0 H locs) (hf : f_X10_roomOf x1 w = some r) (hlk : Cond.methodLink own idx yX10_roomOf ∈ lw_good) (hd : decode cc pc = .ok (.invokevirtual idx, 3)) (hsz : ls.size = nL) (hR : 3 ≤ R.frames ∧ 66 ≤ R.locals) (hrest : (rest.map fun v => v.category).sum ≤ 8) (hk : cells ≤ R.cells ∧ slots ≤ R.slots) (k : W p l e R s m args below meth c H locs cells slots Q (F0 m (pc + 3) ls (.int r :: rest))) : W p l e R s m args below meth c H locs cells slots Q (F0 m pc ls (.int x1 :: .ref (gq G 0) :: rest)) :=
  fin_r (runV (As := [.int x1]) X.1 1 (t_X10_roomOf l G w x1 r hf) rfl rfl hlk m_X10_roomOf (by decide +kernel) ⟨hR.1, hR.2⟩ ⟨blindR, va_recv X.2.1 h.1 (ci := 9) (q0 := 0) rfl rfl, preR X.2 h⟩ rfl hsz hrest hd hk) k
def f_X10_note (x1 : Int32) (x2 : Int32) (w : MW) : Option MW :=
 chk (inb ((w 0 11) - (w 0 11) / ((30 : Int32)) * ((30 : Int32))) 30) (
 (some (mst w 5 ((w 0 11) - (w 0 11) / ((30 : Int32)) * ((30 : Int32))).toNatClampNeg ((((10 : Int32)) * x1) + x2))).bind fun w2 =>
 some (mst w2 0 11 ((w2 0 11) + ((1 : Int32)))))
set_option maxHeartbeats 4000000 in
set_option maxRecDepth 100000 in
theorem t_X10_note (l : Launch) (G : Gm) (w0 : MW) (x1 : Int32) (x2 : Int32) (w' : MW) (hf : f_X10_note x1 x2 w0 = some w') : MetV l yX10_note cX10_note 3 0 0 G (mw G w0) [.ref (gq G 0), .int x1, .int x2] (fun _ => mw G (w')) 0 := by
  intro sz
  refine ent (own := RX10) (As := [.ref (gq G 0), .int x1, .int x2]) (by decide +kernel) rfl (Nat.le_of_ble_eq_true rfl) (fun _ _ h => h.1) ?_
  intro p e s m args below meth c ls B hr hlocks hv hl
  obtain ⟨-, hsz, hP, hKK, hD⟩ := hv
  subst hsz
  have X : CX RX10 cX10_note 3 G p s m args c := ⟨B, hKK⟩
  obtain ⟨hx, hb, hml, hown, hts⟩ := id B
  have hA : ∀ q : Nat, s.heap.size ≤ q → va_A (mw G w0) s.heap.size q := fun q z => Or.inr z
  have h : CH G (mw G w0) (va_A (mw G w0) s.heap.size) s.heap s.heap [] := ⟨hP, hD.self, va_S.rf⟩
  obtain ⟨w, rfl⟩ : ∃ z, z = w0 := ⟨_, rfl⟩
  have hl : lv_has ls 3 [(0, .ref (gq G 0)), (1, .int x1), (2, .int x2)] := hl
  unfold f_X10_note at hf
  refine lv_aload_n hx hb dX10_note_0 rfl (lv_at hl 0 rfl) ?_
  refine GM_0_10 X h k_X10_23 dX10_note_1 ?_
  refine lv_aload_n hx hb dX10_note_4 rfl (lv_at hl 0 rfl) ?_
  refine GM_0_11 X h k_X10_83 dX10_note_5 ?_
  refine lv_bipush (v := 30) hx hb dX10_note_8 (by decide) ?_
  refine lv_irem hx hb dX10_note_10 (by decide) ?_
  refine lv_bipush (v := 10) hx hb dX10_note_11 (by decide) ?_
  refine lv_iload_n hx hb dX10_note_13 rfl (lv_at hl 1 rfl) ?_
  refine lv_imul hx hb dX10_note_14 ?_
  refine lv_iload_n hx hb dX10_note_15 rfl (lv_at hl 2 rfl) ?_
  refine lv_iadd hx hb dX10_note_16 ?_
  obtain ⟨c1, hf⟩ := chk_some hf
  refine SM_5 X h c1 dX10_note_17 (fun H locs h => ?_)
  obtain ⟨w2, ew2, hf⟩ := bnd_some hf
  have h := (Option.some.inj ew2) ▸ h
  refine lv_aload_n hx hb dX10_note_18 rfl (lv_at hl 0 rfl) ?_
  refine lv_dup hx hb dX10_note_19 rfl ?_
  refine GM_0_11 X h k_X10_83 dX10_note_20 ?_
  refine lv_iconst (v := 1) hx hb dX10_note_23 (by decide) ?_
  refine lv_iadd hx hb dX10_note_24 ?_
  refine PM_0_11 X h k_X10_83 dX10_note_25 (fun H locs h => ?_)
  exact e0_v (Wf := mw G) X.1 hr hlocks hf h dX10_note_28
theorem m_X10_note : Cond.instanceMethod yX10_note ∈ lw_good ∧ Cond.selects RX10 yX10_note yX10_note ∈ lw_good ∧ Cond.initialized RX10 ∈ lw_good ∧ Cond.code yX10_note cX10_note 3 none ∈ lw_good := by decide +kernel
theorem k_X10_note {p : Program} {l : Launch} {e : Env} {R : Room} {s : State} {m : MethodId} {args : Array Value} {below : List Frame} {meth : Method} {c : Code} {H : Heap} {locs : List Loc} {cells slots : Nat} {Q : State → Prop} {cc : ByteArray} {nL pc idx : Nat} {ls : Array Slot} {rest : List Value} {own : String} {G : Gm} {A : Nat → Prop} {H0 : Heap} {w : MW} {x1 : Int32} {x2 : Int32} {w' : MW} (X : CX own cc nL G p s m args c) (h : CH G (mw G w) A H0 H locs) (hA : ∀ q, H0.size ≤ q → A q) (hf : f_X10_note x1 x2 w = some w') (hlk : Cond.methodLink own idx yX10_note ∈ lw_good) (hd : decode cc pc = .ok (.invokevirtual idx, 3)) (hsz : ls.size = nL) (hR : 1 ≤ R.frames ∧ 22 ≤ R.locals) (hrest : (rest.map fun v => v.category).sum ≤ 8) (hk : cells ≤ R.cells ∧ slots ≤ R.slots) (k : ∀ (H : Heap) (locs : List Loc), CH G (mw G (w')) A H0 H locs → W p l e R s m args below meth c H locs cells slots Q (F0 m (pc + 3) ls (rest))) : W p l e R s m args below meth c H locs cells slots Q (F0 m pc ls (.int x2 :: .int x1 :: .ref (gq G 0) :: rest)) :=
  fin_v (n := 0) (runV (As := [.int x1, .int x2]) X.1 2 (t_X10_note l G w x1 x2 w' hf _) rfl rfl hlk m_X10_note (by decide +kernel) ⟨hR.1, hR.2⟩ ⟨blindM, va_recv X.2.1 h.1 (ci := 9) (q0 := 0) rfl rfl, preM X.2 h⟩ rfl hsz hrest hd hk) h hA (fun _ H locs h => k H locs h)
def f_X10_plain (x1 : Int32) (w : MW) : Option (Int32 × MW) :=
 (f_X10_note ((5 : Int32)) x1 w).bind fun y1 =>
 if x1 = ((2 : Int32)) then
 (some ((1 : Int32), y1))
 else
 (some ((0 : Int32), y1))
set_option maxHeartbeats 4000000 in
set_option maxRecDepth 100000 in
theorem t_X10_plain (l : Launch) (G : Gm) (w0 : MW) (x1 : Int32) (r : Int32) (w' : MW) (hf : f_X10_plain x1 w0 = some (r, w')) : MetI l yX10_plain cX10_plain 2 (some .int) 1 22 G (mw G w0) [.ref (gq G 0), .int x1] r (fun _ => mw G (w')) 0 := by
  intro sz
  refine ent (own := RX10) (As := [.ref (gq G 0), .int x1]) (by decide +kernel) rfl (Nat.le_of_ble_eq_true rfl) (fun _ _ h => h.1) ?_
  intro p e s m args below meth c ls B hr hlocks hv hl
  obtain ⟨-, hsz, hP, hKK, hD⟩ := hv
  subst hsz
  have X : CX RX10 cX10_plain 2 G p s m args c := ⟨B, hKK⟩
  obtain ⟨hx, hb, hml, hown, hts⟩ := id B
  have hA : ∀ q : Nat, s.heap.size ≤ q → va_A (mw G w0) s.heap.size q := fun q z => Or.inr z
  have h : CH G (mw G w0) (va_A (mw G w0) s.heap.size) s.heap s.heap [] := ⟨hP, hD.self, va_S.rf⟩
  obtain ⟨w, rfl⟩ : ∃ z, z = w0 := ⟨_, rfl⟩
  have hl : lv_has ls 2 [(0, .ref (gq G 0)), (1, .int x1)] := hl
  unfold f_X10_plain at hf
  refine lv_aload_n hx hb dX10_plain_0 rfl (lv_at hl 0 rfl) ?_
  refine lv_iconst (v := 5) hx hb dX10_plain_1 (by decide) ?_
  refine lv_iload_n hx hb dX10_plain_2 rfl (lv_at hl 1 rfl) ?_
  obtain ⟨y1, ey1, hf⟩ := bnd_some hf
  refine k_X10_note X h hA ey1 k_X10_86 dX10_plain_3 hl.1 ⟨(Nat.le_of_ble_eq_true rfl), (Nat.le_of_ble_eq_true rfl)⟩ (Nat.le_of_ble_eq_true rfl) ⟨Nat.zero_le _, Nat.zero_le _⟩ (fun H locs h => ?_)
  refine lv_iload_n hx hb dX10_plain_6 rfl (lv_at hl 1 rfl) ?_
  refine lv_iconst (v := 2) hx hb dX10_plain_7 (by decide) ?_
  refine lv_icmp_ne (tgt := 15) hx hb dX10_plain_8 (by decide) (fun c2 => ?_) (fun c2 => ?_)
  · have hf := if_f c2 hf
    refine lv_iconst (v := 0) hx hb dX10_plain_15 (by decide) ?_
    exact e0_i (Wf := mw G) X.1 hr hlocks hf h dX10_plain_16
  · have hf := if_t c2 hf
    refine lv_iconst (v := 1) hx hb dX10_plain_11 (by decide) ?_
    refine lv_goto (tgt := 16) hx hb dX10_plain_12 (by decide) ?_
    exact e0_i (Wf := mw G) X.1 hr hlocks hf h dX10_plain_16
theorem m_X10_plain : Cond.instanceMethod yX10_plain ∈ lw_good ∧ Cond.selects RX10 yX10_plain yX10_plain ∈ lw_good ∧ Cond.initialized RX10 ∈ lw_good ∧ Cond.code yX10_plain cX10_plain 2 (some .int) ∈ lw_good := by decide +kernel
theorem k_X10_plain {p : Program} {l : Launch} {e : Env} {R : Room} {s : State} {m : MethodId} {args : Array Value} {below : List Frame} {meth : Method} {c : Code} {H : Heap} {locs : List Loc} {cells slots : Nat} {Q : State → Prop} {cc : ByteArray} {nL pc idx : Nat} {ls : Array Slot} {rest : List Value} {own : String} {G : Gm} {A : Nat → Prop} {H0 : Heap} {w : MW} {x1 : Int32} {y : Int32 × MW} (X : CX own cc nL G p s m args c) (h : CH G (mw G w) A H0 H locs) (hA : ∀ q, H0.size ≤ q → A q) (hf : f_X10_plain x1 w = some y) (hlk : Cond.methodLink own idx yX10_plain ∈ lw_good) (hd : decode cc pc = .ok (.invokevirtual idx, 3)) (hsz : ls.size = nL) (hR : 2 ≤ R.frames ∧ 43 ≤ R.locals) (hrest : (rest.map fun v => v.category).sum ≤ 8) (hk : cells ≤ R.cells ∧ slots ≤ R.slots) (k : ∀ (H : Heap) (locs : List Loc), CH G (mw G y.2) A H0 H locs → W p l e R s m args below meth c H locs cells slots Q (F0 m (pc + 3) ls (.int y.1 :: rest))) : W p l e R s m args below meth c H locs cells slots Q (F0 m pc ls (.int x1 :: .ref (gq G 0) :: rest)) :=
  fin_i (n := 0) (runV (As := [.int x1]) X.1 1 (t_X10_plain l G w x1 y.1 y.2 hf _) rfl rfl hlk m_X10_plain (by decide +kernel) ⟨hR.1, hR.2⟩ ⟨blindM, va_recv X.2.1 h.1 (ci := 9) (q0 := 0) rfl rfl, preM X.2 h⟩ rfl hsz hrest hd hk) h hA (fun _ H locs h => k H locs h)
def f_X10_washers (x1 : Int32) (x2 : Int32) (w : MW) : Option (Int32 × MW) :=
 (f_X10_note ((0 : Int32)) x1 w).bind fun y1 =>
 if x1 = 0 then
 (if x2 = 0 then
 (some ((10 : Int32), y1))
 else
 ((f_X10_plain ((0 : Int32)) y1).bind fun y11 =>
 some (y11.1, y11.2)))
 else
 (if x1 = ((1 : Int32)) then
 (if x2 = ((1 : Int32)) then
 (some ((4 : Int32), y1))
 else
 ((f_X10_plain ((1 : Int32)) y1).bind fun y9 =>
 some (y9.1, y9.2)))
 else
 (if x1 = ((2 : Int32)) then
 ((f_X10_plain ((2 : Int32)) y1).bind fun y5 =>
 if x2 = ((1 : Int32)) then
 (some (y5.1 + ((2 : Int32)), y5.2))
 else
 (if x2 = ((3 : Int32)) then
 (some (y5.1 + ((2 : Int32)), y5.2))
 else
 (some (y5.1 + ((0 : Int32)), y5.2))))
 else
 (some ((2 : Int32), y1))))
set_option maxHeartbeats 4000000 in
set_option maxRecDepth 100000 in
theorem t_X10_washers (l : Launch) (G : Gm) (w0 : MW) (x1 : Int32) (x2 : Int32) (r : Int32) (w' : MW) (hf : f_X10_washers x1 x2 w0 = some (r, w')) : MetI l yX10_washers cX10_washers 3 (some .int) 2 43 G (mw G w0) [.ref (gq G 0), .int x1, .int x2] r (fun _ => mw G (w')) 0 := by
  intro sz
  refine ent (own := RX10) (As := [.ref (gq G 0), .int x1, .int x2]) (by decide +kernel) rfl (Nat.le_of_ble_eq_true rfl) (fun _ _ h => h.1) ?_
  intro p e s m args below meth c ls B hr hlocks hv hl
  obtain ⟨-, hsz, hP, hKK, hD⟩ := hv
  subst hsz
  have X : CX RX10 cX10_washers 3 G p s m args c := ⟨B, hKK⟩
  obtain ⟨hx, hb, hml, hown, hts⟩ := id B
  have hA : ∀ q : Nat, s.heap.size ≤ q → va_A (mw G w0) s.heap.size q := fun q z => Or.inr z
  have h : CH G (mw G w0) (va_A (mw G w0) s.heap.size) s.heap s.heap [] := ⟨hP, hD.self, va_S.rf⟩
  obtain ⟨w, rfl⟩ : ∃ z, z = w0 := ⟨_, rfl⟩
  have hl : lv_has ls 3 [(0, .ref (gq G 0)), (1, .int x1), (2, .int x2)] := hl
  unfold f_X10_washers at hf
  refine lv_aload_n hx hb dX10_washers_0 rfl (lv_at hl 0 rfl) ?_
  refine lv_iconst (v := 0) hx hb dX10_washers_1 (by decide) ?_
  refine lv_iload_n hx hb dX10_washers_2 rfl (lv_at hl 1 rfl) ?_
  obtain ⟨y1, ey1, hf⟩ := bnd_some hf
  refine k_X10_note X h hA ey1 k_X10_86 dX10_washers_3 hl.1 ⟨(Nat.le_of_ble_eq_true rfl), (Nat.le_of_ble_eq_true rfl)⟩ (Nat.le_of_ble_eq_true rfl) ⟨Nat.zero_le _, Nat.zero_le _⟩ (fun H locs h => ?_)
  refine lv_iload_n hx hb dX10_washers_6 rfl (lv_at hl 1 rfl) ?_
  refine lv_if_ne (tgt := 25) hx hb dX10_washers_7 (by decide) (fun c2 => ?_) (fun c2 => ?_)
  · have hf := if_f c2 hf
    refine lv_iload_n hx hb dX10_washers_25 rfl (lv_at hl 1 rfl) ?_
    refine lv_iconst (v := 1) hx hb dX10_washers_26 (by decide) ?_
    refine lv_icmp_ne (tgt := 45) hx hb dX10_washers_27 (by decide) (fun c3 => ?_) (fun c3 => ?_)
    · have hf := if_f c3 hf
      refine lv_iload_n hx hb dX10_washers_45 rfl (lv_at hl 1 rfl) ?_
      refine lv_iconst (v := 2) hx hb dX10_washers_46 (by decide) ?_
      refine lv_icmp_ne (tgt := 74) hx hb dX10_washers_47 (by decide) (fun c4 => ?_) (fun c4 => ?_)
      · have hf := if_f c4 hf
        refine lv_iconst (v := 2) hx hb dX10_washers_74 (by decide) ?_
        exact e0_i (Wf := mw G) X.1 hr hlocks hf h dX10_washers_75
      · have hf := if_t c4 hf
        refine lv_aload_n hx hb dX10_washers_50 rfl (lv_at hl 0 rfl) ?_
        refine lv_iconst (v := 2) hx hb dX10_washers_51 (by decide) ?_
        obtain ⟨y5, ey5, hf⟩ := bnd_some hf
        refine k_X10_plain X h hA ey5 k_X10_89 dX10_washers_52 hl.1 ⟨(Nat.le_of_ble_eq_true rfl), (Nat.le_of_ble_eq_true rfl)⟩ (Nat.le_of_ble_eq_true rfl) ⟨Nat.zero_le _, Nat.zero_le _⟩ (fun H locs h => ?_)
        refine lv_iload_n hx hb dX10_washers_55 rfl (lv_at hl 2 rfl) ?_
        refine lv_iconst (v := 1) hx hb dX10_washers_56 (by decide) ?_
        refine lv_icmp_eq (tgt := 65) hx hb dX10_washers_57 (by decide) (fun c6 => ?_) (fun c6 => ?_)
        · have hf := if_t c6 hf
          refine lv_iconst (v := 2) hx hb dX10_washers_65 (by decide) ?_
          refine lv_goto (tgt := 70) hx hb dX10_washers_66 (by decide) ?_
          refine lv_iadd hx hb dX10_washers_70 ?_
          refine lv_goto (tgt := 75) hx hb dX10_washers_71 (by decide) ?_
          exact e0_i (Wf := mw G) X.1 hr hlocks hf h dX10_washers_75
        · have hf := if_f c6 hf
          refine lv_iload_n hx hb dX10_washers_60 rfl (lv_at hl 2 rfl) ?_
          refine lv_iconst (v := 3) hx hb dX10_washers_61 (by decide) ?_
          refine lv_icmp_ne (tgt := 69) hx hb dX10_washers_62 (by decide) (fun c7 => ?_) (fun c7 => ?_)
          · have hf := if_f c7 hf
            refine lv_iconst (v := 0) hx hb dX10_washers_69 (by decide) ?_
            refine lv_iadd hx hb dX10_washers_70 ?_
            refine lv_goto (tgt := 75) hx hb dX10_washers_71 (by decide) ?_
            exact e0_i (Wf := mw G) X.1 hr hlocks hf h dX10_washers_75
          · have hf := if_t c7 hf
            refine lv_iconst (v := 2) hx hb dX10_washers_65 (by decide) ?_
            refine lv_goto (tgt := 70) hx hb dX10_washers_66 (by decide) ?_
            refine lv_iadd hx hb dX10_washers_70 ?_
            refine lv_goto (tgt := 75) hx hb dX10_washers_71 (by decide) ?_
            exact e0_i (Wf := mw G) X.1 hr hlocks hf h dX10_washers_75
    · have hf := if_t c3 hf
      refine lv_iload_n hx hb dX10_washers_30 rfl (lv_at hl 2 rfl) ?_
      refine lv_iconst (v := 1) hx hb dX10_washers_31 (by decide) ?_
      refine lv_icmp_ne (tgt := 39) hx hb dX10_washers_32 (by decide) (fun c8 => ?_) (fun c8 => ?_)
      · have hf := if_f c8 hf
        refine lv_aload_n hx hb dX10_washers_39 rfl (lv_at hl 0 rfl) ?_
        refine lv_iconst (v := 1) hx hb dX10_washers_40 (by decide) ?_
        obtain ⟨y9, ey9, hf⟩ := bnd_some hf
        refine k_X10_plain X h hA ey9 k_X10_89 dX10_washers_41 hl.1 ⟨(Nat.le_of_ble_eq_true rfl), (Nat.le_of_ble_eq_true rfl)⟩ (Nat.le_of_ble_eq_true rfl) ⟨Nat.zero_le _, Nat.zero_le _⟩ (fun H locs h => ?_)
        exact e0_i (Wf := mw G) X.1 hr hlocks hf h dX10_washers_44
      · have hf := if_t c8 hf
        refine lv_iconst (v := 4) hx hb dX10_washers_35 (by decide) ?_
        refine lv_goto (tgt := 44) hx hb dX10_washers_36 (by decide) ?_
        exact e0_i (Wf := mw G) X.1 hr hlocks hf h dX10_washers_44
  · have hf := if_t c2 hf
    refine lv_iload_n hx hb dX10_washers_10 rfl (lv_at hl 2 rfl) ?_
    refine lv_if_ne (tgt := 19) hx hb dX10_washers_11 (by decide) (fun c10 => ?_) (fun c10 => ?_)
    · have hf := if_f c10 hf
      refine lv_aload_n hx hb dX10_washers_19 rfl (lv_at hl 0 rfl) ?_
      refine lv_iconst (v := 0) hx hb dX10_washers_20 (by decide) ?_
      obtain ⟨y11, ey11, hf⟩ := bnd_some hf
      refine k_X10_plain X h hA ey11 k_X10_89 dX10_washers_21 hl.1 ⟨(Nat.le_of_ble_eq_true rfl), (Nat.le_of_ble_eq_true rfl)⟩ (Nat.le_of_ble_eq_true rfl) ⟨Nat.zero_le _, Nat.zero_le _⟩ (fun H locs h => ?_)
      exact e0_i (Wf := mw G) X.1 hr hlocks hf h dX10_washers_24
    · have hf := if_t c10 hf
      refine lv_bipush (v := 10) hx hb dX10_washers_14 (by decide) ?_
      refine lv_goto (tgt := 24) hx hb dX10_washers_16 (by decide) ?_
      exact e0_i (Wf := mw G) X.1 hr hlocks hf h dX10_washers_24
theorem m_X10_washers : Cond.instanceMethod yX10_washers ∈ lw_good ∧ Cond.selects RX10 yX10_washers yX10_washers ∈ lw_good ∧ Cond.initialized RX10 ∈ lw_good ∧ Cond.code yX10_washers cX10_washers 3 (some .int) ∈ lw_good := by decide +kernel
theorem k_X10_washers {p : Program} {l : Launch} {e : Env} {R : Room} {s : State} {m : MethodId} {args : Array Value} {below : List Frame} {meth : Method} {c : Code} {H : Heap} {locs : List Loc} {cells slots : Nat} {Q : State → Prop} {cc : ByteArray} {nL pc idx : Nat} {ls : Array Slot} {rest : List Value} {own : String} {G : Gm} {A : Nat → Prop} {H0 : Heap} {w : MW} {x1 : Int32} {x2 : Int32} {y : Int32 × MW} (X : CX own cc nL G p s m args c) (h : CH G (mw G w) A H0 H locs) (hA : ∀ q, H0.size ≤ q → A q) (hf : f_X10_washers x1 x2 w = some y) (hlk : Cond.methodLink own idx yX10_washers ∈ lw_good) (hd : decode cc pc = .ok (.invokevirtual idx, 3)) (hsz : ls.size = nL) (hR : 3 ≤ R.frames ∧ 65 ≤ R.locals) (hrest : (rest.map fun v => v.category).sum ≤ 8) (hk : cells ≤ R.cells ∧ slots ≤ R.slots) (k : ∀ (H : Heap) (locs : List Loc), CH G (mw G y.2) A H0 H locs → W p l e R s m args below meth c H locs cells slots Q (F0 m (pc + 3) ls (.int y.1 :: rest))) : W p l e R s m args below meth c H locs cells slots Q (F0 m pc ls (.int x2 :: .int x1 :: .ref (gq G 0) :: rest)) :=
  fin_i (n := 0) (runV (As := [.int x1, .int x2]) X.1 2 (t_X10_washers l G w x1 x2 y.1 y.2 hf _) rfl rfl hlk m_X10_washers (by decide +kernel) ⟨hR.1, hR.2⟩ ⟨blindM, va_recv X.2.1 h.1 (ci := 9) (q0 := 0) rfl rfl, preM X.2 h⟩ rfl hsz hrest hd hk) h hA (fun _ H locs h => k H locs h)
def f_X10_dryers (x1 : Int32) (x2 : Int32) (w : MW) : Option (Int32 × MW) :=
 (f_X10_note ((2 : Int32)) x1 w).bind fun y1 =>
 if x1 = ((1 : Int32)) then
 (if x2 = ((2 : Int32)) then
 (some ((9 : Int32), y1))
 else
 (if x2 = ((1 : Int32)) then
 (some ((5 : Int32), y1))
 else
 ((f_X10_plain ((1 : Int32)) y1).bind fun y8 =>
 some (y8.1, y8.2))))
 else
 (if x1 = ((2 : Int32)) then
 ((f_X10_plain ((2 : Int32)) y1).bind fun y4 =>
 if x2 = ((1 : Int32)) then
 (some (y4.1 + ((3 : Int32)), y4.2))
 else
 (some (y4.1 + ((0 : Int32)), y4.2)))
 else
 (some ((1 : Int32), y1)))
set_option maxHeartbeats 4000000 in
set_option maxRecDepth 100000 in
theorem t_X10_dryers (l : Launch) (G : Gm) (w0 : MW) (x1 : Int32) (x2 : Int32) (r : Int32) (w' : MW) (hf : f_X10_dryers x1 x2 w0 = some (r, w')) : MetI l yX10_dryers cX10_dryers 3 (some .int) 2 43 G (mw G w0) [.ref (gq G 0), .int x1, .int x2] r (fun _ => mw G (w')) 0 := by
  intro sz
  refine ent (own := RX10) (As := [.ref (gq G 0), .int x1, .int x2]) (by decide +kernel) rfl (Nat.le_of_ble_eq_true rfl) (fun _ _ h => h.1) ?_
  intro p e s m args below meth c ls B hr hlocks hv hl
  obtain ⟨-, hsz, hP, hKK, hD⟩ := hv
  subst hsz
  have X : CX RX10 cX10_dryers 3 G p s m args c := ⟨B, hKK⟩
  obtain ⟨hx, hb, hml, hown, hts⟩ := id B
  have hA : ∀ q : Nat, s.heap.size ≤ q → va_A (mw G w0) s.heap.size q := fun q z => Or.inr z
  have h : CH G (mw G w0) (va_A (mw G w0) s.heap.size) s.heap s.heap [] := ⟨hP, hD.self, va_S.rf⟩
  obtain ⟨w, rfl⟩ : ∃ z, z = w0 := ⟨_, rfl⟩
  have hl : lv_has ls 3 [(0, .ref (gq G 0)), (1, .int x1), (2, .int x2)] := hl
  unfold f_X10_dryers at hf
  refine lv_aload_n hx hb dX10_dryers_0 rfl (lv_at hl 0 rfl) ?_
  refine lv_iconst (v := 2) hx hb dX10_dryers_1 (by decide) ?_
  refine lv_iload_n hx hb dX10_dryers_2 rfl (lv_at hl 1 rfl) ?_
  obtain ⟨y1, ey1, hf⟩ := bnd_some hf
  refine k_X10_note X h hA ey1 k_X10_86 dX10_dryers_3 hl.1 ⟨(Nat.le_of_ble_eq_true rfl), (Nat.le_of_ble_eq_true rfl)⟩ (Nat.le_of_ble_eq_true rfl) ⟨Nat.zero_le _, Nat.zero_le _⟩ (fun H locs h => ?_)
  refine lv_iload_n hx hb dX10_dryers_6 rfl (lv_at hl 1 rfl) ?_
  refine lv_iconst (v := 1) hx hb dX10_dryers_7 (by decide) ?_
  refine lv_icmp_ne (tgt := 36) hx hb dX10_dryers_8 (by decide) (fun c2 => ?_) (fun c2 => ?_)
  · have hf := if_f c2 hf
    refine lv_iload_n hx hb dX10_dryers_36 rfl (lv_at hl 1 rfl) ?_
    refine lv_iconst (v := 2) hx hb dX10_dryers_37 (by decide) ?_
    refine lv_icmp_ne (tgt := 60) hx hb dX10_dryers_38 (by decide) (fun c3 => ?_) (fun c3 => ?_)
    · have hf := if_f c3 hf
      refine lv_iconst (v := 1) hx hb dX10_dryers_60 (by decide) ?_
      exact e0_i (Wf := mw G) X.1 hr hlocks hf h dX10_dryers_61
    · have hf := if_t c3 hf
      refine lv_aload_n hx hb dX10_dryers_41 rfl (lv_at hl 0 rfl) ?_
      refine lv_iconst (v := 2) hx hb dX10_dryers_42 (by decide) ?_
      obtain ⟨y4, ey4, hf⟩ := bnd_some hf
      refine k_X10_plain X h hA ey4 k_X10_89 dX10_dryers_43 hl.1 ⟨(Nat.le_of_ble_eq_true rfl), (Nat.le_of_ble_eq_true rfl)⟩ (Nat.le_of_ble_eq_true rfl) ⟨Nat.zero_le _, Nat.zero_le _⟩ (fun H locs h => ?_)
      refine lv_iload_n hx hb dX10_dryers_46 rfl (lv_at hl 2 rfl) ?_
      refine lv_iconst (v := 1) hx hb dX10_dryers_47 (by decide) ?_
      refine lv_icmp_ne (tgt := 55) hx hb dX10_dryers_48 (by decide) (fun c5 => ?_) (fun c5 => ?_)
      · have hf := if_f c5 hf
        refine lv_iconst (v := 0) hx hb dX10_dryers_55 (by decide) ?_
        refine lv_iadd hx hb dX10_dryers_56 ?_
        refine lv_goto (tgt := 61) hx hb dX10_dryers_57 (by decide) ?_
        exact e0_i (Wf := mw G) X.1 hr hlocks hf h dX10_dryers_61
      · have hf := if_t c5 hf
        refine lv_iconst (v := 3) hx hb dX10_dryers_51 (by decide) ?_
        refine lv_goto (tgt := 56) hx hb dX10_dryers_52 (by decide) ?_
        refine lv_iadd hx hb dX10_dryers_56 ?_
        refine lv_goto (tgt := 61) hx hb dX10_dryers_57 (by decide) ?_
        exact e0_i (Wf := mw G) X.1 hr hlocks hf h dX10_dryers_61
  · have hf := if_t c2 hf
    refine lv_iload_n hx hb dX10_dryers_11 rfl (lv_at hl 2 rfl) ?_
    refine lv_iconst (v := 2) hx hb dX10_dryers_12 (by decide) ?_
    refine lv_icmp_ne (tgt := 21) hx hb dX10_dryers_13 (by decide) (fun c6 => ?_) (fun c6 => ?_)
    · have hf := if_f c6 hf
      refine lv_iload_n hx hb dX10_dryers_21 rfl (lv_at hl 2 rfl) ?_
      refine lv_iconst (v := 1) hx hb dX10_dryers_22 (by decide) ?_
      refine lv_icmp_ne (tgt := 30) hx hb dX10_dryers_23 (by decide) (fun c7 => ?_) (fun c7 => ?_)
      · have hf := if_f c7 hf
        refine lv_aload_n hx hb dX10_dryers_30 rfl (lv_at hl 0 rfl) ?_
        refine lv_iconst (v := 1) hx hb dX10_dryers_31 (by decide) ?_
        obtain ⟨y8, ey8, hf⟩ := bnd_some hf
        refine k_X10_plain X h hA ey8 k_X10_89 dX10_dryers_32 hl.1 ⟨(Nat.le_of_ble_eq_true rfl), (Nat.le_of_ble_eq_true rfl)⟩ (Nat.le_of_ble_eq_true rfl) ⟨Nat.zero_le _, Nat.zero_le _⟩ (fun H locs h => ?_)
        exact e0_i (Wf := mw G) X.1 hr hlocks hf h dX10_dryers_35
      · have hf := if_t c7 hf
        refine lv_iconst (v := 5) hx hb dX10_dryers_26 (by decide) ?_
        refine lv_goto (tgt := 35) hx hb dX10_dryers_27 (by decide) ?_
        exact e0_i (Wf := mw G) X.1 hr hlocks hf h dX10_dryers_35
    · have hf := if_t c6 hf
      refine lv_bipush (v := 9) hx hb dX10_dryers_16 (by decide) ?_
      refine lv_goto (tgt := 35) hx hb dX10_dryers_18 (by decide) ?_
      exact e0_i (Wf := mw G) X.1 hr hlocks hf h dX10_dryers_35
theorem m_X10_dryers : Cond.instanceMethod yX10_dryers ∈ lw_good ∧ Cond.selects RX10 yX10_dryers yX10_dryers ∈ lw_good ∧ Cond.initialized RX10 ∈ lw_good ∧ Cond.code yX10_dryers cX10_dryers 3 (some .int) ∈ lw_good := by decide +kernel
theorem k_X10_dryers {p : Program} {l : Launch} {e : Env} {R : Room} {s : State} {m : MethodId} {args : Array Value} {below : List Frame} {meth : Method} {c : Code} {H : Heap} {locs : List Loc} {cells slots : Nat} {Q : State → Prop} {cc : ByteArray} {nL pc idx : Nat} {ls : Array Slot} {rest : List Value} {own : String} {G : Gm} {A : Nat → Prop} {H0 : Heap} {w : MW} {x1 : Int32} {x2 : Int32} {y : Int32 × MW} (X : CX own cc nL G p s m args c) (h : CH G (mw G w) A H0 H locs) (hA : ∀ q, H0.size ≤ q → A q) (hf : f_X10_dryers x1 x2 w = some y) (hlk : Cond.methodLink own idx yX10_dryers ∈ lw_good) (hd : decode cc pc = .ok (.invokevirtual idx, 3)) (hsz : ls.size = nL) (hR : 3 ≤ R.frames ∧ 65 ≤ R.locals) (hrest : (rest.map fun v => v.category).sum ≤ 8) (hk : cells ≤ R.cells ∧ slots ≤ R.slots) (k : ∀ (H : Heap) (locs : List Loc), CH G (mw G y.2) A H0 H locs → W p l e R s m args below meth c H locs cells slots Q (F0 m (pc + 3) ls (.int y.1 :: rest))) : W p l e R s m args below meth c H locs cells slots Q (F0 m pc ls (.int x2 :: .int x1 :: .ref (gq G 0) :: rest)) :=
  fin_i (n := 0) (runV (As := [.int x1, .int x2]) X.1 2 (t_X10_dryers l G w x1 x2 y.1 y.2 hf _) rfl rfl hlk m_X10_dryers (by decide +kernel) ⟨hR.1, hR.2⟩ ⟨blindM, va_recv X.2.1 h.1 (ci := 9) (q0 := 0) rfl rfl, preM X.2 h⟩ rfl hsz hrest hd hk) h hA (fun _ H locs h => k H locs h)
def f_X10_wishOf (x1 : Int32) (x2 : Int32) (x3 : Int32) (w : MW) : Option (Int32 × MW) :=
 (f_X10_kindOf x1 w).bind fun y1 =>
 (f_X10_of x1 ((7 : Int32)) w).bind fun y2 =>
 if y1 = (0 : Int32) then
 ((f_X10_washers x2 x3 w).bind fun y4 =>
 some (y4.1, y4.2))
 else
 (if y1 = (1 : Int32) then
 (if x2 = 0 then
 ((f_X10_washers ((0 : Int32)) x3 w).bind fun y11 =>
 some (y11.1, y11.2))
 else
 ((f_X10_note ((1 : Int32)) x2 w).bind fun y7 =>
 (f_X10_washers x2 x3 y7).bind fun y8 =>
 if x2 = ((1 : Int32)) then
 (some (y8.1 / ((2 : Int32)), y8.2))
 else
 (if x2 = ((2 : Int32)) then
 (some (((2 : Int32)) * y8.1, y8.2))
 else
 (some (((3 : Int32)) * y8.1, y8.2)))))
 else
 (if y1 = (2 : Int32) then
 (if x2 = 0 then
 ((f_X10_plain ((0 : Int32)) w).bind fun y15 =>
 some (y15.1, y15.2))
 else
 ((f_X10_dryers x2 x3 w).bind fun y14 =>
 some (y14.1, y14.2)))
 else
 (if y1 = (3 : Int32) then
 (if x2 = ((1 : Int32)) then
 ((f_X10_note ((3 : Int32)) ((1 : Int32)) w).bind fun y21 =>
 if x3 = ((2 : Int32)) then
 (some ((7 : Int32), y21))
 else
 ((f_X10_dryers ((1 : Int32)) x3 y21).bind fun y23 =>
 some (y23.1, y23.2)))
 else
 (if x2 = 0 then
 ((f_X10_plain ((0 : Int32)) w).bind fun y20 =>
 some (y20.1, y20.2))
 else
 ((f_X10_dryers x2 x3 w).bind fun y19 =>
 some (y19.1, y19.2))))
 else
 (if x2 = ((3 : Int32)) then
 ((f_X10_washers ((3 : Int32)) x3 w).bind fun y28 =>
 some (y28.1, y28.2))
 else
 ((f_X10_note ((4 : Int32)) x2 w).bind fun y25 =>
 (f_X10_washers x2 x3 y25).bind fun y26 =>
 if x2 = ((2 : Int32)) then
 (some (y26.1 + y2, y26.2))
 else
 (some (y26.1 * y2, y26.2)))))))
set_option maxHeartbeats 4000000 in
set_option maxRecDepth 100000 in
theorem t_X10_wishOf (l : Launch) (G : Gm) (w0 : MW) (x1 : Int32) (x2 : Int32) (x3 : Int32) (r : Int32) (w' : MW) (hf : f_X10_wishOf x1 x2 x3 w0 = some (r, w')) : MetI l yX10_wishOf cX10_wishOf 8 (some .int) 3 65 G (mw G w0) [.ref (gq G 0), .int x1, .int x2, .int x3] r (fun _ => mw G (w')) 0 := by
  intro sz
  refine ent (own := RX10) (As := [.ref (gq G 0), .int x1, .int x2, .int x3]) (by decide +kernel) rfl (Nat.le_of_ble_eq_true rfl) (fun _ _ h => h.1) ?_
  intro p e s m args below meth c ls B hr hlocks hv hl
  obtain ⟨-, hsz, hP, hKK, hD⟩ := hv
  subst hsz
  have X : CX RX10 cX10_wishOf 8 G p s m args c := ⟨B, hKK⟩
  obtain ⟨hx, hb, hml, hown, hts⟩ := id B
  have hA : ∀ q : Nat, s.heap.size ≤ q → va_A (mw G w0) s.heap.size q := fun q z => Or.inr z
  have h : CH G (mw G w0) (va_A (mw G w0) s.heap.size) s.heap s.heap [] := ⟨hP, hD.self, va_S.rf⟩
  obtain ⟨w, rfl⟩ : ∃ z, z = w0 := ⟨_, rfl⟩
  have hl : lv_has ls 8 [(0, .ref (gq G 0)), (1, .int x1), (2, .int x2), (3, .int x3)] := hl
  unfold f_X10_wishOf at hf
  refine lv_aload_n hx hb dX10_wishOf_0 rfl (lv_at hl 0 rfl) ?_
  refine lv_iload_n hx hb dX10_wishOf_1 rfl (lv_at hl 1 rfl) ?_
  obtain ⟨y1, ey1, hf⟩ := bnd_some hf
  refine k_X10_kindOf X h ey1 k_X10_79 dX10_wishOf_2 hl.1 ⟨(Nat.le_of_ble_eq_true rfl), (Nat.le_of_ble_eq_true rfl)⟩ (Nat.le_of_ble_eq_true rfl) ⟨Nat.zero_le _, Nat.zero_le _⟩ ?_
  refine lv_istore (lv' := [(4, .int y1), (0, .ref (gq G 0)), (1, .int x1), (2, .int x2), (3, .int x3)]) hx hb dX10_wishOf_5 hl (by decide) rfl (fun ls hl => ?_)
  refine lv_aload_n hx hb dX10_wishOf_7 rfl (lv_at hl 1 rfl) ?_
  refine lv_iload_n hx hb dX10_wishOf_8 rfl (lv_at hl 2 rfl) ?_
  refine lv_bipush (v := 7) hx hb dX10_wishOf_9 (by decide) ?_
  obtain ⟨y2, ey2, hf⟩ := bnd_some hf
  refine k_X10_of X h ey2 k_X10_75 dX10_wishOf_11 hl.1 ⟨(Nat.le_of_ble_eq_true rfl), (Nat.le_of_ble_eq_true rfl)⟩ (Nat.le_of_ble_eq_true rfl) ⟨Nat.zero_le _, Nat.zero_le _⟩ ?_
  refine lv_istore (lv' := [(5, .int y2), (4, .int y1), (0, .ref (gq G 0)), (1, .int x1), (2, .int x2), (3, .int x3)]) hx hb dX10_wishOf_14 hl (by decide) rfl (fun ls hl => ?_)
  refine lv_iload hx hb dX10_wishOf_16 (lv_at hl 1 rfl) ?_
  by_cases c3 : y1 = (0 : Int32)
  · have hf := if_t c3 hf
    refine lv_tableIn (tgt := 48) hx hb dX10_wishOf_18 (by rw [c3]; decide) (by rw [c3]; decide) (by rw [c3]; rfl) (by decide) ?_
    refine lv_aload_n hx hb dX10_wishOf_48 rfl (lv_at hl 2 rfl) ?_
    refine lv_iload_n hx hb dX10_wishOf_49 rfl (lv_at hl 4 rfl) ?_
    refine lv_iload_n hx hb dX10_wishOf_50 rfl (lv_at hl 5 rfl) ?_
    obtain ⟨y4, ey4, hf⟩ := bnd_some hf
    refine k_X10_washers X h hA ey4 k_X10_92 dX10_wishOf_51 hl.1 ⟨(Nat.le_of_ble_eq_true rfl), (Nat.le_of_ble_eq_true rfl)⟩ (Nat.le_of_ble_eq_true rfl) ⟨Nat.zero_le _, Nat.zero_le _⟩ (fun H locs h => ?_)
    exact e0_i (Wf := mw G) X.1 hr hlocks hf h dX10_wishOf_54
  · have hf := if_f c3 hf
    have nc3 := lv_neT (a := 0) c3 (by decide)
    by_cases c5 : y1 = (1 : Int32)
    · have hf := if_t c5 hf
      refine lv_tableIn (tgt := 55) hx hb dX10_wishOf_18 (by rw [c5]; decide) (by rw [c5]; decide) (by rw [c5]; rfl) (by decide) ?_
      refine lv_iload_n hx hb dX10_wishOf_55 rfl (lv_at hl 4 rfl) ?_
      refine lv_if_ne (tgt := 66) hx hb dX10_wishOf_56 (by decide) (fun c6 => ?_) (fun c6 => ?_)
      · have hf := if_f c6 hf
        refine lv_aload_n hx hb dX10_wishOf_66 rfl (lv_at hl 2 rfl) ?_
        refine lv_iconst (v := 1) hx hb dX10_wishOf_67 (by decide) ?_
        refine lv_iload_n hx hb dX10_wishOf_68 rfl (lv_at hl 4 rfl) ?_
        obtain ⟨y7, ey7, hf⟩ := bnd_some hf
        refine k_X10_note X h hA ey7 k_X10_86 dX10_wishOf_69 hl.1 ⟨(Nat.le_of_ble_eq_true rfl), (Nat.le_of_ble_eq_true rfl)⟩ (Nat.le_of_ble_eq_true rfl) ⟨Nat.zero_le _, Nat.zero_le _⟩ (fun H locs h => ?_)
        refine lv_aload_n hx hb dX10_wishOf_72 rfl (lv_at hl 2 rfl) ?_
        refine lv_iload_n hx hb dX10_wishOf_73 rfl (lv_at hl 4 rfl) ?_
        refine lv_iload_n hx hb dX10_wishOf_74 rfl (lv_at hl 5 rfl) ?_
        obtain ⟨y8, ey8, hf⟩ := bnd_some hf
        refine k_X10_washers X h hA ey8 k_X10_92 dX10_wishOf_75 hl.1 ⟨(Nat.le_of_ble_eq_true rfl), (Nat.le_of_ble_eq_true rfl)⟩ (Nat.le_of_ble_eq_true rfl) ⟨Nat.zero_le _, Nat.zero_le _⟩ (fun H locs h => ?_)
        refine lv_istore (lv' := [(6, .int y8.1), (5, .int y2), (4, .int y1), (0, .ref (gq G 0)), (1, .int x1), (2, .int x2), (3, .int x3)]) hx hb dX10_wishOf_78 hl (by decide) rfl (fun ls hl => ?_)
        refine lv_iload_n hx hb dX10_wishOf_80 rfl (lv_at hl 5 rfl) ?_
        refine lv_iconst (v := 1) hx hb dX10_wishOf_81 (by decide) ?_
        refine lv_icmp_ne (tgt := 92) hx hb dX10_wishOf_82 (by decide) (fun c9 => ?_) (fun c9 => ?_)
        · have hf := if_f c9 hf
          refine lv_iload_n hx hb dX10_wishOf_92 rfl (lv_at hl 5 rfl) ?_
          refine lv_iconst (v := 2) hx hb dX10_wishOf_93 (by decide) ?_
          refine lv_icmp_ne (tgt := 104) hx hb dX10_wishOf_94 (by decide) (fun c10 => ?_) (fun c10 => ?_)
          · have hf := if_f c10 hf
            refine lv_iconst (v := 3) hx hb dX10_wishOf_104 (by decide) ?_
            refine lv_iload hx hb dX10_wishOf_105 (lv_at hl 0 rfl) ?_
            refine lv_imul hx hb dX10_wishOf_107 ?_
            exact e0_i (Wf := mw G) X.1 hr hlocks hf h dX10_wishOf_108
          · have hf := if_t c10 hf
            refine lv_iconst (v := 2) hx hb dX10_wishOf_97 (by decide) ?_
            refine lv_iload hx hb dX10_wishOf_98 (lv_at hl 0 rfl) ?_
            refine lv_imul hx hb dX10_wishOf_100 ?_
            refine lv_goto (tgt := 108) hx hb dX10_wishOf_101 (by decide) ?_
            exact e0_i (Wf := mw G) X.1 hr hlocks hf h dX10_wishOf_108
        · have hf := if_t c9 hf
          refine lv_iload hx hb dX10_wishOf_85 (lv_at hl 0 rfl) ?_
          refine lv_iconst (v := 2) hx hb dX10_wishOf_87 (by decide) ?_
          refine lv_idiv hx hb dX10_wishOf_88 (by decide) ?_
          refine lv_goto (tgt := 108) hx hb dX10_wishOf_89 (by decide) ?_
          exact e0_i (Wf := mw G) X.1 hr hlocks hf h dX10_wishOf_108
      · have hf := if_t c6 hf
        refine lv_aload_n hx hb dX10_wishOf_59 rfl (lv_at hl 2 rfl) ?_
        refine lv_iconst (v := 0) hx hb dX10_wishOf_60 (by decide) ?_
        refine lv_iload_n hx hb dX10_wishOf_61 rfl (lv_at hl 5 rfl) ?_
        obtain ⟨y11, ey11, hf⟩ := bnd_some hf
        refine k_X10_washers X h hA ey11 k_X10_92 dX10_wishOf_62 hl.1 ⟨(Nat.le_of_ble_eq_true rfl), (Nat.le_of_ble_eq_true rfl)⟩ (Nat.le_of_ble_eq_true rfl) ⟨Nat.zero_le _, Nat.zero_le _⟩ (fun H locs h => ?_)
        exact e0_i (Wf := mw G) X.1 hr hlocks hf h dX10_wishOf_65
    · have hf := if_f c5 hf
      have nc5 := lv_neT (a := 1) c5 (by decide)
      by_cases c12 : y1 = (2 : Int32)
      · have hf := if_t c12 hf
        refine lv_tableIn (tgt := 109) hx hb dX10_wishOf_18 (by rw [c12]; decide) (by rw [c12]; decide) (by rw [c12]; rfl) (by decide) ?_
        refine lv_iload_n hx hb dX10_wishOf_109 rfl (lv_at hl 4 rfl) ?_
        refine lv_if_ne (tgt := 121) hx hb dX10_wishOf_110 (by decide) (fun c13 => ?_) (fun c13 => ?_)
        · have hf := if_f c13 hf
          refine lv_aload_n hx hb dX10_wishOf_121 rfl (lv_at hl 2 rfl) ?_
          refine lv_iload_n hx hb dX10_wishOf_122 rfl (lv_at hl 4 rfl) ?_
          refine lv_iload_n hx hb dX10_wishOf_123 rfl (lv_at hl 5 rfl) ?_
          obtain ⟨y14, ey14, hf⟩ := bnd_some hf
          refine k_X10_dryers X h hA ey14 k_X10_95 dX10_wishOf_124 hl.1 ⟨(Nat.le_of_ble_eq_true rfl), (Nat.le_of_ble_eq_true rfl)⟩ (Nat.le_of_ble_eq_true rfl) ⟨Nat.zero_le _, Nat.zero_le _⟩ (fun H locs h => ?_)
          exact e0_i (Wf := mw G) X.1 hr hlocks hf h dX10_wishOf_127
        · have hf := if_t c13 hf
          refine lv_aload_n hx hb dX10_wishOf_113 rfl (lv_at hl 2 rfl) ?_
          refine lv_iconst (v := 0) hx hb dX10_wishOf_114 (by decide) ?_
          obtain ⟨y15, ey15, hf⟩ := bnd_some hf
          refine k_X10_plain X h hA ey15 k_X10_89 dX10_wishOf_115 hl.1 ⟨(Nat.le_of_ble_eq_true rfl), (Nat.le_of_ble_eq_true rfl)⟩ (Nat.le_of_ble_eq_true rfl) ⟨Nat.zero_le _, Nat.zero_le _⟩ (fun H locs h => ?_)
          refine lv_goto (tgt := 127) hx hb dX10_wishOf_118 (by decide) ?_
          exact e0_i (Wf := mw G) X.1 hr hlocks hf h dX10_wishOf_127
      · have hf := if_f c12 hf
        have nc12 := lv_neT (a := 2) c12 (by decide)
        by_cases c16 : y1 = (3 : Int32)
        · have hf := if_t c16 hf
          refine lv_tableIn (tgt := 128) hx hb dX10_wishOf_18 (by rw [c16]; decide) (by rw [c16]; decide) (by rw [c16]; rfl) (by decide) ?_
          refine lv_iload_n hx hb dX10_wishOf_128 rfl (lv_at hl 4 rfl) ?_
          refine lv_iconst (v := 1) hx hb dX10_wishOf_129 (by decide) ?_
          refine lv_icmp_ne (tgt := 156) hx hb dX10_wishOf_130 (by decide) (fun c17 => ?_) (fun c17 => ?_)
          · have hf := if_f c17 hf
            refine lv_iload_n hx hb dX10_wishOf_156 rfl (lv_at hl 4 rfl) ?_
            refine lv_if_ne (tgt := 168) hx hb dX10_wishOf_157 (by decide) (fun c18 => ?_) (fun c18 => ?_)
            · have hf := if_f c18 hf
              refine lv_aload_n hx hb dX10_wishOf_168 rfl (lv_at hl 2 rfl) ?_
              refine lv_iload_n hx hb dX10_wishOf_169 rfl (lv_at hl 4 rfl) ?_
              refine lv_iload_n hx hb dX10_wishOf_170 rfl (lv_at hl 5 rfl) ?_
              obtain ⟨y19, ey19, hf⟩ := bnd_some hf
              refine k_X10_dryers X h hA ey19 k_X10_95 dX10_wishOf_171 hl.1 ⟨(Nat.le_of_ble_eq_true rfl), (Nat.le_of_ble_eq_true rfl)⟩ (Nat.le_of_ble_eq_true rfl) ⟨Nat.zero_le _, Nat.zero_le _⟩ (fun H locs h => ?_)
              exact e0_i (Wf := mw G) X.1 hr hlocks hf h dX10_wishOf_174
            · have hf := if_t c18 hf
              refine lv_aload_n hx hb dX10_wishOf_160 rfl (lv_at hl 2 rfl) ?_
              refine lv_iconst (v := 0) hx hb dX10_wishOf_161 (by decide) ?_
              obtain ⟨y20, ey20, hf⟩ := bnd_some hf
              refine k_X10_plain X h hA ey20 k_X10_89 dX10_wishOf_162 hl.1 ⟨(Nat.le_of_ble_eq_true rfl), (Nat.le_of_ble_eq_true rfl)⟩ (Nat.le_of_ble_eq_true rfl) ⟨Nat.zero_le _, Nat.zero_le _⟩ (fun H locs h => ?_)
              refine lv_goto (tgt := 174) hx hb dX10_wishOf_165 (by decide) ?_
              exact e0_i (Wf := mw G) X.1 hr hlocks hf h dX10_wishOf_174
          · have hf := if_t c17 hf
            refine lv_aload_n hx hb dX10_wishOf_133 rfl (lv_at hl 2 rfl) ?_
            refine lv_iconst (v := 3) hx hb dX10_wishOf_134 (by decide) ?_
            refine lv_iconst (v := 1) hx hb dX10_wishOf_135 (by decide) ?_
            obtain ⟨y21, ey21, hf⟩ := bnd_some hf
            refine k_X10_note X h hA ey21 k_X10_86 dX10_wishOf_136 hl.1 ⟨(Nat.le_of_ble_eq_true rfl), (Nat.le_of_ble_eq_true rfl)⟩ (Nat.le_of_ble_eq_true rfl) ⟨Nat.zero_le _, Nat.zero_le _⟩ (fun H locs h => ?_)
            refine lv_iload_n hx hb dX10_wishOf_139 rfl (lv_at hl 5 rfl) ?_
            refine lv_iconst (v := 2) hx hb dX10_wishOf_140 (by decide) ?_
            refine lv_icmp_ne (tgt := 149) hx hb dX10_wishOf_141 (by decide) (fun c22 => ?_) (fun c22 => ?_)
            · have hf := if_f c22 hf
              refine lv_aload_n hx hb dX10_wishOf_149 rfl (lv_at hl 2 rfl) ?_
              refine lv_iconst (v := 1) hx hb dX10_wishOf_150 (by decide) ?_
              refine lv_iload_n hx hb dX10_wishOf_151 rfl (lv_at hl 5 rfl) ?_
              obtain ⟨y23, ey23, hf⟩ := bnd_some hf
              refine k_X10_dryers X h hA ey23 k_X10_95 dX10_wishOf_152 hl.1 ⟨(Nat.le_of_ble_eq_true rfl), (Nat.le_of_ble_eq_true rfl)⟩ (Nat.le_of_ble_eq_true rfl) ⟨Nat.zero_le _, Nat.zero_le _⟩ (fun H locs h => ?_)
              exact e0_i (Wf := mw G) X.1 hr hlocks hf h dX10_wishOf_155
            · have hf := if_t c22 hf
              refine lv_bipush (v := 7) hx hb dX10_wishOf_144 (by decide) ?_
              refine lv_goto (tgt := 155) hx hb dX10_wishOf_146 (by decide) ?_
              exact e0_i (Wf := mw G) X.1 hr hlocks hf h dX10_wishOf_155
        · have hf := if_f c16 hf
          have nc16 := lv_neT (a := 3) c16 (by decide)
          refine lv_tableOut (tgt := 175) hx hb dX10_wishOf_18 (by omega) (by decide) ?_
          refine lv_iload_n hx hb dX10_wishOf_175 rfl (lv_at hl 4 rfl) ?_
          refine lv_iconst (v := 3) hx hb dX10_wishOf_176 (by decide) ?_
          refine lv_icmp_ne (tgt := 187) hx hb dX10_wishOf_177 (by decide) (fun c24 => ?_) (fun c24 => ?_)
          · have hf := if_f c24 hf
            refine lv_aload_n hx hb dX10_wishOf_187 rfl (lv_at hl 2 rfl) ?_
            refine lv_iconst (v := 4) hx hb dX10_wishOf_188 (by decide) ?_
            refine lv_iload_n hx hb dX10_wishOf_189 rfl (lv_at hl 4 rfl) ?_
            obtain ⟨y25, ey25, hf⟩ := bnd_some hf
            refine k_X10_note X h hA ey25 k_X10_86 dX10_wishOf_190 hl.1 ⟨(Nat.le_of_ble_eq_true rfl), (Nat.le_of_ble_eq_true rfl)⟩ (Nat.le_of_ble_eq_true rfl) ⟨Nat.zero_le _, Nat.zero_le _⟩ (fun H locs h => ?_)
            refine lv_aload_n hx hb dX10_wishOf_193 rfl (lv_at hl 2 rfl) ?_
            refine lv_iload_n hx hb dX10_wishOf_194 rfl (lv_at hl 4 rfl) ?_
            refine lv_iload_n hx hb dX10_wishOf_195 rfl (lv_at hl 5 rfl) ?_
            obtain ⟨y26, ey26, hf⟩ := bnd_some hf
            refine k_X10_washers X h hA ey26 k_X10_92 dX10_wishOf_196 hl.1 ⟨(Nat.le_of_ble_eq_true rfl), (Nat.le_of_ble_eq_true rfl)⟩ (Nat.le_of_ble_eq_true rfl) ⟨Nat.zero_le _, Nat.zero_le _⟩ (fun H locs h => ?_)
            refine lv_istore (lv' := [(7, .int y26.1), (5, .int y2), (4, .int y1), (0, .ref (gq G 0)), (1, .int x1), (2, .int x2), (3, .int x3)]) hx hb dX10_wishOf_199 hl (by decide) rfl (fun ls hl => ?_)
            refine lv_iload_n hx hb dX10_wishOf_201 rfl (lv_at hl 5 rfl) ?_
            refine lv_iconst (v := 2) hx hb dX10_wishOf_202 (by decide) ?_
            refine lv_icmp_ne (tgt := 214) hx hb dX10_wishOf_203 (by decide) (fun c27 => ?_) (fun c27 => ?_)
            · have hf := if_f c27 hf
              refine lv_iload hx hb dX10_wishOf_214 (lv_at hl 0 rfl) ?_
              refine lv_iload hx hb dX10_wishOf_216 (lv_at hl 1 rfl) ?_
              refine lv_imul hx hb dX10_wishOf_218 ?_
              exact e0_i (Wf := mw G) X.1 hr hlocks hf h dX10_wishOf_219
            · have hf := if_t c27 hf
              refine lv_iload hx hb dX10_wishOf_206 (lv_at hl 0 rfl) ?_
              refine lv_iload hx hb dX10_wishOf_208 (lv_at hl 1 rfl) ?_
              refine lv_iadd hx hb dX10_wishOf_210 ?_
              refine lv_goto (tgt := 219) hx hb dX10_wishOf_211 (by decide) ?_
              exact e0_i (Wf := mw G) X.1 hr hlocks hf h dX10_wishOf_219
          · have hf := if_t c24 hf
            refine lv_aload_n hx hb dX10_wishOf_180 rfl (lv_at hl 2 rfl) ?_
            refine lv_iconst (v := 3) hx hb dX10_wishOf_181 (by decide) ?_
            refine lv_iload_n hx hb dX10_wishOf_182 rfl (lv_at hl 5 rfl) ?_
            obtain ⟨y28, ey28, hf⟩ := bnd_some hf
            refine k_X10_washers X h hA ey28 k_X10_92 dX10_wishOf_183 hl.1 ⟨(Nat.le_of_ble_eq_true rfl), (Nat.le_of_ble_eq_true rfl)⟩ (Nat.le_of_ble_eq_true rfl) ⟨Nat.zero_le _, Nat.zero_le _⟩ (fun H locs h => ?_)
            exact e0_i (Wf := mw G) X.1 hr hlocks hf h dX10_wishOf_186
theorem m_X10_wishOf : Cond.instanceMethod yX10_wishOf ∈ lw_good ∧ Cond.selects RX10 yX10_wishOf yX10_wishOf ∈ lw_good ∧ Cond.initialized RX10 ∈ lw_good ∧ Cond.code yX10_wishOf cX10_wishOf 8 (some .int) ∈ lw_good := by decide +kernel
theorem k_X10_wishOf {p : Program} {l : Launch} {e : Env} {R : Room} {s : State} {m : MethodId} {args : Array Value} {below : List Frame} {meth : Method} {c : Code} {H : Heap} {locs : List Loc} {cells slots : Nat} {Q : State → Prop} {cc : ByteArray} {nL pc idx : Nat} {ls : Array Slot} {rest : List Value} {own : String} {G : Gm} {A : Nat → Prop} {H0 : Heap} {w : MW} {x1 : Int32} {x2 : Int32} {x3 : Int32} {y : Int32 × MW} (X : CX own cc nL G p s m args c) (h : CH G (mw G w) A H0 H locs) (hA : ∀ q, H0.size ≤ q → A q) (hf : f_X10_wishOf x1 x2 x3 w = some y) (hlk : Cond.methodLink own idx yX10_wishOf ∈ lw_good) (hd : decode cc pc = .ok (.invokevirtual idx, 3)) (hsz : ls.size = nL) (hR : 4 ≤ R.frames ∧ 92 ≤ R.locals) (hrest : (rest.map fun v => v.category).sum ≤ 8) (hk : cells ≤ R.cells ∧ slots ≤ R.slots) (k : ∀ (H : Heap) (locs : List Loc), CH G (mw G y.2) A H0 H locs → W p l e R s m args below meth c H locs cells slots Q (F0 m (pc + 3) ls (.int y.1 :: rest))) : W p l e R s m args below meth c H locs cells slots Q (F0 m pc ls (.int x3 :: .int x2 :: .int x1 :: .ref (gq G 0) :: rest)) :=
  fin_i (n := 0) (runV (As := [.int x1, .int x2, .int x3]) X.1 3 (t_X10_wishOf l G w x1 x2 x3 y.1 y.2 hf _) rfl rfl hlk m_X10_wishOf (by decide +kernel) ⟨hR.1, hR.2⟩ ⟨blindM, va_recv X.2.1 h.1 (ci := 9) (q0 := 0) rfl rfl, preM X.2 h⟩ rfl hsz hrest hd hk) h hA (fun _ H locs h => k H locs h)
def f_X10_wearOf (x1 : Int32) (x2 : Int32) (w : MW) : Option (Int32 × MW) :=
 (f_X10_note ((6 : Int32)) ((4 : Int32)) w).bind fun y1 =>
 (f_X10_wishOf x1 ((3 : Int32)) ((0 : Int32)) y1).bind fun y2 =>
 some (x2 * y2.1, y2.2)
set_option maxHeartbeats 4000000 in
set_option maxRecDepth 100000 in
theorem t_X10_wearOf (l : Launch) (G : Gm) (w0 : MW) (x1 : Int32) (x2 : Int32) (r : Int32) (w' : MW) (hf : f_X10_wearOf x1 x2 w0 = some (r, w')) : MetI l yX10_wearOf cX10_wearOf 3 (some .int) 4 92 G (mw G w0) [.ref (gq G 0), .int x1, .int x2] r (fun _ => mw G (w')) 0 := by
  intro sz
  refine ent (own := RX10) (As := [.ref (gq G 0), .int x1, .int x2]) (by decide +kernel) rfl (Nat.le_of_ble_eq_true rfl) (fun _ _ h => h.1) ?_
  intro p e s m args below meth c ls B hr hlocks hv hl
  obtain ⟨-, hsz, hP, hKK, hD⟩ := hv
  subst hsz
  have X : CX RX10 cX10_wearOf 3 G p s m args c := ⟨B, hKK⟩
  obtain ⟨hx, hb, hml, hown, hts⟩ := id B
  have hA : ∀ q : Nat, s.heap.size ≤ q → va_A (mw G w0) s.heap.size q := fun q z => Or.inr z
  have h : CH G (mw G w0) (va_A (mw G w0) s.heap.size) s.heap s.heap [] := ⟨hP, hD.self, va_S.rf⟩
  obtain ⟨w, rfl⟩ : ∃ z, z = w0 := ⟨_, rfl⟩
  have hl : lv_has ls 3 [(0, .ref (gq G 0)), (1, .int x1), (2, .int x2)] := hl
  unfold f_X10_wearOf at hf
  refine lv_aload_n hx hb dX10_wearOf_0 rfl (lv_at hl 0 rfl) ?_
  refine lv_bipush (v := 6) hx hb dX10_wearOf_1 (by decide) ?_
  refine lv_iconst (v := 4) hx hb dX10_wearOf_3 (by decide) ?_
  obtain ⟨y1, ey1, hf⟩ := bnd_some hf
  refine k_X10_note X h hA ey1 k_X10_86 dX10_wearOf_4 hl.1 ⟨(Nat.le_of_ble_eq_true rfl), (Nat.le_of_ble_eq_true rfl)⟩ (Nat.le_of_ble_eq_true rfl) ⟨Nat.zero_le _, Nat.zero_le _⟩ (fun H locs h => ?_)
  refine lv_iload_n hx hb dX10_wearOf_7 rfl (lv_at hl 2 rfl) ?_
  refine lv_aload_n hx hb dX10_wearOf_8 rfl (lv_at hl 0 rfl) ?_
  refine lv_iload_n hx hb dX10_wearOf_9 rfl (lv_at hl 1 rfl) ?_
  refine lv_iconst (v := 3) hx hb dX10_wearOf_10 (by decide) ?_
  refine lv_iconst (v := 0) hx hb dX10_wearOf_11 (by decide) ?_
  obtain ⟨y2, ey2, hf⟩ := bnd_some hf
  refine k_X10_wishOf X h hA ey2 k_X10_98 dX10_wearOf_12 hl.1 ⟨(Nat.le_of_ble_eq_true rfl), (Nat.le_of_ble_eq_true rfl)⟩ (Nat.le_of_ble_eq_true rfl) ⟨Nat.zero_le _, Nat.zero_le _⟩ (fun H locs h => ?_)
  refine lv_imul hx hb dX10_wearOf_15 ?_
  exact e0_i (Wf := mw G) X.1 hr hlocks hf h dX10_wearOf_16
theorem m_X10_wearOf : Cond.instanceMethod yX10_wearOf ∈ lw_good ∧ Cond.selects RX10 yX10_wearOf yX10_wearOf ∈ lw_good ∧ Cond.initialized RX10 ∈ lw_good ∧ Cond.code yX10_wearOf cX10_wearOf 3 (some .int) ∈ lw_good := by decide +kernel
theorem k_X10_wearOf {p : Program} {l : Launch} {e : Env} {R : Room} {s : State} {m : MethodId} {args : Array Value} {below : List Frame} {meth : Method} {c : Code} {H : Heap} {locs : List Loc} {cells slots : Nat} {Q : State → Prop} {cc : ByteArray} {nL pc idx : Nat} {ls : Array Slot} {rest : List Value} {own : String} {G : Gm} {A : Nat → Prop} {H0 : Heap} {w : MW} {x1 : Int32} {x2 : Int32} {y : Int32 × MW} (X : CX own cc nL G p s m args c) (h : CH G (mw G w) A H0 H locs) (hA : ∀ q, H0.size ≤ q → A q) (hf : f_X10_wearOf x1 x2 w = some y) (hlk : Cond.methodLink own idx yX10_wearOf ∈ lw_good) (hd : decode cc pc = .ok (.invokevirtual idx, 3)) (hsz : ls.size = nL) (hR : 5 ≤ R.frames ∧ 114 ≤ R.locals) (hrest : (rest.map fun v => v.category).sum ≤ 8) (hk : cells ≤ R.cells ∧ slots ≤ R.slots) (k : ∀ (H : Heap) (locs : List Loc), CH G (mw G y.2) A H0 H locs → W p l e R s m args below meth c H locs cells slots Q (F0 m (pc + 3) ls (.int y.1 :: rest))) : W p l e R s m args below meth c H locs cells slots Q (F0 m pc ls (.int x2 :: .int x1 :: .ref (gq G 0) :: rest)) :=
  fin_i (n := 0) (runV (As := [.int x1, .int x2]) X.1 2 (t_X10_wearOf l G w x1 x2 y.1 y.2 hf _) rfl rfl hlk m_X10_wearOf (by decide +kernel) ⟨hR.1, hR.2⟩ ⟨blindM, va_recv X.2.1 h.1 (ci := 9) (q0 := 0) rfl rfl, preM X.2 h⟩ rfl hsz hrest hd hk) h hA (fun _ H locs h => k H locs h)
def f_X10_hasFace (x0 : Int32) (x1 : Int32) : Option Int32 :=
 if x1 = 0 then
 (if x0 = ((2 : Int32)) then
 (some ((0 : Int32)))
 else
 (if x0 = ((3 : Int32)) then
 (some ((0 : Int32)))
 else
 (some ((1 : Int32)))))
 else
 (if x1 = ((1 : Int32)) then
 (if x0 = ((3 : Int32)) then
 (some ((0 : Int32)))
 else
 (some ((1 : Int32))))
 else
 (if x0 = ((2 : Int32)) then
 (some ((1 : Int32)))
 else
 (if x0 = ((3 : Int32)) then
 (some ((1 : Int32)))
 else
 (some ((0 : Int32))))))
set_option maxHeartbeats 4000000 in
set_option maxRecDepth 100000 in
theorem t_X10_hasFace (l : Launch) (x0 : Int32) (x1 : Int32) (r : Int32) (hf : f_X10_hasFace x0 x1 = some r) : MetP l yX10_hasFace cX10_hasFace 2 (some .boolean) 0 0 [.int x0, .int x1] (.int r) := by
  refine ent (own := RX10) (As := [.int x0, .int x1]) (by decide +kernel) rfl (Nat.le_of_ble_eq_true rfl) (fun _ _ h => h.1) ?_
  intro p e s m args below meth c ls B hr hlocks hv hl
  obtain ⟨hx, hb, hml, hown, hts⟩ := id B
  have hl : lv_has ls 2 [(0, .int x0), (1, .int x1)] := hl
  unfold f_X10_hasFace at hf
  refine lv_iload_n hx hb dX10_hasFace_0 rfl (lv_at hl 1 rfl) ?_
  refine lv_if_ne (tgt := 22) hx hb dX10_hasFace_1 (by decide) (fun c1 => ?_) (fun c1 => ?_)
  · have hf := if_f c1 hf
    refine lv_iload_n hx hb dX10_hasFace_22 rfl (lv_at hl 1 rfl) ?_
    refine lv_iconst (v := 1) hx hb dX10_hasFace_23 (by decide) ?_
    refine lv_icmp_ne (tgt := 40) hx hb dX10_hasFace_24 (by decide) (fun c2 => ?_) (fun c2 => ?_)
    · have hf := if_f c2 hf
      refine lv_iload_n hx hb dX10_hasFace_40 rfl (lv_at hl 0 rfl) ?_
      refine lv_iconst (v := 2) hx hb dX10_hasFace_41 (by decide) ?_
      refine lv_icmp_eq (tgt := 50) hx hb dX10_hasFace_42 (by decide) (fun c3 => ?_) (fun c3 => ?_)
      · have hf := if_t c3 hf
        refine lv_iconst (v := 1) hx hb dX10_hasFace_50 (by decide) ?_
        refine lv_goto (tgt := 55) hx hb dX10_hasFace_51 (by decide) ?_
        cases hf
        exact rr_z B hr hlocks (Or.inr rfl) dX10_hasFace_55
      · have hf := if_f c3 hf
        refine lv_iload_n hx hb dX10_hasFace_45 rfl (lv_at hl 0 rfl) ?_
        refine lv_iconst (v := 3) hx hb dX10_hasFace_46 (by decide) ?_
        refine lv_icmp_ne (tgt := 54) hx hb dX10_hasFace_47 (by decide) (fun c4 => ?_) (fun c4 => ?_)
        · have hf := if_f c4 hf
          refine lv_iconst (v := 0) hx hb dX10_hasFace_54 (by decide) ?_
          cases hf
          exact rr_z B hr hlocks (Or.inl rfl) dX10_hasFace_55
        · have hf := if_t c4 hf
          refine lv_iconst (v := 1) hx hb dX10_hasFace_50 (by decide) ?_
          refine lv_goto (tgt := 55) hx hb dX10_hasFace_51 (by decide) ?_
          cases hf
          exact rr_z B hr hlocks (Or.inr rfl) dX10_hasFace_55
    · have hf := if_t c2 hf
      refine lv_iload_n hx hb dX10_hasFace_27 rfl (lv_at hl 0 rfl) ?_
      refine lv_iconst (v := 3) hx hb dX10_hasFace_28 (by decide) ?_
      refine lv_icmp_eq (tgt := 36) hx hb dX10_hasFace_29 (by decide) (fun c5 => ?_) (fun c5 => ?_)
      · have hf := if_t c5 hf
        refine lv_iconst (v := 0) hx hb dX10_hasFace_36 (by decide) ?_
        refine lv_goto (tgt := 55) hx hb dX10_hasFace_37 (by decide) ?_
        cases hf
        exact rr_z B hr hlocks (Or.inl rfl) dX10_hasFace_55
      · have hf := if_f c5 hf
        refine lv_iconst (v := 1) hx hb dX10_hasFace_32 (by decide) ?_
        refine lv_goto (tgt := 55) hx hb dX10_hasFace_33 (by decide) ?_
        cases hf
        exact rr_z B hr hlocks (Or.inr rfl) dX10_hasFace_55
  · have hf := if_t c1 hf
    refine lv_iload_n hx hb dX10_hasFace_4 rfl (lv_at hl 0 rfl) ?_
    refine lv_iconst (v := 2) hx hb dX10_hasFace_5 (by decide) ?_
    refine lv_icmp_eq (tgt := 18) hx hb dX10_hasFace_6 (by decide) (fun c6 => ?_) (fun c6 => ?_)
    · have hf := if_t c6 hf
      refine lv_iconst (v := 0) hx hb dX10_hasFace_18 (by decide) ?_
      refine lv_goto (tgt := 55) hx hb dX10_hasFace_19 (by decide) ?_
      cases hf
      exact rr_z B hr hlocks (Or.inl rfl) dX10_hasFace_55
    · have hf := if_f c6 hf
      refine lv_iload_n hx hb dX10_hasFace_9 rfl (lv_at hl 0 rfl) ?_
      refine lv_iconst (v := 3) hx hb dX10_hasFace_10 (by decide) ?_
      refine lv_icmp_eq (tgt := 18) hx hb dX10_hasFace_11 (by decide) (fun c7 => ?_) (fun c7 => ?_)
      · have hf := if_t c7 hf
        refine lv_iconst (v := 0) hx hb dX10_hasFace_18 (by decide) ?_
        refine lv_goto (tgt := 55) hx hb dX10_hasFace_19 (by decide) ?_
        cases hf
        exact rr_z B hr hlocks (Or.inl rfl) dX10_hasFace_55
      · have hf := if_f c7 hf
        refine lv_iconst (v := 1) hx hb dX10_hasFace_14 (by decide) ?_
        refine lv_goto (tgt := 55) hx hb dX10_hasFace_15 (by decide) ?_
        cases hf
        exact rr_z B hr hlocks (Or.inr rfl) dX10_hasFace_55
theorem m_X10_hasFace : Cond.static yX10_hasFace ∈ lw_good ∧ Cond.initialized yX10_hasFace.cls ∈ lw_good ∧ Cond.code yX10_hasFace cX10_hasFace 2 (some .boolean) ∈ lw_good := by decide +kernel
theorem k_X10_hasFace {p : Program} {l : Launch} {e : Env} {R : Room} {s : State} {m : MethodId} {args : Array Value} {below : List Frame} {meth : Method} {c : Code} {H : Heap} {locs : List Loc} {cells slots : Nat} {Q : State → Prop} {cc : ByteArray} {nL pc idx : Nat} {ls : Array Slot} {rest : List Value} {own : String} {x0 : Int32} {x1 : Int32} {r : Int32} (B : CB own cc nL p s m args c) (hf : f_X10_hasFace x0 x1 = some r) (hlk : Cond.methodLink own idx yX10_hasFace ∈ lw_good) (hd : decode cc pc = .ok (.invokestatic idx, 3)) (hsz : ls.size = nL) (hR : 1 ≤ R.frames ∧ 21 ≤ R.locals) (hrest : (rest.map fun v => v.category).sum ≤ 8) (hk : cells ≤ R.cells ∧ slots ≤ R.slots) (k : W p l e R s m args below meth c H locs cells slots Q (F0 m (pc + 3) ls (.int r :: rest))) : W p l e R s m args below meth c H locs cells slots Q (F0 m pc ls (.int x1 :: .int x0 :: rest)) :=
  fin_r (runS (As := [.int x0, .int x1]) B 2 (t_X10_hasFace l x0 x1 r hf) rfl rfl hlk m_X10_hasFace (by decide +kernel) ⟨hR.1, hR.2⟩ ⟨blindP, preP⟩ rfl hsz hrest hd hk) k
def f_X10_canDo_b9 (x0 : Int32) : Option Int32 :=
 (f_X10_hasFace x0 ((0 : Int32))).bind fun y1 =>
 chk (y1 = 0 ∨ y1 = 1) (
 some y1)
def f_X10_canDo (x0 : Int32) (x1 : Int32) : Option Int32 :=
 if x1 = 0 then
 (f_X10_canDo_b9 x0)
 else
 (if x1 = ((3 : Int32)) then
 (f_X10_canDo_b9 x0)
 else
 (if x1 = ((1 : Int32)) then
 ((f_X10_hasFace x0 ((1 : Int32))).bind fun y9 =>
 chk (y9 = 0 ∨ y9 = 1) (
 some y9))
 else
 (if x1 = ((2 : Int32)) then
 ((f_X10_hasFace x0 ((2 : Int32))).bind fun y7 =>
 if y7 = 0 then
 (some ((0 : Int32)))
 else
 (some ((1 : Int32))))
 else
 (some ((1 : Int32))))))
set_option maxHeartbeats 4000000 in
set_option maxRecDepth 100000 in
theorem t_X10_canDo (l : Launch) (x0 : Int32) (x1 : Int32) (r : Int32) (hf : f_X10_canDo x0 x1 = some r) : MetP l yX10_canDo cX10_canDo 2 (some .boolean) 1 21 [.int x0, .int x1] (.int r) := by
  refine ent (own := RX10) (As := [.int x0, .int x1]) (by decide +kernel) rfl (Nat.le_of_ble_eq_true rfl) (fun _ _ h => h.1) ?_
  intro p e s m args below meth c ls B hr hlocks hv hl
  obtain ⟨hx, hb, hml, hown, hts⟩ := id B
  have J9 : ∀ (x0 : Int32) (ls : Array Slot), f_X10_canDo_b9 x0 = some r → lv_has ls 2 [(0, .int x0)] → W p l e { frames := 1, cells := 0, slots := 0, locals := 21 } s m args below meth c s.heap [] 0 0 (MQ below (QcV (.int r)) args s 0 0 (fun _ => False)) (F0 m 9 ls []) := by
    intro x0 ls hf hl
    unfold f_X10_canDo_b9 at hf
    refine lv_iload_n hx hb dX10_canDo_9 rfl (lv_at hl 0 rfl) ?_
    refine lv_iconst (v := 0) hx hb dX10_canDo_10 (by decide) ?_
    obtain ⟨y1, ey1, hf⟩ := bnd_some hf
    refine k_X10_hasFace B ey1 k_X10_102 dX10_canDo_11 hl.1 ⟨(Nat.le_of_ble_eq_true rfl), (Nat.le_of_ble_eq_true rfl)⟩ (Nat.le_of_ble_eq_true rfl) ⟨Nat.zero_le _, Nat.zero_le _⟩ ?_
    refine lv_goto (tgt := 48) hx hb dX10_canDo_14 (by decide) ?_
    obtain ⟨c2, hf⟩ := chk_some hf
    cases hf
    exact rr_z B hr hlocks c2 dX10_canDo_48
  have hl : lv_has ls 2 [(0, .int x0), (1, .int x1)] := hl
  unfold f_X10_canDo at hf
  refine lv_iload_n hx hb dX10_canDo_0 rfl (lv_at hl 1 rfl) ?_
  refine lv_if_eq (tgt := 9) hx hb dX10_canDo_1 (by decide) (fun c3 => ?_) (fun c3 => ?_)
  · have hf := if_t c3 hf
    exact J9 _ _ hf (lv_sub hl [0] rfl)
  · have hf := if_f c3 hf
    refine lv_iload_n hx hb dX10_canDo_4 rfl (lv_at hl 1 rfl) ?_
    refine lv_iconst (v := 3) hx hb dX10_canDo_5 (by decide) ?_
    refine lv_icmp_ne (tgt := 17) hx hb dX10_canDo_6 (by decide) (fun c4 => ?_) (fun c4 => ?_)
    · have hf := if_f c4 hf
      refine lv_iload_n hx hb dX10_canDo_17 rfl (lv_at hl 1 rfl) ?_
      refine lv_iconst (v := 1) hx hb dX10_canDo_18 (by decide) ?_
      refine lv_icmp_ne (tgt := 30) hx hb dX10_canDo_19 (by decide) (fun c5 => ?_) (fun c5 => ?_)
      · have hf := if_f c5 hf
        refine lv_iload_n hx hb dX10_canDo_30 rfl (lv_at hl 1 rfl) ?_
        refine lv_iconst (v := 2) hx hb dX10_canDo_31 (by decide) ?_
        refine lv_icmp_ne (tgt := 43) hx hb dX10_canDo_32 (by decide) (fun c6 => ?_) (fun c6 => ?_)
        · have hf := if_f c6 hf
          refine lv_iconst (v := 1) hx hb dX10_canDo_43 (by decide) ?_
          refine lv_goto (tgt := 48) hx hb dX10_canDo_44 (by decide) ?_
          cases hf
          exact rr_z B hr hlocks (Or.inr rfl) dX10_canDo_48
        · have hf := if_t c6 hf
          refine lv_iload_n hx hb dX10_canDo_35 rfl (lv_at hl 0 rfl) ?_
          refine lv_iconst (v := 2) hx hb dX10_canDo_36 (by decide) ?_
          obtain ⟨y7, ey7, hf⟩ := bnd_some hf
          refine k_X10_hasFace B ey7 k_X10_102 dX10_canDo_37 hl.1 ⟨(Nat.le_of_ble_eq_true rfl), (Nat.le_of_ble_eq_true rfl)⟩ (Nat.le_of_ble_eq_true rfl) ⟨Nat.zero_le _, Nat.zero_le _⟩ ?_
          refine lv_if_eq (tgt := 47) hx hb dX10_canDo_40 (by decide) (fun c8 => ?_) (fun c8 => ?_)
          · have hf := if_t c8 hf
            refine lv_iconst (v := 0) hx hb dX10_canDo_47 (by decide) ?_
            cases hf
            exact rr_z B hr hlocks (Or.inl rfl) dX10_canDo_48
          · have hf := if_f c8 hf
            refine lv_iconst (v := 1) hx hb dX10_canDo_43 (by decide) ?_
            refine lv_goto (tgt := 48) hx hb dX10_canDo_44 (by decide) ?_
            cases hf
            exact rr_z B hr hlocks (Or.inr rfl) dX10_canDo_48
      · have hf := if_t c5 hf
        refine lv_iload_n hx hb dX10_canDo_22 rfl (lv_at hl 0 rfl) ?_
        refine lv_iconst (v := 1) hx hb dX10_canDo_23 (by decide) ?_
        obtain ⟨y9, ey9, hf⟩ := bnd_some hf
        refine k_X10_hasFace B ey9 k_X10_102 dX10_canDo_24 hl.1 ⟨(Nat.le_of_ble_eq_true rfl), (Nat.le_of_ble_eq_true rfl)⟩ (Nat.le_of_ble_eq_true rfl) ⟨Nat.zero_le _, Nat.zero_le _⟩ ?_
        refine lv_goto (tgt := 48) hx hb dX10_canDo_27 (by decide) ?_
        obtain ⟨c10, hf⟩ := chk_some hf
        cases hf
        exact rr_z B hr hlocks c10 dX10_canDo_48
    · have hf := if_t c4 hf
      exact J9 _ _ hf (lv_sub hl [0] rfl)
theorem m_X10_canDo : Cond.static yX10_canDo ∈ lw_good ∧ Cond.initialized yX10_canDo.cls ∈ lw_good ∧ Cond.code yX10_canDo cX10_canDo 2 (some .boolean) ∈ lw_good := by decide +kernel
theorem k_X10_canDo {p : Program} {l : Launch} {e : Env} {R : Room} {s : State} {m : MethodId} {args : Array Value} {below : List Frame} {meth : Method} {c : Code} {H : Heap} {locs : List Loc} {cells slots : Nat} {Q : State → Prop} {cc : ByteArray} {nL pc idx : Nat} {ls : Array Slot} {rest : List Value} {own : String} {x0 : Int32} {x1 : Int32} {r : Int32} (B : CB own cc nL p s m args c) (hf : f_X10_canDo x0 x1 = some r) (hlk : Cond.methodLink own idx yX10_canDo ∈ lw_good) (hd : decode cc pc = .ok (.invokestatic idx, 3)) (hsz : ls.size = nL) (hR : 2 ≤ R.frames ∧ 42 ≤ R.locals) (hrest : (rest.map fun v => v.category).sum ≤ 8) (hk : cells ≤ R.cells ∧ slots ≤ R.slots) (k : W p l e R s m args below meth c H locs cells slots Q (F0 m (pc + 3) ls (.int r :: rest))) : W p l e R s m args below meth c H locs cells slots Q (F0 m pc ls (.int x1 :: .int x0 :: rest)) :=
  fin_r (runS (As := [.int x0, .int x1]) B 2 (t_X10_canDo l x0 x1 r hf) rfl rfl hlk m_X10_canDo (by decide +kernel) ⟨hR.1, hR.2⟩ ⟨blindP, preP⟩ rfl hsz hrest hd hk) k
def f_X10_machine_l72_body (kself : (Int32 → Int32 → Int32 → Int32 → Int32 → MW → Option (Int32 × MW))) (x1 : Int32) (x2 : Int32) (x3 : Int32) (x4 : Int32) (x5 : Int32) (w : MW) : Option (Int32 × MW) :=
 if ((104 : Int32)) ≤ x5 then
 ((f_X10_let x1 ((0 : Int32)) (x2 + ((1 : Int32))) w).bind fun y2 =>
 (f_X10_let x1 ((1 : Int32)) x3 y2).bind fun y3 =>
 (f_X10_let x1 ((2 : Int32)) x4 y3).bind fun y4 =>
 (f_X10_let x1 ((3 : Int32)) ((1 : Int32)) y4).bind fun y5 =>
 (f_X10_let x1 ((4 : Int32)) ((1 : Int32)) y5).bind fun y6 =>
 if x2 = ((4 : Int32)) then
 (if x3 ≤ 0 then
 (some ((1 : Int32), y6))
 else
 ((f_X10_let x1 ((7 : Int32)) ((1 : Int32)) y6).bind fun y9 =>
 (f_X10_let x1 ((8 : Int32)) x3 y9).bind fun y10 =>
 some ((1 : Int32), y10)))
 else
 (some ((1 : Int32), y6)))
 else
 ((f_X10_let x1 x5 ((0 : Int32)) w).bind fun y11 =>
 kself x1 x2 x3 x4 (x5 + (1 : Int32)) y11)
def f_X10_machine_l72 : Nat → Int32 → Int32 → Int32 → Int32 → Int32 → MW → Option (Int32 × MW)
  | 0, _, _, _, _, _, _ => none
  | n + 1, x1, x2, x3, x4, x5, w => f_X10_machine_l72_body (f_X10_machine_l72 n) x1 x2 x3 x4 x5 w
def f_X10_machine_b34 (x1 : Int32) (x2 : Int32) (x3 : Int32) (x4 : Int32) (xs0 : Int32) (xs1 : Int32) (w : MW) : Option (Int32 × MW) :=
 (f_X10_in xs0 xs1 ((20000 : Int32))).bind fun y12 =>
 if y12 = 0 then
 (some ((-2 : Int32), w))
 else
 ((f_X10_in x4 ((0 : Int32)) ((5000 : Int32))).bind fun y14 =>
 if y14 = 0 then
 (some ((-2 : Int32), w))
 else
 ((f_X10_isThere x1 w).bind fun y16 =>
 if y16 = 0 then
 (f_X10_machine_l72 FU x1 x2 x3 x4 ((0 : Int32)) w)
 else
 (some ((-3 : Int32), w))))
def f_X10_machine (x1 : Int32) (x2 : Int32) (x3 : Int32) (x4 : Int32) (w : MW) : Option (Int32 × MW) :=
 (f_X10_isPlace x1).bind fun y18 =>
 if y18 = 0 then
 (some ((-1 : Int32), mst w 0 0 ((0 : Int32))))
 else
 ((f_X10_in x2 ((0 : Int32)) ((4 : Int32))).bind fun y20 =>
 if y20 = 0 then
 (some ((-2 : Int32), mst w 0 0 ((0 : Int32))))
 else
 (if x2 = ((4 : Int32)) then
 (f_X10_machine_b34 x1 x2 x3 x4 x3 ((0 : Int32)) (mst w 0 0 ((0 : Int32))))
 else
 (f_X10_machine_b34 x1 x2 x3 x4 x3 ((1 : Int32)) (mst w 0 0 ((0 : Int32))))))
set_option maxHeartbeats 4000000 in
set_option maxRecDepth 100000 in
theorem t_X10_machine (l : Launch) (G : Gm) (w0 : MW) (x1 : Int32) (x2 : Int32) (x3 : Int32) (x4 : Int32) (r : Int32) (w' : MW) (hf : f_X10_machine x1 x2 x3 x4 w0 = some (r, w')) : MetI l yX10_machine cX10_machine 6 (some .int) 2 45 G (mw G w0) [.ref (gq G 0), .int x1, .int x2, .int x3, .int x4] r (fun _ => mw G (w')) 0 := by
  intro sz
  refine ent (own := RX10) (As := [.ref (gq G 0), .int x1, .int x2, .int x3, .int x4]) (by decide +kernel) rfl (Nat.le_of_ble_eq_true rfl) (fun _ _ h => h.1) ?_
  intro p e s m args below meth c ls B hr hlocks hv hl
  obtain ⟨-, hsz, hP, hKK, hD⟩ := hv
  subst hsz
  have X : CX RX10 cX10_machine 6 G p s m args c := ⟨B, hKK⟩
  obtain ⟨hx, hb, hml, hown, hts⟩ := id B
  have hA : ∀ q : Nat, s.heap.size ≤ q → va_A (mw G w0) s.heap.size q := fun q z => Or.inr z
  have h : CH G (mw G w0) (va_A (mw G w0) s.heap.size) s.heap s.heap [] := ⟨hP, hD.self, va_S.rf⟩
  have L72 : ∀ (n72 : Nat) (x1 : Int32) (x2 : Int32) (x3 : Int32) (x4 : Int32) (x5 : Int32) (w : MW) (H : Heap) (locs : List Loc) (ls : Array Slot), f_X10_machine_l72 n72 x1 x2 x3 x4 x5 w = some (r, w') → CH G (mw G w) (va_A (mw G w0) s.heap.size) s.heap H locs → lv_has ls 6 [(0, .ref (gq G 0)), (1, .int x1), (2, .int x2), (3, .int x3), (4, .int x4), (5, .int x5)] → W p l e { frames := 2, cells := 0, slots := 4096 * 0, locals := 45 } s m args below meth c H locs 0 (4096 * 0) (MQ below (QI G (mw G w0) s.heap.size r (fun _ => mw G (w'))) args s 0 (4096 * 0) (va_A (mw G w0) s.heap.size)) (F0 m 72 ls []) := by
    intro n72
    induction n72 with
    | zero =>
      intro x1 x2 x3 x4 x5 w H locs ls hf h hl
      cases (show (none : Option (Int32 × MW)) = some _ from hf)
    | succ n72 ih72 =>
      intro x1 x2 x3 x4 x5 w H locs ls hf h hl
      have hf : f_X10_machine_l72_body (f_X10_machine_l72 n72) x1 x2 x3 x4 x5 w = _ := hf
      unfold f_X10_machine_l72_body at hf
      refine lv_iload hx hb dX10_machine_72 (lv_at hl 5 rfl) ?_
      refine lv_bipush (v := 104) hx hb dX10_machine_74 (by decide) ?_
      refine lv_icmp_ge (tgt := 93) hx hb dX10_machine_76 (by decide) (fun c1 => ?_) (fun c1 => ?_)
      · have hf := if_t c1 hf
        refine lv_aload_n hx hb dX10_machine_93 rfl (lv_at hl 0 rfl) ?_
        refine lv_iload_n hx hb dX10_machine_94 rfl (lv_at hl 1 rfl) ?_
        refine lv_iconst (v := 0) hx hb dX10_machine_95 (by decide) ?_
        refine lv_iload_n hx hb dX10_machine_96 rfl (lv_at hl 2 rfl) ?_
        refine lv_iconst (v := 1) hx hb dX10_machine_97 (by decide) ?_
        refine lv_iadd hx hb dX10_machine_98 ?_
        obtain ⟨y2, ey2, hf⟩ := bnd_some hf
        refine k_X10_let X h hA ey2 k_X10_113 dX10_machine_99 hl.1 ⟨(Nat.le_of_ble_eq_true rfl), (Nat.le_of_ble_eq_true rfl)⟩ (Nat.le_of_ble_eq_true rfl) ⟨Nat.zero_le _, Nat.zero_le _⟩ (fun H locs h => ?_)
        refine lv_aload_n hx hb dX10_machine_102 rfl (lv_at hl 0 rfl) ?_
        refine lv_iload_n hx hb dX10_machine_103 rfl (lv_at hl 1 rfl) ?_
        refine lv_iconst (v := 1) hx hb dX10_machine_104 (by decide) ?_
        refine lv_iload_n hx hb dX10_machine_105 rfl (lv_at hl 3 rfl) ?_
        obtain ⟨y3, ey3, hf⟩ := bnd_some hf
        refine k_X10_let X h hA ey3 k_X10_113 dX10_machine_106 hl.1 ⟨(Nat.le_of_ble_eq_true rfl), (Nat.le_of_ble_eq_true rfl)⟩ (Nat.le_of_ble_eq_true rfl) ⟨Nat.zero_le _, Nat.zero_le _⟩ (fun H locs h => ?_)
        refine lv_aload_n hx hb dX10_machine_109 rfl (lv_at hl 0 rfl) ?_
        refine lv_iload_n hx hb dX10_machine_110 rfl (lv_at hl 1 rfl) ?_
        refine lv_iconst (v := 2) hx hb dX10_machine_111 (by decide) ?_
        refine lv_iload hx hb dX10_machine_112 (lv_at hl 4 rfl) ?_
        obtain ⟨y4, ey4, hf⟩ := bnd_some hf
        refine k_X10_let X h hA ey4 k_X10_113 dX10_machine_114 hl.1 ⟨(Nat.le_of_ble_eq_true rfl), (Nat.le_of_ble_eq_true rfl)⟩ (Nat.le_of_ble_eq_true rfl) ⟨Nat.zero_le _, Nat.zero_le _⟩ (fun H locs h => ?_)
        refine lv_aload_n hx hb dX10_machine_117 rfl (lv_at hl 0 rfl) ?_
        refine lv_iload_n hx hb dX10_machine_118 rfl (lv_at hl 1 rfl) ?_
        refine lv_iconst (v := 3) hx hb dX10_machine_119 (by decide) ?_
        refine lv_iconst (v := 1) hx hb dX10_machine_120 (by decide) ?_
        obtain ⟨y5, ey5, hf⟩ := bnd_some hf
        refine k_X10_let X h hA ey5 k_X10_113 dX10_machine_121 hl.1 ⟨(Nat.le_of_ble_eq_true rfl), (Nat.le_of_ble_eq_true rfl)⟩ (Nat.le_of_ble_eq_true rfl) ⟨Nat.zero_le _, Nat.zero_le _⟩ (fun H locs h => ?_)
        refine lv_aload_n hx hb dX10_machine_124 rfl (lv_at hl 0 rfl) ?_
        refine lv_iload_n hx hb dX10_machine_125 rfl (lv_at hl 1 rfl) ?_
        refine lv_iconst (v := 4) hx hb dX10_machine_126 (by decide) ?_
        refine lv_iconst (v := 1) hx hb dX10_machine_127 (by decide) ?_
        obtain ⟨y6, ey6, hf⟩ := bnd_some hf
        refine k_X10_let X h hA ey6 k_X10_113 dX10_machine_128 hl.1 ⟨(Nat.le_of_ble_eq_true rfl), (Nat.le_of_ble_eq_true rfl)⟩ (Nat.le_of_ble_eq_true rfl) ⟨Nat.zero_le _, Nat.zero_le _⟩ (fun H locs h => ?_)
        refine lv_iload_n hx hb dX10_machine_131 rfl (lv_at hl 2 rfl) ?_
        refine lv_iconst (v := 4) hx hb dX10_machine_132 (by decide) ?_
        refine lv_icmp_ne (tgt := 156) hx hb dX10_machine_133 (by decide) (fun c7 => ?_) (fun c7 => ?_)
        · have hf := if_f c7 hf
          refine lv_iconst (v := 1) hx hb dX10_machine_156 (by decide) ?_
          exact e0_i (Wf := mw G) X.1 hr hlocks hf h dX10_machine_157
        · have hf := if_t c7 hf
          refine lv_iload_n hx hb dX10_machine_136 rfl (lv_at hl 3 rfl) ?_
          refine lv_if_le (tgt := 156) hx hb dX10_machine_137 (by decide) (fun c8 => ?_) (fun c8 => ?_)
          · have hf := if_t c8 hf
            refine lv_iconst (v := 1) hx hb dX10_machine_156 (by decide) ?_
            exact e0_i (Wf := mw G) X.1 hr hlocks hf h dX10_machine_157
          · have hf := if_f c8 hf
            refine lv_aload_n hx hb dX10_machine_140 rfl (lv_at hl 0 rfl) ?_
            refine lv_iload_n hx hb dX10_machine_141 rfl (lv_at hl 1 rfl) ?_
            refine lv_bipush (v := 7) hx hb dX10_machine_142 (by decide) ?_
            refine lv_iconst (v := 1) hx hb dX10_machine_144 (by decide) ?_
            obtain ⟨y9, ey9, hf⟩ := bnd_some hf
            refine k_X10_let X h hA ey9 k_X10_113 dX10_machine_145 hl.1 ⟨(Nat.le_of_ble_eq_true rfl), (Nat.le_of_ble_eq_true rfl)⟩ (Nat.le_of_ble_eq_true rfl) ⟨Nat.zero_le _, Nat.zero_le _⟩ (fun H locs h => ?_)
            refine lv_aload_n hx hb dX10_machine_148 rfl (lv_at hl 0 rfl) ?_
            refine lv_iload_n hx hb dX10_machine_149 rfl (lv_at hl 1 rfl) ?_
            refine lv_bipush (v := 8) hx hb dX10_machine_150 (by decide) ?_
            refine lv_iload_n hx hb dX10_machine_152 rfl (lv_at hl 3 rfl) ?_
            obtain ⟨y10, ey10, hf⟩ := bnd_some hf
            refine k_X10_let X h hA ey10 k_X10_113 dX10_machine_153 hl.1 ⟨(Nat.le_of_ble_eq_true rfl), (Nat.le_of_ble_eq_true rfl)⟩ (Nat.le_of_ble_eq_true rfl) ⟨Nat.zero_le _, Nat.zero_le _⟩ (fun H locs h => ?_)
            refine lv_iconst (v := 1) hx hb dX10_machine_156 (by decide) ?_
            exact e0_i (Wf := mw G) X.1 hr hlocks hf h dX10_machine_157
      · have hf := if_f c1 hf
        refine lv_aload_n hx hb dX10_machine_79 rfl (lv_at hl 0 rfl) ?_
        refine lv_iload_n hx hb dX10_machine_80 rfl (lv_at hl 1 rfl) ?_
        refine lv_iload hx hb dX10_machine_81 (lv_at hl 5 rfl) ?_
        refine lv_iconst (v := 0) hx hb dX10_machine_83 (by decide) ?_
        obtain ⟨y11, ey11, hf⟩ := bnd_some hf
        refine k_X10_let X h hA ey11 k_X10_113 dX10_machine_84 hl.1 ⟨(Nat.le_of_ble_eq_true rfl), (Nat.le_of_ble_eq_true rfl)⟩ (Nat.le_of_ble_eq_true rfl) ⟨Nat.zero_le _, Nat.zero_le _⟩ (fun H locs h => ?_)
        refine lv_iinc (v := x5 + (1 : Int32)) (lv' := [(5, .int (x5 + (1 : Int32))), (0, .ref (gq G 0)), (1, .int x1), (2, .int x2), (3, .int x3), (4, .int x4)]) hx hb dX10_machine_87 hl (k := 5) rfl (by rfl) (by decide) rfl (fun ls hl => ?_)
        refine lv_goto (tgt := 72) hx hb dX10_machine_90 (by decide) ?_
        exact ih72 _ _ _ _ _ _ _ _ _ hf h (lv_sub hl [1, 2, 3, 4, 5, 0] rfl)
  have J34 : ∀ (x1 : Int32) (x2 : Int32) (x3 : Int32) (x4 : Int32) (xs0 : Int32) (xs1 : Int32) (w : MW) (H : Heap) (locs : List Loc) (ls : Array Slot), f_X10_machine_b34 x1 x2 x3 x4 xs0 xs1 w = some (r, w') → CH G (mw G w) (va_A (mw G w0) s.heap.size) s.heap H locs → lv_has ls 6 [(0, .ref (gq G 0)), (1, .int x1), (2, .int x2), (3, .int x3), (4, .int x4)] → W p l e { frames := 2, cells := 0, slots := 4096 * 0, locals := 45 } s m args below meth c H locs 0 (4096 * 0) (MQ below (QI G (mw G w0) s.heap.size r (fun _ => mw G (w'))) args s 0 (4096 * 0) (va_A (mw G w0) s.heap.size)) (F0 m 34 ls [.int xs1, .int xs0]) := by
    intro x1 x2 x3 x4 xs0 xs1 w H locs ls hf h hl
    unfold f_X10_machine_b34 at hf
    refine lv_sipush (v := 20000) hx hb dX10_machine_34 (by decide) ?_
    obtain ⟨y12, ey12, hf⟩ := bnd_some hf
    refine k_X10_in X.1 ey12 k_X10_71 dX10_machine_37 hl.1 ⟨(Nat.le_of_ble_eq_true rfl), (Nat.le_of_ble_eq_true rfl)⟩ (Nat.le_of_ble_eq_true rfl) ⟨Nat.zero_le _, Nat.zero_le _⟩ ?_
    refine lv_if_eq (tgt := 55) hx hb dX10_machine_40 (by decide) (fun c13 => ?_) (fun c13 => ?_)
    · have hf := if_t c13 hf
      refine lv_bipush (v := (-2)) hx hb dX10_machine_55 (by decide) ?_
      exact e0_i (Wf := mw G) X.1 hr hlocks hf h dX10_machine_57
    · have hf := if_f c13 hf
      refine lv_iload hx hb dX10_machine_43 (lv_at hl 4 rfl) ?_
      refine lv_iconst (v := 0) hx hb dX10_machine_45 (by decide) ?_
      refine lv_sipush (v := 5000) hx hb dX10_machine_46 (by decide) ?_
      obtain ⟨y14, ey14, hf⟩ := bnd_some hf
      refine k_X10_in X.1 ey14 k_X10_71 dX10_machine_49 hl.1 ⟨(Nat.le_of_ble_eq_true rfl), (Nat.le_of_ble_eq_true rfl)⟩ (Nat.le_of_ble_eq_true rfl) ⟨Nat.zero_le _, Nat.zero_le _⟩ ?_
      refine lv_if_ne (tgt := 58) hx hb dX10_machine_52 (by decide) (fun c15 => ?_) (fun c15 => ?_)
      · have hf := if_f c15 hf
        refine lv_aload_n hx hb dX10_machine_58 rfl (lv_at hl 0 rfl) ?_
        refine lv_iload_n hx hb dX10_machine_59 rfl (lv_at hl 1 rfl) ?_
        obtain ⟨y16, ey16, hf⟩ := bnd_some hf
        refine k_X10_isThere X h ey16 k_X10_110 dX10_machine_60 hl.1 ⟨(Nat.le_of_ble_eq_true rfl), (Nat.le_of_ble_eq_true rfl)⟩ (Nat.le_of_ble_eq_true rfl) ⟨Nat.zero_le _, Nat.zero_le _⟩ ?_
        refine lv_if_eq (tgt := 69) hx hb dX10_machine_63 (by decide) (fun c17 => ?_) (fun c17 => ?_)
        · have hf := if_t c17 hf
          refine lv_iconst (v := 0) hx hb dX10_machine_69 (by decide) ?_
          refine lv_istore (lv' := [(5, .int ((0 : Int32))), (0, .ref (gq G 0)), (1, .int x1), (2, .int x2), (3, .int x3), (4, .int x4)]) hx hb dX10_machine_70 hl (by decide) rfl (fun ls hl => ?_)
          exact L72 FU _ _ _ _ _ _ _ _ _ hf h (lv_sub hl [1, 2, 3, 4, 5, 0] rfl)
        · have hf := if_f c17 hf
          refine lv_bipush (v := (-3)) hx hb dX10_machine_66 (by decide) ?_
          exact e0_i (Wf := mw G) X.1 hr hlocks hf h dX10_machine_68
      · have hf := if_t c15 hf
        refine lv_bipush (v := (-2)) hx hb dX10_machine_55 (by decide) ?_
        exact e0_i (Wf := mw G) X.1 hr hlocks hf h dX10_machine_57
  obtain ⟨w, rfl⟩ : ∃ z, z = w0 := ⟨_, rfl⟩
  have hl : lv_has ls 6 [(0, .ref (gq G 0)), (1, .int x1), (2, .int x2), (3, .int x3), (4, .int x4)] := hl
  unfold f_X10_machine at hf
  refine lv_aload_n hx hb dX10_machine_0 rfl (lv_at hl 0 rfl) ?_
  refine lv_iconst (v := 0) hx hb dX10_machine_1 (by decide) ?_
  refine PM_0_0 X h k_X10_53 dX10_machine_2 (fun H locs h => ?_)
  refine lv_iload_n hx hb dX10_machine_5 rfl (lv_at hl 1 rfl) ?_
  obtain ⟨y18, ey18, hf⟩ := bnd_some hf
  refine k_X10_isPlace X.1 ey18 k_X10_106 dX10_machine_6 hl.1 ⟨(Nat.le_of_ble_eq_true rfl), (Nat.le_of_ble_eq_true rfl)⟩ (Nat.le_of_ble_eq_true rfl) ⟨Nat.zero_le _, Nat.zero_le _⟩ ?_
  refine lv_if_ne (tgt := 14) hx hb dX10_machine_9 (by decide) (fun c19 => ?_) (fun c19 => ?_)
  · have hf := if_f c19 hf
    refine lv_iload_n hx hb dX10_machine_14 rfl (lv_at hl 2 rfl) ?_
    refine lv_iconst (v := 0) hx hb dX10_machine_15 (by decide) ?_
    refine lv_iconst (v := 4) hx hb dX10_machine_16 (by decide) ?_
    obtain ⟨y20, ey20, hf⟩ := bnd_some hf
    refine k_X10_in X.1 ey20 k_X10_71 dX10_machine_17 hl.1 ⟨(Nat.le_of_ble_eq_true rfl), (Nat.le_of_ble_eq_true rfl)⟩ (Nat.le_of_ble_eq_true rfl) ⟨Nat.zero_le _, Nat.zero_le _⟩ ?_
    refine lv_if_eq (tgt := 55) hx hb dX10_machine_20 (by decide) (fun c21 => ?_) (fun c21 => ?_)
    · have hf := if_t c21 hf
      refine lv_bipush (v := (-2)) hx hb dX10_machine_55 (by decide) ?_
      exact e0_i (Wf := mw G) X.1 hr hlocks hf h dX10_machine_57
    · have hf := if_f c21 hf
      refine lv_iload_n hx hb dX10_machine_23 rfl (lv_at hl 3 rfl) ?_
      refine lv_iload_n hx hb dX10_machine_24 rfl (lv_at hl 2 rfl) ?_
      refine lv_iconst (v := 4) hx hb dX10_machine_25 (by decide) ?_
      refine lv_icmp_ne (tgt := 33) hx hb dX10_machine_26 (by decide) (fun c22 => ?_) (fun c22 => ?_)
      · have hf := if_f c22 hf
        refine lv_iconst (v := 1) hx hb dX10_machine_33 (by decide) ?_
        exact J34 _ _ _ _ _ _ _ _ _ _ hf h (lv_sub hl [0, 1, 2, 3, 4] rfl)
      · have hf := if_t c22 hf
        refine lv_iconst (v := 0) hx hb dX10_machine_29 (by decide) ?_
        refine lv_goto (tgt := 34) hx hb dX10_machine_30 (by decide) ?_
        exact J34 _ _ _ _ _ _ _ _ _ _ hf h (lv_sub hl [0, 1, 2, 3, 4] rfl)
  · have hf := if_t c19 hf
    refine lv_iconst (v := (-1)) hx hb dX10_machine_12 (by decide) ?_
    exact e0_i (Wf := mw G) X.1 hr hlocks hf h dX10_machine_13
theorem m_X10_machine : Cond.instanceMethod yX10_machine ∈ lw_good ∧ Cond.selects RX10 yX10_machine yX10_machine ∈ lw_good ∧ Cond.initialized RX10 ∈ lw_good ∧ Cond.code yX10_machine cX10_machine 6 (some .int) ∈ lw_good := by decide +kernel
theorem k_X10_machine {p : Program} {l : Launch} {e : Env} {R : Room} {s : State} {m : MethodId} {args : Array Value} {below : List Frame} {meth : Method} {c : Code} {H : Heap} {locs : List Loc} {cells slots : Nat} {Q : State → Prop} {cc : ByteArray} {nL pc idx : Nat} {ls : Array Slot} {rest : List Value} {own : String} {G : Gm} {A : Nat → Prop} {H0 : Heap} {w : MW} {x1 : Int32} {x2 : Int32} {x3 : Int32} {x4 : Int32} {y : Int32 × MW} (X : CX own cc nL G p s m args c) (h : CH G (mw G w) A H0 H locs) (hA : ∀ q, H0.size ≤ q → A q) (hf : f_X10_machine x1 x2 x3 x4 w = some y) (hlk : Cond.methodLink own idx yX10_machine ∈ lw_good) (hd : decode cc pc = .ok (.invokevirtual idx, 3)) (hsz : ls.size = nL) (hR : 3 ≤ R.frames ∧ 70 ≤ R.locals) (hrest : (rest.map fun v => v.category).sum ≤ 8) (hk : cells ≤ R.cells ∧ slots ≤ R.slots) (k : ∀ (H : Heap) (locs : List Loc), CH G (mw G y.2) A H0 H locs → W p l e R s m args below meth c H locs cells slots Q (F0 m (pc + 3) ls (.int y.1 :: rest))) : W p l e R s m args below meth c H locs cells slots Q (F0 m pc ls (.int x4 :: .int x3 :: .int x2 :: .int x1 :: .ref (gq G 0) :: rest)) :=
  fin_i (n := 0) (runV (As := [.int x1, .int x2, .int x3, .int x4]) X.1 4 (t_X10_machine l G w x1 x2 x3 x4 y.1 y.2 hf _) rfl rfl hlk m_X10_machine (by decide +kernel) ⟨hR.1, hR.2⟩ ⟨blindM, va_recv X.2.1 h.1 (ci := 9) (q0 := 0) rfl rfl, preM X.2 h⟩ rfl hsz hrest hd hk) h hA (fun _ H locs h => k H locs h)
def f_X10_drum_b76 (w : MW) : Option (Int32 × MW) :=
 (f_X10_found ((7 : Int32)) w).bind fun y1 =>
 some (y1.1, y1.2)
def f_X10_drum (x1 : Int32) (x2 : Int32) (w : MW) : Option (Int32 × MW) :=
 (f_X10_isPlace x1).bind fun y2 =>
 if y2 = 0 then
 (some ((-1 : Int32), mst w 0 0 ((0 : Int32))))
 else
 ((f_X10_in x2 ((1 : Int32)) ((20000 : Int32))).bind fun y4 =>
 if y4 = 0 then
 (some ((-2 : Int32), mst w 0 0 ((0 : Int32))))
 else
 ((f_X10_isThere x1 (mst w 0 0 ((0 : Int32)))).bind fun y6 =>
 if y6 = 0 then
 ((f_X10_found ((1 : Int32)) (mst w 0 0 ((0 : Int32)))).bind fun y19 =>
 some (y19.1, y19.2))
 else
 ((f_X10_kindOf x1 (mst w 0 0 ((0 : Int32)))).bind fun y8 =>
 if y8 = ((4 : Int32)) then
 ((f_X10_loadsIn x1 (mst w 0 0 ((0 : Int32)))).bind fun y10 =>
 if 0 < y10 then
 (f_X10_drum_b76 (mst w 0 0 ((0 : Int32))))
 else
 ((f_X10_of x1 ((26 : Int32)) (mst w 0 0 ((0 : Int32)))).bind fun y12 =>
 if y12 = ((1 : Int32)) then
 (f_X10_drum_b76 (mst w 0 0 ((0 : Int32))))
 else
 ((f_X10_of x1 ((7 : Int32)) (mst w 0 0 ((0 : Int32)))).bind fun y14 =>
 if y14 = ((6 : Int32)) then
 (some ((-4 : Int32), mst w 0 0 ((0 : Int32))))
 else
 ((f_X10_let x1 (((8 : Int32)) + y14) x2 (mst w 0 0 ((0 : Int32)))).bind fun y16 =>
 (f_X10_let x1 ((7 : Int32)) (y14 + ((1 : Int32))) y16).bind fun y17 =>
 some (y14 + ((1 : Int32)), y17)))))
 else
 ((f_X10_found ((5 : Int32)) (mst w 0 0 ((0 : Int32)))).bind fun y18 =>
 some (y18.1, y18.2)))))
set_option maxHeartbeats 4000000 in
set_option maxRecDepth 100000 in
theorem t_X10_drum (l : Launch) (G : Gm) (w0 : MW) (x1 : Int32) (x2 : Int32) (r : Int32) (w' : MW) (hf : f_X10_drum x1 x2 w0 = some (r, w')) : MetI l yX10_drum cX10_drum 4 (some .int) 2 45 G (mw G w0) [.ref (gq G 0), .int x1, .int x2] r (fun _ => mw G (w')) 0 := by
  intro sz
  refine ent (own := RX10) (As := [.ref (gq G 0), .int x1, .int x2]) (by decide +kernel) rfl (Nat.le_of_ble_eq_true rfl) (fun _ _ h => h.1) ?_
  intro p e s m args below meth c ls B hr hlocks hv hl
  obtain ⟨-, hsz, hP, hKK, hD⟩ := hv
  subst hsz
  have X : CX RX10 cX10_drum 4 G p s m args c := ⟨B, hKK⟩
  obtain ⟨hx, hb, hml, hown, hts⟩ := id B
  have hA : ∀ q : Nat, s.heap.size ≤ q → va_A (mw G w0) s.heap.size q := fun q z => Or.inr z
  have h : CH G (mw G w0) (va_A (mw G w0) s.heap.size) s.heap s.heap [] := ⟨hP, hD.self, va_S.rf⟩
  have J76 : ∀ (w : MW) (H : Heap) (locs : List Loc) (ls : Array Slot), f_X10_drum_b76 w = some (r, w') → CH G (mw G w) (va_A (mw G w0) s.heap.size) s.heap H locs → lv_has ls 4 [(0, .ref (gq G 0))] → W p l e { frames := 2, cells := 0, slots := 4096 * 0, locals := 45 } s m args below meth c H locs 0 (4096 * 0) (MQ below (QI G (mw G w0) s.heap.size r (fun _ => mw G (w'))) args s 0 (4096 * 0) (va_A (mw G w0) s.heap.size)) (F0 m 76 ls []) := by
    intro w H locs ls hf h hl
    unfold f_X10_drum_b76 at hf
    refine lv_aload_n hx hb dX10_drum_76 rfl (lv_at hl 0 rfl) ?_
    refine lv_bipush (v := 7) hx hb dX10_drum_77 (by decide) ?_
    obtain ⟨y1, ey1, hf⟩ := bnd_some hf
    refine k_X10_found X h hA ey1 k_X10_117 dX10_drum_79 hl.1 ⟨(Nat.le_of_ble_eq_true rfl), (Nat.le_of_ble_eq_true rfl)⟩ (Nat.le_of_ble_eq_true rfl) ⟨Nat.zero_le _, Nat.zero_le _⟩ (fun H locs h => ?_)
    exact e0_i (Wf := mw G) X.1 hr hlocks hf h dX10_drum_82
  obtain ⟨w, rfl⟩ : ∃ z, z = w0 := ⟨_, rfl⟩
  have hl : lv_has ls 4 [(0, .ref (gq G 0)), (1, .int x1), (2, .int x2)] := hl
  unfold f_X10_drum at hf
  refine lv_aload_n hx hb dX10_drum_0 rfl (lv_at hl 0 rfl) ?_
  refine lv_iconst (v := 0) hx hb dX10_drum_1 (by decide) ?_
  refine PM_0_0 X h k_X10_53 dX10_drum_2 (fun H locs h => ?_)
  refine lv_iload_n hx hb dX10_drum_5 rfl (lv_at hl 1 rfl) ?_
  obtain ⟨y2, ey2, hf⟩ := bnd_some hf
  refine k_X10_isPlace X.1 ey2 k_X10_106 dX10_drum_6 hl.1 ⟨(Nat.le_of_ble_eq_true rfl), (Nat.le_of_ble_eq_true rfl)⟩ (Nat.le_of_ble_eq_true rfl) ⟨Nat.zero_le _, Nat.zero_le _⟩ ?_
  refine lv_if_ne (tgt := 14) hx hb dX10_drum_9 (by decide) (fun c3 => ?_) (fun c3 => ?_)
  · have hf := if_f c3 hf
    refine lv_iload_n hx hb dX10_drum_14 rfl (lv_at hl 2 rfl) ?_
    refine lv_iconst (v := 1) hx hb dX10_drum_15 (by decide) ?_
    refine lv_sipush (v := 20000) hx hb dX10_drum_16 (by decide) ?_
    obtain ⟨y4, ey4, hf⟩ := bnd_some hf
    refine k_X10_in X.1 ey4 k_X10_71 dX10_drum_19 hl.1 ⟨(Nat.le_of_ble_eq_true rfl), (Nat.le_of_ble_eq_true rfl)⟩ (Nat.le_of_ble_eq_true rfl) ⟨Nat.zero_le _, Nat.zero_le _⟩ ?_
    refine lv_if_ne (tgt := 28) hx hb dX10_drum_22 (by decide) (fun c5 => ?_) (fun c5 => ?_)
    · have hf := if_f c5 hf
      refine lv_aload_n hx hb dX10_drum_28 rfl (lv_at hl 0 rfl) ?_
      refine lv_iload_n hx hb dX10_drum_29 rfl (lv_at hl 1 rfl) ?_
      obtain ⟨y6, ey6, hf⟩ := bnd_some hf
      refine k_X10_isThere X h ey6 k_X10_110 dX10_drum_30 hl.1 ⟨(Nat.le_of_ble_eq_true rfl), (Nat.le_of_ble_eq_true rfl)⟩ (Nat.le_of_ble_eq_true rfl) ⟨Nat.zero_le _, Nat.zero_le _⟩ ?_
      refine lv_if_ne (tgt := 42) hx hb dX10_drum_33 (by decide) (fun c7 => ?_) (fun c7 => ?_)
      · have hf := if_f c7 hf
        refine lv_aload_n hx hb dX10_drum_42 rfl (lv_at hl 0 rfl) ?_
        refine lv_iload_n hx hb dX10_drum_43 rfl (lv_at hl 1 rfl) ?_
        obtain ⟨y8, ey8, hf⟩ := bnd_some hf
        refine k_X10_kindOf X h ey8 k_X10_79 dX10_drum_44 hl.1 ⟨(Nat.le_of_ble_eq_true rfl), (Nat.le_of_ble_eq_true rfl)⟩ (Nat.le_of_ble_eq_true rfl) ⟨Nat.zero_le _, Nat.zero_le _⟩ ?_
        refine lv_iconst (v := 4) hx hb dX10_drum_47 (by decide) ?_
        refine lv_icmp_eq (tgt := 57) hx hb dX10_drum_48 (by decide) (fun c9 => ?_) (fun c9 => ?_)
        · have hf := if_t c9 hf
          refine lv_aload_n hx hb dX10_drum_57 rfl (lv_at hl 0 rfl) ?_
          refine lv_iload_n hx hb dX10_drum_58 rfl (lv_at hl 1 rfl) ?_
          obtain ⟨y10, ey10, hf⟩ := bnd_some hf
          refine k_X10_loadsIn X h ey10 k_X10_120 dX10_drum_59 hl.1 ⟨(Nat.le_of_ble_eq_true rfl), (Nat.le_of_ble_eq_true rfl)⟩ (Nat.le_of_ble_eq_true rfl) ⟨Nat.zero_le _, Nat.zero_le _⟩ ?_
          refine lv_if_gt (tgt := 76) hx hb dX10_drum_62 (by decide) (fun c11 => ?_) (fun c11 => ?_)
          · have hf := if_t c11 hf
            exact J76 _ _ _ _ hf h (lv_sub hl [0] rfl)
          · have hf := if_f c11 hf
            refine lv_aload_n hx hb dX10_drum_65 rfl (lv_at hl 0 rfl) ?_
            refine lv_iload_n hx hb dX10_drum_66 rfl (lv_at hl 1 rfl) ?_
            refine lv_bipush (v := 26) hx hb dX10_drum_67 (by decide) ?_
            obtain ⟨y12, ey12, hf⟩ := bnd_some hf
            refine k_X10_of X h ey12 k_X10_75 dX10_drum_69 hl.1 ⟨(Nat.le_of_ble_eq_true rfl), (Nat.le_of_ble_eq_true rfl)⟩ (Nat.le_of_ble_eq_true rfl) ⟨Nat.zero_le _, Nat.zero_le _⟩ ?_
            refine lv_iconst (v := 1) hx hb dX10_drum_72 (by decide) ?_
            refine lv_icmp_ne (tgt := 83) hx hb dX10_drum_73 (by decide) (fun c13 => ?_) (fun c13 => ?_)
            · have hf := if_f c13 hf
              refine lv_aload_n hx hb dX10_drum_83 rfl (lv_at hl 0 rfl) ?_
              refine lv_iload_n hx hb dX10_drum_84 rfl (lv_at hl 1 rfl) ?_
              refine lv_bipush (v := 7) hx hb dX10_drum_85 (by decide) ?_
              obtain ⟨y14, ey14, hf⟩ := bnd_some hf
              refine k_X10_of X h ey14 k_X10_75 dX10_drum_87 hl.1 ⟨(Nat.le_of_ble_eq_true rfl), (Nat.le_of_ble_eq_true rfl)⟩ (Nat.le_of_ble_eq_true rfl) ⟨Nat.zero_le _, Nat.zero_le _⟩ ?_
              refine lv_istore_n (lv' := [(3, .int y14), (0, .ref (gq G 0)), (1, .int x1), (2, .int x2)]) hx hb dX10_drum_90 rfl hl (by decide) rfl (fun ls hl => ?_)
              refine lv_iload_n hx hb dX10_drum_91 rfl (lv_at hl 0 rfl) ?_
              refine lv_bipush (v := 6) hx hb dX10_drum_92 (by decide) ?_
              refine lv_icmp_ne (tgt := 100) hx hb dX10_drum_94 (by decide) (fun c15 => ?_) (fun c15 => ?_)
              · have hf := if_f c15 hf
                refine lv_aload_n hx hb dX10_drum_100 rfl (lv_at hl 1 rfl) ?_
                refine lv_iload_n hx hb dX10_drum_101 rfl (lv_at hl 2 rfl) ?_
                refine lv_bipush (v := 8) hx hb dX10_drum_102 (by decide) ?_
                refine lv_iload_n hx hb dX10_drum_104 rfl (lv_at hl 0 rfl) ?_
                refine lv_iadd hx hb dX10_drum_105 ?_
                refine lv_iload_n hx hb dX10_drum_106 rfl (lv_at hl 3 rfl) ?_
                obtain ⟨y16, ey16, hf⟩ := bnd_some hf
                refine k_X10_let X h hA ey16 k_X10_113 dX10_drum_107 hl.1 ⟨(Nat.le_of_ble_eq_true rfl), (Nat.le_of_ble_eq_true rfl)⟩ (Nat.le_of_ble_eq_true rfl) ⟨Nat.zero_le _, Nat.zero_le _⟩ (fun H locs h => ?_)
                refine lv_aload_n hx hb dX10_drum_110 rfl (lv_at hl 1 rfl) ?_
                refine lv_iload_n hx hb dX10_drum_111 rfl (lv_at hl 2 rfl) ?_
                refine lv_bipush (v := 7) hx hb dX10_drum_112 (by decide) ?_
                refine lv_iload_n hx hb dX10_drum_114 rfl (lv_at hl 0 rfl) ?_
                refine lv_iconst (v := 1) hx hb dX10_drum_115 (by decide) ?_
                refine lv_iadd hx hb dX10_drum_116 ?_
                obtain ⟨y17, ey17, hf⟩ := bnd_some hf
                refine k_X10_let X h hA ey17 k_X10_113 dX10_drum_117 hl.1 ⟨(Nat.le_of_ble_eq_true rfl), (Nat.le_of_ble_eq_true rfl)⟩ (Nat.le_of_ble_eq_true rfl) ⟨Nat.zero_le _, Nat.zero_le _⟩ (fun H locs h => ?_)
                refine lv_iload_n hx hb dX10_drum_120 rfl (lv_at hl 0 rfl) ?_
                refine lv_iconst (v := 1) hx hb dX10_drum_121 (by decide) ?_
                refine lv_iadd hx hb dX10_drum_122 ?_
                exact e0_i (Wf := mw G) X.1 hr hlocks hf h dX10_drum_123
              · have hf := if_t c15 hf
                refine lv_bipush (v := (-4)) hx hb dX10_drum_97 (by decide) ?_
                exact e0_i (Wf := mw G) X.1 hr hlocks hf h dX10_drum_99
            · have hf := if_t c13 hf
              exact J76 _ _ _ _ hf h (lv_sub hl [0] rfl)
        · have hf := if_f c9 hf
          refine lv_aload_n hx hb dX10_drum_51 rfl (lv_at hl 0 rfl) ?_
          refine lv_iconst (v := 5) hx hb dX10_drum_52 (by decide) ?_
          obtain ⟨y18, ey18, hf⟩ := bnd_some hf
          refine k_X10_found X h hA ey18 k_X10_117 dX10_drum_53 hl.1 ⟨(Nat.le_of_ble_eq_true rfl), (Nat.le_of_ble_eq_true rfl)⟩ (Nat.le_of_ble_eq_true rfl) ⟨Nat.zero_le _, Nat.zero_le _⟩ (fun H locs h => ?_)
          exact e0_i (Wf := mw G) X.1 hr hlocks hf h dX10_drum_56
      · have hf := if_t c7 hf
        refine lv_aload_n hx hb dX10_drum_36 rfl (lv_at hl 0 rfl) ?_
        refine lv_iconst (v := 1) hx hb dX10_drum_37 (by decide) ?_
        obtain ⟨y19, ey19, hf⟩ := bnd_some hf
        refine k_X10_found X h hA ey19 k_X10_117 dX10_drum_38 hl.1 ⟨(Nat.le_of_ble_eq_true rfl), (Nat.le_of_ble_eq_true rfl)⟩ (Nat.le_of_ble_eq_true rfl) ⟨Nat.zero_le _, Nat.zero_le _⟩ (fun H locs h => ?_)
        exact e0_i (Wf := mw G) X.1 hr hlocks hf h dX10_drum_41
    · have hf := if_t c5 hf
      refine lv_bipush (v := (-2)) hx hb dX10_drum_25 (by decide) ?_
      exact e0_i (Wf := mw G) X.1 hr hlocks hf h dX10_drum_27
  · have hf := if_t c3 hf
    refine lv_iconst (v := (-1)) hx hb dX10_drum_12 (by decide) ?_
    exact e0_i (Wf := mw G) X.1 hr hlocks hf h dX10_drum_13
theorem m_X10_drum : Cond.instanceMethod yX10_drum ∈ lw_good ∧ Cond.selects RX10 yX10_drum yX10_drum ∈ lw_good ∧ Cond.initialized RX10 ∈ lw_good ∧ Cond.code yX10_drum cX10_drum 4 (some .int) ∈ lw_good := by decide +kernel
theorem k_X10_drum {p : Program} {l : Launch} {e : Env} {R : Room} {s : State} {m : MethodId} {args : Array Value} {below : List Frame} {meth : Method} {c : Code} {H : Heap} {locs : List Loc} {cells slots : Nat} {Q : State → Prop} {cc : ByteArray} {nL pc idx : Nat} {ls : Array Slot} {rest : List Value} {own : String} {G : Gm} {A : Nat → Prop} {H0 : Heap} {w : MW} {x1 : Int32} {x2 : Int32} {y : Int32 × MW} (X : CX own cc nL G p s m args c) (h : CH G (mw G w) A H0 H locs) (hA : ∀ q, H0.size ≤ q → A q) (hf : f_X10_drum x1 x2 w = some y) (hlk : Cond.methodLink own idx yX10_drum ∈ lw_good) (hd : decode cc pc = .ok (.invokevirtual idx, 3)) (hsz : ls.size = nL) (hR : 3 ≤ R.frames ∧ 68 ≤ R.locals) (hrest : (rest.map fun v => v.category).sum ≤ 8) (hk : cells ≤ R.cells ∧ slots ≤ R.slots) (k : ∀ (H : Heap) (locs : List Loc), CH G (mw G y.2) A H0 H locs → W p l e R s m args below meth c H locs cells slots Q (F0 m (pc + 3) ls (.int y.1 :: rest))) : W p l e R s m args below meth c H locs cells slots Q (F0 m pc ls (.int x2 :: .int x1 :: .ref (gq G 0) :: rest)) :=
  fin_i (n := 0) (runV (As := [.int x1, .int x2]) X.1 2 (t_X10_drum l G w x1 x2 y.1 y.2 hf _) rfl rfl hlk m_X10_drum (by decide +kernel) ⟨hR.1, hR.2⟩ ⟨blindM, va_recv X.2.1 h.1 (ci := 9) (q0 := 0) rfl rfl, preM X.2 h⟩ rfl hsz hrest hd hk) h hA (fun _ H locs h => k H locs h)
def f_X10_remove_l70_body (kself : (Int32 → Int32 → Int32 → MW → Option (Int32 × MW))) (x1 : Int32) (x2 : Int32) (x3 : Int32) (w : MW) : Option (Int32 × MW) :=
 if ((104 : Int32)) ≤ x3 then
 (some (x2, w))
 else
 ((f_X10_let x1 x3 ((0 : Int32)) w).bind fun y2 =>
 kself x1 x2 (x3 + (1 : Int32)) y2)
def f_X10_remove_l70 : Nat → Int32 → Int32 → Int32 → MW → Option (Int32 × MW)
  | 0, _, _, _, _ => none
  | n + 1, x1, x2, x3, w => f_X10_remove_l70_body (f_X10_remove_l70 n) x1 x2 x3 w
def f_X10_remove_b55 (w : MW) : Option (Int32 × MW) :=
 (f_X10_found ((7 : Int32)) w).bind fun y3 =>
 some (y3.1, y3.2)
def f_X10_remove (x1 : Int32) (w : MW) : Option (Int32 × MW) :=
 (f_X10_isPlace x1).bind fun y4 =>
 if y4 = 0 then
 (some ((-1 : Int32), mst w 0 0 ((0 : Int32))))
 else
 ((f_X10_isThere x1 (mst w 0 0 ((0 : Int32)))).bind fun y6 =>
 if y6 = 0 then
 ((f_X10_found ((1 : Int32)) (mst w 0 0 ((0 : Int32)))).bind fun y15 =>
 some (y15.1, y15.2))
 else
 ((f_X10_loadsIn x1 (mst w 0 0 ((0 : Int32)))).bind fun y8 =>
 if 0 < y8 then
 (f_X10_remove_b55 (mst w 0 0 ((0 : Int32))))
 else
 ((f_X10_of x1 ((26 : Int32)) (mst w 0 0 ((0 : Int32)))).bind fun y10 =>
 if y10 = ((1 : Int32)) then
 (f_X10_remove_b55 (mst w 0 0 ((0 : Int32))))
 else
 ((f_X10_creditOf x1 (mst w 0 0 ((0 : Int32)))).bind fun y12 =>
 if y12 ≤ 0 then
 ((f_X10_kindOf x1 (mst w 0 0 ((0 : Int32)))).bind fun y14 =>
 f_X10_remove_l70 FU x1 y14 ((0 : Int32)) (mst w 0 0 ((0 : Int32))))
 else
 (f_X10_remove_b55 (mst w 0 0 ((0 : Int32))))))))
set_option maxHeartbeats 4000000 in
set_option maxRecDepth 100000 in
theorem t_X10_remove (l : Launch) (G : Gm) (w0 : MW) (x1 : Int32) (r : Int32) (w' : MW) (hf : f_X10_remove x1 w0 = some (r, w')) : MetI l yX10_remove cX10_remove 4 (some .int) 2 45 G (mw G w0) [.ref (gq G 0), .int x1] r (fun _ => mw G (w')) 0 := by
  intro sz
  refine ent (own := RX10) (As := [.ref (gq G 0), .int x1]) (by decide +kernel) rfl (Nat.le_of_ble_eq_true rfl) (fun _ _ h => h.1) ?_
  intro p e s m args below meth c ls B hr hlocks hv hl
  obtain ⟨-, hsz, hP, hKK, hD⟩ := hv
  subst hsz
  have X : CX RX10 cX10_remove 4 G p s m args c := ⟨B, hKK⟩
  obtain ⟨hx, hb, hml, hown, hts⟩ := id B
  have hA : ∀ q : Nat, s.heap.size ≤ q → va_A (mw G w0) s.heap.size q := fun q z => Or.inr z
  have h : CH G (mw G w0) (va_A (mw G w0) s.heap.size) s.heap s.heap [] := ⟨hP, hD.self, va_S.rf⟩
  have L70 : ∀ (n70 : Nat) (x1 : Int32) (x2 : Int32) (x3 : Int32) (w : MW) (H : Heap) (locs : List Loc) (ls : Array Slot), f_X10_remove_l70 n70 x1 x2 x3 w = some (r, w') → CH G (mw G w) (va_A (mw G w0) s.heap.size) s.heap H locs → lv_has ls 4 [(0, .ref (gq G 0)), (1, .int x1), (2, .int x2), (3, .int x3)] → W p l e { frames := 2, cells := 0, slots := 4096 * 0, locals := 45 } s m args below meth c H locs 0 (4096 * 0) (MQ below (QI G (mw G w0) s.heap.size r (fun _ => mw G (w'))) args s 0 (4096 * 0) (va_A (mw G w0) s.heap.size)) (F0 m 70 ls []) := by
    intro n70
    induction n70 with
    | zero =>
      intro x1 x2 x3 w H locs ls hf h hl
      cases (show (none : Option (Int32 × MW)) = some _ from hf)
    | succ n70 ih70 =>
      intro x1 x2 x3 w H locs ls hf h hl
      have hf : f_X10_remove_l70_body (f_X10_remove_l70 n70) x1 x2 x3 w = _ := hf
      unfold f_X10_remove_l70_body at hf
      refine lv_iload_n hx hb dX10_remove_70 rfl (lv_at hl 3 rfl) ?_
      refine lv_bipush (v := 104) hx hb dX10_remove_71 (by decide) ?_
      refine lv_icmp_ge (tgt := 89) hx hb dX10_remove_73 (by decide) (fun c1 => ?_) (fun c1 => ?_)
      · have hf := if_t c1 hf
        refine lv_iload_n hx hb dX10_remove_89 rfl (lv_at hl 2 rfl) ?_
        exact e0_i (Wf := mw G) X.1 hr hlocks hf h dX10_remove_90
      · have hf := if_f c1 hf
        refine lv_aload_n hx hb dX10_remove_76 rfl (lv_at hl 0 rfl) ?_
        refine lv_iload_n hx hb dX10_remove_77 rfl (lv_at hl 1 rfl) ?_
        refine lv_iload_n hx hb dX10_remove_78 rfl (lv_at hl 3 rfl) ?_
        refine lv_iconst (v := 0) hx hb dX10_remove_79 (by decide) ?_
        obtain ⟨y2, ey2, hf⟩ := bnd_some hf
        refine k_X10_let X h hA ey2 k_X10_113 dX10_remove_80 hl.1 ⟨(Nat.le_of_ble_eq_true rfl), (Nat.le_of_ble_eq_true rfl)⟩ (Nat.le_of_ble_eq_true rfl) ⟨Nat.zero_le _, Nat.zero_le _⟩ (fun H locs h => ?_)
        refine lv_iinc (v := x3 + (1 : Int32)) (lv' := [(3, .int (x3 + (1 : Int32))), (0, .ref (gq G 0)), (1, .int x1), (2, .int x2)]) hx hb dX10_remove_83 hl (k := 3) rfl (by rfl) (by decide) rfl (fun ls hl => ?_)
        refine lv_goto (tgt := 70) hx hb dX10_remove_86 (by decide) ?_
        exact ih70 _ _ _ _ _ _ _ hf h (lv_sub hl [1, 2, 3, 0] rfl)
  have J55 : ∀ (w : MW) (H : Heap) (locs : List Loc) (ls : Array Slot), f_X10_remove_b55 w = some (r, w') → CH G (mw G w) (va_A (mw G w0) s.heap.size) s.heap H locs → lv_has ls 4 [(0, .ref (gq G 0))] → W p l e { frames := 2, cells := 0, slots := 4096 * 0, locals := 45 } s m args below meth c H locs 0 (4096 * 0) (MQ below (QI G (mw G w0) s.heap.size r (fun _ => mw G (w'))) args s 0 (4096 * 0) (va_A (mw G w0) s.heap.size)) (F0 m 55 ls []) := by
    intro w H locs ls hf h hl
    unfold f_X10_remove_b55 at hf
    refine lv_aload_n hx hb dX10_remove_55 rfl (lv_at hl 0 rfl) ?_
    refine lv_bipush (v := 7) hx hb dX10_remove_56 (by decide) ?_
    obtain ⟨y3, ey3, hf⟩ := bnd_some hf
    refine k_X10_found X h hA ey3 k_X10_117 dX10_remove_58 hl.1 ⟨(Nat.le_of_ble_eq_true rfl), (Nat.le_of_ble_eq_true rfl)⟩ (Nat.le_of_ble_eq_true rfl) ⟨Nat.zero_le _, Nat.zero_le _⟩ (fun H locs h => ?_)
    exact e0_i (Wf := mw G) X.1 hr hlocks hf h dX10_remove_61
  obtain ⟨w, rfl⟩ : ∃ z, z = w0 := ⟨_, rfl⟩
  have hl : lv_has ls 4 [(0, .ref (gq G 0)), (1, .int x1)] := hl
  unfold f_X10_remove at hf
  refine lv_aload_n hx hb dX10_remove_0 rfl (lv_at hl 0 rfl) ?_
  refine lv_iconst (v := 0) hx hb dX10_remove_1 (by decide) ?_
  refine PM_0_0 X h k_X10_53 dX10_remove_2 (fun H locs h => ?_)
  refine lv_iload_n hx hb dX10_remove_5 rfl (lv_at hl 1 rfl) ?_
  obtain ⟨y4, ey4, hf⟩ := bnd_some hf
  refine k_X10_isPlace X.1 ey4 k_X10_106 dX10_remove_6 hl.1 ⟨(Nat.le_of_ble_eq_true rfl), (Nat.le_of_ble_eq_true rfl)⟩ (Nat.le_of_ble_eq_true rfl) ⟨Nat.zero_le _, Nat.zero_le _⟩ ?_
  refine lv_if_ne (tgt := 14) hx hb dX10_remove_9 (by decide) (fun c5 => ?_) (fun c5 => ?_)
  · have hf := if_f c5 hf
    refine lv_aload_n hx hb dX10_remove_14 rfl (lv_at hl 0 rfl) ?_
    refine lv_iload_n hx hb dX10_remove_15 rfl (lv_at hl 1 rfl) ?_
    obtain ⟨y6, ey6, hf⟩ := bnd_some hf
    refine k_X10_isThere X h ey6 k_X10_110 dX10_remove_16 hl.1 ⟨(Nat.le_of_ble_eq_true rfl), (Nat.le_of_ble_eq_true rfl)⟩ (Nat.le_of_ble_eq_true rfl) ⟨Nat.zero_le _, Nat.zero_le _⟩ ?_
    refine lv_if_ne (tgt := 28) hx hb dX10_remove_19 (by decide) (fun c7 => ?_) (fun c7 => ?_)
    · have hf := if_f c7 hf
      refine lv_aload_n hx hb dX10_remove_28 rfl (lv_at hl 0 rfl) ?_
      refine lv_iload_n hx hb dX10_remove_29 rfl (lv_at hl 1 rfl) ?_
      obtain ⟨y8, ey8, hf⟩ := bnd_some hf
      refine k_X10_loadsIn X h ey8 k_X10_120 dX10_remove_30 hl.1 ⟨(Nat.le_of_ble_eq_true rfl), (Nat.le_of_ble_eq_true rfl)⟩ (Nat.le_of_ble_eq_true rfl) ⟨Nat.zero_le _, Nat.zero_le _⟩ ?_
      refine lv_if_gt (tgt := 55) hx hb dX10_remove_33 (by decide) (fun c9 => ?_) (fun c9 => ?_)
      · have hf := if_t c9 hf
        exact J55 _ _ _ _ hf h (lv_sub hl [0] rfl)
      · have hf := if_f c9 hf
        refine lv_aload_n hx hb dX10_remove_36 rfl (lv_at hl 0 rfl) ?_
        refine lv_iload_n hx hb dX10_remove_37 rfl (lv_at hl 1 rfl) ?_
        refine lv_bipush (v := 26) hx hb dX10_remove_38 (by decide) ?_
        obtain ⟨y10, ey10, hf⟩ := bnd_some hf
        refine k_X10_of X h ey10 k_X10_75 dX10_remove_40 hl.1 ⟨(Nat.le_of_ble_eq_true rfl), (Nat.le_of_ble_eq_true rfl)⟩ (Nat.le_of_ble_eq_true rfl) ⟨Nat.zero_le _, Nat.zero_le _⟩ ?_
        refine lv_iconst (v := 1) hx hb dX10_remove_43 (by decide) ?_
        refine lv_icmp_eq (tgt := 55) hx hb dX10_remove_44 (by decide) (fun c11 => ?_) (fun c11 => ?_)
        · have hf := if_t c11 hf
          exact J55 _ _ _ _ hf h (lv_sub hl [0] rfl)
        · have hf := if_f c11 hf
          refine lv_aload_n hx hb dX10_remove_47 rfl (lv_at hl 0 rfl) ?_
          refine lv_iload_n hx hb dX10_remove_48 rfl (lv_at hl 1 rfl) ?_
          obtain ⟨y12, ey12, hf⟩ := bnd_some hf
          refine k_X10_creditOf X h ey12 k_X10_123 dX10_remove_49 hl.1 ⟨(Nat.le_of_ble_eq_true rfl), (Nat.le_of_ble_eq_true rfl)⟩ (Nat.le_of_ble_eq_true rfl) ⟨Nat.zero_le _, Nat.zero_le _⟩ ?_
          refine lv_if_le (tgt := 62) hx hb dX10_remove_52 (by decide) (fun c13 => ?_) (fun c13 => ?_)
          · have hf := if_t c13 hf
            refine lv_aload_n hx hb dX10_remove_62 rfl (lv_at hl 0 rfl) ?_
            refine lv_iload_n hx hb dX10_remove_63 rfl (lv_at hl 1 rfl) ?_
            obtain ⟨y14, ey14, hf⟩ := bnd_some hf
            refine k_X10_kindOf X h ey14 k_X10_79 dX10_remove_64 hl.1 ⟨(Nat.le_of_ble_eq_true rfl), (Nat.le_of_ble_eq_true rfl)⟩ (Nat.le_of_ble_eq_true rfl) ⟨Nat.zero_le _, Nat.zero_le _⟩ ?_
            refine lv_istore_n (lv' := [(2, .int y14), (0, .ref (gq G 0)), (1, .int x1)]) hx hb dX10_remove_67 rfl hl (by decide) rfl (fun ls hl => ?_)
            refine lv_iconst (v := 0) hx hb dX10_remove_68 (by decide) ?_
            refine lv_istore_n (lv' := [(3, .int ((0 : Int32))), (2, .int y14), (0, .ref (gq G 0)), (1, .int x1)]) hx hb dX10_remove_69 rfl hl (by decide) rfl (fun ls hl => ?_)
            exact L70 FU _ _ _ _ _ _ _ hf h (lv_sub hl [2, 3, 1, 0] rfl)
          · have hf := if_f c13 hf
            exact J55 _ _ _ _ hf h (lv_sub hl [0] rfl)
    · have hf := if_t c7 hf
      refine lv_aload_n hx hb dX10_remove_22 rfl (lv_at hl 0 rfl) ?_
      refine lv_iconst (v := 1) hx hb dX10_remove_23 (by decide) ?_
      obtain ⟨y15, ey15, hf⟩ := bnd_some hf
      refine k_X10_found X h hA ey15 k_X10_117 dX10_remove_24 hl.1 ⟨(Nat.le_of_ble_eq_true rfl), (Nat.le_of_ble_eq_true rfl)⟩ (Nat.le_of_ble_eq_true rfl) ⟨Nat.zero_le _, Nat.zero_le _⟩ (fun H locs h => ?_)
      exact e0_i (Wf := mw G) X.1 hr hlocks hf h dX10_remove_27
  · have hf := if_t c5 hf
    refine lv_iconst (v := (-1)) hx hb dX10_remove_12 (by decide) ?_
    exact e0_i (Wf := mw G) X.1 hr hlocks hf h dX10_remove_13
theorem m_X10_remove : Cond.instanceMethod yX10_remove ∈ lw_good ∧ Cond.selects RX10 yX10_remove yX10_remove ∈ lw_good ∧ Cond.initialized RX10 ∈ lw_good ∧ Cond.code yX10_remove cX10_remove 4 (some .int) ∈ lw_good := by decide +kernel
theorem k_X10_remove {p : Program} {l : Launch} {e : Env} {R : Room} {s : State} {m : MethodId} {args : Array Value} {below : List Frame} {meth : Method} {c : Code} {H : Heap} {locs : List Loc} {cells slots : Nat} {Q : State → Prop} {cc : ByteArray} {nL pc idx : Nat} {ls : Array Slot} {rest : List Value} {own : String} {G : Gm} {A : Nat → Prop} {H0 : Heap} {w : MW} {x1 : Int32} {y : Int32 × MW} (X : CX own cc nL G p s m args c) (h : CH G (mw G w) A H0 H locs) (hA : ∀ q, H0.size ≤ q → A q) (hf : f_X10_remove x1 w = some y) (hlk : Cond.methodLink own idx yX10_remove ∈ lw_good) (hd : decode cc pc = .ok (.invokevirtual idx, 3)) (hsz : ls.size = nL) (hR : 3 ≤ R.frames ∧ 68 ≤ R.locals) (hrest : (rest.map fun v => v.category).sum ≤ 8) (hk : cells ≤ R.cells ∧ slots ≤ R.slots) (k : ∀ (H : Heap) (locs : List Loc), CH G (mw G y.2) A H0 H locs → W p l e R s m args below meth c H locs cells slots Q (F0 m (pc + 3) ls (.int y.1 :: rest))) : W p l e R s m args below meth c H locs cells slots Q (F0 m pc ls (.int x1 :: .ref (gq G 0) :: rest)) :=
  fin_i (n := 0) (runV (As := [.int x1]) X.1 1 (t_X10_remove l G w x1 y.1 y.2 hf _) rfl rfl hlk m_X10_remove (by decide +kernel) ⟨hR.1, hR.2⟩ ⟨blindM, va_recv X.2.1 h.1 (ci := 9) (q0 := 0) rfl rfl, preM X.2 h⟩ rfl hsz hrest hd hk) h hA (fun _ H locs h => k H locs h)
def f_X10_told (x1 : Int32) (x2 : Int32) (w : MW) : Option (Int32 × MW) :=
 (f_X10_isPlace x1).bind fun y1 =>
 if y1 = 0 then
 (some ((-1 : Int32), mst w 0 0 ((0 : Int32))))
 else
 ((f_X10_in x2 ((0 : Int32)) ((12 : Int32))).bind fun y3 =>
 if y3 = 0 then
 (some ((-2 : Int32), mst w 0 0 ((0 : Int32))))
 else
 ((f_X10_isThere x1 (mst w 0 0 ((0 : Int32)))).bind fun y5 =>
 if y5 = 0 then
 ((f_X10_found ((1 : Int32)) (mst w 0 0 ((0 : Int32)))).bind fun y30 =>
 some (y30.1, y30.2))
 else
 (if x2 = (0 : Int32) then
 ((f_X10_kindOf x1 (mst w 0 0 ((0 : Int32)))).bind fun y8 =>
 some (y8, mst w 0 0 ((0 : Int32))))
 else
 (if x2 = (1 : Int32) then
 ((f_X10_roomOf x1 (mst w 0 0 ((0 : Int32)))).bind fun y10 =>
 some (y10, mst w 0 0 ((0 : Int32))))
 else
 (if x2 = (2 : Int32) then
 ((f_X10_of x1 ((2 : Int32)) (mst w 0 0 ((0 : Int32)))).bind fun y12 =>
 some (y12, mst w 0 0 ((0 : Int32))))
 else
 (if x2 = (3 : Int32) then
 ((f_X10_of x1 ((3 : Int32)) (mst w 0 0 ((0 : Int32)))).bind fun y14 =>
 some (y14, mst w 0 0 ((0 : Int32))))
 else
 (if x2 = (4 : Int32) then
 ((f_X10_of x1 ((4 : Int32)) (mst w 0 0 ((0 : Int32)))).bind fun y16 =>
 some (y16, mst w 0 0 ((0 : Int32))))
 else
 (if x2 = (5 : Int32) then
 ((f_X10_of x1 ((5 : Int32)) (mst w 0 0 ((0 : Int32)))).bind fun y18 =>
 some (y18, mst w 0 0 ((0 : Int32))))
 else
 (if x2 = (6 : Int32) then
 ((f_X10_loadsIn x1 (mst w 0 0 ((0 : Int32)))).bind fun y20 =>
 some (y20, mst w 0 0 ((0 : Int32))))
 else
 (if x2 = (7 : Int32) then
 ((f_X10_of x1 ((6 : Int32)) (mst w 0 0 ((0 : Int32)))).bind fun y22 =>
 some (y22, mst w 0 0 ((0 : Int32))))
 else
 (if x2 = (8 : Int32) then
 ((f_X10_of x1 ((7 : Int32)) (mst w 0 0 ((0 : Int32)))).bind fun y24 =>
 some (y24, mst w 0 0 ((0 : Int32))))
 else
 (if x2 = (9 : Int32) then
 ((f_X10_of x1 ((30 : Int32)) (mst w 0 0 ((0 : Int32)))).bind fun y26 =>
 some (y26, mst w 0 0 ((0 : Int32))))
 else
 ((f_X10_kindOf x1 (mst w 0 0 ((0 : Int32)))).bind fun y27 =>
 (f_X10_hasFace y27 (x2 - ((10 : Int32)))).bind fun y28 =>
 if y28 = 0 then
 (some ((0 : Int32), mst w 0 0 ((0 : Int32))))
 else
 (some ((1 : Int32), mst w 0 0 ((0 : Int32)))))))))))))))))
set_option maxHeartbeats 4000000 in
set_option maxRecDepth 100000 in
theorem t_X10_told (l : Launch) (G : Gm) (w0 : MW) (x1 : Int32) (x2 : Int32) (r : Int32) (w' : MW) (hf : f_X10_told x1 x2 w0 = some (r, w')) : MetI l yX10_told cX10_told 3 (some .int) 3 66 G (mw G w0) [.ref (gq G 0), .int x1, .int x2] r (fun _ => mw G (w')) 0 := by
  intro sz
  refine ent (own := RX10) (As := [.ref (gq G 0), .int x1, .int x2]) (by decide +kernel) rfl (Nat.le_of_ble_eq_true rfl) (fun _ _ h => h.1) ?_
  intro p e s m args below meth c ls B hr hlocks hv hl
  obtain ⟨-, hsz, hP, hKK, hD⟩ := hv
  subst hsz
  have X : CX RX10 cX10_told 3 G p s m args c := ⟨B, hKK⟩
  obtain ⟨hx, hb, hml, hown, hts⟩ := id B
  have hA : ∀ q : Nat, s.heap.size ≤ q → va_A (mw G w0) s.heap.size q := fun q z => Or.inr z
  have h : CH G (mw G w0) (va_A (mw G w0) s.heap.size) s.heap s.heap [] := ⟨hP, hD.self, va_S.rf⟩
  obtain ⟨w, rfl⟩ : ∃ z, z = w0 := ⟨_, rfl⟩
  have hl : lv_has ls 3 [(0, .ref (gq G 0)), (1, .int x1), (2, .int x2)] := hl
  unfold f_X10_told at hf
  refine lv_aload_n hx hb dX10_told_0 rfl (lv_at hl 0 rfl) ?_
  refine lv_iconst (v := 0) hx hb dX10_told_1 (by decide) ?_
  refine PM_0_0 X h k_X10_53 dX10_told_2 (fun H locs h => ?_)
  refine lv_iload_n hx hb dX10_told_5 rfl (lv_at hl 1 rfl) ?_
  obtain ⟨y1, ey1, hf⟩ := bnd_some hf
  refine k_X10_isPlace X.1 ey1 k_X10_106 dX10_told_6 hl.1 ⟨(Nat.le_of_ble_eq_true rfl), (Nat.le_of_ble_eq_true rfl)⟩ (Nat.le_of_ble_eq_true rfl) ⟨Nat.zero_le _, Nat.zero_le _⟩ ?_
  refine lv_if_ne (tgt := 14) hx hb dX10_told_9 (by decide) (fun c2 => ?_) (fun c2 => ?_)
  · have hf := if_f c2 hf
    refine lv_iload_n hx hb dX10_told_14 rfl (lv_at hl 2 rfl) ?_
    refine lv_iconst (v := 0) hx hb dX10_told_15 (by decide) ?_
    refine lv_bipush (v := 12) hx hb dX10_told_16 (by decide) ?_
    obtain ⟨y3, ey3, hf⟩ := bnd_some hf
    refine k_X10_in X.1 ey3 k_X10_71 dX10_told_18 hl.1 ⟨(Nat.le_of_ble_eq_true rfl), (Nat.le_of_ble_eq_true rfl)⟩ (Nat.le_of_ble_eq_true rfl) ⟨Nat.zero_le _, Nat.zero_le _⟩ ?_
    refine lv_if_ne (tgt := 27) hx hb dX10_told_21 (by decide) (fun c4 => ?_) (fun c4 => ?_)
    · have hf := if_f c4 hf
      refine lv_aload_n hx hb dX10_told_27 rfl (lv_at hl 0 rfl) ?_
      refine lv_iload_n hx hb dX10_told_28 rfl (lv_at hl 1 rfl) ?_
      obtain ⟨y5, ey5, hf⟩ := bnd_some hf
      refine k_X10_isThere X h ey5 k_X10_110 dX10_told_29 hl.1 ⟨(Nat.le_of_ble_eq_true rfl), (Nat.le_of_ble_eq_true rfl)⟩ (Nat.le_of_ble_eq_true rfl) ⟨Nat.zero_le _, Nat.zero_le _⟩ ?_
      refine lv_if_ne (tgt := 41) hx hb dX10_told_32 (by decide) (fun c6 => ?_) (fun c6 => ?_)
      · have hf := if_f c6 hf
        refine lv_iload_n hx hb dX10_told_41 rfl (lv_at hl 2 rfl) ?_
        by_cases c7 : x2 = (0 : Int32)
        · have hf := if_t c7 hf
          refine lv_tableIn (tgt := 96) hx hb dX10_told_42 (by rw [c7]; decide) (by rw [c7]; decide) (by rw [c7]; rfl) (by decide) ?_
          refine lv_aload_n hx hb dX10_told_96 rfl (lv_at hl 0 rfl) ?_
          refine lv_iload_n hx hb dX10_told_97 rfl (lv_at hl 1 rfl) ?_
          obtain ⟨y8, ey8, hf⟩ := bnd_some hf
          refine k_X10_kindOf X h ey8 k_X10_79 dX10_told_98 hl.1 ⟨(Nat.le_of_ble_eq_true rfl), (Nat.le_of_ble_eq_true rfl)⟩ (Nat.le_of_ble_eq_true rfl) ⟨Nat.zero_le _, Nat.zero_le _⟩ ?_
          exact e0_i (Wf := mw G) X.1 hr hlocks hf h dX10_told_101
        · have hf := if_f c7 hf
          have nc7 := lv_neT (a := 0) c7 (by decide)
          by_cases c9 : x2 = (1 : Int32)
          · have hf := if_t c9 hf
            refine lv_tableIn (tgt := 102) hx hb dX10_told_42 (by rw [c9]; decide) (by rw [c9]; decide) (by rw [c9]; rfl) (by decide) ?_
            refine lv_aload_n hx hb dX10_told_102 rfl (lv_at hl 0 rfl) ?_
            refine lv_iload_n hx hb dX10_told_103 rfl (lv_at hl 1 rfl) ?_
            obtain ⟨y10, ey10, hf⟩ := bnd_some hf
            refine k_X10_roomOf X h ey10 k_X10_126 dX10_told_104 hl.1 ⟨(Nat.le_of_ble_eq_true rfl), (Nat.le_of_ble_eq_true rfl)⟩ (Nat.le_of_ble_eq_true rfl) ⟨Nat.zero_le _, Nat.zero_le _⟩ ?_
            exact e0_i (Wf := mw G) X.1 hr hlocks hf h dX10_told_107
          · have hf := if_f c9 hf
            have nc9 := lv_neT (a := 1) c9 (by decide)
            by_cases c11 : x2 = (2 : Int32)
            · have hf := if_t c11 hf
              refine lv_tableIn (tgt := 108) hx hb dX10_told_42 (by rw [c11]; decide) (by rw [c11]; decide) (by rw [c11]; rfl) (by decide) ?_
              refine lv_aload_n hx hb dX10_told_108 rfl (lv_at hl 0 rfl) ?_
              refine lv_iload_n hx hb dX10_told_109 rfl (lv_at hl 1 rfl) ?_
              refine lv_iconst (v := 2) hx hb dX10_told_110 (by decide) ?_
              obtain ⟨y12, ey12, hf⟩ := bnd_some hf
              refine k_X10_of X h ey12 k_X10_75 dX10_told_111 hl.1 ⟨(Nat.le_of_ble_eq_true rfl), (Nat.le_of_ble_eq_true rfl)⟩ (Nat.le_of_ble_eq_true rfl) ⟨Nat.zero_le _, Nat.zero_le _⟩ ?_
              exact e0_i (Wf := mw G) X.1 hr hlocks hf h dX10_told_114
            · have hf := if_f c11 hf
              have nc11 := lv_neT (a := 2) c11 (by decide)
              by_cases c13 : x2 = (3 : Int32)
              · have hf := if_t c13 hf
                refine lv_tableIn (tgt := 115) hx hb dX10_told_42 (by rw [c13]; decide) (by rw [c13]; decide) (by rw [c13]; rfl) (by decide) ?_
                refine lv_aload_n hx hb dX10_told_115 rfl (lv_at hl 0 rfl) ?_
                refine lv_iload_n hx hb dX10_told_116 rfl (lv_at hl 1 rfl) ?_
                refine lv_iconst (v := 3) hx hb dX10_told_117 (by decide) ?_
                obtain ⟨y14, ey14, hf⟩ := bnd_some hf
                refine k_X10_of X h ey14 k_X10_75 dX10_told_118 hl.1 ⟨(Nat.le_of_ble_eq_true rfl), (Nat.le_of_ble_eq_true rfl)⟩ (Nat.le_of_ble_eq_true rfl) ⟨Nat.zero_le _, Nat.zero_le _⟩ ?_
                exact e0_i (Wf := mw G) X.1 hr hlocks hf h dX10_told_121
              · have hf := if_f c13 hf
                have nc13 := lv_neT (a := 3) c13 (by decide)
                by_cases c15 : x2 = (4 : Int32)
                · have hf := if_t c15 hf
                  refine lv_tableIn (tgt := 122) hx hb dX10_told_42 (by rw [c15]; decide) (by rw [c15]; decide) (by rw [c15]; rfl) (by decide) ?_
                  refine lv_aload_n hx hb dX10_told_122 rfl (lv_at hl 0 rfl) ?_
                  refine lv_iload_n hx hb dX10_told_123 rfl (lv_at hl 1 rfl) ?_
                  refine lv_iconst (v := 4) hx hb dX10_told_124 (by decide) ?_
                  obtain ⟨y16, ey16, hf⟩ := bnd_some hf
                  refine k_X10_of X h ey16 k_X10_75 dX10_told_125 hl.1 ⟨(Nat.le_of_ble_eq_true rfl), (Nat.le_of_ble_eq_true rfl)⟩ (Nat.le_of_ble_eq_true rfl) ⟨Nat.zero_le _, Nat.zero_le _⟩ ?_
                  exact e0_i (Wf := mw G) X.1 hr hlocks hf h dX10_told_128
                · have hf := if_f c15 hf
                  have nc15 := lv_neT (a := 4) c15 (by decide)
                  by_cases c17 : x2 = (5 : Int32)
                  · have hf := if_t c17 hf
                    refine lv_tableIn (tgt := 129) hx hb dX10_told_42 (by rw [c17]; decide) (by rw [c17]; decide) (by rw [c17]; rfl) (by decide) ?_
                    refine lv_aload_n hx hb dX10_told_129 rfl (lv_at hl 0 rfl) ?_
                    refine lv_iload_n hx hb dX10_told_130 rfl (lv_at hl 1 rfl) ?_
                    refine lv_iconst (v := 5) hx hb dX10_told_131 (by decide) ?_
                    obtain ⟨y18, ey18, hf⟩ := bnd_some hf
                    refine k_X10_of X h ey18 k_X10_75 dX10_told_132 hl.1 ⟨(Nat.le_of_ble_eq_true rfl), (Nat.le_of_ble_eq_true rfl)⟩ (Nat.le_of_ble_eq_true rfl) ⟨Nat.zero_le _, Nat.zero_le _⟩ ?_
                    exact e0_i (Wf := mw G) X.1 hr hlocks hf h dX10_told_135
                  · have hf := if_f c17 hf
                    have nc17 := lv_neT (a := 5) c17 (by decide)
                    by_cases c19 : x2 = (6 : Int32)
                    · have hf := if_t c19 hf
                      refine lv_tableIn (tgt := 136) hx hb dX10_told_42 (by rw [c19]; decide) (by rw [c19]; decide) (by rw [c19]; rfl) (by decide) ?_
                      refine lv_aload_n hx hb dX10_told_136 rfl (lv_at hl 0 rfl) ?_
                      refine lv_iload_n hx hb dX10_told_137 rfl (lv_at hl 1 rfl) ?_
                      obtain ⟨y20, ey20, hf⟩ := bnd_some hf
                      refine k_X10_loadsIn X h ey20 k_X10_120 dX10_told_138 hl.1 ⟨(Nat.le_of_ble_eq_true rfl), (Nat.le_of_ble_eq_true rfl)⟩ (Nat.le_of_ble_eq_true rfl) ⟨Nat.zero_le _, Nat.zero_le _⟩ ?_
                      exact e0_i (Wf := mw G) X.1 hr hlocks hf h dX10_told_141
                    · have hf := if_f c19 hf
                      have nc19 := lv_neT (a := 6) c19 (by decide)
                      by_cases c21 : x2 = (7 : Int32)
                      · have hf := if_t c21 hf
                        refine lv_tableIn (tgt := 142) hx hb dX10_told_42 (by rw [c21]; decide) (by rw [c21]; decide) (by rw [c21]; rfl) (by decide) ?_
                        refine lv_aload_n hx hb dX10_told_142 rfl (lv_at hl 0 rfl) ?_
                        refine lv_iload_n hx hb dX10_told_143 rfl (lv_at hl 1 rfl) ?_
                        refine lv_bipush (v := 6) hx hb dX10_told_144 (by decide) ?_
                        obtain ⟨y22, ey22, hf⟩ := bnd_some hf
                        refine k_X10_of X h ey22 k_X10_75 dX10_told_146 hl.1 ⟨(Nat.le_of_ble_eq_true rfl), (Nat.le_of_ble_eq_true rfl)⟩ (Nat.le_of_ble_eq_true rfl) ⟨Nat.zero_le _, Nat.zero_le _⟩ ?_
                        exact e0_i (Wf := mw G) X.1 hr hlocks hf h dX10_told_149
                      · have hf := if_f c21 hf
                        have nc21 := lv_neT (a := 7) c21 (by decide)
                        by_cases c23 : x2 = (8 : Int32)
                        · have hf := if_t c23 hf
                          refine lv_tableIn (tgt := 150) hx hb dX10_told_42 (by rw [c23]; decide) (by rw [c23]; decide) (by rw [c23]; rfl) (by decide) ?_
                          refine lv_aload_n hx hb dX10_told_150 rfl (lv_at hl 0 rfl) ?_
                          refine lv_iload_n hx hb dX10_told_151 rfl (lv_at hl 1 rfl) ?_
                          refine lv_bipush (v := 7) hx hb dX10_told_152 (by decide) ?_
                          obtain ⟨y24, ey24, hf⟩ := bnd_some hf
                          refine k_X10_of X h ey24 k_X10_75 dX10_told_154 hl.1 ⟨(Nat.le_of_ble_eq_true rfl), (Nat.le_of_ble_eq_true rfl)⟩ (Nat.le_of_ble_eq_true rfl) ⟨Nat.zero_le _, Nat.zero_le _⟩ ?_
                          exact e0_i (Wf := mw G) X.1 hr hlocks hf h dX10_told_157
                        · have hf := if_f c23 hf
                          have nc23 := lv_neT (a := 8) c23 (by decide)
                          by_cases c25 : x2 = (9 : Int32)
                          · have hf := if_t c25 hf
                            refine lv_tableIn (tgt := 158) hx hb dX10_told_42 (by rw [c25]; decide) (by rw [c25]; decide) (by rw [c25]; rfl) (by decide) ?_
                            refine lv_aload_n hx hb dX10_told_158 rfl (lv_at hl 0 rfl) ?_
                            refine lv_iload_n hx hb dX10_told_159 rfl (lv_at hl 1 rfl) ?_
                            refine lv_bipush (v := 30) hx hb dX10_told_160 (by decide) ?_
                            obtain ⟨y26, ey26, hf⟩ := bnd_some hf
                            refine k_X10_of X h ey26 k_X10_75 dX10_told_162 hl.1 ⟨(Nat.le_of_ble_eq_true rfl), (Nat.le_of_ble_eq_true rfl)⟩ (Nat.le_of_ble_eq_true rfl) ⟨Nat.zero_le _, Nat.zero_le _⟩ ?_
                            exact e0_i (Wf := mw G) X.1 hr hlocks hf h dX10_told_165
                          · have hf := if_f c25 hf
                            have nc25 := lv_neT (a := 9) c25 (by decide)
                            refine lv_tableOut (tgt := 166) hx hb dX10_told_42 (by omega) (by decide) ?_
                            refine lv_aload_n hx hb dX10_told_166 rfl (lv_at hl 0 rfl) ?_
                            refine lv_iload_n hx hb dX10_told_167 rfl (lv_at hl 1 rfl) ?_
                            obtain ⟨y27, ey27, hf⟩ := bnd_some hf
                            refine k_X10_kindOf X h ey27 k_X10_79 dX10_told_168 hl.1 ⟨(Nat.le_of_ble_eq_true rfl), (Nat.le_of_ble_eq_true rfl)⟩ (Nat.le_of_ble_eq_true rfl) ⟨Nat.zero_le _, Nat.zero_le _⟩ ?_
                            refine lv_iload_n hx hb dX10_told_171 rfl (lv_at hl 2 rfl) ?_
                            refine lv_bipush (v := 10) hx hb dX10_told_172 (by decide) ?_
                            refine lv_isub hx hb dX10_told_174 ?_
                            obtain ⟨y28, ey28, hf⟩ := bnd_some hf
                            refine k_X10_hasFace X.1 ey28 k_X10_102 dX10_told_175 hl.1 ⟨(Nat.le_of_ble_eq_true rfl), (Nat.le_of_ble_eq_true rfl)⟩ (Nat.le_of_ble_eq_true rfl) ⟨Nat.zero_le _, Nat.zero_le _⟩ ?_
                            refine lv_if_eq (tgt := 185) hx hb dX10_told_178 (by decide) (fun c29 => ?_) (fun c29 => ?_)
                            · have hf := if_t c29 hf
                              refine lv_iconst (v := 0) hx hb dX10_told_185 (by decide) ?_
                              exact e0_i (Wf := mw G) X.1 hr hlocks hf h dX10_told_186
                            · have hf := if_f c29 hf
                              refine lv_iconst (v := 1) hx hb dX10_told_181 (by decide) ?_
                              refine lv_goto (tgt := 186) hx hb dX10_told_182 (by decide) ?_
                              exact e0_i (Wf := mw G) X.1 hr hlocks hf h dX10_told_186
      · have hf := if_t c6 hf
        refine lv_aload_n hx hb dX10_told_35 rfl (lv_at hl 0 rfl) ?_
        refine lv_iconst (v := 1) hx hb dX10_told_36 (by decide) ?_
        obtain ⟨y30, ey30, hf⟩ := bnd_some hf
        refine k_X10_found X h hA ey30 k_X10_117 dX10_told_37 hl.1 ⟨(Nat.le_of_ble_eq_true rfl), (Nat.le_of_ble_eq_true rfl)⟩ (Nat.le_of_ble_eq_true rfl) ⟨Nat.zero_le _, Nat.zero_le _⟩ (fun H locs h => ?_)
        exact e0_i (Wf := mw G) X.1 hr hlocks hf h dX10_told_40
    · have hf := if_t c4 hf
      refine lv_bipush (v := (-2)) hx hb dX10_told_24 (by decide) ?_
      exact e0_i (Wf := mw G) X.1 hr hlocks hf h dX10_told_26
  · have hf := if_t c2 hf
    refine lv_iconst (v := (-1)) hx hb dX10_told_12 (by decide) ?_
    exact e0_i (Wf := mw G) X.1 hr hlocks hf h dX10_told_13
theorem m_X10_told : Cond.instanceMethod yX10_told ∈ lw_good ∧ Cond.selects RX10 yX10_told yX10_told ∈ lw_good ∧ Cond.initialized RX10 ∈ lw_good ∧ Cond.code yX10_told cX10_told 3 (some .int) ∈ lw_good := by decide +kernel
theorem k_X10_told {p : Program} {l : Launch} {e : Env} {R : Room} {s : State} {m : MethodId} {args : Array Value} {below : List Frame} {meth : Method} {c : Code} {H : Heap} {locs : List Loc} {cells slots : Nat} {Q : State → Prop} {cc : ByteArray} {nL pc idx : Nat} {ls : Array Slot} {rest : List Value} {own : String} {G : Gm} {A : Nat → Prop} {H0 : Heap} {w : MW} {x1 : Int32} {x2 : Int32} {y : Int32 × MW} (X : CX own cc nL G p s m args c) (h : CH G (mw G w) A H0 H locs) (hA : ∀ q, H0.size ≤ q → A q) (hf : f_X10_told x1 x2 w = some y) (hlk : Cond.methodLink own idx yX10_told ∈ lw_good) (hd : decode cc pc = .ok (.invokevirtual idx, 3)) (hsz : ls.size = nL) (hR : 4 ≤ R.frames ∧ 88 ≤ R.locals) (hrest : (rest.map fun v => v.category).sum ≤ 8) (hk : cells ≤ R.cells ∧ slots ≤ R.slots) (k : ∀ (H : Heap) (locs : List Loc), CH G (mw G y.2) A H0 H locs → W p l e R s m args below meth c H locs cells slots Q (F0 m (pc + 3) ls (.int y.1 :: rest))) : W p l e R s m args below meth c H locs cells slots Q (F0 m pc ls (.int x2 :: .int x1 :: .ref (gq G 0) :: rest)) :=
  fin_i (n := 0) (runV (As := [.int x1, .int x2]) X.1 2 (t_X10_told l G w x1 x2 y.1 y.2 hf _) rfl rfl hlk m_X10_told (by decide +kernel) ⟨hR.1, hR.2⟩ ⟨blindM, va_recv X.2.1 h.1 (ci := 9) (q0 := 0) rfl rfl, preM X.2 h⟩ rfl hsz hrest hd hk) h hA (fun _ H locs h => k H locs h)
def f_X10_wish_b93 (x1 : Int32) (x2 : Int32) (x3 : Int32) (w : MW) : Option (Int32 × MW) :=
 if x2 = ((4 : Int32)) then
 ((f_X10_wearOf x1 x3 w).bind fun y3 =>
 some (y3.1, y3.2))
 else
 ((f_X10_wishOf x1 x2 x3 w).bind fun y2 =>
 some (y2.1, y2.2))
def f_X10_wish_b56 (x1 : Int32) (x2 : Int32) (x3 : Int32) (w : MW) : Option (Int32 × MW) :=
 (f_X10_isThere x1 w).bind fun y4 =>
 if y4 = 0 then
 ((f_X10_found ((1 : Int32)) w).bind fun y11 =>
 some (y11.1, y11.2))
 else
 (if x2 ≤ ((2 : Int32)) then
 (f_X10_wish_b93 x1 x2 x3 w)
 else
 ((f_X10_kindOf x1 w).bind fun y7 =>
 (f_X10_hasFace y7 ((1 : Int32))).bind fun y8 =>
 if y8 = 0 then
 ((f_X10_found ((5 : Int32)) w).bind fun y10 =>
 some (y10.1, y10.2))
 else
 (f_X10_wish_b93 x1 x2 x3 w)))
def f_X10_wish_b37 (x1 : Int32) (x2 : Int32) (x3 : Int32) (w : MW) : Option (Int32 × MW) :=
 if x2 = ((4 : Int32)) then
 ((f_X10_in x3 ((0 : Int32)) ((1000 : Int32))).bind fun y13 =>
 if y13 = 0 then
 (some ((-2 : Int32), w))
 else
 (f_X10_wish_b56 x1 x2 x3 w))
 else
 (f_X10_wish_b56 x1 x2 x3 w)
def f_X10_wish (x1 : Int32) (x2 : Int32) (x3 : Int32) (w : MW) : Option (Int32 × MW) :=
 (f_X10_isPlace x1).bind fun y15 =>
 if y15 = 0 then
 (some ((-1 : Int32), mst w 0 0 ((0 : Int32))))
 else
 ((f_X10_in x2 ((0 : Int32)) ((4 : Int32))).bind fun y17 =>
 if y17 = 0 then
 (some ((-2 : Int32), mst w 0 0 ((0 : Int32))))
 else
 (if ((3 : Int32)) ≤ x2 then
 (f_X10_wish_b37 x1 x2 x3 (mst w 0 0 ((0 : Int32))))
 else
 ((f_X10_in x3 ((0 : Int32)) ((4 : Int32))).bind fun y20 =>
 if y20 = 0 then
 (some ((-2 : Int32), mst w 0 0 ((0 : Int32))))
 else
 (f_X10_wish_b37 x1 x2 x3 (mst w 0 0 ((0 : Int32)))))))
set_option maxHeartbeats 4000000 in
set_option maxRecDepth 100000 in
theorem t_X10_wish (l : Launch) (G : Gm) (w0 : MW) (x1 : Int32) (x2 : Int32) (x3 : Int32) (r : Int32) (w' : MW) (hf : f_X10_wish x1 x2 x3 w0 = some (r, w')) : MetI l yX10_wish cX10_wish 4 (some .int) 5 114 G (mw G w0) [.ref (gq G 0), .int x1, .int x2, .int x3] r (fun _ => mw G (w')) 0 := by
  intro sz
  refine ent (own := RX10) (As := [.ref (gq G 0), .int x1, .int x2, .int x3]) (by decide +kernel) rfl (Nat.le_of_ble_eq_true rfl) (fun _ _ h => h.1) ?_
  intro p e s m args below meth c ls B hr hlocks hv hl
  obtain ⟨-, hsz, hP, hKK, hD⟩ := hv
  subst hsz
  have X : CX RX10 cX10_wish 4 G p s m args c := ⟨B, hKK⟩
  obtain ⟨hx, hb, hml, hown, hts⟩ := id B
  have hA : ∀ q : Nat, s.heap.size ≤ q → va_A (mw G w0) s.heap.size q := fun q z => Or.inr z
  have h : CH G (mw G w0) (va_A (mw G w0) s.heap.size) s.heap s.heap [] := ⟨hP, hD.self, va_S.rf⟩
  have J93 : ∀ (x1 : Int32) (x2 : Int32) (x3 : Int32) (w : MW) (H : Heap) (locs : List Loc) (ls : Array Slot), f_X10_wish_b93 x1 x2 x3 w = some (r, w') → CH G (mw G w) (va_A (mw G w0) s.heap.size) s.heap H locs → lv_has ls 4 [(0, .ref (gq G 0)), (1, .int x1), (2, .int x2), (3, .int x3)] → W p l e { frames := 5, cells := 0, slots := 4096 * 0, locals := 114 } s m args below meth c H locs 0 (4096 * 0) (MQ below (QI G (mw G w0) s.heap.size r (fun _ => mw G (w'))) args s 0 (4096 * 0) (va_A (mw G w0) s.heap.size)) (F0 m 93 ls []) := by
    intro x1 x2 x3 w H locs ls hf h hl
    unfold f_X10_wish_b93 at hf
    refine lv_iload_n hx hb dX10_wish_93 rfl (lv_at hl 2 rfl) ?_
    refine lv_iconst (v := 4) hx hb dX10_wish_94 (by decide) ?_
    refine lv_icmp_ne (tgt := 107) hx hb dX10_wish_95 (by decide) (fun c1 => ?_) (fun c1 => ?_)
    · have hf := if_f c1 hf
      refine lv_aload_n hx hb dX10_wish_107 rfl (lv_at hl 0 rfl) ?_
      refine lv_iload_n hx hb dX10_wish_108 rfl (lv_at hl 1 rfl) ?_
      refine lv_iload_n hx hb dX10_wish_109 rfl (lv_at hl 2 rfl) ?_
      refine lv_iload_n hx hb dX10_wish_110 rfl (lv_at hl 3 rfl) ?_
      obtain ⟨y2, ey2, hf⟩ := bnd_some hf
      refine k_X10_wishOf X h hA ey2 k_X10_98 dX10_wish_111 hl.1 ⟨(Nat.le_of_ble_eq_true rfl), (Nat.le_of_ble_eq_true rfl)⟩ (Nat.le_of_ble_eq_true rfl) ⟨Nat.zero_le _, Nat.zero_le _⟩ (fun H locs h => ?_)
      exact e0_i (Wf := mw G) X.1 hr hlocks hf h dX10_wish_114
    · have hf := if_t c1 hf
      refine lv_aload_n hx hb dX10_wish_98 rfl (lv_at hl 0 rfl) ?_
      refine lv_iload_n hx hb dX10_wish_99 rfl (lv_at hl 1 rfl) ?_
      refine lv_iload_n hx hb dX10_wish_100 rfl (lv_at hl 3 rfl) ?_
      obtain ⟨y3, ey3, hf⟩ := bnd_some hf
      refine k_X10_wearOf X h hA ey3 k_X10_129 dX10_wish_101 hl.1 ⟨(Nat.le_of_ble_eq_true rfl), (Nat.le_of_ble_eq_true rfl)⟩ (Nat.le_of_ble_eq_true rfl) ⟨Nat.zero_le _, Nat.zero_le _⟩ (fun H locs h => ?_)
      refine lv_goto (tgt := 114) hx hb dX10_wish_104 (by decide) ?_
      exact e0_i (Wf := mw G) X.1 hr hlocks hf h dX10_wish_114
  have J56 : ∀ (x1 : Int32) (x2 : Int32) (x3 : Int32) (w : MW) (H : Heap) (locs : List Loc) (ls : Array Slot), f_X10_wish_b56 x1 x2 x3 w = some (r, w') → CH G (mw G w) (va_A (mw G w0) s.heap.size) s.heap H locs → lv_has ls 4 [(0, .ref (gq G 0)), (1, .int x1), (2, .int x2), (3, .int x3)] → W p l e { frames := 5, cells := 0, slots := 4096 * 0, locals := 114 } s m args below meth c H locs 0 (4096 * 0) (MQ below (QI G (mw G w0) s.heap.size r (fun _ => mw G (w'))) args s 0 (4096 * 0) (va_A (mw G w0) s.heap.size)) (F0 m 56 ls []) := by
    intro x1 x2 x3 w H locs ls hf h hl
    unfold f_X10_wish_b56 at hf
    refine lv_aload_n hx hb dX10_wish_56 rfl (lv_at hl 0 rfl) ?_
    refine lv_iload_n hx hb dX10_wish_57 rfl (lv_at hl 1 rfl) ?_
    obtain ⟨y4, ey4, hf⟩ := bnd_some hf
    refine k_X10_isThere X h ey4 k_X10_110 dX10_wish_58 hl.1 ⟨(Nat.le_of_ble_eq_true rfl), (Nat.le_of_ble_eq_true rfl)⟩ (Nat.le_of_ble_eq_true rfl) ⟨Nat.zero_le _, Nat.zero_le _⟩ ?_
    refine lv_if_ne (tgt := 70) hx hb dX10_wish_61 (by decide) (fun c5 => ?_) (fun c5 => ?_)
    · have hf := if_f c5 hf
      refine lv_iload_n hx hb dX10_wish_70 rfl (lv_at hl 2 rfl) ?_
      refine lv_iconst (v := 2) hx hb dX10_wish_71 (by decide) ?_
      refine lv_icmp_le (tgt := 93) hx hb dX10_wish_72 (by decide) (fun c6 => ?_) (fun c6 => ?_)
      · have hf := if_t c6 hf
        exact J93 _ _ _ _ _ _ _ hf h (lv_sub hl [0, 1, 2, 3] rfl)
      · have hf := if_f c6 hf
        refine lv_aload_n hx hb dX10_wish_75 rfl (lv_at hl 0 rfl) ?_
        refine lv_iload_n hx hb dX10_wish_76 rfl (lv_at hl 1 rfl) ?_
        obtain ⟨y7, ey7, hf⟩ := bnd_some hf
        refine k_X10_kindOf X h ey7 k_X10_79 dX10_wish_77 hl.1 ⟨(Nat.le_of_ble_eq_true rfl), (Nat.le_of_ble_eq_true rfl)⟩ (Nat.le_of_ble_eq_true rfl) ⟨Nat.zero_le _, Nat.zero_le _⟩ ?_
        refine lv_iconst (v := 1) hx hb dX10_wish_80 (by decide) ?_
        obtain ⟨y8, ey8, hf⟩ := bnd_some hf
        refine k_X10_hasFace X.1 ey8 k_X10_102 dX10_wish_81 hl.1 ⟨(Nat.le_of_ble_eq_true rfl), (Nat.le_of_ble_eq_true rfl)⟩ (Nat.le_of_ble_eq_true rfl) ⟨Nat.zero_le _, Nat.zero_le _⟩ ?_
        refine lv_if_ne (tgt := 93) hx hb dX10_wish_84 (by decide) (fun c9 => ?_) (fun c9 => ?_)
        · have hf := if_f c9 hf
          exact J93 _ _ _ _ _ _ _ hf h (lv_sub hl [0, 1, 2, 3] rfl)
        · have hf := if_t c9 hf
          refine lv_aload_n hx hb dX10_wish_87 rfl (lv_at hl 0 rfl) ?_
          refine lv_iconst (v := 5) hx hb dX10_wish_88 (by decide) ?_
          obtain ⟨y10, ey10, hf⟩ := bnd_some hf
          refine k_X10_found X h hA ey10 k_X10_117 dX10_wish_89 hl.1 ⟨(Nat.le_of_ble_eq_true rfl), (Nat.le_of_ble_eq_true rfl)⟩ (Nat.le_of_ble_eq_true rfl) ⟨Nat.zero_le _, Nat.zero_le _⟩ (fun H locs h => ?_)
          exact e0_i (Wf := mw G) X.1 hr hlocks hf h dX10_wish_92
    · have hf := if_t c5 hf
      refine lv_aload_n hx hb dX10_wish_64 rfl (lv_at hl 0 rfl) ?_
      refine lv_iconst (v := 1) hx hb dX10_wish_65 (by decide) ?_
      obtain ⟨y11, ey11, hf⟩ := bnd_some hf
      refine k_X10_found X h hA ey11 k_X10_117 dX10_wish_66 hl.1 ⟨(Nat.le_of_ble_eq_true rfl), (Nat.le_of_ble_eq_true rfl)⟩ (Nat.le_of_ble_eq_true rfl) ⟨Nat.zero_le _, Nat.zero_le _⟩ (fun H locs h => ?_)
      exact e0_i (Wf := mw G) X.1 hr hlocks hf h dX10_wish_69
  have J37 : ∀ (x1 : Int32) (x2 : Int32) (x3 : Int32) (w : MW) (H : Heap) (locs : List Loc) (ls : Array Slot), f_X10_wish_b37 x1 x2 x3 w = some (r, w') → CH G (mw G w) (va_A (mw G w0) s.heap.size) s.heap H locs → lv_has ls 4 [(0, .ref (gq G 0)), (1, .int x1), (2, .int x2), (3, .int x3)] → W p l e { frames := 5, cells := 0, slots := 4096 * 0, locals := 114 } s m args below meth c H locs 0 (4096 * 0) (MQ below (QI G (mw G w0) s.heap.size r (fun _ => mw G (w'))) args s 0 (4096 * 0) (va_A (mw G w0) s.heap.size)) (F0 m 37 ls []) := by
    intro x1 x2 x3 w H locs ls hf h hl
    unfold f_X10_wish_b37 at hf
    refine lv_iload_n hx hb dX10_wish_37 rfl (lv_at hl 2 rfl) ?_
    refine lv_iconst (v := 4) hx hb dX10_wish_38 (by decide) ?_
    refine lv_icmp_ne (tgt := 56) hx hb dX10_wish_39 (by decide) (fun c12 => ?_) (fun c12 => ?_)
    · have hf := if_f c12 hf
      exact J56 _ _ _ _ _ _ _ hf h (lv_sub hl [0, 1, 2, 3] rfl)
    · have hf := if_t c12 hf
      refine lv_iload_n hx hb dX10_wish_42 rfl (lv_at hl 3 rfl) ?_
      refine lv_iconst (v := 0) hx hb dX10_wish_43 (by decide) ?_
      refine lv_sipush (v := 1000) hx hb dX10_wish_44 (by decide) ?_
      obtain ⟨y13, ey13, hf⟩ := bnd_some hf
      refine k_X10_in X.1 ey13 k_X10_71 dX10_wish_47 hl.1 ⟨(Nat.le_of_ble_eq_true rfl), (Nat.le_of_ble_eq_true rfl)⟩ (Nat.le_of_ble_eq_true rfl) ⟨Nat.zero_le _, Nat.zero_le _⟩ ?_
      refine lv_if_ne (tgt := 56) hx hb dX10_wish_50 (by decide) (fun c14 => ?_) (fun c14 => ?_)
      · have hf := if_f c14 hf
        exact J56 _ _ _ _ _ _ _ hf h (lv_sub hl [0, 1, 2, 3] rfl)
      · have hf := if_t c14 hf
        refine lv_bipush (v := (-2)) hx hb dX10_wish_53 (by decide) ?_
        exact e0_i (Wf := mw G) X.1 hr hlocks hf h dX10_wish_55
  obtain ⟨w, rfl⟩ : ∃ z, z = w0 := ⟨_, rfl⟩
  have hl : lv_has ls 4 [(0, .ref (gq G 0)), (1, .int x1), (2, .int x2), (3, .int x3)] := hl
  unfold f_X10_wish at hf
  refine lv_aload_n hx hb dX10_wish_0 rfl (lv_at hl 0 rfl) ?_
  refine lv_iconst (v := 0) hx hb dX10_wish_1 (by decide) ?_
  refine PM_0_0 X h k_X10_53 dX10_wish_2 (fun H locs h => ?_)
  refine lv_iload_n hx hb dX10_wish_5 rfl (lv_at hl 1 rfl) ?_
  obtain ⟨y15, ey15, hf⟩ := bnd_some hf
  refine k_X10_isPlace X.1 ey15 k_X10_106 dX10_wish_6 hl.1 ⟨(Nat.le_of_ble_eq_true rfl), (Nat.le_of_ble_eq_true rfl)⟩ (Nat.le_of_ble_eq_true rfl) ⟨Nat.zero_le _, Nat.zero_le _⟩ ?_
  refine lv_if_ne (tgt := 14) hx hb dX10_wish_9 (by decide) (fun c16 => ?_) (fun c16 => ?_)
  · have hf := if_f c16 hf
    refine lv_iload_n hx hb dX10_wish_14 rfl (lv_at hl 2 rfl) ?_
    refine lv_iconst (v := 0) hx hb dX10_wish_15 (by decide) ?_
    refine lv_iconst (v := 4) hx hb dX10_wish_16 (by decide) ?_
    obtain ⟨y17, ey17, hf⟩ := bnd_some hf
    refine k_X10_in X.1 ey17 k_X10_71 dX10_wish_17 hl.1 ⟨(Nat.le_of_ble_eq_true rfl), (Nat.le_of_ble_eq_true rfl)⟩ (Nat.le_of_ble_eq_true rfl) ⟨Nat.zero_le _, Nat.zero_le _⟩ ?_
    refine lv_if_eq (tgt := 53) hx hb dX10_wish_20 (by decide) (fun c18 => ?_) (fun c18 => ?_)
    · have hf := if_t c18 hf
      refine lv_bipush (v := (-2)) hx hb dX10_wish_53 (by decide) ?_
      exact e0_i (Wf := mw G) X.1 hr hlocks hf h dX10_wish_55
    · have hf := if_f c18 hf
      refine lv_iload_n hx hb dX10_wish_23 rfl (lv_at hl 2 rfl) ?_
      refine lv_iconst (v := 3) hx hb dX10_wish_24 (by decide) ?_
      refine lv_icmp_ge (tgt := 37) hx hb dX10_wish_25 (by decide) (fun c19 => ?_) (fun c19 => ?_)
      · have hf := if_t c19 hf
        exact J37 _ _ _ _ _ _ _ hf h (lv_sub hl [0, 1, 2, 3] rfl)
      · have hf := if_f c19 hf
        refine lv_iload_n hx hb dX10_wish_28 rfl (lv_at hl 3 rfl) ?_
        refine lv_iconst (v := 0) hx hb dX10_wish_29 (by decide) ?_
        refine lv_iconst (v := 4) hx hb dX10_wish_30 (by decide) ?_
        obtain ⟨y20, ey20, hf⟩ := bnd_some hf
        refine k_X10_in X.1 ey20 k_X10_71 dX10_wish_31 hl.1 ⟨(Nat.le_of_ble_eq_true rfl), (Nat.le_of_ble_eq_true rfl)⟩ (Nat.le_of_ble_eq_true rfl) ⟨Nat.zero_le _, Nat.zero_le _⟩ ?_
        refine lv_if_eq (tgt := 53) hx hb dX10_wish_34 (by decide) (fun c21 => ?_) (fun c21 => ?_)
        · have hf := if_t c21 hf
          refine lv_bipush (v := (-2)) hx hb dX10_wish_53 (by decide) ?_
          exact e0_i (Wf := mw G) X.1 hr hlocks hf h dX10_wish_55
        · have hf := if_f c21 hf
          exact J37 _ _ _ _ _ _ _ hf h (lv_sub hl [0, 1, 2, 3] rfl)
  · have hf := if_t c16 hf
    refine lv_iconst (v := (-1)) hx hb dX10_wish_12 (by decide) ?_
    exact e0_i (Wf := mw G) X.1 hr hlocks hf h dX10_wish_13
theorem m_X10_wish : Cond.instanceMethod yX10_wish ∈ lw_good ∧ Cond.selects RX10 yX10_wish yX10_wish ∈ lw_good ∧ Cond.initialized RX10 ∈ lw_good ∧ Cond.code yX10_wish cX10_wish 4 (some .int) ∈ lw_good := by decide +kernel
theorem k_X10_wish {p : Program} {l : Launch} {e : Env} {R : Room} {s : State} {m : MethodId} {args : Array Value} {below : List Frame} {meth : Method} {c : Code} {H : Heap} {locs : List Loc} {cells slots : Nat} {Q : State → Prop} {cc : ByteArray} {nL pc idx : Nat} {ls : Array Slot} {rest : List Value} {own : String} {G : Gm} {A : Nat → Prop} {H0 : Heap} {w : MW} {x1 : Int32} {x2 : Int32} {x3 : Int32} {y : Int32 × MW} (X : CX own cc nL G p s m args c) (h : CH G (mw G w) A H0 H locs) (hA : ∀ q, H0.size ≤ q → A q) (hf : f_X10_wish x1 x2 x3 w = some y) (hlk : Cond.methodLink own idx yX10_wish ∈ lw_good) (hd : decode cc pc = .ok (.invokevirtual idx, 3)) (hsz : ls.size = nL) (hR : 6 ≤ R.frames ∧ 137 ≤ R.locals) (hrest : (rest.map fun v => v.category).sum ≤ 8) (hk : cells ≤ R.cells ∧ slots ≤ R.slots) (k : ∀ (H : Heap) (locs : List Loc), CH G (mw G y.2) A H0 H locs → W p l e R s m args below meth c H locs cells slots Q (F0 m (pc + 3) ls (.int y.1 :: rest))) : W p l e R s m args below meth c H locs cells slots Q (F0 m pc ls (.int x3 :: .int x2 :: .int x1 :: .ref (gq G 0) :: rest)) :=
  fin_i (n := 0) (runV (As := [.int x1, .int x2, .int x3]) X.1 3 (t_X10_wish l G w x1 x2 x3 y.1 y.2 hf _) rfl rfl hlk m_X10_wish (by decide +kernel) ⟨hR.1, hR.2⟩ ⟨blindM, va_recv X.2.1 h.1 (ci := 9) (q0 := 0) rfl rfl, preM X.2 h⟩ rfl hsz hrest hd hk) h hA (fun _ H locs h => k H locs h)
def f_X10_trace (x1 : Int32) (w : MW) : Option (Int32 × MW) :=
 if x1 < 0 then
 (some ((-5 : Int32), mst w 0 0 ((0 : Int32))))
 else
 (if ((30 : Int32)) ≤ x1 then
 (some ((-5 : Int32), mst w 0 0 ((0 : Int32))))
 else
 (if ((mst w 0 0 ((0 : Int32))) 0 11) ≤ x1 then
 (some ((-5 : Int32), mst w 0 0 ((0 : Int32))))
 else
 (chk (inb (((((mst w 0 0 ((0 : Int32))) 0 11) - ((1 : Int32))) - x1) - ((((mst w 0 0 ((0 : Int32))) 0 11) - ((1 : Int32))) - x1) / ((30 : Int32)) * ((30 : Int32))) 30) (
 some ((mst w 0 0 ((0 : Int32))) 5 (((((mst w 0 0 ((0 : Int32))) 0 11) - ((1 : Int32))) - x1) - ((((mst w 0 0 ((0 : Int32))) 0 11) - ((1 : Int32))) - x1) / ((30 : Int32)) * ((30 : Int32))).toNatClampNeg, mst w 0 0 ((0 : Int32)))))))
set_option maxHeartbeats 4000000 in
set_option maxRecDepth 100000 in
theorem t_X10_trace (l : Launch) (G : Gm) (w0 : MW) (x1 : Int32) (r : Int32) (w' : MW) (hf : f_X10_trace x1 w0 = some (r, w')) : MetI l yX10_trace cX10_trace 2 (some .int) 0 0 G (mw G w0) [.ref (gq G 0), .int x1] r (fun _ => mw G (w')) 0 := by
  intro sz
  refine ent (own := RX10) (As := [.ref (gq G 0), .int x1]) (by decide +kernel) rfl (Nat.le_of_ble_eq_true rfl) (fun _ _ h => h.1) ?_
  intro p e s m args below meth c ls B hr hlocks hv hl
  obtain ⟨-, hsz, hP, hKK, hD⟩ := hv
  subst hsz
  have X : CX RX10 cX10_trace 2 G p s m args c := ⟨B, hKK⟩
  obtain ⟨hx, hb, hml, hown, hts⟩ := id B
  have hA : ∀ q : Nat, s.heap.size ≤ q → va_A (mw G w0) s.heap.size q := fun q z => Or.inr z
  have h : CH G (mw G w0) (va_A (mw G w0) s.heap.size) s.heap s.heap [] := ⟨hP, hD.self, va_S.rf⟩
  obtain ⟨w, rfl⟩ : ∃ z, z = w0 := ⟨_, rfl⟩
  have hl : lv_has ls 2 [(0, .ref (gq G 0)), (1, .int x1)] := hl
  unfold f_X10_trace at hf
  refine lv_aload_n hx hb dX10_trace_0 rfl (lv_at hl 0 rfl) ?_
  refine lv_iconst (v := 0) hx hb dX10_trace_1 (by decide) ?_
  refine PM_0_0 X h k_X10_53 dX10_trace_2 (fun H locs h => ?_)
  refine lv_iload_n hx hb dX10_trace_5 rfl (lv_at hl 1 rfl) ?_
  refine lv_if_lt (tgt := 42) hx hb dX10_trace_6 (by decide) (fun c1 => ?_) (fun c1 => ?_)
  · have hf := if_t c1 hf
    refine lv_bipush (v := (-5)) hx hb dX10_trace_42 (by decide) ?_
    exact e0_i (Wf := mw G) X.1 hr hlocks hf h dX10_trace_44
  · have hf := if_f c1 hf
    refine lv_iload_n hx hb dX10_trace_9 rfl (lv_at hl 1 rfl) ?_
    refine lv_bipush (v := 30) hx hb dX10_trace_10 (by decide) ?_
    refine lv_icmp_ge (tgt := 42) hx hb dX10_trace_12 (by decide) (fun c2 => ?_) (fun c2 => ?_)
    · have hf := if_t c2 hf
      refine lv_bipush (v := (-5)) hx hb dX10_trace_42 (by decide) ?_
      exact e0_i (Wf := mw G) X.1 hr hlocks hf h dX10_trace_44
    · have hf := if_f c2 hf
      refine lv_iload_n hx hb dX10_trace_15 rfl (lv_at hl 1 rfl) ?_
      refine lv_aload_n hx hb dX10_trace_16 rfl (lv_at hl 0 rfl) ?_
      refine GM_0_11 X h k_X10_83 dX10_trace_17 ?_
      refine lv_icmp_ge (tgt := 42) hx hb dX10_trace_20 (by decide) (fun c3 => ?_) (fun c3 => ?_)
      · have hf := if_t c3 hf
        refine lv_bipush (v := (-5)) hx hb dX10_trace_42 (by decide) ?_
        exact e0_i (Wf := mw G) X.1 hr hlocks hf h dX10_trace_44
      · have hf := if_f c3 hf
        refine lv_aload_n hx hb dX10_trace_23 rfl (lv_at hl 0 rfl) ?_
        refine GM_0_10 X h k_X10_23 dX10_trace_24 ?_
        refine lv_aload_n hx hb dX10_trace_27 rfl (lv_at hl 0 rfl) ?_
        refine GM_0_11 X h k_X10_83 dX10_trace_28 ?_
        refine lv_iconst (v := 1) hx hb dX10_trace_31 (by decide) ?_
        refine lv_isub hx hb dX10_trace_32 ?_
        refine lv_iload_n hx hb dX10_trace_33 rfl (lv_at hl 1 rfl) ?_
        refine lv_isub hx hb dX10_trace_34 ?_
        refine lv_bipush (v := 30) hx hb dX10_trace_35 (by decide) ?_
        refine lv_irem hx hb dX10_trace_37 (by decide) ?_
        obtain ⟨c4, hf⟩ := chk_some hf
        refine LM_5 X h c4 dX10_trace_38 ?_
        refine lv_goto (tgt := 44) hx hb dX10_trace_39 (by decide) ?_
        exact e0_i (Wf := mw G) X.1 hr hlocks hf h dX10_trace_44
theorem m_X10_trace : Cond.instanceMethod yX10_trace ∈ lw_good ∧ Cond.selects RX10 yX10_trace yX10_trace ∈ lw_good ∧ Cond.initialized RX10 ∈ lw_good ∧ Cond.code yX10_trace cX10_trace 2 (some .int) ∈ lw_good := by decide +kernel
theorem k_X10_trace {p : Program} {l : Launch} {e : Env} {R : Room} {s : State} {m : MethodId} {args : Array Value} {below : List Frame} {meth : Method} {c : Code} {H : Heap} {locs : List Loc} {cells slots : Nat} {Q : State → Prop} {cc : ByteArray} {nL pc idx : Nat} {ls : Array Slot} {rest : List Value} {own : String} {G : Gm} {A : Nat → Prop} {H0 : Heap} {w : MW} {x1 : Int32} {y : Int32 × MW} (X : CX own cc nL G p s m args c) (h : CH G (mw G w) A H0 H locs) (hA : ∀ q, H0.size ≤ q → A q) (hf : f_X10_trace x1 w = some y) (hlk : Cond.methodLink own idx yX10_trace ∈ lw_good) (hd : decode cc pc = .ok (.invokevirtual idx, 3)) (hsz : ls.size = nL) (hR : 1 ≤ R.frames ∧ 21 ≤ R.locals) (hrest : (rest.map fun v => v.category).sum ≤ 8) (hk : cells ≤ R.cells ∧ slots ≤ R.slots) (k : ∀ (H : Heap) (locs : List Loc), CH G (mw G y.2) A H0 H locs → W p l e R s m args below meth c H locs cells slots Q (F0 m (pc + 3) ls (.int y.1 :: rest))) : W p l e R s m args below meth c H locs cells slots Q (F0 m pc ls (.int x1 :: .ref (gq G 0) :: rest)) :=
  fin_i (n := 0) (runV (As := [.int x1]) X.1 1 (t_X10_trace l G w x1 y.1 y.2 hf _) rfl rfl hlk m_X10_trace (by decide +kernel) ⟨hR.1, hR.2⟩ ⟨blindM, va_recv X.2.1 h.1 (ci := 9) (q0 := 0) rfl rfl, preM X.2 h⟩ rfl hsz hrest hd hk) h hA (fun _ H locs h => k H locs h)
