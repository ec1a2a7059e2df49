def f_X10_touches (x1 : Int32) (x2 : Int32) (w : MW) : Option (Int32 × MW) :=
 (f_X10_isPlace x1).bind fun y1 =>
 if y1 = 0 then
 (some ((-1 : Int32), mst w 0 0 ((0 : Int32))))
 else
 ((f_X10_in x2 ((0 : Int32)) ((1 : Int32))).bind fun y3 =>
 if y3 = 0 then
 (some ((-2 : Int32), mst w 0 0 ((0 : Int32))))
 else
 (chk (inb x1 60) (
 some ((mst w 0 0 ((0 : Int32))) 6 x1.toNatClampNeg, mst w 0 0 ((0 : Int32))))))
set_option maxHeartbeats 4000000 in
set_option maxRecDepth 100000 in
theorem t_X10_touches (l : Launch) (G : Gm) (w0 : MW) (x1 : Int32) (x2 : Int32) (r : Int32) (w' : MW) (hf : f_X10_touches x1 x2 w0 = some (r, w')) : MetI l yX10_touches cX10_touches 3 (some .int) 2 42 G (mw G w0) [.ref (gq G 0), .int x1, .int x2] r (fun _ => mw G (w')) 0 := by
  intro sz
  refine ent (own := RX10) (As := [.ref (gq G 0), .int x1, .int x2]) (by decide +kernel) rfl (Nat.le_of_ble_eq_true rfl) (fun _ _ h => h.1) ?_
  intro p e s m args below meth c ls B hr hlocks hv hl
  obtain ⟨-, hsz, hP, hKK, hD⟩ := hv
  subst hsz
  have X : CX RX10 cX10_touches 3 G p s m args c := ⟨B, hKK⟩
  obtain ⟨hx, hb, hml, hown, hts⟩ := id B
  have hA : ∀ q : Nat, s.heap.size ≤ q → va_A (mw G w0) s.heap.size q := fun q z => Or.inr z
  have h : CH G (mw G w0) (va_A (mw G w0) s.heap.size) s.heap s.heap [] := ⟨hP, hD.self, va_S.rf⟩
  obtain ⟨w, rfl⟩ : ∃ z, z = w0 := ⟨_, rfl⟩
  have hl : lv_has ls 3 [(0, .ref (gq G 0)), (1, .int x1), (2, .int x2)] := hl
  unfold f_X10_touches at hf
  refine lv_aload_n hx hb dX10_touches_0 rfl (lv_at hl 0 rfl) ?_
  refine lv_iconst (v := 0) hx hb dX10_touches_1 (by decide) ?_
  refine PM_0_0 X h k_X10_53 dX10_touches_2 (fun H locs h => ?_)
  refine lv_iload_n hx hb dX10_touches_5 rfl (lv_at hl 1 rfl) ?_
  obtain ⟨y1, ey1, hf⟩ := bnd_some hf
  refine k_X10_isPlace X.1 ey1 k_X10_106 dX10_touches_6 hl.1 ⟨(Nat.le_of_ble_eq_true rfl), (Nat.le_of_ble_eq_true rfl)⟩ (Nat.le_of_ble_eq_true rfl) ⟨Nat.zero_le _, Nat.zero_le _⟩ ?_
  refine lv_if_ne (tgt := 16) hx hb dX10_touches_9 (by decide) (fun c2 => ?_) (fun c2 => ?_)
  · have hf := if_f c2 hf
    refine lv_iload_n hx hb dX10_touches_16 rfl (lv_at hl 2 rfl) ?_
    refine lv_iconst (v := 0) hx hb dX10_touches_17 (by decide) ?_
    refine lv_iconst (v := 1) hx hb dX10_touches_18 (by decide) ?_
    obtain ⟨y3, ey3, hf⟩ := bnd_some hf
    refine k_X10_in X.1 ey3 k_X10_71 dX10_touches_19 hl.1 ⟨(Nat.le_of_ble_eq_true rfl), (Nat.le_of_ble_eq_true rfl)⟩ (Nat.le_of_ble_eq_true rfl) ⟨Nat.zero_le _, Nat.zero_le _⟩ ?_
    refine lv_if_ne (tgt := 30) hx hb dX10_touches_22 (by decide) (fun c4 => ?_) (fun c4 => ?_)
    · have hf := if_f c4 hf
      refine lv_aload_n hx hb dX10_touches_30 rfl (lv_at hl 0 rfl) ?_
      refine GM_0_12 X h k_X10_26 dX10_touches_31 ?_
      refine lv_iload_n hx hb dX10_touches_34 rfl (lv_at hl 1 rfl) ?_
      obtain ⟨c5, hf⟩ := chk_some hf
      refine LM_6 X h c5 dX10_touches_35 ?_
      exact e0_i (Wf := mw G) X.1 hr hlocks hf h dX10_touches_36
    · have hf := if_t c4 hf
      refine lv_bipush (v := (-2)) hx hb dX10_touches_25 (by decide) ?_
      refine lv_goto (tgt := 36) hx hb dX10_touches_27 (by decide) ?_
      exact e0_i (Wf := mw G) X.1 hr hlocks hf h dX10_touches_36
  · have hf := if_t c2 hf
    refine lv_iconst (v := (-1)) hx hb dX10_touches_12 (by decide) ?_
    refine lv_goto (tgt := 36) hx hb dX10_touches_13 (by decide) ?_
    exact e0_i (Wf := mw G) X.1 hr hlocks hf h dX10_touches_36
theorem m_X10_touches : Cond.instanceMethod yX10_touches ∈ lw_good ∧ Cond.selects RX10 yX10_touches yX10_touches ∈ lw_good ∧ Cond.initialized RX10 ∈ lw_good ∧ Cond.code yX10_touches cX10_touches 3 (some .int) ∈ lw_good := by decide +kernel
theorem k_X10_touches {p : Program} {l : Launch} {e : Env} {R : Room} {s : State} {m : MethodId} {args : Array Value} {below : List Frame} {meth : Method} {c : Code} {H : Heap} {locs : List Loc} {cells slots : Nat} {Q : State → Prop} {cc : ByteArray} {nL pc idx : Nat} {ls : Array Slot} {rest : List Value} {own : String} {G : Gm} {A : Nat → Prop} {H0 : Heap} {w : MW} {x1 : Int32} {x2 : Int32} {y : Int32 × MW} (X : CX own cc nL G p s m args c) (h : CH G (mw G w) A H0 H locs) (hA : ∀ q, H0.size ≤ q → A q) (hf : f_X10_touches x1 x2 w = some y) (hlk : Cond.methodLink own idx yX10_touches ∈ lw_good) (hd : decode cc pc = .ok (.invokevirtual idx, 3)) (hsz : ls.size = nL) (hR : 3 ≤ R.frames ∧ 64 ≤ R.locals) (hrest : (rest.map fun v => v.category).sum ≤ 8) (hk : cells ≤ R.cells ∧ slots ≤ R.slots) (k : ∀ (H : Heap) (locs : List Loc), CH G (mw G y.2) A H0 H locs → W p l e R s m args below meth c H locs cells slots Q (F0 m (pc + 3) ls (.int y.1 :: rest))) : W p l e R s m args below meth c H locs cells slots Q (F0 m pc ls (.int x2 :: .int x1 :: .ref (gq G 0) :: rest)) :=
  fin_i (n := 0) (runV (As := [.int x1, .int x2]) X.1 2 (t_X10_touches l G w x1 x2 y.1 y.2 hf _) rfl rfl hlk m_X10_touches (by decide +kernel) ⟨hR.1, hR.2⟩ ⟨blindM, va_recv X.2.1 h.1 (ci := 9) (q0 := 0) rfl rfl, preM X.2 h⟩ rfl hsz hrest hd hk) h hA (fun _ H locs h => k H locs h)
def f_X10_isProgram (x0 : Int32) : Option Int32 :=
 (f_X10_in x0 ((0 : Int32)) ((39 : Int32))).bind fun y1 =>
 chk (y1 = 0 ∨ y1 = 1) (
 some y1)
set_option maxHeartbeats 4000000 in
set_option maxRecDepth 100000 in
theorem t_X10_isProgram (l : Launch) (x0 : Int32) (r : Int32) (hf : f_X10_isProgram x0 = some r) : MetP l yX10_isProgram cX10_isProgram 1 (some .boolean) 1 22 [.int x0] (.int r) := by
  refine ent (own := RX10) (As := [.int x0]) (by decide +kernel) rfl (Nat.le_of_ble_eq_true rfl) (fun _ _ h => h.1) ?_
  intro p e s m args below meth c ls B hr hlocks hv hl
  obtain ⟨hx, hb, hml, hown, hts⟩ := id B
  have hl : lv_has ls 1 [(0, .int x0)] := hl
  unfold f_X10_isProgram at hf
  refine lv_iload_n hx hb dX10_isProgram_0 rfl (lv_at hl 0 rfl) ?_
  refine lv_iconst (v := 0) hx hb dX10_isProgram_1 (by decide) ?_
  refine lv_bipush (v := 39) hx hb dX10_isProgram_2 (by decide) ?_
  obtain ⟨y1, ey1, hf⟩ := bnd_some hf
  refine k_X10_in B ey1 k_X10_71 dX10_isProgram_4 hl.1 ⟨(Nat.le_of_ble_eq_true rfl), (Nat.le_of_ble_eq_true rfl)⟩ (Nat.le_of_ble_eq_true rfl) ⟨Nat.zero_le _, Nat.zero_le _⟩ ?_
  obtain ⟨c2, hf⟩ := chk_some hf
  cases hf
  exact rr_z B hr hlocks c2 dX10_isProgram_7
theorem m_X10_isProgram : Cond.static yX10_isProgram ∈ lw_good ∧ Cond.initialized yX10_isProgram.cls ∈ lw_good ∧ Cond.code yX10_isProgram cX10_isProgram 1 (some .boolean) ∈ lw_good := by decide +kernel
theorem k_X10_isProgram {p : Program} {l : Launch} {e : Env} {R : Room} {s : State} {m : MethodId} {args : Array Value} {below : List Frame} {meth : Method} {c : Code} {H : Heap} {locs : List Loc} {cells slots : Nat} {Q : State → Prop} {cc : ByteArray} {nL pc idx : Nat} {ls : Array Slot} {rest : List Value} {own : String} {x0 : Int32} {r : Int32} (B : CB own cc nL p s m args c) (hf : f_X10_isProgram x0 = some r) (hlk : Cond.methodLink own idx yX10_isProgram ∈ lw_good) (hd : decode cc pc = .ok (.invokestatic idx, 3)) (hsz : ls.size = nL) (hR : 2 ≤ R.frames ∧ 42 ≤ R.locals) (hrest : (rest.map fun v => v.category).sum ≤ 8) (hk : cells ≤ R.cells ∧ slots ≤ R.slots) (k : W p l e R s m args below meth c H locs cells slots Q (F0 m (pc + 3) ls (.int r :: rest))) : W p l e R s m args below meth c H locs cells slots Q (F0 m pc ls (.int x0 :: rest)) :=
  fin_r (runS (As := [.int x0]) B 1 (t_X10_isProgram l x0 r hf) rfl rfl hlk m_X10_isProgram (by decide +kernel) ⟨hR.1, hR.2⟩ ⟨blindP, preP⟩ rfl hsz hrest hd hk) k
def f_X10_program_l60_body (kself : (Int32 → Int32 → Int32 → MW → Option (Int32 × MW))) (x2 : Int32) (x3 : Int32) (x4 : Int32) (w : MW) : Option (Int32 × MW) :=
 if x2 ≤ x4 then
 (some ((1 : Int32), w))
 else
 ((f_X10_w ((x3 + ((2 : Int32))) + x4) ((4 : Int32)) w).bind fun y2 =>
 (f_X10_w ((x3 + ((32 : Int32))) + x4) ((1 : Int32)) y2).bind fun y3 =>
 kself x2 x3 (x4 + (1 : Int32)) y3)
def f_X10_program_l60 : Nat → Int32 → Int32 → Int32 → MW → Option (Int32 × MW)
  | 0, _, _, _, _ => none
  | n + 1, x2, x3, x4, w => f_X10_program_l60_body (f_X10_program_l60 n) x2 x3 x4 w
def f_X10_program (x1 : Int32) (x2 : Int32) (w : MW) : Option (Int32 × MW) :=
 (f_X10_isProgram x1).bind fun y4 =>
 if y4 = 0 then
 (some ((-1 : Int32), mst w 0 0 ((0 : Int32))))
 else
 (if x2 ≤ ((30 : Int32)) then
 (if 0 ≤ x2 then
 ((f_X10_w (((6240 : Int32)) + (((62 : Int32)) * x1)) ((1 : Int32)) (mst w 0 0 ((0 : Int32)))).bind fun y8 =>
 (f_X10_w ((((6240 : Int32)) + (((62 : Int32)) * x1)) + ((1 : Int32))) x2 y8).bind fun y9 =>
 f_X10_program_l60 FU x2 (((6240 : Int32)) + (((62 : Int32)) * x1)) ((0 : Int32)) y9)
 else
 ((f_X10_found ((13 : Int32)) (mst w 0 0 ((0 : Int32)))).bind fun y10 =>
 some (y10.1, y10.2)))
 else
 (some ((-2 : Int32), mst w 0 0 ((0 : Int32)))))
set_option maxHeartbeats 4000000 in
set_option maxRecDepth 100000 in
theorem t_X10_program (l : Launch) (G : Gm) (w0 : MW) (x1 : Int32) (x2 : Int32) (r : Int32) (w' : MW) (hf : f_X10_program x1 x2 w0 = some (r, w')) : MetI l yX10_program cX10_program 5 (some .int) 2 42 G (mw G w0) [.ref (gq G 0), .int x1, .int x2] r (fun _ => mw G (w')) 0 := by
  intro sz
  refine ent (own := RX10) (As := [.ref (gq G 0), .int x1, .int x2]) (by decide +kernel) rfl (Nat.le_of_ble_eq_true rfl) (fun _ _ h => h.1) ?_
  intro p e s m args below meth c ls B hr hlocks hv hl
  obtain ⟨-, hsz, hP, hKK, hD⟩ := hv
  subst hsz
  have X : CX RX10 cX10_program 5 G p s m args c := ⟨B, hKK⟩
  obtain ⟨hx, hb, hml, hown, hts⟩ := id B
  have hA : ∀ q : Nat, s.heap.size ≤ q → va_A (mw G w0) s.heap.size q := fun q z => Or.inr z
  have h : CH G (mw G w0) (va_A (mw G w0) s.heap.size) s.heap s.heap [] := ⟨hP, hD.self, va_S.rf⟩
  have L60 : ∀ (n60 : Nat) (x2 : Int32) (x3 : Int32) (x4 : Int32) (w : MW) (H : Heap) (locs : List Loc) (ls : Array Slot), f_X10_program_l60 n60 x2 x3 x4 w = some (r, w') → CH G (mw G w) (va_A (mw G w0) s.heap.size) s.heap H locs → lv_has ls 5 [(0, .ref (gq G 0)), (2, .int x2), (3, .int x3), (4, .int x4)] → W p l e { frames := 2, cells := 0, slots := 4096 * 0, locals := 42 } s m args below meth c H locs 0 (4096 * 0) (MQ below (QI G (mw G w0) s.heap.size r (fun _ => mw G (w'))) args s 0 (4096 * 0) (va_A (mw G w0) s.heap.size)) (F0 m 60 ls []) := by
    intro n60
    induction n60 with
    | zero =>
      intro x2 x3 x4 w H locs ls hf h hl
      cases (show (none : Option (Int32 × MW)) = some _ from hf)
    | succ n60 ih60 =>
      intro x2 x3 x4 w H locs ls hf h hl
      have hf : f_X10_program_l60_body (f_X10_program_l60 n60) x2 x3 x4 w = _ := hf
      unfold f_X10_program_l60_body at hf
      refine lv_iload hx hb dX10_program_60 (lv_at hl 3 rfl) ?_
      refine lv_iload_n hx hb dX10_program_62 rfl (lv_at hl 1 rfl) ?_
      refine lv_icmp_ge (tgt := 95) hx hb dX10_program_63 (by decide) (fun c1 => ?_) (fun c1 => ?_)
      · have hf := if_t c1 hf
        refine lv_iconst (v := 1) hx hb dX10_program_95 (by decide) ?_
        exact e0_i (Wf := mw G) X.1 hr hlocks hf h dX10_program_96
      · have hf := if_f c1 hf
        refine lv_aload_n hx hb dX10_program_66 rfl (lv_at hl 0 rfl) ?_
        refine lv_iload_n hx hb dX10_program_67 rfl (lv_at hl 2 rfl) ?_
        refine lv_iconst (v := 2) hx hb dX10_program_68 (by decide) ?_
        refine lv_iadd hx hb dX10_program_69 ?_
        refine lv_iload hx hb dX10_program_70 (lv_at hl 3 rfl) ?_
        refine lv_iadd hx hb dX10_program_72 ?_
        refine lv_iconst (v := 4) hx hb dX10_program_73 (by decide) ?_
        obtain ⟨y2, ey2, hf⟩ := bnd_some hf
        refine k_X10_w X h hA ey2 k_X10_67 dX10_program_74 hl.1 ⟨(Nat.le_of_ble_eq_true rfl), (Nat.le_of_ble_eq_true rfl)⟩ (Nat.le_of_ble_eq_true rfl) ⟨Nat.zero_le _, Nat.zero_le _⟩ (fun H locs h => ?_)
        refine lv_aload_n hx hb dX10_program_77 rfl (lv_at hl 0 rfl) ?_
        refine lv_iload_n hx hb dX10_program_78 rfl (lv_at hl 2 rfl) ?_
        refine lv_bipush (v := 32) hx hb dX10_program_79 (by decide) ?_
        refine lv_iadd hx hb dX10_program_81 ?_
        refine lv_iload hx hb dX10_program_82 (lv_at hl 3 rfl) ?_
        refine lv_iadd hx hb dX10_program_84 ?_
        refine lv_iconst (v := 1) hx hb dX10_program_85 (by decide) ?_
        obtain ⟨y3, ey3, hf⟩ := bnd_some hf
        refine k_X10_w X h hA ey3 k_X10_67 dX10_program_86 hl.1 ⟨(Nat.le_of_ble_eq_true rfl), (Nat.le_of_ble_eq_true rfl)⟩ (Nat.le_of_ble_eq_true rfl) ⟨Nat.zero_le _, Nat.zero_le _⟩ (fun H locs h => ?_)
        refine lv_iinc (v := x4 + (1 : Int32)) (lv' := [(4, .int (x4 + (1 : Int32))), (0, .ref (gq G 0)), (2, .int x2), (3, .int x3)]) hx hb dX10_program_89 hl (k := 3) rfl (by rfl) (by decide) rfl (fun ls hl => ?_)
        refine lv_goto (tgt := 60) hx hb dX10_program_92 (by decide) ?_
        exact ih60 _ _ _ _ _ _ _ hf h (lv_sub hl [1, 2, 3, 0] rfl)
  obtain ⟨w, rfl⟩ : ∃ z, z = w0 := ⟨_, rfl⟩
  have hl : lv_has ls 5 [(0, .ref (gq G 0)), (1, .int x1), (2, .int x2)] := hl
  unfold f_X10_program at hf
  refine lv_aload_n hx hb dX10_program_0 rfl (lv_at hl 0 rfl) ?_
  refine lv_iconst (v := 0) hx hb dX10_program_1 (by decide) ?_
  refine PM_0_0 X h k_X10_53 dX10_program_2 (fun H locs h => ?_)
  refine lv_iload_n hx hb dX10_program_5 rfl (lv_at hl 1 rfl) ?_
  obtain ⟨y4, ey4, hf⟩ := bnd_some hf
  refine k_X10_isProgram X.1 ey4 k_X10_132 dX10_program_6 hl.1 ⟨(Nat.le_of_ble_eq_true rfl), (Nat.le_of_ble_eq_true rfl)⟩ (Nat.le_of_ble_eq_true rfl) ⟨Nat.zero_le _, Nat.zero_le _⟩ ?_
  refine lv_if_ne (tgt := 14) hx hb dX10_program_9 (by decide) (fun c5 => ?_) (fun c5 => ?_)
  · have hf := if_f c5 hf
    refine lv_iload_n hx hb dX10_program_14 rfl (lv_at hl 2 rfl) ?_
    refine lv_bipush (v := 30) hx hb dX10_program_15 (by decide) ?_
    refine lv_icmp_le (tgt := 23) hx hb dX10_program_17 (by decide) (fun c6 => ?_) (fun c6 => ?_)
    · have hf := if_t c6 hf
      refine lv_iload_n hx hb dX10_program_23 rfl (lv_at hl 2 rfl) ?_
      refine lv_if_ge (tgt := 34) hx hb dX10_program_24 (by decide) (fun c7 => ?_) (fun c7 => ?_)
      · have hf := if_t c7 hf
        refine lv_sipush (v := 6240) hx hb dX10_program_34 (by decide) ?_
        refine lv_bipush (v := 62) hx hb dX10_program_37 (by decide) ?_
        refine lv_iload_n hx hb dX10_program_39 rfl (lv_at hl 1 rfl) ?_
        refine lv_imul hx hb dX10_program_40 ?_
        refine lv_iadd hx hb dX10_program_41 ?_
        refine lv_istore_n (lv' := [(3, .int (((6240 : Int32)) + (((62 : Int32)) * x1))), (0, .ref (gq G 0)), (1, .int x1), (2, .int x2)]) hx hb dX10_program_42 rfl hl (by decide) rfl (fun ls hl => ?_)
        refine lv_aload_n hx hb dX10_program_43 rfl (lv_at hl 1 rfl) ?_
        refine lv_iload_n hx hb dX10_program_44 rfl (lv_at hl 0 rfl) ?_
        refine lv_iconst (v := 1) hx hb dX10_program_45 (by decide) ?_
        obtain ⟨y8, ey8, hf⟩ := bnd_some hf
        refine k_X10_w X h hA ey8 k_X10_67 dX10_program_46 hl.1 ⟨(Nat.le_of_ble_eq_true rfl), (Nat.le_of_ble_eq_true rfl)⟩ (Nat.le_of_ble_eq_true rfl) ⟨Nat.zero_le _, Nat.zero_le _⟩ (fun H locs h => ?_)
        refine lv_aload_n hx hb dX10_program_49 rfl (lv_at hl 1 rfl) ?_
        refine lv_iload_n hx hb dX10_program_50 rfl (lv_at hl 0 rfl) ?_
        refine lv_iconst (v := 1) hx hb dX10_program_51 (by decide) ?_
        refine lv_iadd hx hb dX10_program_52 ?_
        refine lv_iload_n hx hb dX10_program_53 rfl (lv_at hl 3 rfl) ?_
        obtain ⟨y9, ey9, hf⟩ := bnd_some hf
        refine k_X10_w X h hA ey9 k_X10_67 dX10_program_54 hl.1 ⟨(Nat.le_of_ble_eq_true rfl), (Nat.le_of_ble_eq_true rfl)⟩ (Nat.le_of_ble_eq_true rfl) ⟨Nat.zero_le _, Nat.zero_le _⟩ (fun H locs h => ?_)
        refine lv_iconst (v := 0) hx hb dX10_program_57 (by decide) ?_
        refine lv_istore (lv' := [(4, .int ((0 : Int32))), (3, .int (((6240 : Int32)) + (((62 : Int32)) * x1))), (0, .ref (gq G 0)), (1, .int x1), (2, .int x2)]) hx hb dX10_program_58 hl (by decide) rfl (fun ls hl => ?_)
        exact L60 FU _ _ _ _ _ _ _ hf h (lv_sub hl [2, 4, 1, 0] rfl)
      · have hf := if_f c7 hf
        refine lv_aload_n hx hb dX10_program_27 rfl (lv_at hl 0 rfl) ?_
        refine lv_bipush (v := 13) hx hb dX10_program_28 (by decide) ?_
        obtain ⟨y10, ey10, hf⟩ := bnd_some hf
        refine k_X10_found X h hA ey10 k_X10_117 dX10_program_30 hl.1 ⟨(Nat.le_of_ble_eq_true rfl), (Nat.le_of_ble_eq_true rfl)⟩ (Nat.le_of_ble_eq_true rfl) ⟨Nat.zero_le _, Nat.zero_le _⟩ (fun H locs h => ?_)
        exact e0_i (Wf := mw G) X.1 hr hlocks hf h dX10_program_33
    · have hf := if_f c6 hf
      refine lv_bipush (v := (-2)) hx hb dX10_program_20 (by decide) ?_
      exact e0_i (Wf := mw G) X.1 hr hlocks hf h dX10_program_22
  · have hf := if_t c5 hf
    refine lv_iconst (v := (-1)) hx hb dX10_program_12 (by decide) ?_
    exact e0_i (Wf := mw G) X.1 hr hlocks hf h dX10_program_13
theorem m_X10_program : Cond.instanceMethod yX10_program ∈ lw_good ∧ Cond.selects RX10 yX10_program yX10_program ∈ lw_good ∧ Cond.initialized RX10 ∈ lw_good ∧ Cond.code yX10_program cX10_program 5 (some .int) ∈ lw_good := by decide +kernel
theorem k_X10_program {p : Program} {l : Launch} {e : Env} {R : Room} {s : State} {m : MethodId} {args : Array Value} {below : List Frame} {meth : Method} {c : Code} {H : Heap} {locs : List Loc} {cells slots : Nat} {Q : State → Prop} {cc : ByteArray} {nL pc idx : Nat} {ls : Array Slot} {rest : List Value} {own : String} {G : Gm} {A : Nat → Prop} {H0 : Heap} {w : MW} {x1 : Int32} {x2 : Int32} {y : Int32 × MW} (X : CX own cc nL G p s m args c) (h : CH G (mw G w) A H0 H locs) (hA : ∀ q, H0.size ≤ q → A q) (hf : f_X10_program x1 x2 w = some y) (hlk : Cond.methodLink own idx yX10_program ∈ lw_good) (hd : decode cc pc = .ok (.invokevirtual idx, 3)) (hsz : ls.size = nL) (hR : 3 ≤ R.frames ∧ 66 ≤ R.locals) (hrest : (rest.map fun v => v.category).sum ≤ 8) (hk : cells ≤ R.cells ∧ slots ≤ R.slots) (k : ∀ (H : Heap) (locs : List Loc), CH G (mw G y.2) A H0 H locs → W p l e R s m args below meth c H locs cells slots Q (F0 m (pc + 3) ls (.int y.1 :: rest))) : W p l e R s m args below meth c H locs cells slots Q (F0 m pc ls (.int x2 :: .int x1 :: .ref (gq G 0) :: rest)) :=
  fin_i (n := 0) (runV (As := [.int x1, .int x2]) X.1 2 (t_X10_program l G w x1 x2 y.1 y.2 hf _) rfl rfl hlk m_X10_program (by decide +kernel) ⟨hR.1, hR.2⟩ ⟨blindM, va_recv X.2.1 h.1 (ci := 9) (q0 := 0) rfl rfl, preM X.2 h⟩ rfl hsz hrest hd hk) h hA (fun _ H locs h => k H locs h)
def f_X10_takeOut (x1 : Int32) (w : MW) : Option (Int32 × MW) :=
 (f_X10_isProgram x1).bind fun y1 =>
 if y1 = 0 then
 (some ((-1 : Int32), mst w 0 0 ((0 : Int32))))
 else
 (chk (inb (((6240 : Int32)) + (((62 : Int32)) * x1)) 11360) (
 (some ((mst w 0 0 ((0 : Int32))) 1 (((6240 : Int32)) + (((62 : Int32)) * x1)).toNatClampNeg)).bind fun z4 =>
 (f_X10_w (((6240 : Int32)) + (((62 : Int32)) * x1)) ((0 : Int32)) (mst w 0 0 ((0 : Int32)))).bind fun y5 =>
 some (z4, y5)))
set_option maxHeartbeats 4000000 in
set_option maxRecDepth 100000 in
theorem t_X10_takeOut (l : Launch) (G : Gm) (w0 : MW) (x1 : Int32) (r : Int32) (w' : MW) (hf : f_X10_takeOut x1 w0 = some (r, w')) : MetI l yX10_takeOut cX10_takeOut 3 (some .int) 2 42 G (mw G w0) [.ref (gq G 0), .int x1] r (fun _ => mw G (w')) 0 := by
  intro sz
  refine ent (own := RX10) (As := [.ref (gq G 0), .int x1]) (by decide +kernel) rfl (Nat.le_of_ble_eq_true rfl) (fun _ _ h => h.1) ?_
  intro p e s m args below meth c ls B hr hlocks hv hl
  obtain ⟨-, hsz, hP, hKK, hD⟩ := hv
  subst hsz
  have X : CX RX10 cX10_takeOut 3 G p s m args c := ⟨B, hKK⟩
  obtain ⟨hx, hb, hml, hown, hts⟩ := id B
  have hA : ∀ q : Nat, s.heap.size ≤ q → va_A (mw G w0) s.heap.size q := fun q z => Or.inr z
  have h : CH G (mw G w0) (va_A (mw G w0) s.heap.size) s.heap s.heap [] := ⟨hP, hD.self, va_S.rf⟩
  obtain ⟨w, rfl⟩ : ∃ z, z = w0 := ⟨_, rfl⟩
  have hl : lv_has ls 3 [(0, .ref (gq G 0)), (1, .int x1)] := hl
  unfold f_X10_takeOut at hf
  refine lv_aload_n hx hb dX10_takeOut_0 rfl (lv_at hl 0 rfl) ?_
  refine lv_iconst (v := 0) hx hb dX10_takeOut_1 (by decide) ?_
  refine PM_0_0 X h k_X10_53 dX10_takeOut_2 (fun H locs h => ?_)
  refine lv_iload_n hx hb dX10_takeOut_5 rfl (lv_at hl 1 rfl) ?_
  obtain ⟨y1, ey1, hf⟩ := bnd_some hf
  refine k_X10_isProgram X.1 ey1 k_X10_132 dX10_takeOut_6 hl.1 ⟨(Nat.le_of_ble_eq_true rfl), (Nat.le_of_ble_eq_true rfl)⟩ (Nat.le_of_ble_eq_true rfl) ⟨Nat.zero_le _, Nat.zero_le _⟩ ?_
  refine lv_if_ne (tgt := 14) hx hb dX10_takeOut_9 (by decide) (fun c2 => ?_) (fun c2 => ?_)
  · have hf := if_f c2 hf
    refine lv_aload_n hx hb dX10_takeOut_14 rfl (lv_at hl 0 rfl) ?_
    refine GM_0_1 X h k_X10_7 dX10_takeOut_15 ?_
    refine lv_sipush (v := 6240) hx hb dX10_takeOut_18 (by decide) ?_
    refine lv_bipush (v := 62) hx hb dX10_takeOut_21 (by decide) ?_
    refine lv_iload_n hx hb dX10_takeOut_23 rfl (lv_at hl 1 rfl) ?_
    refine lv_imul hx hb dX10_takeOut_24 ?_
    refine lv_iadd hx hb dX10_takeOut_25 ?_
    obtain ⟨c3, hf⟩ := chk_some hf
    refine LM_1 X h c3 dX10_takeOut_26 ?_
    obtain ⟨z4, ez4, hf⟩ := bnd_some hf
    refine nm_i (Option.some.inj ez4) ?_
    refine lv_istore_n (lv' := [(2, .int z4), (0, .ref (gq G 0)), (1, .int x1)]) hx hb dX10_takeOut_27 rfl hl (by decide) rfl (fun ls hl => ?_)
    refine lv_aload_n hx hb dX10_takeOut_28 rfl (lv_at hl 1 rfl) ?_
    refine lv_sipush (v := 6240) hx hb dX10_takeOut_29 (by decide) ?_
    refine lv_bipush (v := 62) hx hb dX10_takeOut_32 (by decide) ?_
    refine lv_iload_n hx hb dX10_takeOut_34 rfl (lv_at hl 2 rfl) ?_
    refine lv_imul hx hb dX10_takeOut_35 ?_
    refine lv_iadd hx hb dX10_takeOut_36 ?_
    refine lv_iconst (v := 0) hx hb dX10_takeOut_37 (by decide) ?_
    obtain ⟨y5, ey5, hf⟩ := bnd_some hf
    refine k_X10_w X h hA ey5 k_X10_67 dX10_takeOut_38 hl.1 ⟨(Nat.le_of_ble_eq_true rfl), (Nat.le_of_ble_eq_true rfl)⟩ (Nat.le_of_ble_eq_true rfl) ⟨Nat.zero_le _, Nat.zero_le _⟩ (fun H locs h => ?_)
    refine lv_iload_n hx hb dX10_takeOut_41 rfl (lv_at hl 0 rfl) ?_
    exact e0_i (Wf := mw G) X.1 hr hlocks hf h dX10_takeOut_42
  · have hf := if_t c2 hf
    refine lv_iconst (v := (-1)) hx hb dX10_takeOut_12 (by decide) ?_
    exact e0_i (Wf := mw G) X.1 hr hlocks hf h dX10_takeOut_13
theorem m_X10_takeOut : Cond.instanceMethod yX10_takeOut ∈ lw_good ∧ Cond.selects RX10 yX10_takeOut yX10_takeOut ∈ lw_good ∧ Cond.initialized RX10 ∈ lw_good ∧ Cond.code yX10_takeOut cX10_takeOut 3 (some .int) ∈ lw_good := by decide +kernel
theorem k_X10_takeOut {p : Program} {l : Launch} {e : Env} {R : Room} {s : State} {m : MethodId} {args : Array Value} {below : List Frame} {meth : Method} {c : Code} {H : Heap} {locs : List Loc} {cells slots : Nat} {Q : State → Prop} {cc : ByteArray} {nL pc idx : Nat} {ls : Array Slot} {rest : List Value} {own : String} {G : Gm} {A : Nat → Prop} {H0 : Heap} {w : MW} {x1 : Int32} {y : Int32 × MW} (X : CX own cc nL G p s m args c) (h : CH G (mw G w) A H0 H locs) (hA : ∀ q, H0.size ≤ q → A q) (hf : f_X10_takeOut x1 w = some y) (hlk : Cond.methodLink own idx yX10_takeOut ∈ lw_good) (hd : decode cc pc = .ok (.invokevirtual idx, 3)) (hsz : ls.size = nL) (hR : 3 ≤ R.frames ∧ 64 ≤ R.locals) (hrest : (rest.map fun v => v.category).sum ≤ 8) (hk : cells ≤ R.cells ∧ slots ≤ R.slots) (k : ∀ (H : Heap) (locs : List Loc), CH G (mw G y.2) A H0 H locs → W p l e R s m args below meth c H locs cells slots Q (F0 m (pc + 3) ls (.int y.1 :: rest))) : W p l e R s m args below meth c H locs cells slots Q (F0 m pc ls (.int x1 :: .ref (gq G 0) :: rest)) :=
  fin_i (n := 0) (runV (As := [.int x1]) X.1 1 (t_X10_takeOut l G w x1 y.1 y.2 hf _) rfl rfl hlk m_X10_takeOut (by decide +kernel) ⟨hR.1, hR.2⟩ ⟨blindM, va_recv X.2.1 h.1 (ci := 9) (q0 := 0) rfl rfl, preM X.2 h⟩ rfl hsz hrest hd hk) h hA (fun _ H locs h => k H locs h)
def f_X10_step (x1 : Int32) (x2 : Int32) (x3 : Int32) (x4 : Int32) (w : MW) : Option (Int32 × MW) :=
 (f_X10_isProgram x1).bind fun y1 =>
 if y1 = 0 then
 (some ((-1 : Int32), mst w 0 0 ((0 : Int32))))
 else
 ((f_X10_in x3 ((0 : Int32)) ((4 : Int32))).bind fun y3 =>
 if y3 = 0 then
 (some ((-2 : Int32), mst w 0 0 ((0 : Int32))))
 else
 ((f_X10_in x4 ((1 : Int32)) ((200 : Int32))).bind fun y5 =>
 if y5 = 0 then
 (some ((-2 : Int32), mst w 0 0 ((0 : Int32))))
 else
 (chk (inb (((6240 : Int32)) + (((62 : Int32)) * x1)) 11360) (
 if ((mst w 0 0 ((0 : Int32))) 1 (((6240 : Int32)) + (((62 : Int32)) * x1)).toNatClampNeg) = 0 then
 ((f_X10_found ((3 : Int32)) (mst w 0 0 ((0 : Int32)))).bind fun y15 =>
 some (y15.1, y15.2))
 else
 (chk (inb ((((6240 : Int32)) + (((62 : Int32)) * x1)) + ((1 : Int32))) 11360) (
 (f_X10_in x2 ((0 : Int32)) (((mst w 0 0 ((0 : Int32))) 1 ((((6240 : Int32)) + (((62 : Int32)) * x1)) + ((1 : Int32))).toNatClampNeg) - ((1 : Int32)))).bind fun y10 =>
 if y10 = 0 then
 ((f_X10_found ((4 : Int32)) (mst w 0 0 ((0 : Int32)))).bind fun y14 =>
 some (y14.1, y14.2))
 else
 ((f_X10_w (((((6240 : Int32)) + (((62 : Int32)) * x1)) + ((2 : Int32))) + x2) x3 (mst w 0 0 ((0 : Int32)))).bind fun y12 =>
 (f_X10_w (((((6240 : Int32)) + (((62 : Int32)) * x1)) + ((32 : Int32))) + x2) x4 y12).bind fun y13 =>
 some ((1 : Int32), y13))))))))
set_option maxHeartbeats 4000000 in
set_option maxRecDepth 100000 in
theorem t_X10_step (l : Launch) (G : Gm) (w0 : MW) (x1 : Int32) (x2 : Int32) (x3 : Int32) (x4 : Int32) (r : Int32) (w' : MW) (hf : f_X10_step x1 x2 x3 x4 w0 = some (r, w')) : MetI l yX10_step cX10_step 6 (some .int) 2 42 G (mw G w0) [.ref (gq G 0), .int x1, .int x2, .int x3, .int x4] r (fun _ => mw G (w')) 0 := by
  intro sz
  refine ent (own := RX10) (As := [.ref (gq G 0), .int x1, .int x2, .int x3, .int x4]) (by decide +kernel) rfl (Nat.le_of_ble_eq_true rfl) (fun _ _ h => h.1) ?_
  intro p e s m args below meth c ls B hr hlocks hv hl
  obtain ⟨-, hsz, hP, hKK, hD⟩ := hv
  subst hsz
  have X : CX RX10 cX10_step 6 G p s m args c := ⟨B, hKK⟩
  obtain ⟨hx, hb, hml, hown, hts⟩ := id B
  have hA : ∀ q : Nat, s.heap.size ≤ q → va_A (mw G w0) s.heap.size q := fun q z => Or.inr z
  have h : CH G (mw G w0) (va_A (mw G w0) s.heap.size) s.heap s.heap [] := ⟨hP, hD.self, va_S.rf⟩
  obtain ⟨w, rfl⟩ : ∃ z, z = w0 := ⟨_, rfl⟩
  have hl : lv_has ls 6 [(0, .ref (gq G 0)), (1, .int x1), (2, .int x2), (3, .int x3), (4, .int x4)] := hl
  unfold f_X10_step at hf
  refine lv_aload_n hx hb dX10_step_0 rfl (lv_at hl 0 rfl) ?_
  refine lv_iconst (v := 0) hx hb dX10_step_1 (by decide) ?_
  refine PM_0_0 X h k_X10_53 dX10_step_2 (fun H locs h => ?_)
  refine lv_iload_n hx hb dX10_step_5 rfl (lv_at hl 1 rfl) ?_
  obtain ⟨y1, ey1, hf⟩ := bnd_some hf
  refine k_X10_isProgram X.1 ey1 k_X10_132 dX10_step_6 hl.1 ⟨(Nat.le_of_ble_eq_true rfl), (Nat.le_of_ble_eq_true rfl)⟩ (Nat.le_of_ble_eq_true rfl) ⟨Nat.zero_le _, Nat.zero_le _⟩ ?_
  refine lv_if_ne (tgt := 14) hx hb dX10_step_9 (by decide) (fun c2 => ?_) (fun c2 => ?_)
  · have hf := if_f c2 hf
    refine lv_iload_n hx hb dX10_step_14 rfl (lv_at hl 3 rfl) ?_
    refine lv_iconst (v := 0) hx hb dX10_step_15 (by decide) ?_
    refine lv_iconst (v := 4) hx hb dX10_step_16 (by decide) ?_
    obtain ⟨y3, ey3, hf⟩ := bnd_some hf
    refine k_X10_in X.1 ey3 k_X10_71 dX10_step_17 hl.1 ⟨(Nat.le_of_ble_eq_true rfl), (Nat.le_of_ble_eq_true rfl)⟩ (Nat.le_of_ble_eq_true rfl) ⟨Nat.zero_le _, Nat.zero_le _⟩ ?_
    refine lv_if_eq (tgt := 35) hx hb dX10_step_20 (by decide) (fun c4 => ?_) (fun c4 => ?_)
    · have hf := if_t c4 hf
      refine lv_bipush (v := (-2)) hx hb dX10_step_35 (by decide) ?_
      exact e0_i (Wf := mw G) X.1 hr hlocks hf h dX10_step_37
    · have hf := if_f c4 hf
      refine lv_iload hx hb dX10_step_23 (lv_at hl 4 rfl) ?_
      refine lv_iconst (v := 1) hx hb dX10_step_25 (by decide) ?_
      refine lv_sipush (v := 200) hx hb dX10_step_26 (by decide) ?_
      obtain ⟨y5, ey5, hf⟩ := bnd_some hf
      refine k_X10_in X.1 ey5 k_X10_71 dX10_step_29 hl.1 ⟨(Nat.le_of_ble_eq_true rfl), (Nat.le_of_ble_eq_true rfl)⟩ (Nat.le_of_ble_eq_true rfl) ⟨Nat.zero_le _, Nat.zero_le _⟩ ?_
      refine lv_if_ne (tgt := 38) hx hb dX10_step_32 (by decide) (fun c6 => ?_) (fun c6 => ?_)
      · have hf := if_f c6 hf
        refine lv_sipush (v := 6240) hx hb dX10_step_38 (by decide) ?_
        refine lv_bipush (v := 62) hx hb dX10_step_41 (by decide) ?_
        refine lv_iload_n hx hb dX10_step_43 rfl (lv_at hl 1 rfl) ?_
        refine lv_imul hx hb dX10_step_44 ?_
        refine lv_iadd hx hb dX10_step_45 ?_
        refine lv_istore (lv' := [(5, .int (((6240 : Int32)) + (((62 : Int32)) * x1))), (0, .ref (gq G 0)), (1, .int x1), (2, .int x2), (3, .int x3), (4, .int x4)]) hx hb dX10_step_46 hl (by decide) rfl (fun ls hl => ?_)
        refine lv_aload_n hx hb dX10_step_48 rfl (lv_at hl 1 rfl) ?_
        refine GM_0_1 X h k_X10_7 dX10_step_49 ?_
        refine lv_iload hx hb dX10_step_52 (lv_at hl 0 rfl) ?_
        obtain ⟨c7, hf⟩ := chk_some hf
        refine LM_1 X h c7 dX10_step_54 ?_
        refine lv_if_ne (tgt := 64) hx hb dX10_step_55 (by decide) (fun c8 => ?_) (fun c8 => ?_)
        · have hf := if_f c8 hf
          refine lv_iload_n hx hb dX10_step_64 rfl (lv_at hl 3 rfl) ?_
          refine lv_iconst (v := 0) hx hb dX10_step_65 (by decide) ?_
          refine lv_aload_n hx hb dX10_step_66 rfl (lv_at hl 1 rfl) ?_
          refine GM_0_1 X h k_X10_7 dX10_step_67 ?_
          refine lv_iload hx hb dX10_step_70 (lv_at hl 0 rfl) ?_
          refine lv_iconst (v := 1) hx hb dX10_step_72 (by decide) ?_
          refine lv_iadd hx hb dX10_step_73 ?_
          obtain ⟨c9, hf⟩ := chk_some hf
          refine LM_1 X h c9 dX10_step_74 ?_
          refine lv_iconst (v := 1) hx hb dX10_step_75 (by decide) ?_
          refine lv_isub hx hb dX10_step_76 ?_
          obtain ⟨y10, ey10, hf⟩ := bnd_some hf
          refine k_X10_in X.1 ey10 k_X10_71 dX10_step_77 hl.1 ⟨(Nat.le_of_ble_eq_true rfl), (Nat.le_of_ble_eq_true rfl)⟩ (Nat.le_of_ble_eq_true rfl) ⟨Nat.zero_le _, Nat.zero_le _⟩ ?_
          refine lv_if_ne (tgt := 89) hx hb dX10_step_80 (by decide) (fun c11 => ?_) (fun c11 => ?_)
          · have hf := if_f c11 hf
            refine lv_aload_n hx hb dX10_step_89 rfl (lv_at hl 1 rfl) ?_
            refine lv_iload hx hb dX10_step_90 (lv_at hl 0 rfl) ?_
            refine lv_iconst (v := 2) hx hb dX10_step_92 (by decide) ?_
            refine lv_iadd hx hb dX10_step_93 ?_
            refine lv_iload_n hx hb dX10_step_94 rfl (lv_at hl 3 rfl) ?_
            refine lv_iadd hx hb dX10_step_95 ?_
            refine lv_iload_n hx hb dX10_step_96 rfl (lv_at hl 4 rfl) ?_
            obtain ⟨y12, ey12, hf⟩ := bnd_some hf
            refine k_X10_w X h hA ey12 k_X10_67 dX10_step_97 hl.1 ⟨(Nat.le_of_ble_eq_true rfl), (Nat.le_of_ble_eq_true rfl)⟩ (Nat.le_of_ble_eq_true rfl) ⟨Nat.zero_le _, Nat.zero_le _⟩ (fun H locs h => ?_)
            refine lv_aload_n hx hb dX10_step_100 rfl (lv_at hl 1 rfl) ?_
            refine lv_iload hx hb dX10_step_101 (lv_at hl 0 rfl) ?_
            refine lv_bipush (v := 32) hx hb dX10_step_103 (by decide) ?_
            refine lv_iadd hx hb dX10_step_105 ?_
            refine lv_iload_n hx hb dX10_step_106 rfl (lv_at hl 3 rfl) ?_
            refine lv_iadd hx hb dX10_step_107 ?_
            refine lv_iload hx hb dX10_step_108 (lv_at hl 5 rfl) ?_
            obtain ⟨y13, ey13, hf⟩ := bnd_some hf
            refine k_X10_w X h hA ey13 k_X10_67 dX10_step_110 hl.1 ⟨(Nat.le_of_ble_eq_true rfl), (Nat.le_of_ble_eq_true rfl)⟩ (Nat.le_of_ble_eq_true rfl) ⟨Nat.zero_le _, Nat.zero_le _⟩ (fun H locs h => ?_)
            refine lv_iconst (v := 1) hx hb dX10_step_113 (by decide) ?_
            exact e0_i (Wf := mw G) X.1 hr hlocks hf h dX10_step_114
          · have hf := if_t c11 hf
            refine lv_aload_n hx hb dX10_step_83 rfl (lv_at hl 1 rfl) ?_
            refine lv_iconst (v := 4) hx hb dX10_step_84 (by decide) ?_
            obtain ⟨y14, ey14, hf⟩ := bnd_some hf
            refine k_X10_found X h hA ey14 k_X10_117 dX10_step_85 hl.1 ⟨(Nat.le_of_ble_eq_true rfl), (Nat.le_of_ble_eq_true rfl)⟩ (Nat.le_of_ble_eq_true rfl) ⟨Nat.zero_le _, Nat.zero_le _⟩ (fun H locs h => ?_)
            exact e0_i (Wf := mw G) X.1 hr hlocks hf h dX10_step_88
        · have hf := if_t c8 hf
          refine lv_aload_n hx hb dX10_step_58 rfl (lv_at hl 1 rfl) ?_
          refine lv_iconst (v := 3) hx hb dX10_step_59 (by decide) ?_
          obtain ⟨y15, ey15, hf⟩ := bnd_some hf
          refine k_X10_found X h hA ey15 k_X10_117 dX10_step_60 hl.1 ⟨(Nat.le_of_ble_eq_true rfl), (Nat.le_of_ble_eq_true rfl)⟩ (Nat.le_of_ble_eq_true rfl) ⟨Nat.zero_le _, Nat.zero_le _⟩ (fun H locs h => ?_)
          exact e0_i (Wf := mw G) X.1 hr hlocks hf h dX10_step_63
      · have hf := if_t c6 hf
        refine lv_bipush (v := (-2)) hx hb dX10_step_35 (by decide) ?_
        exact e0_i (Wf := mw G) X.1 hr hlocks hf h dX10_step_37
  · have hf := if_t c2 hf
    refine lv_iconst (v := (-1)) hx hb dX10_step_12 (by decide) ?_
    exact e0_i (Wf := mw G) X.1 hr hlocks hf h dX10_step_13
theorem m_X10_step : Cond.instanceMethod yX10_step ∈ lw_good ∧ Cond.selects RX10 yX10_step yX10_step ∈ lw_good ∧ Cond.initialized RX10 ∈ lw_good ∧ Cond.code yX10_step cX10_step 6 (some .int) ∈ lw_good := by decide +kernel
theorem k_X10_step {p : Program} {l : Launch} {e : Env} {R : Room} {s : State} {m : MethodId} {args : Array Value} {below : List Frame} {meth : Method} {c : Code} {H : Heap} {locs : List Loc} {cells slots : Nat} {Q : State → Prop} {cc : ByteArray} {nL pc idx : Nat} {ls : Array Slot} {rest : List Value} {own : String} {G : Gm} {A : Nat → Prop} {H0 : Heap} {w : MW} {x1 : Int32} {x2 : Int32} {x3 : Int32} {x4 : Int32} {y : Int32 × MW} (X : CX own cc nL G p s m args c) (h : CH G (mw G w) A H0 H locs) (hA : ∀ q, H0.size ≤ q → A q) (hf : f_X10_step x1 x2 x3 x4 w = some y) (hlk : Cond.methodLink own idx yX10_step ∈ lw_good) (hd : decode cc pc = .ok (.invokevirtual idx, 3)) (hsz : ls.size = nL) (hR : 3 ≤ R.frames ∧ 67 ≤ R.locals) (hrest : (rest.map fun v => v.category).sum ≤ 8) (hk : cells ≤ R.cells ∧ slots ≤ R.slots) (k : ∀ (H : Heap) (locs : List Loc), CH G (mw G y.2) A H0 H locs → W p l e R s m args below meth c H locs cells slots Q (F0 m (pc + 3) ls (.int y.1 :: rest))) : W p l e R s m args below meth c H locs cells slots Q (F0 m pc ls (.int x4 :: .int x3 :: .int x2 :: .int x1 :: .ref (gq G 0) :: rest)) :=
  fin_i (n := 0) (runV (As := [.int x1, .int x2, .int x3, .int x4]) X.1 4 (t_X10_step l G w x1 x2 x3 x4 y.1 y.2 hf _) rfl rfl hlk m_X10_step (by decide +kernel) ⟨hR.1, hR.2⟩ ⟨blindM, va_recv X.2.1 h.1 (ci := 9) (q0 := 0) rfl rfl, preM X.2 h⟩ rfl hsz hrest hd hk) h hA (fun _ H locs h => k H locs h)
def f_X10_minutes_l43_body (kself : (Int32 → Int32 → Int32 → MW → Option (Int32 × MW))) (x2 : Int32) (x3 : Int32) (x4 : Int32) (w : MW) : Option (Int32 × MW) :=
 chk (inb (x2 + ((1 : Int32))) 11360) (
 if (w 1 (x2 + ((1 : Int32))).toNatClampNeg) ≤ x4 then
 (some (x3, w))
 else
 (chk (inb ((x2 + ((32 : Int32))) + x4) 11360) (
 (some (x3 + (w 1 ((x2 + ((32 : Int32))) + x4).toNatClampNeg))).bind fun z4 =>
 kself x2 z4 (x4 + (1 : Int32)) w)))
def f_X10_minutes_l43 : Nat → Int32 → Int32 → Int32 → MW → Option (Int32 × MW)
  | 0, _, _, _, _ => none
  | n + 1, x2, x3, x4, w => f_X10_minutes_l43_body (f_X10_minutes_l43 n) x2 x3 x4 w
def f_X10_minutes (x1 : Int32) (w : MW) : Option (Int32 × MW) :=
 (f_X10_isProgram x1).bind fun y5 =>
 if y5 = 0 then
 (some ((-1 : Int32), mst w 0 0 ((0 : Int32))))
 else
 (chk (inb (((6240 : Int32)) + (((62 : Int32)) * x1)) 11360) (
 if ((mst w 0 0 ((0 : Int32))) 1 (((6240 : Int32)) + (((62 : Int32)) * x1)).toNatClampNeg) = 0 then
 ((f_X10_found ((3 : Int32)) (mst w 0 0 ((0 : Int32)))).bind fun y9 =>
 some (y9.1, y9.2))
 else
 (f_X10_minutes_l43 FU (((6240 : Int32)) + (((62 : Int32)) * x1)) ((0 : Int32)) ((0 : Int32)) (mst w 0 0 ((0 : Int32))))))
set_option maxHeartbeats 4000000 in
set_option maxRecDepth 100000 in
theorem t_X10_minutes (l : Launch) (G : Gm) (w0 : MW) (x1 : Int32) (r : Int32) (w' : MW) (hf : f_X10_minutes x1 w0 = some (r, w')) : MetI l yX10_minutes cX10_minutes 5 (some .int) 2 42 G (mw G w0) [.ref (gq G 0), .int x1] r (fun _ => mw G (w')) 0 := by
  intro sz
  refine ent (own := RX10) (As := [.ref (gq G 0), .int x1]) (by decide +kernel) rfl (Nat.le_of_ble_eq_true rfl) (fun _ _ h => h.1) ?_
  intro p e s m args below meth c ls B hr hlocks hv hl
  obtain ⟨-, hsz, hP, hKK, hD⟩ := hv
  subst hsz
  have X : CX RX10 cX10_minutes 5 G p s m args c := ⟨B, hKK⟩
  obtain ⟨hx, hb, hml, hown, hts⟩ := id B
  have hA : ∀ q : Nat, s.heap.size ≤ q → va_A (mw G w0) s.heap.size q := fun q z => Or.inr z
  have h : CH G (mw G w0) (va_A (mw G w0) s.heap.size) s.heap s.heap [] := ⟨hP, hD.self, va_S.rf⟩
  have L43 : ∀ (n43 : Nat) (x2 : Int32) (x3 : Int32) (x4 : Int32) (w : MW) (H : Heap) (locs : List Loc) (ls : Array Slot), f_X10_minutes_l43 n43 x2 x3 x4 w = some (r, w') → CH G (mw G w) (va_A (mw G w0) s.heap.size) s.heap H locs → lv_has ls 5 [(0, .ref (gq G 0)), (2, .int x2), (3, .int x3), (4, .int x4)] → W p l e { frames := 2, cells := 0, slots := 4096 * 0, locals := 42 } s m args below meth c H locs 0 (4096 * 0) (MQ below (QI G (mw G w0) s.heap.size r (fun _ => mw G (w'))) args s 0 (4096 * 0) (va_A (mw G w0) s.heap.size)) (F0 m 43 ls []) := by
    intro n43
    induction n43 with
    | zero =>
      intro x2 x3 x4 w H locs ls hf h hl
      cases (show (none : Option (Int32 × MW)) = some _ from hf)
    | succ n43 ih43 =>
      intro x2 x3 x4 w H locs ls hf h hl
      have hf : f_X10_minutes_l43_body (f_X10_minutes_l43 n43) x2 x3 x4 w = _ := hf
      unfold f_X10_minutes_l43_body at hf
      refine lv_iload hx hb dX10_minutes_43 (lv_at hl 3 rfl) ?_
      refine lv_aload_n hx hb dX10_minutes_45 rfl (lv_at hl 0 rfl) ?_
      refine GM_0_1 X h k_X10_7 dX10_minutes_46 ?_
      refine lv_iload_n hx hb dX10_minutes_49 rfl (lv_at hl 1 rfl) ?_
      refine lv_iconst (v := 1) hx hb dX10_minutes_50 (by decide) ?_
      refine lv_iadd hx hb dX10_minutes_51 ?_
      obtain ⟨c1, hf⟩ := chk_some hf
      refine LM_1 X h c1 dX10_minutes_52 ?_
      refine lv_icmp_ge (tgt := 77) hx hb dX10_minutes_53 (by decide) (fun c2 => ?_) (fun c2 => ?_)
      · have hf := if_t c2 hf
        refine lv_iload_n hx hb dX10_minutes_77 rfl (lv_at hl 2 rfl) ?_
        exact e0_i (Wf := mw G) X.1 hr hlocks hf h dX10_minutes_78
      · have hf := if_f c2 hf
        refine lv_iload_n hx hb dX10_minutes_56 rfl (lv_at hl 2 rfl) ?_
        refine lv_aload_n hx hb dX10_minutes_57 rfl (lv_at hl 0 rfl) ?_
        refine GM_0_1 X h k_X10_7 dX10_minutes_58 ?_
        refine lv_iload_n hx hb dX10_minutes_61 rfl (lv_at hl 1 rfl) ?_
        refine lv_bipush (v := 32) hx hb dX10_minutes_62 (by decide) ?_
        refine lv_iadd hx hb dX10_minutes_64 ?_
        refine lv_iload hx hb dX10_minutes_65 (lv_at hl 3 rfl) ?_
        refine lv_iadd hx hb dX10_minutes_67 ?_
        obtain ⟨c3, hf⟩ := chk_some hf
        refine LM_1 X h c3 dX10_minutes_68 ?_
        refine lv_iadd hx hb dX10_minutes_69 ?_
        obtain ⟨z4, ez4, hf⟩ := bnd_some hf
        refine nm_i (Option.some.inj ez4) ?_
        refine lv_istore_n (lv' := [(3, .int z4), (0, .ref (gq G 0)), (2, .int x2), (4, .int x4)]) hx hb dX10_minutes_70 rfl hl (by decide) rfl (fun ls hl => ?_)
        refine lv_iinc (v := x4 + (1 : Int32)) (lv' := [(4, .int (x4 + (1 : Int32))), (3, .int z4), (0, .ref (gq G 0)), (2, .int x2)]) hx hb dX10_minutes_71 hl (k := 3) rfl (by rfl) (by decide) rfl (fun ls hl => ?_)
        refine lv_goto (tgt := 43) hx hb dX10_minutes_74 (by decide) ?_
        exact ih43 _ _ _ _ _ _ _ hf h (lv_sub hl [2, 3, 1, 0] rfl)
  obtain ⟨w, rfl⟩ : ∃ z, z = w0 := ⟨_, rfl⟩
  have hl : lv_has ls 5 [(0, .ref (gq G 0)), (1, .int x1)] := hl
  unfold f_X10_minutes at hf
  refine lv_aload_n hx hb dX10_minutes_0 rfl (lv_at hl 0 rfl) ?_
  refine lv_iconst (v := 0) hx hb dX10_minutes_1 (by decide) ?_
  refine PM_0_0 X h k_X10_53 dX10_minutes_2 (fun H locs h => ?_)
  refine lv_iload_n hx hb dX10_minutes_5 rfl (lv_at hl 1 rfl) ?_
  obtain ⟨y5, ey5, hf⟩ := bnd_some hf
  refine k_X10_isProgram X.1 ey5 k_X10_132 dX10_minutes_6 hl.1 ⟨(Nat.le_of_ble_eq_true rfl), (Nat.le_of_ble_eq_true rfl)⟩ (Nat.le_of_ble_eq_true rfl) ⟨Nat.zero_le _, Nat.zero_le _⟩ ?_
  refine lv_if_ne (tgt := 14) hx hb dX10_minutes_9 (by decide) (fun c6 => ?_) (fun c6 => ?_)
  · have hf := if_f c6 hf
    refine lv_sipush (v := 6240) hx hb dX10_minutes_14 (by decide) ?_
    refine lv_bipush (v := 62) hx hb dX10_minutes_17 (by decide) ?_
    refine lv_iload_n hx hb dX10_minutes_19 rfl (lv_at hl 1 rfl) ?_
    refine lv_imul hx hb dX10_minutes_20 ?_
    refine lv_iadd hx hb dX10_minutes_21 ?_
    refine lv_istore_n (lv' := [(2, .int (((6240 : Int32)) + (((62 : Int32)) * x1))), (0, .ref (gq G 0)), (1, .int x1)]) hx hb dX10_minutes_22 rfl hl (by decide) rfl (fun ls hl => ?_)
    refine lv_aload_n hx hb dX10_minutes_23 rfl (lv_at hl 1 rfl) ?_
    refine GM_0_1 X h k_X10_7 dX10_minutes_24 ?_
    refine lv_iload_n hx hb dX10_minutes_27 rfl (lv_at hl 0 rfl) ?_
    obtain ⟨c7, hf⟩ := chk_some hf
    refine LM_1 X h c7 dX10_minutes_28 ?_
    refine lv_if_ne (tgt := 38) hx hb dX10_minutes_29 (by decide) (fun c8 => ?_) (fun c8 => ?_)
    · have hf := if_f c8 hf
      refine lv_iconst (v := 0) hx hb dX10_minutes_38 (by decide) ?_
      refine lv_istore_n (lv' := [(3, .int ((0 : Int32))), (2, .int (((6240 : Int32)) + (((62 : Int32)) * x1))), (0, .ref (gq G 0)), (1, .int x1)]) hx hb dX10_minutes_39 rfl hl (by decide) rfl (fun ls hl => ?_)
      refine lv_iconst (v := 0) hx hb dX10_minutes_40 (by decide) ?_
      refine lv_istore (lv' := [(4, .int ((0 : Int32))), (3, .int ((0 : Int32))), (2, .int (((6240 : Int32)) + (((62 : Int32)) * x1))), (0, .ref (gq G 0)), (1, .int x1)]) hx hb dX10_minutes_41 hl (by decide) rfl (fun ls hl => ?_)
      exact L43 FU _ _ _ _ _ _ _ hf h (lv_sub hl [3, 2, 1, 0] rfl)
    · have hf := if_t c8 hf
      refine lv_aload_n hx hb dX10_minutes_32 rfl (lv_at hl 1 rfl) ?_
      refine lv_iconst (v := 3) hx hb dX10_minutes_33 (by decide) ?_
      obtain ⟨y9, ey9, hf⟩ := bnd_some hf
      refine k_X10_found X h hA ey9 k_X10_117 dX10_minutes_34 hl.1 ⟨(Nat.le_of_ble_eq_true rfl), (Nat.le_of_ble_eq_true rfl)⟩ (Nat.le_of_ble_eq_true rfl) ⟨Nat.zero_le _, Nat.zero_le _⟩ (fun H locs h => ?_)
      exact e0_i (Wf := mw G) X.1 hr hlocks hf h dX10_minutes_37
  · have hf := if_t c6 hf
    refine lv_iconst (v := (-1)) hx hb dX10_minutes_12 (by decide) ?_
    exact e0_i (Wf := mw G) X.1 hr hlocks hf h dX10_minutes_13
theorem m_X10_minutes : Cond.instanceMethod yX10_minutes ∈ lw_good ∧ Cond.selects RX10 yX10_minutes yX10_minutes ∈ lw_good ∧ Cond.initialized RX10 ∈ lw_good ∧ Cond.code yX10_minutes cX10_minutes 5 (some .int) ∈ lw_good := by decide +kernel
theorem k_X10_minutes {p : Program} {l : Launch} {e : Env} {R : Room} {s : State} {m : MethodId} {args : Array Value} {below : List Frame} {meth : Method} {c : Code} {H : Heap} {locs : List Loc} {cells slots : Nat} {Q : State → Prop} {cc : ByteArray} {nL pc idx : Nat} {ls : Array Slot} {rest : List Value} {own : String} {G : Gm} {A : Nat → Prop} {H0 : Heap} {w : MW} {x1 : Int32} {y : Int32 × MW} (X : CX own cc nL G p s m args c) (h : CH G (mw G w) A H0 H locs) (hA : ∀ q, H0.size ≤ q → A q) (hf : f_X10_minutes x1 w = some y) (hlk : Cond.methodLink own idx yX10_minutes ∈ lw_good) (hd : decode cc pc = .ok (.invokevirtual idx, 3)) (hsz : ls.size = nL) (hR : 3 ≤ R.frames ∧ 66 ≤ R.locals) (hrest : (rest.map fun v => v.category).sum ≤ 8) (hk : cells ≤ R.cells ∧ slots ≤ R.slots) (k : ∀ (H : Heap) (locs : List Loc), CH G (mw G y.2) A H0 H locs → W p l e R s m args below meth c H locs cells slots Q (F0 m (pc + 3) ls (.int y.1 :: rest))) : W p l e R s m args below meth c H locs cells slots Q (F0 m pc ls (.int x1 :: .ref (gq G 0) :: rest)) :=
  fin_i (n := 0) (runV (As := [.int x1]) X.1 1 (t_X10_minutes l G w x1 y.1 y.2 hf _) rfl rfl hlk m_X10_minutes (by decide +kernel) ⟨hR.1, hR.2⟩ ⟨blindM, va_recv X.2.1 h.1 (ci := 9) (q0 := 0) rfl rfl, preM X.2 h⟩ rfl hsz hrest hd hk) h hA (fun _ H locs h => k H locs h)
def f_X10_isTube (x0 : Int32) : Option Int32 :=
 (f_X10_in x0 ((0 : Int32)) ((11 : Int32))).bind fun y1 =>
 chk (y1 = 0 ∨ y1 = 1) (
 some y1)
set_option maxHeartbeats 4000000 in
set_option maxRecDepth 100000 in
theorem t_X10_isTube (l : Launch) (x0 : Int32) (r : Int32) (hf : f_X10_isTube x0 = some r) : MetP l yX10_isTube cX10_isTube 1 (some .boolean) 1 22 [.int x0] (.int r) := by
  refine ent (own := RX10) (As := [.int x0]) (by decide +kernel) rfl (Nat.le_of_ble_eq_true rfl) (fun _ _ h => h.1) ?_
  intro p e s m args below meth c ls B hr hlocks hv hl
  obtain ⟨hx, hb, hml, hown, hts⟩ := id B
  have hl : lv_has ls 1 [(0, .int x0)] := hl
  unfold f_X10_isTube at hf
  refine lv_iload_n hx hb dX10_isTube_0 rfl (lv_at hl 0 rfl) ?_
  refine lv_iconst (v := 0) hx hb dX10_isTube_1 (by decide) ?_
  refine lv_bipush (v := 11) hx hb dX10_isTube_2 (by decide) ?_
  obtain ⟨y1, ey1, hf⟩ := bnd_some hf
  refine k_X10_in B ey1 k_X10_71 dX10_isTube_4 hl.1 ⟨(Nat.le_of_ble_eq_true rfl), (Nat.le_of_ble_eq_true rfl)⟩ (Nat.le_of_ble_eq_true rfl) ⟨Nat.zero_le _, Nat.zero_le _⟩ ?_
  obtain ⟨c2, hf⟩ := chk_some hf
  cases hf
  exact rr_z B hr hlocks c2 dX10_isTube_7
theorem m_X10_isTube : Cond.static yX10_isTube ∈ lw_good ∧ Cond.initialized yX10_isTube.cls ∈ lw_good ∧ Cond.code yX10_isTube cX10_isTube 1 (some .boolean) ∈ lw_good := by decide +kernel
theorem k_X10_isTube {p : Program} {l : Launch} {e : Env} {R : Room} {s : State} {m : MethodId} {args : Array Value} {below : List Frame} {meth : Method} {c : Code} {H : Heap} {locs : List Loc} {cells slots : Nat} {Q : State → Prop} {cc : ByteArray} {nL pc idx : Nat} {ls : Array Slot} {rest : List Value} {own : String} {x0 : Int32} {r : Int32} (B : CB own cc nL p s m args c) (hf : f_X10_isTube x0 = some r) (hlk : Cond.methodLink own idx yX10_isTube ∈ lw_good) (hd : decode cc pc = .ok (.invokestatic idx, 3)) (hsz : ls.size = nL) (hR : 2 ≤ R.frames ∧ 42 ≤ R.locals) (hrest : (rest.map fun v => v.category).sum ≤ 8) (hk : cells ≤ R.cells ∧ slots ≤ R.slots) (k : W p l e R s m args below meth c H locs cells slots Q (F0 m (pc + 3) ls (.int r :: rest))) : W p l e R s m args below meth c H locs cells slots Q (F0 m pc ls (.int x0 :: rest)) :=
  fin_r (runS (As := [.int x0]) B 1 (t_X10_isTube l x0 r hf) rfl rfl hlk m_X10_isTube (by decide +kernel) ⟨hR.1, hR.2⟩ ⟨blindP, preP⟩ rfl hsz hrest hd hk) k
def f_X10_tube_b117 (k94 : (Int32 → Int32 → Int32 → Int32 → Int32 → MW → Option (Int32 × MW))) (x1 : Int32) (x2 : Int32) (x3 : Int32) (x5 : Int32) (xs0 : Int32) (xs1 : Int32) (w : MW) : Option (Int32 × MW) :=
 k94 x1 x2 x3 (xs0 ||| xs1) (x5 + (1 : Int32)) w
def f_X10_tube_l94_body (kself : (Int32 → Int32 → Int32 → Int32 → Int32 → MW → Option (Int32 × MW))) (x1 : Int32) (x2 : Int32) (x3 : Int32) (x4 : Int32) (x5 : Int32) (w : MW) : Option (Int32 × MW) :=
 if ((60 : Int32)) ≤ x5 then
 (if x4 = 0 then
 ((f_X10_w (((8720 : Int32)) + (((2 : Int32)) * x1)) x2 w).bind fun y3 =>
 (f_X10_w ((((8720 : Int32)) + (((2 : Int32)) * x1)) + ((1 : Int32))) x3 y3).bind fun y4 =>
 some ((1 : Int32), y4))
 else
 (some ((-3 : Int32), w)))
 else
 ((f_X10_creditOf x5 w).bind fun y5 =>
 if y5 ≤ 0 then
 (f_X10_tube_b117 kself x1 x2 x3 x5 x4 ((0 : Int32)) w)
 else
 (f_X10_tube_b117 kself x1 x2 x3 x5 x4 ((1 : Int32)) w))
def f_X10_tube_l94 : Nat → Int32 → Int32 → Int32 → Int32 → Int32 → MW → Option (Int32 × MW)
  | 0, _, _, _, _, _, _ => none
  | n + 1, x1, x2, x3, x4, x5, w => f_X10_tube_l94_body (f_X10_tube_l94 n) x1 x2 x3 x4 x5 w
def f_X10_tube_b82 (k45 : (Int32 → Int32 → Int32 → Int32 → Int32 → MW → Option (Int32 × MW))) (x1 : Int32) (x2 : Int32) (x3 : Int32) (x5 : Int32) (xs0 : Int32) (xs1 : Int32) (w : MW) : Option (Int32 × MW) :=
 k45 x1 x2 x3 (xs0 ||| xs1) (x5 + (1 : Int32)) w
def f_X10_tube_b81 (k45 : (Int32 → Int32 → Int32 → Int32 → Int32 → MW → Option (Int32 × MW))) (x1 : Int32) (x2 : Int32) (x3 : Int32) (x5 : Int32) (xs0 : Int32) (w : MW) : Option (Int32 × MW) :=
 f_X10_tube_b82 k45 x1 x2 x3 x5 xs0 ((0 : Int32)) w
def f_X10_tube_l45_body (kself : (Int32 → Int32 → Int32 → Int32 → Int32 → MW → Option (Int32 × MW))) (x1 : Int32) (x2 : Int32) (x3 : Int32) (x4 : Int32) (x5 : Int32) (w : MW) : Option (Int32 × MW) :=
 if ((12 : Int32)) ≤ x5 then
 (f_X10_tube_l94 FU x1 x2 x3 x4 ((0 : Int32)) w)
 else
 (if x5 = x1 then
 (f_X10_tube_b81 kself x1 x2 x3 x5 x4 w)
 else
 (chk (inb (((8720 : Int32)) + (((2 : Int32)) * x5)) 11360) (
 if (w 1 (((8720 : Int32)) + (((2 : Int32)) * x5)).toNatClampNeg) = x2 then
 (f_X10_tube_b82 kself x1 x2 x3 x5 x4 ((1 : Int32)) w)
 else
 (f_X10_tube_b81 kself x1 x2 x3 x5 x4 w))))
def f_X10_tube_l45 : Nat → Int32 → Int32 → Int32 → Int32 → Int32 → MW → Option (Int32 × MW)
  | 0, _, _, _, _, _, _ => none
  | n + 1, x1, x2, x3, x4, x5, w => f_X10_tube_l45_body (f_X10_tube_l45 n) x1 x2 x3 x4 x5 w
def f_X10_tube (x1 : Int32) (x2 : Int32) (x3 : Int32) (w : MW) : Option (Int32 × MW) :=
 (f_X10_isTube x1).bind fun y11 =>
 if y11 = 0 then
 (some ((-1 : Int32), mst w 0 0 ((0 : Int32))))
 else
 ((f_X10_in x2 ((1 : Int32)) ((5000 : Int32))).bind fun y13 =>
 if y13 = 0 then
 (some ((-2 : Int32), mst w 0 0 ((0 : Int32))))
 else
 ((f_X10_in x3 ((0 : Int32)) ((1000 : Int32))).bind fun y15 =>
 if y15 = 0 then
 (some ((-2 : Int32), mst w 0 0 ((0 : Int32))))
 else
 (f_X10_tube_l45 FU x1 x2 x3 ((0 : Int32)) ((0 : Int32)) (mst w 0 0 ((0 : Int32))))))
set_option maxHeartbeats 4000000 in
set_option maxRecDepth 100000 in
theorem t_X10_tube (l : Launch) (G : Gm) (w0 : MW) (x1 : Int32) (x2 : Int32) (x3 : Int32) (r : Int32) (w' : MW) (hf : f_X10_tube x1 x2 x3 w0 = some (r, w')) : MetI l yX10_tube cX10_tube 6 (some .int) 2 45 G (mw G w0) [.ref (gq G 0), .int x1, .int x2, .int x3] r (fun _ => mw G (w')) 0 := by
  intro sz
  refine ent (own := RX10) (As := [.ref (gq G 0), .int x1, .int x2, .int x3]) (by decide +kernel) rfl (Nat.le_of_ble_eq_true rfl) (fun _ _ h => h.1) ?_
  intro p e s m args below meth c ls B hr hlocks hv hl
  obtain ⟨-, hsz, hP, hKK, hD⟩ := hv
  subst hsz
  have X : CX RX10 cX10_tube 6 G p s m args c := ⟨B, hKK⟩
  obtain ⟨hx, hb, hml, hown, hts⟩ := id B
  have hA : ∀ q : Nat, s.heap.size ≤ q → va_A (mw G w0) s.heap.size q := fun q z => Or.inr z
  have h : CH G (mw G w0) (va_A (mw G w0) s.heap.size) s.heap s.heap [] := ⟨hP, hD.self, va_S.rf⟩
  have L94 : ∀ (n94 : Nat) (x1 : Int32) (x2 : Int32) (x3 : Int32) (x4 : Int32) (x5 : Int32) (w : MW) (H : Heap) (locs : List Loc) (ls : Array Slot), f_X10_tube_l94 n94 x1 x2 x3 x4 x5 w = some (r, w') → CH G (mw G w) (va_A (mw G w0) s.heap.size) s.heap H locs → lv_has ls 6 [(0, .ref (gq G 0)), (1, .int x1), (2, .int x2), (3, .int x3), (4, .int x4), (5, .int x5)] → W p l e { frames := 2, cells := 0, slots := 4096 * 0, locals := 45 } s m args below meth c H locs 0 (4096 * 0) (MQ below (QI G (mw G w0) s.heap.size r (fun _ => mw G (w'))) args s 0 (4096 * 0) (va_A (mw G w0) s.heap.size)) (F0 m 94 ls []) := by
    intro n94
    induction n94 with
    | zero =>
      intro x1 x2 x3 x4 x5 w H locs ls hf h hl
      cases (show (none : Option (Int32 × MW)) = some _ from hf)
    | succ n94 ih94 =>
      have J117 : ∀ (x1 : Int32) (x2 : Int32) (x3 : Int32) (x5 : Int32) (xs0 : Int32) (xs1 : Int32) (w : MW) (H : Heap) (locs : List Loc) (ls : Array Slot), f_X10_tube_b117 (f_X10_tube_l94 n94) x1 x2 x3 x5 xs0 xs1 w = some (r, w') → CH G (mw G w) (va_A (mw G w0) s.heap.size) s.heap H locs → lv_has ls 6 [(0, .ref (gq G 0)), (1, .int x1), (2, .int x2), (3, .int x3), (5, .int x5)] → W p l e { frames := 2, cells := 0, slots := 4096 * 0, locals := 45 } s m args below meth c H locs 0 (4096 * 0) (MQ below (QI G (mw G w0) s.heap.size r (fun _ => mw G (w'))) args s 0 (4096 * 0) (va_A (mw G w0) s.heap.size)) (F0 m 117 ls [.int xs1, .int xs0]) := by
        intro x1 x2 x3 x5 xs0 xs1 w H locs ls hf h hl
        unfold f_X10_tube_b117 at hf
        refine lv_ior hx hb dX10_tube_117 ?_
        refine lv_istore (lv' := [(4, .int (xs0 ||| xs1)), (0, .ref (gq G 0)), (1, .int x1), (2, .int x2), (3, .int x3), (5, .int x5)]) hx hb dX10_tube_118 hl (by decide) rfl (fun ls hl => ?_)
        refine lv_iinc (v := x5 + (1 : Int32)) (lv' := [(5, .int (x5 + (1 : Int32))), (4, .int (xs0 ||| xs1)), (0, .ref (gq G 0)), (1, .int x1), (2, .int x2), (3, .int x3)]) hx hb dX10_tube_120 hl (k := 5) rfl (by rfl) (by decide) rfl (fun ls hl => ?_)
        refine lv_goto (tgt := 94) hx hb dX10_tube_123 (by decide) ?_
        exact ih94 _ _ _ _ _ _ _ _ _ hf h (lv_sub hl [2, 3, 4, 5, 1, 0] rfl)
      intro x1 x2 x3 x4 x5 w H locs ls hf h hl
      have hf : f_X10_tube_l94_body (f_X10_tube_l94 n94) x1 x2 x3 x4 x5 w = _ := hf
      unfold f_X10_tube_l94_body at hf
      refine lv_iload hx hb dX10_tube_94 (lv_at hl 5 rfl) ?_
      refine lv_bipush (v := 60) hx hb dX10_tube_96 (by decide) ?_
      refine lv_icmp_ge (tgt := 126) hx hb dX10_tube_98 (by decide) (fun c1 => ?_) (fun c1 => ?_)
      · have hf := if_t c1 hf
        refine lv_iload hx hb dX10_tube_126 (lv_at hl 4 rfl) ?_
        refine lv_if_eq (tgt := 134) hx hb dX10_tube_128 (by decide) (fun c2 => ?_) (fun c2 => ?_)
        · have hf := if_t c2 hf
          refine lv_aload_n hx hb dX10_tube_134 rfl (lv_at hl 0 rfl) ?_
          refine lv_sipush (v := 8720) hx hb dX10_tube_135 (by decide) ?_
          refine lv_iconst (v := 2) hx hb dX10_tube_138 (by decide) ?_
          refine lv_iload_n hx hb dX10_tube_139 rfl (lv_at hl 1 rfl) ?_
          refine lv_imul hx hb dX10_tube_140 ?_
          refine lv_iadd hx hb dX10_tube_141 ?_
          refine lv_iload_n hx hb dX10_tube_142 rfl (lv_at hl 2 rfl) ?_
          obtain ⟨y3, ey3, hf⟩ := bnd_some hf
          refine k_X10_w X h hA ey3 k_X10_67 dX10_tube_143 hl.1 ⟨(Nat.le_of_ble_eq_true rfl), (Nat.le_of_ble_eq_true rfl)⟩ (Nat.le_of_ble_eq_true rfl) ⟨Nat.zero_le _, Nat.zero_le _⟩ (fun H locs h => ?_)
          refine lv_aload_n hx hb dX10_tube_146 rfl (lv_at hl 0 rfl) ?_
          refine lv_sipush (v := 8720) hx hb dX10_tube_147 (by decide) ?_
          refine lv_iconst (v := 2) hx hb dX10_tube_150 (by decide) ?_
          refine lv_iload_n hx hb dX10_tube_151 rfl (lv_at hl 1 rfl) ?_
          refine lv_imul hx hb dX10_tube_152 ?_
          refine lv_iadd hx hb dX10_tube_153 ?_
          refine lv_iconst (v := 1) hx hb dX10_tube_154 (by decide) ?_
          refine lv_iadd hx hb dX10_tube_155 ?_
          refine lv_iload_n hx hb dX10_tube_156 rfl (lv_at hl 3 rfl) ?_
          obtain ⟨y4, ey4, hf⟩ := bnd_some hf
          refine k_X10_w X h hA ey4 k_X10_67 dX10_tube_157 hl.1 ⟨(Nat.le_of_ble_eq_true rfl), (Nat.le_of_ble_eq_true rfl)⟩ (Nat.le_of_ble_eq_true rfl) ⟨Nat.zero_le _, Nat.zero_le _⟩ (fun H locs h => ?_)
          refine lv_iconst (v := 1) hx hb dX10_tube_160 (by decide) ?_
          exact e0_i (Wf := mw G) X.1 hr hlocks hf h dX10_tube_161
        · have hf := if_f c2 hf
          refine lv_bipush (v := (-3)) hx hb dX10_tube_131 (by decide) ?_
          exact e0_i (Wf := mw G) X.1 hr hlocks hf h dX10_tube_133
      · have hf := if_f c1 hf
        refine lv_iload hx hb dX10_tube_101 (lv_at hl 4 rfl) ?_
        refine lv_aload_n hx hb dX10_tube_103 rfl (lv_at hl 0 rfl) ?_
        refine lv_iload hx hb dX10_tube_104 (lv_at hl 5 rfl) ?_
        obtain ⟨y5, ey5, hf⟩ := bnd_some hf
        refine k_X10_creditOf X h ey5 k_X10_123 dX10_tube_106 hl.1 ⟨(Nat.le_of_ble_eq_true rfl), (Nat.le_of_ble_eq_true rfl)⟩ (Nat.le_of_ble_eq_true rfl) ⟨Nat.zero_le _, Nat.zero_le _⟩ ?_
        refine lv_if_le (tgt := 116) hx hb dX10_tube_109 (by decide) (fun c6 => ?_) (fun c6 => ?_)
        · have hf := if_t c6 hf
          refine lv_iconst (v := 0) hx hb dX10_tube_116 (by decide) ?_
          exact J117 _ _ _ _ _ _ _ _ _ _ hf h (lv_sub hl [0, 1, 2, 3, 5] rfl)
        · have hf := if_f c6 hf
          refine lv_iconst (v := 1) hx hb dX10_tube_112 (by decide) ?_
          refine lv_goto (tgt := 117) hx hb dX10_tube_113 (by decide) ?_
          exact J117 _ _ _ _ _ _ _ _ _ _ hf h (lv_sub hl [0, 1, 2, 3, 5] rfl)
  have L45 : ∀ (n45 : Nat) (x1 : Int32) (x2 : Int32) (x3 : Int32) (x4 : Int32) (x5 : Int32) (w : MW) (H : Heap) (locs : List Loc) (ls : Array Slot), f_X10_tube_l45 n45 x1 x2 x3 x4 x5 w = some (r, w') → CH G (mw G w) (va_A (mw G w0) s.heap.size) s.heap H locs → lv_has ls 6 [(0, .ref (gq G 0)), (1, .int x1), (2, .int x2), (3, .int x3), (4, .int x4), (5, .int x5)] → W p l e { frames := 2, cells := 0, slots := 4096 * 0, locals := 45 } s m args below meth c H locs 0 (4096 * 0) (MQ below (QI G (mw G w0) s.heap.size r (fun _ => mw G (w'))) args s 0 (4096 * 0) (va_A (mw G w0) s.heap.size)) (F0 m 45 ls []) := by
    intro n45
    induction n45 with
    | zero =>
      intro x1 x2 x3 x4 x5 w H locs ls hf h hl
      cases (show (none : Option (Int32 × MW)) = some _ from hf)
    | succ n45 ih45 =>
      have J82 : ∀ (x1 : Int32) (x2 : Int32) (x3 : Int32) (x5 : Int32) (xs0 : Int32) (xs1 : Int32) (w : MW) (H : Heap) (locs : List Loc) (ls : Array Slot), f_X10_tube_b82 (f_X10_tube_l45 n45) x1 x2 x3 x5 xs0 xs1 w = some (r, w') → CH G (mw G w) (va_A (mw G w0) s.heap.size) s.heap H locs → lv_has ls 6 [(0, .ref (gq G 0)), (1, .int x1), (2, .int x2), (3, .int x3), (5, .int x5)] → W p l e { frames := 2, cells := 0, slots := 4096 * 0, locals := 45 } s m args below meth c H locs 0 (4096 * 0) (MQ below (QI G (mw G w0) s.heap.size r (fun _ => mw G (w'))) args s 0 (4096 * 0) (va_A (mw G w0) s.heap.size)) (F0 m 82 ls [.int xs1, .int xs0]) := by
        intro x1 x2 x3 x5 xs0 xs1 w H locs ls hf h hl
        unfold f_X10_tube_b82 at hf
        refine lv_ior hx hb dX10_tube_82 ?_
        refine lv_istore (lv' := [(4, .int (xs0 ||| xs1)), (0, .ref (gq G 0)), (1, .int x1), (2, .int x2), (3, .int x3), (5, .int x5)]) hx hb dX10_tube_83 hl (by decide) rfl (fun ls hl => ?_)
        refine lv_iinc (v := x5 + (1 : Int32)) (lv' := [(5, .int (x5 + (1 : Int32))), (4, .int (xs0 ||| xs1)), (0, .ref (gq G 0)), (1, .int x1), (2, .int x2), (3, .int x3)]) hx hb dX10_tube_85 hl (k := 5) rfl (by rfl) (by decide) rfl (fun ls hl => ?_)
        refine lv_goto (tgt := 45) hx hb dX10_tube_88 (by decide) ?_
        exact ih45 _ _ _ _ _ _ _ _ _ hf h (lv_sub hl [2, 3, 4, 5, 1, 0] rfl)
      have J81 : ∀ (x1 : Int32) (x2 : Int32) (x3 : Int32) (x5 : Int32) (xs0 : Int32) (w : MW) (H : Heap) (locs : List Loc) (ls : Array Slot), f_X10_tube_b81 (f_X10_tube_l45 n45) x1 x2 x3 x5 xs0 w = some (r, w') → CH G (mw G w) (va_A (mw G w0) s.heap.size) s.heap H locs → lv_has ls 6 [(0, .ref (gq G 0)), (1, .int x1), (2, .int x2), (3, .int x3), (5, .int x5)] → W p l e { frames := 2, cells := 0, slots := 4096 * 0, locals := 45 } s m args below meth c H locs 0 (4096 * 0) (MQ below (QI G (mw G w0) s.heap.size r (fun _ => mw G (w'))) args s 0 (4096 * 0) (va_A (mw G w0) s.heap.size)) (F0 m 81 ls [.int xs0]) := by
        intro x1 x2 x3 x5 xs0 w H locs ls hf h hl
        unfold f_X10_tube_b81 at hf
        refine lv_iconst (v := 0) hx hb dX10_tube_81 (by decide) ?_
        exact J82 _ _ _ _ _ _ _ _ _ _ hf h (lv_sub hl [0, 1, 2, 3, 4] rfl)
      intro x1 x2 x3 x4 x5 w H locs ls hf h hl
      have hf : f_X10_tube_l45_body (f_X10_tube_l45 n45) x1 x2 x3 x4 x5 w = _ := hf
      unfold f_X10_tube_l45_body at hf
      refine lv_iload hx hb dX10_tube_45 (lv_at hl 5 rfl) ?_
      refine lv_bipush (v := 12) hx hb dX10_tube_47 (by decide) ?_
      refine lv_icmp_ge (tgt := 91) hx hb dX10_tube_49 (by decide) (fun c7 => ?_) (fun c7 => ?_)
      · have hf := if_t c7 hf
        refine lv_iconst (v := 0) hx hb dX10_tube_91 (by decide) ?_
        refine lv_istore (lv' := [(5, .int ((0 : Int32))), (0, .ref (gq G 0)), (1, .int x1), (2, .int x2), (3, .int x3), (4, .int x4)]) hx hb dX10_tube_92 hl (by decide) rfl (fun ls hl => ?_)
        exact L94 FU _ _ _ _ _ _ _ _ _ hf h (lv_sub hl [1, 2, 3, 4, 5, 0] rfl)
      · have hf := if_f c7 hf
        refine lv_iload hx hb dX10_tube_52 (lv_at hl 4 rfl) ?_
        refine lv_iload hx hb dX10_tube_54 (lv_at hl 5 rfl) ?_
        refine lv_iload_n hx hb dX10_tube_56 rfl (lv_at hl 1 rfl) ?_
        refine lv_icmp_eq (tgt := 81) hx hb dX10_tube_57 (by decide) (fun c8 => ?_) (fun c8 => ?_)
        · have hf := if_t c8 hf
          exact J81 _ _ _ _ _ _ _ _ _ hf h (lv_sub hl [0, 1, 2, 3, 5] rfl)
        · have hf := if_f c8 hf
          refine lv_aload_n hx hb dX10_tube_60 rfl (lv_at hl 0 rfl) ?_
          refine GM_0_1 X h k_X10_7 dX10_tube_61 ?_
          refine lv_sipush (v := 8720) hx hb dX10_tube_64 (by decide) ?_
          refine lv_iconst (v := 2) hx hb dX10_tube_67 (by decide) ?_
          refine lv_iload hx hb dX10_tube_68 (lv_at hl 5 rfl) ?_
          refine lv_imul hx hb dX10_tube_70 ?_
          refine lv_iadd hx hb dX10_tube_71 ?_
          obtain ⟨c9, hf⟩ := chk_some hf
          refine LM_1 X h c9 dX10_tube_72 ?_
          refine lv_iload_n hx hb dX10_tube_73 rfl (lv_at hl 2 rfl) ?_
          refine lv_icmp_ne (tgt := 81) hx hb dX10_tube_74 (by decide) (fun c10 => ?_) (fun c10 => ?_)
          · have hf := if_f c10 hf
            exact J81 _ _ _ _ _ _ _ _ _ hf h (lv_sub hl [0, 1, 2, 3, 5] rfl)
          · have hf := if_t c10 hf
            refine lv_iconst (v := 1) hx hb dX10_tube_77 (by decide) ?_
            refine lv_goto (tgt := 82) hx hb dX10_tube_78 (by decide) ?_
            exact J82 _ _ _ _ _ _ _ _ _ _ hf h (lv_sub hl [0, 1, 2, 3, 5] rfl)
  obtain ⟨w, rfl⟩ : ∃ z, z = w0 := ⟨_, rfl⟩
  have hl : lv_has ls 6 [(0, .ref (gq G 0)), (1, .int x1), (2, .int x2), (3, .int x3)] := hl
  unfold f_X10_tube at hf
  refine lv_aload_n hx hb dX10_tube_0 rfl (lv_at hl 0 rfl) ?_
  refine lv_iconst (v := 0) hx hb dX10_tube_1 (by decide) ?_
  refine PM_0_0 X h k_X10_53 dX10_tube_2 (fun H locs h => ?_)
  refine lv_iload_n hx hb dX10_tube_5 rfl (lv_at hl 1 rfl) ?_
  obtain ⟨y11, ey11, hf⟩ := bnd_some hf
  refine k_X10_isTube X.1 ey11 k_X10_135 dX10_tube_6 hl.1 ⟨(Nat.le_of_ble_eq_true rfl), (Nat.le_of_ble_eq_true rfl)⟩ (Nat.le_of_ble_eq_true rfl) ⟨Nat.zero_le _, Nat.zero_le _⟩ ?_
  refine lv_if_ne (tgt := 14) hx hb dX10_tube_9 (by decide) (fun c12 => ?_) (fun c12 => ?_)
  · have hf := if_f c12 hf
    refine lv_iload_n hx hb dX10_tube_14 rfl (lv_at hl 2 rfl) ?_
    refine lv_iconst (v := 1) hx hb dX10_tube_15 (by decide) ?_
    refine lv_sipush (v := 5000) hx hb dX10_tube_16 (by decide) ?_
    obtain ⟨y13, ey13, hf⟩ := bnd_some hf
    refine k_X10_in X.1 ey13 k_X10_71 dX10_tube_19 hl.1 ⟨(Nat.le_of_ble_eq_true rfl), (Nat.le_of_ble_eq_true rfl)⟩ (Nat.le_of_ble_eq_true rfl) ⟨Nat.zero_le _, Nat.zero_le _⟩ ?_
    refine lv_if_eq (tgt := 36) hx hb dX10_tube_22 (by decide) (fun c14 => ?_) (fun c14 => ?_)
    · have hf := if_t c14 hf
      refine lv_bipush (v := (-2)) hx hb dX10_tube_36 (by decide) ?_
      exact e0_i (Wf := mw G) X.1 hr hlocks hf h dX10_tube_38
    · have hf := if_f c14 hf
      refine lv_iload_n hx hb dX10_tube_25 rfl (lv_at hl 3 rfl) ?_
      refine lv_iconst (v := 0) hx hb dX10_tube_26 (by decide) ?_
      refine lv_sipush (v := 1000) hx hb dX10_tube_27 (by decide) ?_
      obtain ⟨y15, ey15, hf⟩ := bnd_some hf
      refine k_X10_in X.1 ey15 k_X10_71 dX10_tube_30 hl.1 ⟨(Nat.le_of_ble_eq_true rfl), (Nat.le_of_ble_eq_true rfl)⟩ (Nat.le_of_ble_eq_true rfl) ⟨Nat.zero_le _, Nat.zero_le _⟩ ?_
      refine lv_if_ne (tgt := 39) hx hb dX10_tube_33 (by decide) (fun c16 => ?_) (fun c16 => ?_)
      · have hf := if_f c16 hf
        refine lv_iconst (v := 0) hx hb dX10_tube_39 (by decide) ?_
        refine lv_istore (lv' := [(4, .int ((0 : Int32))), (0, .ref (gq G 0)), (1, .int x1), (2, .int x2), (3, .int x3)]) hx hb dX10_tube_40 hl (by decide) rfl (fun ls hl => ?_)
        refine lv_iconst (v := 0) hx hb dX10_tube_42 (by decide) ?_
        refine lv_istore (lv' := [(5, .int ((0 : Int32))), (4, .int ((0 : Int32))), (0, .ref (gq G 0)), (1, .int x1), (2, .int x2), (3, .int x3)]) hx hb dX10_tube_43 hl (by decide) rfl (fun ls hl => ?_)
        exact L45 FU _ _ _ _ _ _ _ _ _ hf h (lv_sub hl [2, 3, 4, 5, 1, 0] rfl)
      · have hf := if_t c16 hf
        refine lv_bipush (v := (-2)) hx hb dX10_tube_36 (by decide) ?_
        exact e0_i (Wf := mw G) X.1 hr hlocks hf h dX10_tube_38
  · have hf := if_t c12 hf
    refine lv_iconst (v := (-1)) hx hb dX10_tube_12 (by decide) ?_
    exact e0_i (Wf := mw G) X.1 hr hlocks hf h dX10_tube_13
theorem m_X10_tube : Cond.instanceMethod yX10_tube ∈ lw_good ∧ Cond.selects RX10 yX10_tube yX10_tube ∈ lw_good ∧ Cond.initialized RX10 ∈ lw_good ∧ Cond.code yX10_tube cX10_tube 6 (some .int) ∈ lw_good := by decide +kernel
theorem k_X10_tube {p : Program} {l : Launch} {e : Env} {R : Room} {s : State} {m : MethodId} {args : Array Value} {below : List Frame} {meth : Method} {c : Code} {H : Heap} {locs : List Loc} {cells slots : Nat} {Q : State → Prop} {cc : ByteArray} {nL pc idx : Nat} {ls : Array Slot} {rest : List Value} {own : String} {G : Gm} {A : Nat → Prop} {H0 : Heap} {w : MW} {x1 : Int32} {x2 : Int32} {x3 : Int32} {y : Int32 × MW} (X : CX own cc nL G p s m args c) (h : CH G (mw G w) A H0 H locs) (hA : ∀ q, H0.size ≤ q → A q) (hf : f_X10_tube x1 x2 x3 w = some y) (hlk : Cond.methodLink own idx yX10_tube ∈ lw_good) (hd : decode cc pc = .ok (.invokevirtual idx, 3)) (hsz : ls.size = nL) (hR : 3 ≤ R.frames ∧ 70 ≤ R.locals) (hrest : (rest.map fun v => v.category).sum ≤ 8) (hk : cells ≤ R.cells ∧ slots ≤ R.slots) (k : ∀ (H : Heap) (locs : List Loc), CH G (mw G y.2) A H0 H locs → W p l e R s m args below meth c H locs cells slots Q (F0 m (pc + 3) ls (.int y.1 :: rest))) : W p l e R s m args below meth c H locs cells slots Q (F0 m pc ls (.int x3 :: .int x2 :: .int x1 :: .ref (gq G 0) :: rest)) :=
  fin_i (n := 0) (runV (As := [.int x1, .int x2, .int x3]) X.1 3 (t_X10_tube l G w x1 x2 x3 y.1 y.2 hf _) rfl rfl hlk m_X10_tube (by decide +kernel) ⟨hR.1, hR.2⟩ ⟨blindM, va_recv X.2.1 h.1 (ci := 9) (q0 := 0) rfl rfl, preM X.2 h⟩ rfl hsz hrest hd hk) h hA (fun _ H locs h => k H locs h)
def f_X10_coin (x1 : Int32) (x2 : Int32) (x3 : Int32) (w : MW) : Option (Int32 × MW) :=
 (f_X10_isPlace x1).bind fun y1 =>
 if y1 = 0 then
 (some ((-1 : Int32), mst w 0 0 ((0 : Int32))))
 else
 ((f_X10_isTube x2).bind fun y3 =>
 if y3 = 0 then
 (some ((-1 : Int32), mst w 0 0 ((0 : Int32))))
 else
 ((f_X10_in x3 ((1 : Int32)) ((50 : Int32))).bind fun y5 =>
 if y5 = 0 then
 (some ((-2 : Int32), mst w 0 0 ((0 : Int32))))
 else
 (chk (inb (((8720 : Int32)) + (((2 : Int32)) * x2)) 11360) (
 if ((mst w 0 0 ((0 : Int32))) 1 (((8720 : Int32)) + (((2 : Int32)) * x2)).toNatClampNeg) = 0 then
 (some ((-3 : Int32), mst w 0 0 ((0 : Int32))))
 else
 ((f_X10_isThere x1 (mst w 0 0 ((0 : Int32)))).bind fun y9 =>
 if y9 = 0 then
 ((f_X10_found ((1 : Int32)) (mst w 0 0 ((0 : Int32)))).bind fun y21 =>
 some (y21.1, y21.2))
 else
 (chk (inb ((((8720 : Int32)) + (((2 : Int32)) * x2)) + ((1 : Int32))) 11360) (
 if (((mst w 0 0 ((0 : Int32))) 1 ((((8720 : Int32)) + (((2 : Int32)) * x2)) + ((1 : Int32))).toNatClampNeg) + x3) ≤ ((1000 : Int32)) then
 (chk (inb ((((8720 : Int32)) + (((2 : Int32)) * x2)) + ((1 : Int32))) 11360) (
 (f_X10_w ((((8720 : Int32)) + (((2 : Int32)) * x2)) + ((1 : Int32))) (((mst w 0 0 ((0 : Int32))) 1 ((((8720 : Int32)) + (((2 : Int32)) * x2)) + ((1 : Int32))).toNatClampNeg) + x3) (mst w 0 0 ((0 : Int32)))).bind fun y14 =>
 (f_X10_of x1 (((14 : Int32)) + x2) y14).bind fun y15 =>
 (f_X10_let x1 (((14 : Int32)) + x2) (y15 + x3) y14).bind fun y16 =>
 chk (inb ((11346 : Int32)) 11360) (
 chk (inb (((8720 : Int32)) + (((2 : Int32)) * x2)) 11360) (
 (f_X10_w ((11346 : Int32)) ((y16 1 ((11346 : Int32)).toNatClampNeg) + (x3 * (y16 1 (((8720 : Int32)) + (((2 : Int32)) * x2)).toNatClampNeg))) y16).bind fun y19 =>
 (f_X10_creditOf x1 y19).bind fun y20 =>
 some (y20, y19)))))
 else
 (some ((-4 : Int32), mst w 0 0 ((0 : Int32)))))))))))
set_option maxHeartbeats 4000000 in
set_option maxRecDepth 100000 in
theorem t_X10_coin (l : Launch) (G : Gm) (w0 : MW) (x1 : Int32) (x2 : Int32) (x3 : Int32) (r : Int32) (w' : MW) (hf : f_X10_coin x1 x2 x3 w0 = some (r, w')) : MetI l yX10_coin cX10_coin 4 (some .int) 2 45 G (mw G w0) [.ref (gq G 0), .int x1, .int x2, .int x3] r (fun _ => mw G (w')) 0 := by
  intro sz
  refine ent (own := RX10) (As := [.ref (gq G 0), .int x1, .int x2, .int x3]) (by decide +kernel) rfl (Nat.le_of_ble_eq_true rfl) (fun _ _ h => h.1) ?_
  intro p e s m args below meth c ls B hr hlocks hv hl
  obtain ⟨-, hsz, hP, hKK, hD⟩ := hv
  subst hsz
  have X : CX RX10 cX10_coin 4 G p s m args c := ⟨B, hKK⟩
  obtain ⟨hx, hb, hml, hown, hts⟩ := id B
  have hA : ∀ q : Nat, s.heap.size ≤ q → va_A (mw G w0) s.heap.size q := fun q z => Or.inr z
  have h : CH G (mw G w0) (va_A (mw G w0) s.heap.size) s.heap s.heap [] := ⟨hP, hD.self, va_S.rf⟩
  obtain ⟨w, rfl⟩ : ∃ z, z = w0 := ⟨_, rfl⟩
  have hl : lv_has ls 4 [(0, .ref (gq G 0)), (1, .int x1), (2, .int x2), (3, .int x3)] := hl
  unfold f_X10_coin at hf
  refine lv_aload_n hx hb dX10_coin_0 rfl (lv_at hl 0 rfl) ?_
  refine lv_iconst (v := 0) hx hb dX10_coin_1 (by decide) ?_
  refine PM_0_0 X h k_X10_53 dX10_coin_2 (fun H locs h => ?_)
  refine lv_iload_n hx hb dX10_coin_5 rfl (lv_at hl 1 rfl) ?_
  obtain ⟨y1, ey1, hf⟩ := bnd_some hf
  refine k_X10_isPlace X.1 ey1 k_X10_106 dX10_coin_6 hl.1 ⟨(Nat.le_of_ble_eq_true rfl), (Nat.le_of_ble_eq_true rfl)⟩ (Nat.le_of_ble_eq_true rfl) ⟨Nat.zero_le _, Nat.zero_le _⟩ ?_
  refine lv_if_eq (tgt := 19) hx hb dX10_coin_9 (by decide) (fun c2 => ?_) (fun c2 => ?_)
  · have hf := if_t c2 hf
    refine lv_iconst (v := (-1)) hx hb dX10_coin_19 (by decide) ?_
    exact e0_i (Wf := mw G) X.1 hr hlocks hf h dX10_coin_20
  · have hf := if_f c2 hf
    refine lv_iload_n hx hb dX10_coin_12 rfl (lv_at hl 2 rfl) ?_
    obtain ⟨y3, ey3, hf⟩ := bnd_some hf
    refine k_X10_isTube X.1 ey3 k_X10_135 dX10_coin_13 hl.1 ⟨(Nat.le_of_ble_eq_true rfl), (Nat.le_of_ble_eq_true rfl)⟩ (Nat.le_of_ble_eq_true rfl) ⟨Nat.zero_le _, Nat.zero_le _⟩ ?_
    refine lv_if_ne (tgt := 21) hx hb dX10_coin_16 (by decide) (fun c4 => ?_) (fun c4 => ?_)
    · have hf := if_f c4 hf
      refine lv_iload_n hx hb dX10_coin_21 rfl (lv_at hl 3 rfl) ?_
      refine lv_iconst (v := 1) hx hb dX10_coin_22 (by decide) ?_
      refine lv_bipush (v := 50) hx hb dX10_coin_23 (by decide) ?_
      obtain ⟨y5, ey5, hf⟩ := bnd_some hf
      refine k_X10_in X.1 ey5 k_X10_71 dX10_coin_25 hl.1 ⟨(Nat.le_of_ble_eq_true rfl), (Nat.le_of_ble_eq_true rfl)⟩ (Nat.le_of_ble_eq_true rfl) ⟨Nat.zero_le _, Nat.zero_le _⟩ ?_
      refine lv_if_ne (tgt := 34) hx hb dX10_coin_28 (by decide) (fun c6 => ?_) (fun c6 => ?_)
      · have hf := if_f c6 hf
        refine lv_aload_n hx hb dX10_coin_34 rfl (lv_at hl 0 rfl) ?_
        refine GM_0_1 X h k_X10_7 dX10_coin_35 ?_
        refine lv_sipush (v := 8720) hx hb dX10_coin_38 (by decide) ?_
        refine lv_iconst (v := 2) hx hb dX10_coin_41 (by decide) ?_
        refine lv_iload_n hx hb dX10_coin_42 rfl (lv_at hl 2 rfl) ?_
        refine lv_imul hx hb dX10_coin_43 ?_
        refine lv_iadd hx hb dX10_coin_44 ?_
        obtain ⟨c7, hf⟩ := chk_some hf
        refine LM_1 X h c7 dX10_coin_45 ?_
        refine lv_if_ne (tgt := 52) hx hb dX10_coin_46 (by decide) (fun c8 => ?_) (fun c8 => ?_)
        · have hf := if_f c8 hf
          refine lv_aload_n hx hb dX10_coin_52 rfl (lv_at hl 0 rfl) ?_
          refine lv_iload_n hx hb dX10_coin_53 rfl (lv_at hl 1 rfl) ?_
          obtain ⟨y9, ey9, hf⟩ := bnd_some hf
          refine k_X10_isThere X h ey9 k_X10_110 dX10_coin_54 hl.1 ⟨(Nat.le_of_ble_eq_true rfl), (Nat.le_of_ble_eq_true rfl)⟩ (Nat.le_of_ble_eq_true rfl) ⟨Nat.zero_le _, Nat.zero_le _⟩ ?_
          refine lv_if_ne (tgt := 66) hx hb dX10_coin_57 (by decide) (fun c10 => ?_) (fun c10 => ?_)
          · have hf := if_f c10 hf
            refine lv_aload_n hx hb dX10_coin_66 rfl (lv_at hl 0 rfl) ?_
            refine GM_0_1 X h k_X10_7 dX10_coin_67 ?_
            refine lv_sipush (v := 8720) hx hb dX10_coin_70 (by decide) ?_
            refine lv_iconst (v := 2) hx hb dX10_coin_73 (by decide) ?_
            refine lv_iload_n hx hb dX10_coin_74 rfl (lv_at hl 2 rfl) ?_
            refine lv_imul hx hb dX10_coin_75 ?_
            refine lv_iadd hx hb dX10_coin_76 ?_
            refine lv_iconst (v := 1) hx hb dX10_coin_77 (by decide) ?_
            refine lv_iadd hx hb dX10_coin_78 ?_
            obtain ⟨c11, hf⟩ := chk_some hf
            refine LM_1 X h c11 dX10_coin_79 ?_
            refine lv_iload_n hx hb dX10_coin_80 rfl (lv_at hl 3 rfl) ?_
            refine lv_iadd hx hb dX10_coin_81 ?_
            refine lv_sipush (v := 1000) hx hb dX10_coin_82 (by decide) ?_
            refine lv_icmp_le (tgt := 91) hx hb dX10_coin_85 (by decide) (fun c12 => ?_) (fun c12 => ?_)
            · have hf := if_t c12 hf
              refine lv_aload_n hx hb dX10_coin_91 rfl (lv_at hl 0 rfl) ?_
              refine lv_sipush (v := 8720) hx hb dX10_coin_92 (by decide) ?_
              refine lv_iconst (v := 2) hx hb dX10_coin_95 (by decide) ?_
              refine lv_iload_n hx hb dX10_coin_96 rfl (lv_at hl 2 rfl) ?_
              refine lv_imul hx hb dX10_coin_97 ?_
              refine lv_iadd hx hb dX10_coin_98 ?_
              refine lv_iconst (v := 1) hx hb dX10_coin_99 (by decide) ?_
              refine lv_iadd hx hb dX10_coin_100 ?_
              refine lv_aload_n hx hb dX10_coin_101 rfl (lv_at hl 0 rfl) ?_
              refine GM_0_1 X h k_X10_7 dX10_coin_102 ?_
              refine lv_sipush (v := 8720) hx hb dX10_coin_105 (by decide) ?_
              refine lv_iconst (v := 2) hx hb dX10_coin_108 (by decide) ?_
              refine lv_iload_n hx hb dX10_coin_109 rfl (lv_at hl 2 rfl) ?_
              refine lv_imul hx hb dX10_coin_110 ?_
              refine lv_iadd hx hb dX10_coin_111 ?_
              refine lv_iconst (v := 1) hx hb dX10_coin_112 (by decide) ?_
              refine lv_iadd hx hb dX10_coin_113 ?_
              obtain ⟨c13, hf⟩ := chk_some hf
              refine LM_1 X h c13 dX10_coin_114 ?_
              refine lv_iload_n hx hb dX10_coin_115 rfl (lv_at hl 3 rfl) ?_
              refine lv_iadd hx hb dX10_coin_116 ?_
              obtain ⟨y14, ey14, hf⟩ := bnd_some hf
              refine k_X10_w X h hA ey14 k_X10_67 dX10_coin_117 hl.1 ⟨(Nat.le_of_ble_eq_true rfl), (Nat.le_of_ble_eq_true rfl)⟩ (Nat.le_of_ble_eq_true rfl) ⟨Nat.zero_le _, Nat.zero_le _⟩ (fun H locs h => ?_)
              refine lv_aload_n hx hb dX10_coin_120 rfl (lv_at hl 0 rfl) ?_
              refine lv_iload_n hx hb dX10_coin_121 rfl (lv_at hl 1 rfl) ?_
              refine lv_bipush (v := 14) hx hb dX10_coin_122 (by decide) ?_
              refine lv_iload_n hx hb dX10_coin_124 rfl (lv_at hl 2 rfl) ?_
              refine lv_iadd hx hb dX10_coin_125 ?_
              refine lv_aload_n hx hb dX10_coin_126 rfl (lv_at hl 0 rfl) ?_
              refine lv_iload_n hx hb dX10_coin_127 rfl (lv_at hl 1 rfl) ?_
              refine lv_bipush (v := 14) hx hb dX10_coin_128 (by decide) ?_
              refine lv_iload_n hx hb dX10_coin_130 rfl (lv_at hl 2 rfl) ?_
              refine lv_iadd hx hb dX10_coin_131 ?_
              obtain ⟨y15, ey15, hf⟩ := bnd_some hf
              refine k_X10_of X h ey15 k_X10_75 dX10_coin_132 hl.1 ⟨(Nat.le_of_ble_eq_true rfl), (Nat.le_of_ble_eq_true rfl)⟩ (Nat.le_of_ble_eq_true rfl) ⟨Nat.zero_le _, Nat.zero_le _⟩ ?_
              refine lv_iload_n hx hb dX10_coin_135 rfl (lv_at hl 3 rfl) ?_
              refine lv_iadd hx hb dX10_coin_136 ?_
              obtain ⟨y16, ey16, hf⟩ := bnd_some hf
              refine k_X10_let X h hA ey16 k_X10_113 dX10_coin_137 hl.1 ⟨(Nat.le_of_ble_eq_true rfl), (Nat.le_of_ble_eq_true rfl)⟩ (Nat.le_of_ble_eq_true rfl) ⟨Nat.zero_le _, Nat.zero_le _⟩ (fun H locs h => ?_)
              refine lv_aload_n hx hb dX10_coin_140 rfl (lv_at hl 0 rfl) ?_
              refine lv_sipush (v := 11346) hx hb dX10_coin_141 (by decide) ?_
              refine lv_aload_n hx hb dX10_coin_144 rfl (lv_at hl 0 rfl) ?_
              refine GM_0_1 X h k_X10_7 dX10_coin_145 ?_
              refine lv_sipush (v := 11346) hx hb dX10_coin_148 (by decide) ?_
              obtain ⟨c17, hf⟩ := chk_some hf
              refine LM_1 X h c17 dX10_coin_151 ?_
              refine lv_iload_n hx hb dX10_coin_152 rfl (lv_at hl 3 rfl) ?_
              refine lv_aload_n hx hb dX10_coin_153 rfl (lv_at hl 0 rfl) ?_
              refine GM_0_1 X h k_X10_7 dX10_coin_154 ?_
              refine lv_sipush (v := 8720) hx hb dX10_coin_157 (by decide) ?_
              refine lv_iconst (v := 2) hx hb dX10_coin_160 (by decide) ?_
              refine lv_iload_n hx hb dX10_coin_161 rfl (lv_at hl 2 rfl) ?_
              refine lv_imul hx hb dX10_coin_162 ?_
              refine lv_iadd hx hb dX10_coin_163 ?_
              obtain ⟨c18, hf⟩ := chk_some hf
              refine LM_1 X h c18 dX10_coin_164 ?_
              refine lv_imul hx hb dX10_coin_165 ?_
              refine lv_iadd hx hb dX10_coin_166 ?_
              obtain ⟨y19, ey19, hf⟩ := bnd_some hf
              refine k_X10_w X h hA ey19 k_X10_67 dX10_coin_167 hl.1 ⟨(Nat.le_of_ble_eq_true rfl), (Nat.le_of_ble_eq_true rfl)⟩ (Nat.le_of_ble_eq_true rfl) ⟨Nat.zero_le _, Nat.zero_le _⟩ (fun H locs h => ?_)
              refine lv_aload_n hx hb dX10_coin_170 rfl (lv_at hl 0 rfl) ?_
              refine lv_iload_n hx hb dX10_coin_171 rfl (lv_at hl 1 rfl) ?_
              obtain ⟨y20, ey20, hf⟩ := bnd_some hf
              refine k_X10_creditOf X h ey20 k_X10_123 dX10_coin_172 hl.1 ⟨(Nat.le_of_ble_eq_true rfl), (Nat.le_of_ble_eq_true rfl)⟩ (Nat.le_of_ble_eq_true rfl) ⟨Nat.zero_le _, Nat.zero_le _⟩ ?_
              exact e0_i (Wf := mw G) X.1 hr hlocks hf h dX10_coin_175
            · have hf := if_f c12 hf
              refine lv_bipush (v := (-4)) hx hb dX10_coin_88 (by decide) ?_
              exact e0_i (Wf := mw G) X.1 hr hlocks hf h dX10_coin_90
          · have hf := if_t c10 hf
            refine lv_aload_n hx hb dX10_coin_60 rfl (lv_at hl 0 rfl) ?_
            refine lv_iconst (v := 1) hx hb dX10_coin_61 (by decide) ?_
            obtain ⟨y21, ey21, hf⟩ := bnd_some hf
            refine k_X10_found X h hA ey21 k_X10_117 dX10_coin_62 hl.1 ⟨(Nat.le_of_ble_eq_true rfl), (Nat.le_of_ble_eq_true rfl)⟩ (Nat.le_of_ble_eq_true rfl) ⟨Nat.zero_le _, Nat.zero_le _⟩ (fun H locs h => ?_)
            exact e0_i (Wf := mw G) X.1 hr hlocks hf h dX10_coin_65
        · have hf := if_t c8 hf
          refine lv_bipush (v := (-3)) hx hb dX10_coin_49 (by decide) ?_
          exact e0_i (Wf := mw G) X.1 hr hlocks hf h dX10_coin_51
      · have hf := if_t c6 hf
        refine lv_bipush (v := (-2)) hx hb dX10_coin_31 (by decide) ?_
        exact e0_i (Wf := mw G) X.1 hr hlocks hf h dX10_coin_33
    · have hf := if_t c4 hf
      refine lv_iconst (v := (-1)) hx hb dX10_coin_19 (by decide) ?_
      exact e0_i (Wf := mw G) X.1 hr hlocks hf h dX10_coin_20
theorem m_X10_coin : Cond.instanceMethod yX10_coin ∈ lw_good ∧ Cond.selects RX10 yX10_coin yX10_coin ∈ lw_good ∧ Cond.initialized RX10 ∈ lw_good ∧ Cond.code yX10_coin cX10_coin 4 (some .int) ∈ lw_good := by decide +kernel
theorem k_X10_coin {p : Program} {l : Launch} {e : Env} {R : Room} {s : State} {m : MethodId} {args : Array Value} {below : List Frame} {meth : Method} {c : Code} {H : Heap} {locs : List Loc} {cells slots : Nat} {Q : State → Prop} {cc : ByteArray} {nL pc idx : Nat} {ls : Array Slot} {rest : List Value} {own : String} {G : Gm} {A : Nat → Prop} {H0 : Heap} {w : MW} {x1 : Int32} {x2 : Int32} {x3 : Int32} {y : Int32 × MW} (X : CX own cc nL G p s m args c) (h : CH G (mw G w) A H0 H locs) (hA : ∀ q, H0.size ≤ q → A q) (hf : f_X10_coin x1 x2 x3 w = some y) (hlk : Cond.methodLink own idx yX10_coin ∈ lw_good) (hd : decode cc pc = .ok (.invokevirtual idx, 3)) (hsz : ls.size = nL) (hR : 3 ≤ R.frames ∧ 68 ≤ R.locals) (hrest : (rest.map fun v => v.category).sum ≤ 8) (hk : cells ≤ R.cells ∧ slots ≤ R.slots) (k : ∀ (H : Heap) (locs : List Loc), CH G (mw G y.2) A H0 H locs → W p l e R s m args below meth c H locs cells slots Q (F0 m (pc + 3) ls (.int y.1 :: rest))) : W p l e R s m args below meth c H locs cells slots Q (F0 m pc ls (.int x3 :: .int x2 :: .int x1 :: .ref (gq G 0) :: rest)) :=
  fin_i (n := 0) (runV (As := [.int x1, .int x2, .int x3]) X.1 3 (t_X10_coin l G w x1 x2 x3 y.1 y.2 hf _) rfl rfl hlk m_X10_coin (by decide +kernel) ⟨hR.1, hR.2⟩ ⟨blindM, va_recv X.2.1 h.1 (ci := 9) (q0 := 0) rfl rfl, preM X.2 h⟩ rfl hsz hrest hd hk) h hA (fun _ H locs h => k H locs h)
def f_X10_giveBack_l8_body (kself : (Int32 → Int32 → Int32 → MW → Option (Int32 × MW))) (x1 : Int32) (x2 : Int32) (x3 : Int32) (w : MW) : Option (Int32 × MW) :=
 if ((12 : Int32)) ≤ x3 then
 (chk (inb ((11347 : Int32)) 11360) (
 (f_X10_w ((11347 : Int32)) ((w 1 ((11347 : Int32)).toNatClampNeg) + x2) w).bind fun y3 =>
 some (x2, y3)))
 else
 (chk (inb ((((8720 : Int32)) + (((2 : Int32)) * x3)) + ((1 : Int32))) 11360) (
 (f_X10_of x1 (((14 : Int32)) + x3) w).bind fun y5 =>
 (f_X10_w ((((8720 : Int32)) + (((2 : Int32)) * x3)) + ((1 : Int32))) ((w 1 ((((8720 : Int32)) + (((2 : Int32)) * x3)) + ((1 : Int32))).toNatClampNeg) - y5) w).bind fun y6 =>
 (f_X10_let x1 (((14 : Int32)) + x3) ((0 : Int32)) y6).bind fun y7 =>
 kself x1 x2 (x3 + (1 : Int32)) y7))
def f_X10_giveBack_l8 : Nat → Int32 → Int32 → Int32 → MW → Option (Int32 × MW)
  | 0, _, _, _, _ => none
  | n + 1, x1, x2, x3, w => f_X10_giveBack_l8_body (f_X10_giveBack_l8 n) x1 x2 x3 w
def f_X10_giveBack (x1 : Int32) (w : MW) : Option (Int32 × MW) :=
 (f_X10_creditOf x1 w).bind fun y8 =>
 f_X10_giveBack_l8 FU x1 y8 ((0 : Int32)) w
set_option maxHeartbeats 4000000 in
set_option maxRecDepth 100000 in
theorem t_X10_giveBack (l : Launch) (G : Gm) (w0 : MW) (x1 : Int32) (r : Int32) (w' : MW) (hf : f_X10_giveBack x1 w0 = some (r, w')) : MetI l yX10_giveBack cX10_giveBack 4 (some .int) 2 45 G (mw G w0) [.ref (gq G 0), .int x1] r (fun _ => mw G (w')) 0 := by
  intro sz
  refine ent (own := RX10) (As := [.ref (gq G 0), .int x1]) (by decide +kernel) rfl (Nat.le_of_ble_eq_true rfl) (fun _ _ h => h.1) ?_
  intro p e s m args below meth c ls B hr hlocks hv hl
  obtain ⟨-, hsz, hP, hKK, hD⟩ := hv
  subst hsz
  have X : CX RX10 cX10_giveBack 4 G p s m args c := ⟨B, hKK⟩
  obtain ⟨hx, hb, hml, hown, hts⟩ := id B
  have hA : ∀ q : Nat, s.heap.size ≤ q → va_A (mw G w0) s.heap.size q := fun q z => Or.inr z
  have h : CH G (mw G w0) (va_A (mw G w0) s.heap.size) s.heap s.heap [] := ⟨hP, hD.self, va_S.rf⟩
  have L8 : ∀ (n8 : Nat) (x1 : Int32) (x2 : Int32) (x3 : Int32) (w : MW) (H : Heap) (locs : List Loc) (ls : Array Slot), f_X10_giveBack_l8 n8 x1 x2 x3 w = some (r, w') → CH G (mw G w) (va_A (mw G w0) s.heap.size) s.heap H locs → lv_has ls 4 [(0, .ref (gq G 0)), (1, .int x1), (2, .int x2), (3, .int x3)] → W p l e { frames := 2, cells := 0, slots := 4096 * 0, locals := 45 } s m args below meth c H locs 0 (4096 * 0) (MQ below (QI G (mw G w0) s.heap.size r (fun _ => mw G (w'))) args s 0 (4096 * 0) (va_A (mw G w0) s.heap.size)) (F0 m 8 ls []) := by
    intro n8
    induction n8 with
    | zero =>
      intro x1 x2 x3 w H locs ls hf h hl
      cases (show (none : Option (Int32 × MW)) = some _ from hf)
    | succ n8 ih8 =>
      intro x1 x2 x3 w H locs ls hf h hl
      have hf : f_X10_giveBack_l8_body (f_X10_giveBack_l8 n8) x1 x2 x3 w = _ := hf
      unfold f_X10_giveBack_l8_body at hf
      refine lv_iload_n hx hb dX10_giveBack_8 rfl (lv_at hl 3 rfl) ?_
      refine lv_bipush (v := 12) hx hb dX10_giveBack_9 (by decide) ?_
      refine lv_icmp_ge (tgt := 67) hx hb dX10_giveBack_11 (by decide) (fun c1 => ?_) (fun c1 => ?_)
      · have hf := if_t c1 hf
        refine lv_aload_n hx hb dX10_giveBack_67 rfl (lv_at hl 0 rfl) ?_
        refine lv_sipush (v := 11347) hx hb dX10_giveBack_68 (by decide) ?_
        refine lv_aload_n hx hb dX10_giveBack_71 rfl (lv_at hl 0 rfl) ?_
        refine GM_0_1 X h k_X10_7 dX10_giveBack_72 ?_
        refine lv_sipush (v := 11347) hx hb dX10_giveBack_75 (by decide) ?_
        obtain ⟨c2, hf⟩ := chk_some hf
        refine LM_1 X h c2 dX10_giveBack_78 ?_
        refine lv_iload_n hx hb dX10_giveBack_79 rfl (lv_at hl 2 rfl) ?_
        refine lv_iadd hx hb dX10_giveBack_80 ?_
        obtain ⟨y3, ey3, hf⟩ := bnd_some hf
        refine k_X10_w X h hA ey3 k_X10_67 dX10_giveBack_81 hl.1 ⟨(Nat.le_of_ble_eq_true rfl), (Nat.le_of_ble_eq_true rfl)⟩ (Nat.le_of_ble_eq_true rfl) ⟨Nat.zero_le _, Nat.zero_le _⟩ (fun H locs h => ?_)
        refine lv_iload_n hx hb dX10_giveBack_84 rfl (lv_at hl 2 rfl) ?_
        exact e0_i (Wf := mw G) X.1 hr hlocks hf h dX10_giveBack_85
      · have hf := if_f c1 hf
        refine lv_aload_n hx hb dX10_giveBack_14 rfl (lv_at hl 0 rfl) ?_
        refine lv_sipush (v := 8720) hx hb dX10_giveBack_15 (by decide) ?_
        refine lv_iconst (v := 2) hx hb dX10_giveBack_18 (by decide) ?_
        refine lv_iload_n hx hb dX10_giveBack_19 rfl (lv_at hl 3 rfl) ?_
        refine lv_imul hx hb dX10_giveBack_20 ?_
        refine lv_iadd hx hb dX10_giveBack_21 ?_
        refine lv_iconst (v := 1) hx hb dX10_giveBack_22 (by decide) ?_
        refine lv_iadd hx hb dX10_giveBack_23 ?_
        refine lv_aload_n hx hb dX10_giveBack_24 rfl (lv_at hl 0 rfl) ?_
        refine GM_0_1 X h k_X10_7 dX10_giveBack_25 ?_
        refine lv_sipush (v := 8720) hx hb dX10_giveBack_28 (by decide) ?_
        refine lv_iconst (v := 2) hx hb dX10_giveBack_31 (by decide) ?_
        refine lv_iload_n hx hb dX10_giveBack_32 rfl (lv_at hl 3 rfl) ?_
        refine lv_imul hx hb dX10_giveBack_33 ?_
        refine lv_iadd hx hb dX10_giveBack_34 ?_
        refine lv_iconst (v := 1) hx hb dX10_giveBack_35 (by decide) ?_
        refine lv_iadd hx hb dX10_giveBack_36 ?_
        obtain ⟨c4, hf⟩ := chk_some hf
        refine LM_1 X h c4 dX10_giveBack_37 ?_
        refine lv_aload_n hx hb dX10_giveBack_38 rfl (lv_at hl 0 rfl) ?_
        refine lv_iload_n hx hb dX10_giveBack_39 rfl (lv_at hl 1 rfl) ?_
        refine lv_bipush (v := 14) hx hb dX10_giveBack_40 (by decide) ?_
        refine lv_iload_n hx hb dX10_giveBack_42 rfl (lv_at hl 3 rfl) ?_
        refine lv_iadd hx hb dX10_giveBack_43 ?_
        obtain ⟨y5, ey5, hf⟩ := bnd_some hf
        refine k_X10_of X h ey5 k_X10_75 dX10_giveBack_44 hl.1 ⟨(Nat.le_of_ble_eq_true rfl), (Nat.le_of_ble_eq_true rfl)⟩ (Nat.le_of_ble_eq_true rfl) ⟨Nat.zero_le _, Nat.zero_le _⟩ ?_
        refine lv_isub hx hb dX10_giveBack_47 ?_
        obtain ⟨y6, ey6, hf⟩ := bnd_some hf
        refine k_X10_w X h hA ey6 k_X10_67 dX10_giveBack_48 hl.1 ⟨(Nat.le_of_ble_eq_true rfl), (Nat.le_of_ble_eq_true rfl)⟩ (Nat.le_of_ble_eq_true rfl) ⟨Nat.zero_le _, Nat.zero_le _⟩ (fun H locs h => ?_)
        refine lv_aload_n hx hb dX10_giveBack_51 rfl (lv_at hl 0 rfl) ?_
        refine lv_iload_n hx hb dX10_giveBack_52 rfl (lv_at hl 1 rfl) ?_
        refine lv_bipush (v := 14) hx hb dX10_giveBack_53 (by decide) ?_
        refine lv_iload_n hx hb dX10_giveBack_55 rfl (lv_at hl 3 rfl) ?_
        refine lv_iadd hx hb dX10_giveBack_56 ?_
        refine lv_iconst (v := 0) hx hb dX10_giveBack_57 (by decide) ?_
        obtain ⟨y7, ey7, hf⟩ := bnd_some hf
        refine k_X10_let X h hA ey7 k_X10_113 dX10_giveBack_58 hl.1 ⟨(Nat.le_of_ble_eq_true rfl), (Nat.le_of_ble_eq_true rfl)⟩ (Nat.le_of_ble_eq_true rfl) ⟨Nat.zero_le _, Nat.zero_le _⟩ (fun H locs h => ?_)
        refine lv_iinc (v := x3 + (1 : Int32)) (lv' := [(3, .int (x3 + (1 : Int32))), (0, .ref (gq G 0)), (1, .int x1), (2, .int x2)]) hx hb dX10_giveBack_61 hl (k := 3) rfl (by rfl) (by decide) rfl (fun ls hl => ?_)
        refine lv_goto (tgt := 8) hx hb dX10_giveBack_64 (by decide) ?_
        exact ih8 _ _ _ _ _ _ _ hf h (lv_sub hl [1, 2, 3, 0] rfl)
  obtain ⟨w, rfl⟩ : ∃ z, z = w0 := ⟨_, rfl⟩
  have hl : lv_has ls 4 [(0, .ref (gq G 0)), (1, .int x1)] := hl
  unfold f_X10_giveBack at hf
  refine lv_aload_n hx hb dX10_giveBack_0 rfl (lv_at hl 0 rfl) ?_
  refine lv_iload_n hx hb dX10_giveBack_1 rfl (lv_at hl 1 rfl) ?_
  obtain ⟨y8, ey8, hf⟩ := bnd_some hf
  refine k_X10_creditOf X h ey8 k_X10_123 dX10_giveBack_2 hl.1 ⟨(Nat.le_of_ble_eq_true rfl), (Nat.le_of_ble_eq_true rfl)⟩ (Nat.le_of_ble_eq_true rfl) ⟨Nat.zero_le _, Nat.zero_le _⟩ ?_
  refine lv_istore_n (lv' := [(2, .int y8), (0, .ref (gq G 0)), (1, .int x1)]) hx hb dX10_giveBack_5 rfl hl (by decide) rfl (fun ls hl => ?_)
  refine lv_iconst (v := 0) hx hb dX10_giveBack_6 (by decide) ?_
  refine lv_istore_n (lv' := [(3, .int ((0 : Int32))), (2, .int y8), (0, .ref (gq G 0)), (1, .int x1)]) hx hb dX10_giveBack_7 rfl hl (by decide) rfl (fun ls hl => ?_)
  exact L8 FU _ _ _ _ _ _ _ hf h (lv_sub hl [2, 3, 1, 0] rfl)
theorem m_X10_giveBack : Cond.instanceMethod yX10_giveBack ∈ lw_good ∧ Cond.selects RX10 yX10_giveBack yX10_giveBack ∈ lw_good ∧ Cond.initialized RX10 ∈ lw_good ∧ Cond.code yX10_giveBack cX10_giveBack 4 (some .int) ∈ lw_good := by decide +kernel
theorem k_X10_giveBack {p : Program} {l : Launch} {e : Env} {R : Room} {s : State} {m : MethodId} {args : Array Value} {below : List Frame} {meth : Method} {c : Code} {H : Heap} {locs : List Loc} {cells slots : Nat} {Q : State → Prop} {cc : ByteArray} {nL pc idx : Nat} {ls : Array Slot} {rest : List Value} {own : String} {G : Gm} {A : Nat → Prop} {H0 : Heap} {w : MW} {x1 : Int32} {y : Int32 × MW} (X : CX own cc nL G p s m args c) (h : CH G (mw G w) A H0 H locs) (hA : ∀ q, H0.size ≤ q → A q) (hf : f_X10_giveBack x1 w = some y) (hlk : Cond.methodLink own idx yX10_giveBack ∈ lw_good) (hd : decode cc pc = .ok (.invokevirtual idx, 3)) (hsz : ls.size = nL) (hR : 3 ≤ R.frames ∧ 68 ≤ R.locals) (hrest : (rest.map fun v => v.category).sum ≤ 8) (hk : cells ≤ R.cells ∧ slots ≤ R.slots) (k : ∀ (H : Heap) (locs : List Loc), CH G (mw G y.2) A H0 H locs → W p l e R s m args below meth c H locs cells slots Q (F0 m (pc + 3) ls (.int y.1 :: rest))) : W p l e R s m args below meth c H locs cells slots Q (F0 m pc ls (.int x1 :: .ref (gq G 0) :: rest)) :=
  fin_i (n := 0) (runV (As := [.int x1]) X.1 1 (t_X10_giveBack l G w x1 y.1 y.2 hf _) rfl rfl hlk m_X10_giveBack (by decide +kernel) ⟨hR.1, hR.2⟩ ⟨blindM, va_recv X.2.1 h.1 (ci := 9) (q0 := 0) rfl rfl, preM X.2 h⟩ rfl hsz hrest hd hk) h hA (fun _ H locs h => k H locs h)
def f_X10_orderTubes_b176 (k7 : (Int32 → Int32 → MW → Option MW)) (x1 : Int32) (x2 : Int32) (w : MW) : Option MW :=
 k7 x1 (x2 + (1 : Int32)) w
def f_X10_orderTubes_b159 (k7 : (Int32 → Int32 → MW → Option MW)) (x1 : Int32) (x2 : Int32) (x3 : Int32) (w : MW) : Option MW :=
 chk (inb x3 12) (
 (some (mst (mst w 8 x3.toNatClampNeg x2) 0 15 (((mst w 8 x3.toNatClampNeg x2) 0 15) + ((1 : Int32))))).bind fun w2 =>
 f_X10_orderTubes_b176 k7 x1 x2 w2)
def f_X10_orderTubes_l101_body (k7 : (Int32 → Int32 → MW → Option MW)) (kself : (Int32 → Int32 → Int32 → MW → Option MW)) (x1 : Int32) (x2 : Int32) (x3 : Int32) (w : MW) : Option MW :=
 if x3 ≤ 0 then
 (f_X10_orderTubes_b159 k7 x1 x2 x3 w)
 else
 (chk (inb (x3 - ((1 : Int32))) 12) (
 chk (inb (((8720 : Int32)) + (((2 : Int32)) * (w 8 (x3 - ((1 : Int32))).toNatClampNeg))) 11360) (
 chk (inb (((8720 : Int32)) + (((2 : Int32)) * x2)) 11360) (
 if (w 1 (((8720 : Int32)) + (((2 : Int32)) * x2)).toNatClampNeg) ≤ (w 1 (((8720 : Int32)) + (((2 : Int32)) * (w 8 (x3 - ((1 : Int32))).toNatClampNeg))).toNatClampNeg) then
 (f_X10_orderTubes_b159 k7 x1 x2 x3 w)
 else
 (chk (inb (x3 - ((1 : Int32))) 12) (
 chk (inb x3 12) (
 kself x1 x2 (x3 + (-1 : Int32)) (mst w 8 x3.toNatClampNeg (w 8 (x3 - ((1 : Int32))).toNatClampNeg)))))))))
def f_X10_orderTubes_l101 (k7 : (Int32 → Int32 → MW → Option MW)) : Nat → Int32 → Int32 → Int32 → MW → Option MW
  | 0, _, _, _, _ => none
  | n + 1, x1, x2, x3, w => f_X10_orderTubes_l101_body k7 (f_X10_orderTubes_l101 k7 n) x1 x2 x3 w
def f_X10_orderTubes_b66 (k7 : (Int32 → Int32 → MW → Option MW)) (k35 : (Int32 → Int32 → Int32 → MW → Option MW)) (x1 : Int32) (x2 : Int32) (x3 : Int32) (xs1 : Int32) (xs2 : Int32) (xs3 : Int32) (w : MW) : Option MW :=
 chk (inb xs1 12) (
 k35 x1 x2 (x3 + (1 : Int32)) (mst w 10 xs1.toNatClampNeg (xs2 - xs3)))
def f_X10_orderTubes_l35_body (k7 : (Int32 → Int32 → MW → Option MW)) (kself : (Int32 → Int32 → Int32 → MW → Option MW)) (x1 : Int32) (x2 : Int32) (x3 : Int32) (w : MW) : Option MW :=
 if ((60 : Int32)) ≤ x3 then
 (chk (inb x2 12) (
 chk (inb (((8720 : Int32)) + (((2 : Int32)) * x2)) 11360) (
 if ((mst w 11 x2.toNatClampNeg ((0 : Int32))) 1 (((8720 : Int32)) + (((2 : Int32)) * x2)).toNatClampNeg) ≤ 0 then
 (f_X10_orderTubes_b176 k7 x1 x2 (mst w 11 x2.toNatClampNeg ((0 : Int32))))
 else
 (f_X10_orderTubes_l101 k7 FU x1 x2 ((mst w 11 x2.toNatClampNeg ((0 : Int32))) 0 15) (mst w 11 x2.toNatClampNeg ((0 : Int32)))))))
 else
 (chk (inb x2 12) (
 if x3 = x1 then
 (f_X10_orderTubes_b66 k7 kself x1 x2 x3 x2 (w 10 x2.toNatClampNeg) ((0 : Int32)) w)
 else
 ((f_X10_of x3 (((14 : Int32)) + x2) w).bind fun y17 =>
 f_X10_orderTubes_b66 k7 kself x1 x2 x3 x2 (w 10 x2.toNatClampNeg) y17 w)))
def f_X10_orderTubes_l35 (k7 : (Int32 → Int32 → MW → Option MW)) : Nat → Int32 → Int32 → Int32 → MW → Option MW
  | 0, _, _, _, _ => none
  | n + 1, x1, x2, x3, w => f_X10_orderTubes_l35_body k7 (f_X10_orderTubes_l35 k7 n) x1 x2 x3 w
def f_X10_orderTubes_l7_body (kself : (Int32 → Int32 → MW → Option MW)) (x1 : Int32) (x2 : Int32) (w : MW) : Option MW :=
 if ((12 : Int32)) ≤ x2 then
 (some w)
 else
 (chk (inb ((((8720 : Int32)) + (((2 : Int32)) * x2)) + ((1 : Int32))) 11360) (
 chk (inb x2 12) (
 (some (mst w 10 x2.toNatClampNeg (w 1 ((((8720 : Int32)) + (((2 : Int32)) * x2)) + ((1 : Int32))).toNatClampNeg))).bind fun w21 =>
 f_X10_orderTubes_l35 kself FU x1 x2 ((0 : Int32)) w21)))
def f_X10_orderTubes_l7 : Nat → Int32 → Int32 → MW → Option MW
  | 0, _, _, _ => none
  | n + 1, x1, x2, w => f_X10_orderTubes_l7_body (f_X10_orderTubes_l7 n) x1 x2 w
def f_X10_orderTubes (x1 : Int32) (w : MW) : Option MW :=
 f_X10_orderTubes_l7 FU x1 ((0 : Int32)) (mst w 0 15 ((0 : Int32)))
set_option maxHeartbeats 4000000 in
set_option maxRecDepth 100000 in
theorem t_X10_orderTubes (l : Launch) (G : Gm) (w0 : MW) (x1 : Int32) (w' : MW) (hf : f_X10_orderTubes x1 w0 = some w') : MetV l yX10_orderTubes cX10_orderTubes 4 1 22 G (mw G w0) [.ref (gq G 0), .int x1] (fun _ => mw G (w')) 0 := by
  intro sz
  refine ent (own := RX10) (As := [.ref (gq G 0), .int x1]) (by decide +kernel) rfl (Nat.le_of_ble_eq_true rfl) (fun _ _ h => h.1) ?_
  intro p e s m args below meth c ls B hr hlocks hv hl
  obtain ⟨-, hsz, hP, hKK, hD⟩ := hv
  subst hsz
  have X : CX RX10 cX10_orderTubes 4 G p s m args c := ⟨B, hKK⟩
  obtain ⟨hx, hb, hml, hown, hts⟩ := id B
  have hA : ∀ q : Nat, s.heap.size ≤ q → va_A (mw G w0) s.heap.size q := fun q z => Or.inr z
  have h : CH G (mw G w0) (va_A (mw G w0) s.heap.size) s.heap s.heap [] := ⟨hP, hD.self, va_S.rf⟩
  have L7 : ∀ (n7 : Nat) (x1 : Int32) (x2 : Int32) (w : MW) (H : Heap) (locs : List Loc) (ls : Array Slot), f_X10_orderTubes_l7 n7 x1 x2 w = some w' → CH G (mw G w) (va_A (mw G w0) s.heap.size) s.heap H locs → lv_has ls 4 [(0, .ref (gq G 0)), (1, .int x1), (2, .int x2)] → W p l e { frames := 1, cells := 0, slots := 4096 * 0, locals := 22 } s m args below meth c H locs 0 (4096 * 0) (MQ below (QV G (mw G w0) s.heap.size (fun _ => mw G (w'))) args s 0 (4096 * 0) (va_A (mw G w0) s.heap.size)) (F0 m 7 ls []) := by
    intro n7
    induction n7 with
    | zero =>
      intro x1 x2 w H locs ls hf h hl
      cases (show (none : Option MW) = some _ from hf)
    | succ n7 ih7 =>
      have J176 : ∀ (x1 : Int32) (x2 : Int32) (w : MW) (H : Heap) (locs : List Loc) (ls : Array Slot), f_X10_orderTubes_b176 (f_X10_orderTubes_l7 n7) x1 x2 w = some w' → CH G (mw G w) (va_A (mw G w0) s.heap.size) s.heap H locs → lv_has ls 4 [(0, .ref (gq G 0)), (1, .int x1), (2, .int x2)] → W p l e { frames := 1, cells := 0, slots := 4096 * 0, locals := 22 } s m args below meth c H locs 0 (4096 * 0) (MQ below (QV G (mw G w0) s.heap.size (fun _ => mw G (w'))) args s 0 (4096 * 0) (va_A (mw G w0) s.heap.size)) (F0 m 176 ls []) := by
        intro x1 x2 w H locs ls hf h hl
        unfold f_X10_orderTubes_b176 at hf
        refine lv_iinc (v := x2 + (1 : Int32)) (lv' := [(2, .int (x2 + (1 : Int32))), (0, .ref (gq G 0)), (1, .int x1)]) hx hb dX10_orderTubes_176 hl (k := 2) rfl (by rfl) (by decide) rfl (fun ls hl => ?_)
        refine lv_goto (tgt := 7) hx hb dX10_orderTubes_179 (by decide) ?_
        exact ih7 _ _ _ _ _ _ hf h (lv_sub hl [1, 2, 0] rfl)
      have J159 : ∀ (x1 : Int32) (x2 : Int32) (x3 : Int32) (w : MW) (H : Heap) (locs : List Loc) (ls : Array Slot), f_X10_orderTubes_b159 (f_X10_orderTubes_l7 n7) x1 x2 x3 w = some w' → CH G (mw G w) (va_A (mw G w0) s.heap.size) s.heap H locs → lv_has ls 4 [(0, .ref (gq G 0)), (1, .int x1), (2, .int x2), (3, .int x3)] → W p l e { frames := 1, cells := 0, slots := 4096 * 0, locals := 22 } s m args below meth c H locs 0 (4096 * 0) (MQ below (QV G (mw G w0) s.heap.size (fun _ => mw G (w'))) args s 0 (4096 * 0) (va_A (mw G w0) s.heap.size)) (F0 m 159 ls []) := by
        intro x1 x2 x3 w H locs ls hf h hl
        unfold f_X10_orderTubes_b159 at hf
        refine lv_aload_n hx hb dX10_orderTubes_159 rfl (lv_at hl 0 rfl) ?_
        refine GM_0_14 X h k_X10_32 dX10_orderTubes_160 ?_
        refine lv_iload_n hx hb dX10_orderTubes_163 rfl (lv_at hl 3 rfl) ?_
        refine lv_iload_n hx hb dX10_orderTubes_164 rfl (lv_at hl 2 rfl) ?_
        obtain ⟨c1, hf⟩ := chk_some hf
        refine SM_8 X h c1 dX10_orderTubes_165 (fun H locs h => ?_)
        refine lv_aload_n hx hb dX10_orderTubes_166 rfl (lv_at hl 0 rfl) ?_
        refine lv_dup hx hb dX10_orderTubes_167 rfl ?_
        refine GM_0_15 X h k_X10_138 dX10_orderTubes_168 ?_
        refine lv_iconst (v := 1) hx hb dX10_orderTubes_171 (by decide) ?_
        refine lv_iadd hx hb dX10_orderTubes_172 ?_
        refine PM_0_15 X h k_X10_138 dX10_orderTubes_173 (fun H locs h => ?_)
        obtain ⟨w2, ew2, hf⟩ := bnd_some hf
        have h := (Option.some.inj ew2) ▸ h
        exact J176 _ _ _ _ _ _ hf h (lv_sub hl [0, 1, 2] rfl)
      have L101 : ∀ (n101 : Nat) (x1 : Int32) (x2 : Int32) (x3 : Int32) (w : MW) (H : Heap) (locs : List Loc) (ls : Array Slot), f_X10_orderTubes_l101 (f_X10_orderTubes_l7 n7) n101 x1 x2 x3 w = some w' → CH G (mw G w) (va_A (mw G w0) s.heap.size) s.heap H locs → lv_has ls 4 [(0, .ref (gq G 0)), (1, .int x1), (2, .int x2), (3, .int x3)] → W p l e { frames := 1, cells := 0, slots := 4096 * 0, locals := 22 } s m args below meth c H locs 0 (4096 * 0) (MQ below (QV G (mw G w0) s.heap.size (fun _ => mw G (w'))) args s 0 (4096 * 0) (va_A (mw G w0) s.heap.size)) (F0 m 101 ls []) := by
        intro n101
        induction n101 with
        | zero =>
          intro x1 x2 x3 w H locs ls hf h hl
          cases (show (none : Option MW) = some _ from hf)
        | succ n101 ih101 =>
          intro x1 x2 x3 w H locs ls hf h hl
          have hf : f_X10_orderTubes_l101_body (f_X10_orderTubes_l7 n7) (f_X10_orderTubes_l101 (f_X10_orderTubes_l7 n7) n101) x1 x2 x3 w = _ := hf
          unfold f_X10_orderTubes_l101_body at hf
          refine lv_iload_n hx hb dX10_orderTubes_101 rfl (lv_at hl 3 rfl) ?_
          refine lv_if_le (tgt := 159) hx hb dX10_orderTubes_102 (by decide) (fun c3 => ?_) (fun c3 => ?_)
          · have hf := if_t c3 hf
            exact J159 _ _ _ _ _ _ _ hf h (lv_sub hl [0, 1, 2, 3] rfl)
          · have hf := if_f c3 hf
            refine lv_aload_n hx hb dX10_orderTubes_105 rfl (lv_at hl 0 rfl) ?_
            refine GM_0_1 X h k_X10_7 dX10_orderTubes_106 ?_
            refine lv_sipush (v := 8720) hx hb dX10_orderTubes_109 (by decide) ?_
            refine lv_iconst (v := 2) hx hb dX10_orderTubes_112 (by decide) ?_
            refine lv_aload_n hx hb dX10_orderTubes_113 rfl (lv_at hl 0 rfl) ?_
            refine GM_0_14 X h k_X10_32 dX10_orderTubes_114 ?_
            refine lv_iload_n hx hb dX10_orderTubes_117 rfl (lv_at hl 3 rfl) ?_
            refine lv_iconst (v := 1) hx hb dX10_orderTubes_118 (by decide) ?_
            refine lv_isub hx hb dX10_orderTubes_119 ?_
            obtain ⟨c4, hf⟩ := chk_some hf
            refine LM_8 X h c4 dX10_orderTubes_120 ?_
            refine lv_imul hx hb dX10_orderTubes_121 ?_
            refine lv_iadd hx hb dX10_orderTubes_122 ?_
            obtain ⟨c5, hf⟩ := chk_some hf
            refine LM_1 X h c5 dX10_orderTubes_123 ?_
            refine lv_aload_n hx hb dX10_orderTubes_124 rfl (lv_at hl 0 rfl) ?_
            refine GM_0_1 X h k_X10_7 dX10_orderTubes_125 ?_
            refine lv_sipush (v := 8720) hx hb dX10_orderTubes_128 (by decide) ?_
            refine lv_iconst (v := 2) hx hb dX10_orderTubes_131 (by decide) ?_
            refine lv_iload_n hx hb dX10_orderTubes_132 rfl (lv_at hl 2 rfl) ?_
            refine lv_imul hx hb dX10_orderTubes_133 ?_
            refine lv_iadd hx hb dX10_orderTubes_134 ?_
            obtain ⟨c6, hf⟩ := chk_some hf
            refine LM_1 X h c6 dX10_orderTubes_135 ?_
            refine lv_icmp_ge (tgt := 159) hx hb dX10_orderTubes_136 (by decide) (fun c7 => ?_) (fun c7 => ?_)
            · have hf := if_t c7 hf
              exact J159 _ _ _ _ _ _ _ hf h (lv_sub hl [0, 1, 2, 3] rfl)
            · have hf := if_f c7 hf
              refine lv_aload_n hx hb dX10_orderTubes_139 rfl (lv_at hl 0 rfl) ?_
              refine GM_0_14 X h k_X10_32 dX10_orderTubes_140 ?_
              refine lv_iload_n hx hb dX10_orderTubes_143 rfl (lv_at hl 3 rfl) ?_
              refine lv_aload_n hx hb dX10_orderTubes_144 rfl (lv_at hl 0 rfl) ?_
              refine GM_0_14 X h k_X10_32 dX10_orderTubes_145 ?_
              refine lv_iload_n hx hb dX10_orderTubes_148 rfl (lv_at hl 3 rfl) ?_
              refine lv_iconst (v := 1) hx hb dX10_orderTubes_149 (by decide) ?_
              refine lv_isub hx hb dX10_orderTubes_150 ?_
              obtain ⟨c8, hf⟩ := chk_some hf
              refine LM_8 X h c8 dX10_orderTubes_151 ?_
              obtain ⟨c9, hf⟩ := chk_some hf
              refine SM_8 X h c9 dX10_orderTubes_152 (fun H locs h => ?_)
              refine lv_iinc (v := x3 + (-1 : Int32)) (lv' := [(3, .int (x3 + (-1 : Int32))), (0, .ref (gq G 0)), (1, .int x1), (2, .int x2)]) hx hb dX10_orderTubes_153 hl (k := 3) rfl (by rfl) (by decide) rfl (fun ls hl => ?_)
              refine lv_goto (tgt := 101) hx hb dX10_orderTubes_156 (by decide) ?_
              exact ih101 _ _ _ _ _ _ _ hf h (lv_sub hl [1, 2, 3, 0] rfl)
      have L35 : ∀ (n35 : Nat) (x1 : Int32) (x2 : Int32) (x3 : Int32) (w : MW) (H : Heap) (locs : List Loc) (ls : Array Slot), f_X10_orderTubes_l35 (f_X10_orderTubes_l7 n7) n35 x1 x2 x3 w = some w' → CH G (mw G w) (va_A (mw G w0) s.heap.size) s.heap H locs → lv_has ls 4 [(0, .ref (gq G 0)), (1, .int x1), (2, .int x2), (3, .int x3)] → W p l e { frames := 1, cells := 0, slots := 4096 * 0, locals := 22 } s m args below meth c H locs 0 (4096 * 0) (MQ below (QV G (mw G w0) s.heap.size (fun _ => mw G (w'))) args s 0 (4096 * 0) (va_A (mw G w0) s.heap.size)) (F0 m 35 ls []) := by
        intro n35
        induction n35 with
        | zero =>
          intro x1 x2 x3 w H locs ls hf h hl
          cases (show (none : Option MW) = some _ from hf)
        | succ n35 ih35 =>
          have J66 : ∀ (x1 : Int32) (x2 : Int32) (x3 : Int32) (xs1 : Int32) (xs2 : Int32) (xs3 : Int32) (w : MW) (H : Heap) (locs : List Loc) (ls : Array Slot), f_X10_orderTubes_b66 (f_X10_orderTubes_l7 n7) (f_X10_orderTubes_l35 (f_X10_orderTubes_l7 n7) n35) x1 x2 x3 xs1 xs2 xs3 w = some w' → CH G (mw G w) (va_A (mw G w0) s.heap.size) s.heap H locs → lv_has ls 4 [(0, .ref (gq G 0)), (1, .int x1), (2, .int x2), (3, .int x3)] → W p l e { frames := 1, cells := 0, slots := 4096 * 0, locals := 22 } s m args below meth c H locs 0 (4096 * 0) (MQ below (QV G (mw G w0) s.heap.size (fun _ => mw G (w'))) args s 0 (4096 * 0) (va_A (mw G w0) s.heap.size)) (F0 m 66 ls [.int xs3, .int xs2, .int xs1, .ref (gq G 10)]) := by
            intro x1 x2 x3 xs1 xs2 xs3 w H locs ls hf h hl
            unfold f_X10_orderTubes_b66 at hf
            refine lv_isub hx hb dX10_orderTubes_66 ?_
            obtain ⟨c10, hf⟩ := chk_some hf
            refine SM_10 X h c10 dX10_orderTubes_67 (fun H locs h => ?_)
            refine lv_iinc (v := x3 + (1 : Int32)) (lv' := [(3, .int (x3 + (1 : Int32))), (0, .ref (gq G 0)), (1, .int x1), (2, .int x2)]) hx hb dX10_orderTubes_68 hl (k := 3) rfl (by rfl) (by decide) rfl (fun ls hl => ?_)
            refine lv_goto (tgt := 35) hx hb dX10_orderTubes_71 (by decide) ?_
            exact ih35 _ _ _ _ _ _ _ hf h (lv_sub hl [1, 2, 3, 0] rfl)
          intro x1 x2 x3 w H locs ls hf h hl
          have hf : f_X10_orderTubes_l35_body (f_X10_orderTubes_l7 n7) (f_X10_orderTubes_l35 (f_X10_orderTubes_l7 n7) n35) x1 x2 x3 w = _ := hf
          unfold f_X10_orderTubes_l35_body at hf
          refine lv_iload_n hx hb dX10_orderTubes_35 rfl (lv_at hl 3 rfl) ?_
          refine lv_bipush (v := 60) hx hb dX10_orderTubes_36 (by decide) ?_
          refine lv_icmp_ge (tgt := 74) hx hb dX10_orderTubes_38 (by decide) (fun c11 => ?_) (fun c11 => ?_)
          · have hf := if_t c11 hf
            refine lv_aload_n hx hb dX10_orderTubes_74 rfl (lv_at hl 0 rfl) ?_
            refine GM_0_18 X h k_X10_41 dX10_orderTubes_75 ?_
            refine lv_iload_n hx hb dX10_orderTubes_78 rfl (lv_at hl 2 rfl) ?_
            refine lv_iconst (v := 0) hx hb dX10_orderTubes_79 (by decide) ?_
            obtain ⟨c12, hf⟩ := chk_some hf
            refine SM_11 X h c12 dX10_orderTubes_80 (fun H locs h => ?_)
            refine lv_aload_n hx hb dX10_orderTubes_81 rfl (lv_at hl 0 rfl) ?_
            refine GM_0_1 X h k_X10_7 dX10_orderTubes_82 ?_
            refine lv_sipush (v := 8720) hx hb dX10_orderTubes_85 (by decide) ?_
            refine lv_iconst (v := 2) hx hb dX10_orderTubes_88 (by decide) ?_
            refine lv_iload_n hx hb dX10_orderTubes_89 rfl (lv_at hl 2 rfl) ?_
            refine lv_imul hx hb dX10_orderTubes_90 ?_
            refine lv_iadd hx hb dX10_orderTubes_91 ?_
            obtain ⟨c13, hf⟩ := chk_some hf
            refine LM_1 X h c13 dX10_orderTubes_92 ?_
            refine lv_if_le (tgt := 176) hx hb dX10_orderTubes_93 (by decide) (fun c14 => ?_) (fun c14 => ?_)
            · have hf := if_t c14 hf
              exact J176 _ _ _ _ _ _ hf h (lv_sub hl [0, 1, 2] rfl)
            · have hf := if_f c14 hf
              refine lv_aload_n hx hb dX10_orderTubes_96 rfl (lv_at hl 0 rfl) ?_
              refine GM_0_15 X h k_X10_138 dX10_orderTubes_97 ?_
              refine lv_istore_n (lv' := [(3, .int ((mst w 11 x2.toNatClampNeg ((0 : Int32))) 0 15)), (0, .ref (gq G 0)), (1, .int x1), (2, .int x2)]) hx hb dX10_orderTubes_100 rfl hl (by decide) rfl (fun ls hl => ?_)
              exact L101 FU _ _ _ _ _ _ _ hf h (lv_sub hl [1, 2, 3, 0] rfl)
          · have hf := if_f c11 hf
            refine lv_aload_n hx hb dX10_orderTubes_41 rfl (lv_at hl 0 rfl) ?_
            refine GM_0_17 X h k_X10_38 dX10_orderTubes_42 ?_
            refine lv_iload_n hx hb dX10_orderTubes_45 rfl (lv_at hl 2 rfl) ?_
            refine lv_dup2_11 hx hb dX10_orderTubes_46 rfl rfl ?_
            obtain ⟨c15, hf⟩ := chk_some hf
            refine LM_10 X h c15 dX10_orderTubes_47 ?_
            refine lv_iload_n hx hb dX10_orderTubes_48 rfl (lv_at hl 3 rfl) ?_
            refine lv_iload_n hx hb dX10_orderTubes_49 rfl (lv_at hl 1 rfl) ?_
            refine lv_icmp_ne (tgt := 57) hx hb dX10_orderTubes_50 (by decide) (fun c16 => ?_) (fun c16 => ?_)
            · have hf := if_f c16 hf
              refine lv_aload_n hx hb dX10_orderTubes_57 rfl (lv_at hl 0 rfl) ?_
              refine lv_iload_n hx hb dX10_orderTubes_58 rfl (lv_at hl 3 rfl) ?_
              refine lv_bipush (v := 14) hx hb dX10_orderTubes_59 (by decide) ?_
              refine lv_iload_n hx hb dX10_orderTubes_61 rfl (lv_at hl 2 rfl) ?_
              refine lv_iadd hx hb dX10_orderTubes_62 ?_
              obtain ⟨y17, ey17, hf⟩ := bnd_some hf
              refine k_X10_of X h ey17 k_X10_75 dX10_orderTubes_63 hl.1 ⟨(Nat.le_of_ble_eq_true rfl), (Nat.le_of_ble_eq_true rfl)⟩ (Nat.le_of_ble_eq_true rfl) ⟨Nat.zero_le _, Nat.zero_le _⟩ ?_
              exact J66 _ _ _ _ _ _ _ _ _ _ hf h (lv_sub hl [0, 1, 2, 3] rfl)
            · have hf := if_t c16 hf
              refine lv_iconst (v := 0) hx hb dX10_orderTubes_53 (by decide) ?_
              refine lv_goto (tgt := 66) hx hb dX10_orderTubes_54 (by decide) ?_
              exact J66 _ _ _ _ _ _ _ _ _ _ hf h (lv_sub hl [0, 1, 2, 3] rfl)
      intro x1 x2 w H locs ls hf h hl
      have hf : f_X10_orderTubes_l7_body (f_X10_orderTubes_l7 n7) x1 x2 w = _ := hf
      unfold f_X10_orderTubes_l7_body at hf
      refine lv_iload_n hx hb dX10_orderTubes_7 rfl (lv_at hl 2 rfl) ?_
      refine lv_bipush (v := 12) hx hb dX10_orderTubes_8 (by decide) ?_
      refine lv_icmp_ge (tgt := 182) hx hb dX10_orderTubes_10 (by decide) (fun c18 => ?_) (fun c18 => ?_)
      · have hf := if_t c18 hf
        exact e0_v (Wf := mw G) X.1 hr hlocks hf h dX10_orderTubes_182
      · have hf := if_f c18 hf
        refine lv_aload_n hx hb dX10_orderTubes_13 rfl (lv_at hl 0 rfl) ?_
        refine GM_0_17 X h k_X10_38 dX10_orderTubes_14 ?_
        refine lv_iload_n hx hb dX10_orderTubes_17 rfl (lv_at hl 2 rfl) ?_
        refine lv_aload_n hx hb dX10_orderTubes_18 rfl (lv_at hl 0 rfl) ?_
        refine GM_0_1 X h k_X10_7 dX10_orderTubes_19 ?_
        refine lv_sipush (v := 8720) hx hb dX10_orderTubes_22 (by decide) ?_
        refine lv_iconst (v := 2) hx hb dX10_orderTubes_25 (by decide) ?_
        refine lv_iload_n hx hb dX10_orderTubes_26 rfl (lv_at hl 2 rfl) ?_
        refine lv_imul hx hb dX10_orderTubes_27 ?_
        refine lv_iadd hx hb dX10_orderTubes_28 ?_
        refine lv_iconst (v := 1) hx hb dX10_orderTubes_29 (by decide) ?_
        refine lv_iadd hx hb dX10_orderTubes_30 ?_
        obtain ⟨c19, hf⟩ := chk_some hf
        refine LM_1 X h c19 dX10_orderTubes_31 ?_
        obtain ⟨c20, hf⟩ := chk_some hf
        refine SM_10 X h c20 dX10_orderTubes_32 (fun H locs h => ?_)
        obtain ⟨w21, ew21, hf⟩ := bnd_some hf
        have h := (Option.some.inj ew21) ▸ h
        refine lv_iconst (v := 0) hx hb dX10_orderTubes_33 (by decide) ?_
        refine lv_istore_n (lv' := [(3, .int ((0 : Int32))), (0, .ref (gq G 0)), (1, .int x1), (2, .int x2)]) hx hb dX10_orderTubes_34 rfl hl (by decide) rfl (fun ls hl => ?_)
        exact L35 FU _ _ _ _ _ _ _ hf h (lv_sub hl [1, 2, 3, 0] rfl)
  obtain ⟨w, rfl⟩ : ∃ z, z = w0 := ⟨_, rfl⟩
  have hl : lv_has ls 4 [(0, .ref (gq G 0)), (1, .int x1)] := hl
  unfold f_X10_orderTubes at hf
  refine lv_aload_n hx hb dX10_orderTubes_0 rfl (lv_at hl 0 rfl) ?_
  refine lv_iconst (v := 0) hx hb dX10_orderTubes_1 (by decide) ?_
  refine PM_0_15 X h k_X10_138 dX10_orderTubes_2 (fun H locs h => ?_)
  refine lv_iconst (v := 0) hx hb dX10_orderTubes_5 (by decide) ?_
  refine lv_istore_n (lv' := [(2, .int ((0 : Int32))), (0, .ref (gq G 0)), (1, .int x1)]) hx hb dX10_orderTubes_6 rfl hl (by decide) rfl (fun ls hl => ?_)
  exact L7 FU _ _ _ _ _ _ hf h (lv_sub hl [1, 2, 0] rfl)
theorem m_X10_orderTubes : Cond.instanceMethod yX10_orderTubes ∈ lw_good ∧ Cond.selects RX10 yX10_orderTubes yX10_orderTubes ∈ lw_good ∧ Cond.initialized RX10 ∈ lw_good ∧ Cond.code yX10_orderTubes cX10_orderTubes 4 none ∈ lw_good := by decide +kernel
theorem k_X10_orderTubes {p : Program} {l : Launch} {e : Env} {R : Room} {s : State} {m : MethodId} {args : Array Value} {below : List Frame} {meth : Method} {c : Code} {H : Heap} {locs : List Loc} {cells slots : Nat} {Q : State → Prop} {cc : ByteArray} {nL pc idx : Nat} {ls : Array Slot} {rest : List Value} {own : String} {G : Gm} {A : Nat → Prop} {H0 : Heap} {w : MW} {x1 : Int32} {w' : MW} (X : CX own cc nL G p s m args c) (h : CH G (mw G w) A H0 H locs) (hA : ∀ q, H0.size ≤ q → A q) (hf : f_X10_orderTubes x1 w = some w') (hlk : Cond.methodLink own idx yX10_orderTubes ∈ lw_good) (hd : decode cc pc = .ok (.invokevirtual idx, 3)) (hsz : ls.size = nL) (hR : 2 ≤ R.frames ∧ 45 ≤ R.locals) (hrest : (rest.map fun v => v.category).sum ≤ 8) (hk : cells ≤ R.cells ∧ slots ≤ R.slots) (k : ∀ (H : Heap) (locs : List Loc), CH G (mw G (w')) A H0 H locs → W p l e R s m args below meth c H locs cells slots Q (F0 m (pc + 3) ls (rest))) : W p l e R s m args below meth c H locs cells slots Q (F0 m pc ls (.int x1 :: .ref (gq G 0) :: rest)) :=
  fin_v (n := 0) (runV (As := [.int x1]) X.1 1 (t_X10_orderTubes l G w x1 w' hf _) rfl rfl hlk m_X10_orderTubes (by decide +kernel) ⟨hR.1, hR.2⟩ ⟨blindM, va_recv X.2.1 h.1 (ci := 9) (q0 := 0) rfl rfl, preM X.2 h⟩ rfl hsz hrest hd hk) h hA (fun _ H locs h => k H locs h)
def f_X10_canChange_l291_body (k222 : (Int32 → Int32 → MW → Option (Int32 × MW))) (kself : (Int32 → Int32 → Int32 → Int32 → MW → Option (Int32 × MW))) (x3 : Int32) (x4 : Int32) (x5 : Int32) (x6 : Int32) (w : MW) : Option (Int32 × MW) :=
 chk (inb ((((((501 : Int32)) * x4) + ((501 : Int32))) + x3) - (x6 * x5)) 6513) (
 chk (inb ((((501 : Int32)) * x4) + x3) 6513) (
 if (x6 + (w 9 ((((((501 : Int32)) * x4) + ((501 : Int32))) + x3) - (x6 * x5)).toNatClampNeg)) = (w 9 ((((501 : Int32)) * x4) + x3).toNatClampNeg) then
 (chk (inb x4 12) (
 chk (inb (w 8 x4.toNatClampNeg) 12) (
 k222 (x3 - (x6 * x5)) (x4 + (1 : Int32)) (mst w 11 (w 8 x4.toNatClampNeg).toNatClampNeg x6))))
 else
 (kself x3 x4 x5 (x6 + (-1 : Int32)) w)))
def f_X10_canChange_l291 (k222 : (Int32 → Int32 → MW → Option (Int32 × MW))) : Nat → Int32 → Int32 → Int32 → Int32 → MW → Option (Int32 × MW)
  | 0, _, _, _, _, _ => none
  | n + 1, x3, x4, x5, x6, w => f_X10_canChange_l291_body k222 (f_X10_canChange_l291 k222 n) x3 x4 x5 x6 w
def f_X10_canChange_b289 (k222 : (Int32 → Int32 → MW → Option (Int32 × MW))) (x3 : Int32) (x4 : Int32) (x5 : Int32) (xs0 : Int32) (w : MW) : Option (Int32 × MW) :=
 f_X10_canChange_l291 k222 FU x3 x4 x5 xs0 w
def f_X10_canChange_l222_body (kself : (Int32 → Int32 → MW → Option (Int32 × MW))) (x3 : Int32) (x4 : Int32) (w : MW) : Option (Int32 × MW) :=
 if (w 0 15) ≤ x4 then
 (some ((1 : Int32), w))
 else
 (chk (inb x4 12) (
 chk (inb (((8720 : Int32)) + (((2 : Int32)) * (w 8 x4.toNatClampNeg))) 11360) (
 (some (w 1 (((8720 : Int32)) + (((2 : Int32)) * (w 8 x4.toNatClampNeg))).toNatClampNeg)).bind fun z9 =>
 chk (¬ z9 = 0) (
 chk (inb x4 12) (
 chk (inb (w 8 x4.toNatClampNeg) 12) (
 if (w 10 (w 8 x4.toNatClampNeg).toNatClampNeg) ≤ (x3 / z9) then
 (chk (inb x4 12) (
 chk (inb (w 8 x4.toNatClampNeg) 12) (
 f_X10_canChange_b289 kself x3 x4 z9 (w 10 (w 8 x4.toNatClampNeg).toNatClampNeg) w)))
 else
 (chk (¬ z9 = 0) (
 f_X10_canChange_b289 kself x3 x4 z9 (x3 / z9) w))))))))
def f_X10_canChange_l222 : Nat → Int32 → Int32 → MW → Option (Int32 × MW)
  | 0, _, _, _ => none
  | n + 1, x3, x4, w => f_X10_canChange_l222_body (f_X10_canChange_l222 n) x3 x4 w
def f_X10_canChange_b176 (k60 : (Int32 → Int32 → MW → Option (Int32 × MW))) (k86 : (Int32 → Int32 → Int32 → Int32 → MW → Option (Int32 × MW))) (x2 : Int32) (x3 : Int32) (x4 : Int32) (x5 : Int32) (x6 : Int32) (w : MW) : Option (Int32 × MW) :=
 chk (inb ((((501 : Int32)) * x3) + x5) 6513) (
 k86 x2 x3 x4 (x5 + (1 : Int32)) (mst w 9 ((((501 : Int32)) * x3) + x5).toNatClampNeg x6))
def f_X10_canChange_b168 (k60 : (Int32 → Int32 → MW → Option (Int32 × MW))) (k86 : (Int32 → Int32 → Int32 → Int32 → MW → Option (Int32 × MW))) (k100 : (Int32 → Int32 → Int32 → Int32 → Int32 → Int32 → MW → Option (Int32 × MW))) (x2 : Int32) (x3 : Int32) (x4 : Int32) (x5 : Int32) (x7 : Int32) (xs0 : Int32) (w : MW) : Option (Int32 × MW) :=
 k100 x2 x3 x4 x5 xs0 (x7 + (1 : Int32)) w
def f_X10_canChange_l100_body (k60 : (Int32 → Int32 → MW → Option (Int32 × MW))) (k86 : (Int32 → Int32 → Int32 → Int32 → MW → Option (Int32 × MW))) (kself : (Int32 → Int32 → Int32 → Int32 → Int32 → Int32 → MW → Option (Int32 × MW))) (x2 : Int32) (x3 : Int32) (x4 : Int32) (x5 : Int32) (x6 : Int32) (x7 : Int32) (w : MW) : Option (Int32 × MW) :=
 chk (inb x3 12) (
 chk (inb (w 8 x3.toNatClampNeg) 12) (
 if (w 10 (w 8 x3.toNatClampNeg).toNatClampNeg) < x7 then
 (f_X10_canChange_b176 k60 k86 x2 x3 x4 x5 x6 w)
 else
 (if x5 < (x7 * x4) then
 (f_X10_canChange_b176 k60 k86 x2 x3 x4 x5 x6 w)
 else
 (chk (inb ((((((501 : Int32)) * x3) + ((501 : Int32))) + x5) - (x7 * x4)) 6513) (
 (some (x7 + (w 9 ((((((501 : Int32)) * x3) + ((501 : Int32))) + x5) - (x7 * x4)).toNatClampNeg))).bind fun z23 =>
 if x6 ≤ z23 then
 (f_X10_canChange_b168 k60 k86 kself x2 x3 x4 x5 x7 x6 w)
 else
 (f_X10_canChange_b168 k60 k86 kself x2 x3 x4 x5 x7 z23 w))))))
def f_X10_canChange_l100 (k60 : (Int32 → Int32 → MW → Option (Int32 × MW))) (k86 : (Int32 → Int32 → Int32 → Int32 → MW → Option (Int32 × MW))) : Nat → Int32 → Int32 → Int32 → Int32 → Int32 → Int32 → MW → Option (Int32 × MW)
  | 0, _, _, _, _, _, _, _ => none
  | n + 1, x2, x3, x4, x5, x6, x7, w => f_X10_canChange_l100_body k60 k86 (f_X10_canChange_l100 k60 k86 n) x2 x3 x4 x5 x6 x7 w
def f_X10_canChange_l86_body (k60 : (Int32 → Int32 → MW → Option (Int32 × MW))) (kself : (Int32 → Int32 → Int32 → Int32 → MW → Option (Int32 × MW))) (x2 : Int32) (x3 : Int32) (x4 : Int32) (x5 : Int32) (w : MW) : Option (Int32 × MW) :=
 if x2 < x5 then
 (k60 x2 (x3 + (-1 : Int32)) w)
 else
 (f_X10_canChange_l100 k60 kself FU x2 x3 x4 x5 ((9999 : Int32)) ((0 : Int32)) w)
def f_X10_canChange_l86 (k60 : (Int32 → Int32 → MW → Option (Int32 × MW))) : Nat → Int32 → Int32 → Int32 → Int32 → MW → Option (Int32 × MW)
  | 0, _, _, _, _, _ => none
  | n + 1, x2, x3, x4, x5, w => f_X10_canChange_l86_body k60 (f_X10_canChange_l86 k60 n) x2 x3 x4 x5 w
def f_X10_canChange_l60_body (kself : (Int32 → Int32 → MW → Option (Int32 × MW))) (x2 : Int32) (x3 : Int32) (w : MW) : Option (Int32 × MW) :=
 if x3 < 0 then
 (chk (inb x2 6513) (
 if (w 9 x2.toNatClampNeg) < ((9999 : Int32)) then
 (f_X10_canChange_l222 FU x2 ((0 : Int32)) w)
 else
 (some ((0 : Int32), w))))
 else
 (chk (inb x3 12) (
 chk (inb (((8720 : Int32)) + (((2 : Int32)) * (w 8 x3.toNatClampNeg))) 11360) (
 (some (w 1 (((8720 : Int32)) + (((2 : Int32)) * (w 8 x3.toNatClampNeg))).toNatClampNeg)).bind fun z31 =>
 f_X10_canChange_l86 kself FU x2 x3 z31 ((0 : Int32)) w)))
def f_X10_canChange_l60 : Nat → Int32 → Int32 → MW → Option (Int32 × MW)
  | 0, _, _, _ => none
  | n + 1, x2, x3, w => f_X10_canChange_l60_body (f_X10_canChange_l60 n) x2 x3 w
def f_X10_canChange_b46 (k16 : (Int32 → Int32 → MW → Option (Int32 × MW))) (x2 : Int32) (x3 : Int32) (xs1 : Int32) (xs2 : Int32) (w : MW) : Option (Int32 × MW) :=
 chk (inb xs1 6513) (
 k16 x2 (x3 + (1 : Int32)) (mst w 9 xs1.toNatClampNeg xs2))
def f_X10_canChange_l16_body (kself : (Int32 → Int32 → MW → Option (Int32 × MW))) (x2 : Int32) (x3 : Int32) (w : MW) : Option (Int32 × MW) :=
 if x2 < x3 then
 (f_X10_canChange_l60 FU x2 ((w 0 15) - ((1 : Int32))) w)
 else
 (if x3 = 0 then
 (f_X10_canChange_b46 kself x2 x3 ((((501 : Int32)) * (w 0 15)) + x3) ((0 : Int32)) w)
 else
 (f_X10_canChange_b46 kself x2 x3 ((((501 : Int32)) * (w 0 15)) + x3) ((9999 : Int32)) w))
def f_X10_canChange_l16 : Nat → Int32 → Int32 → MW → Option (Int32 × MW)
  | 0, _, _, _ => none
  | n + 1, x2, x3, w => f_X10_canChange_l16_body (f_X10_canChange_l16 n) x2 x3 w
def f_X10_canChange (x1 : Int32) (x2 : Int32) (w : MW) : Option (Int32 × MW) :=
 (f_X10_orderTubes x1 w).bind fun y35 =>
 if x2 ≤ ((500 : Int32)) then
 (f_X10_canChange_l16 FU x2 ((0 : Int32)) y35)
 else
 (some ((0 : Int32), y35))
set_option maxHeartbeats 4000000 in
set_option maxRecDepth 100000 in
theorem t_X10_canChange (l : Launch) (G : Gm) (w0 : MW) (x1 : Int32) (x2 : Int32) (r : Int32) (w' : MW) (hf : f_X10_canChange x1 x2 w0 = some (r, w')) : MetI l yX10_canChange cX10_canChange 9 (some .boolean) 2 45 G (mw G w0) [.ref (gq G 0), .int x1, .int x2] r (fun _ => mw G (w')) 0 := by
  intro sz
  refine ent (own := RX10) (As := [.ref (gq G 0), .int x1, .int x2]) (by decide +kernel) rfl (Nat.le_of_ble_eq_true rfl) (fun _ _ h => h.1) ?_
  intro p e s m args below meth c ls B hr hlocks hv hl
  obtain ⟨-, hsz, hP, hKK, hD⟩ := hv
  subst hsz
  have X : CX RX10 cX10_canChange 9 G p s m args c := ⟨B, hKK⟩
  obtain ⟨hx, hb, hml, hown, hts⟩ := id B
  have hA : ∀ q : Nat, s.heap.size ≤ q → va_A (mw G w0) s.heap.size q := fun q z => Or.inr z
  have h : CH G (mw G w0) (va_A (mw G w0) s.heap.size) s.heap s.heap [] := ⟨hP, hD.self, va_S.rf⟩
  have L222 : ∀ (n222 : Nat) (x3 : Int32) (x4 : Int32) (w : MW) (H : Heap) (locs : List Loc) (ls : Array Slot), f_X10_canChange_l222 n222 x3 x4 w = some (r, w') → CH G (mw G w) (va_A (mw G w0) s.heap.size) s.heap H locs → lv_has ls 9 [(0, .ref (gq G 0)), (3, .int x3), (4, .int x4)] → W p l e { frames := 2, cells := 0, slots := 4096 * 0, locals := 45 } s m args below meth c H locs 0 (4096 * 0) (MQ below (QI G (mw G w0) s.heap.size r (fun _ => mw G (w'))) args s 0 (4096 * 0) (va_A (mw G w0) s.heap.size)) (F0 m 222 ls []) := by
    intro n222
    induction n222 with
    | zero =>
      intro x3 x4 w H locs ls hf h hl
      cases (show (none : Option (Int32 × MW)) = some _ from hf)
    | succ n222 ih222 =>
      have L291 : ∀ (n291 : Nat) (x3 : Int32) (x4 : Int32) (x5 : Int32) (x6 : Int32) (w : MW) (H : Heap) (locs : List Loc) (ls : Array Slot), f_X10_canChange_l291 (f_X10_canChange_l222 n222) n291 x3 x4 x5 x6 w = some (r, w') → CH G (mw G w) (va_A (mw G w0) s.heap.size) s.heap H locs → lv_has ls 9 [(0, .ref (gq G 0)), (3, .int x3), (4, .int x4), (5, .int x5), (6, .int x6)] → W p l e { frames := 2, cells := 0, slots := 4096 * 0, locals := 45 } s m args below meth c H locs 0 (4096 * 0) (MQ below (QI G (mw G w0) s.heap.size r (fun _ => mw G (w'))) args s 0 (4096 * 0) (va_A (mw G w0) s.heap.size)) (F0 m 291 ls []) := by
        intro n291
        induction n291 with
        | zero =>
          intro x3 x4 x5 x6 w H locs ls hf h hl
          cases (show (none : Option (Int32 × MW)) = some _ from hf)
        | succ n291 ih291 =>
          intro x3 x4 x5 x6 w H locs ls hf h hl
          have hf : f_X10_canChange_l291_body (f_X10_canChange_l222 n222) (f_X10_canChange_l291 (f_X10_canChange_l222 n222) n291) x3 x4 x5 x6 w = _ := hf
          unfold f_X10_canChange_l291_body at hf
          refine lv_iload hx hb dX10_canChange_291 (lv_at hl 4 rfl) ?_
          refine lv_aload_n hx hb dX10_canChange_293 rfl (lv_at hl 0 rfl) ?_
          refine GM_0_16 X h k_X10_35 dX10_canChange_294 ?_
          refine lv_sipush (v := 501) hx hb dX10_canChange_297 (by decide) ?_
          refine lv_iload hx hb dX10_canChange_300 (lv_at hl 2 rfl) ?_
          refine lv_imul hx hb dX10_canChange_302 ?_
          refine lv_sipush (v := 501) hx hb dX10_canChange_303 (by decide) ?_
          refine lv_iadd hx hb dX10_canChange_306 ?_
          refine lv_iload_n hx hb dX10_canChange_307 rfl (lv_at hl 1 rfl) ?_
          refine lv_iadd hx hb dX10_canChange_308 ?_
          refine lv_iload hx hb dX10_canChange_309 (lv_at hl 4 rfl) ?_
          refine lv_iload hx hb dX10_canChange_311 (lv_at hl 3 rfl) ?_
          refine lv_imul hx hb dX10_canChange_313 ?_
          refine lv_isub hx hb dX10_canChange_314 ?_
          obtain ⟨c1, hf⟩ := chk_some hf
          refine LM_9 X h c1 dX10_canChange_315 ?_
          refine lv_iadd hx hb dX10_canChange_316 ?_
          refine lv_aload_n hx hb dX10_canChange_317 rfl (lv_at hl 0 rfl) ?_
          refine GM_0_16 X h k_X10_35 dX10_canChange_318 ?_
          refine lv_sipush (v := 501) hx hb dX10_canChange_321 (by decide) ?_
          refine lv_iload hx hb dX10_canChange_324 (lv_at hl 2 rfl) ?_
          refine lv_imul hx hb dX10_canChange_326 ?_
          refine lv_iload_n hx hb dX10_canChange_327 rfl (lv_at hl 1 rfl) ?_
          refine lv_iadd hx hb dX10_canChange_328 ?_
          obtain ⟨c2, hf⟩ := chk_some hf
          refine LM_9 X h c2 dX10_canChange_329 ?_
          refine lv_icmp_eq (tgt := 339) hx hb dX10_canChange_330 (by decide) (fun c3 => ?_) (fun c3 => ?_)
          · have hf := if_t c3 hf
            refine lv_aload_n hx hb dX10_canChange_339 rfl (lv_at hl 0 rfl) ?_
            refine GM_0_18 X h k_X10_41 dX10_canChange_340 ?_
            refine lv_aload_n hx hb dX10_canChange_343 rfl (lv_at hl 0 rfl) ?_
            refine GM_0_14 X h k_X10_32 dX10_canChange_344 ?_
            refine lv_iload hx hb dX10_canChange_347 (lv_at hl 2 rfl) ?_
            obtain ⟨c4, hf⟩ := chk_some hf
            refine LM_8 X h c4 dX10_canChange_349 ?_
            refine lv_iload hx hb dX10_canChange_350 (lv_at hl 4 rfl) ?_
            obtain ⟨c5, hf⟩ := chk_some hf
            refine SM_11 X h c5 dX10_canChange_352 (fun H locs h => ?_)
            refine lv_iload_n hx hb dX10_canChange_353 rfl (lv_at hl 1 rfl) ?_
            refine lv_iload hx hb dX10_canChange_354 (lv_at hl 4 rfl) ?_
            refine lv_iload hx hb dX10_canChange_356 (lv_at hl 3 rfl) ?_
            refine lv_imul hx hb dX10_canChange_358 ?_
            refine lv_isub hx hb dX10_canChange_359 ?_
            refine lv_istore_n (lv' := [(3, .int (x3 - (x6 * x5))), (0, .ref (gq G 0)), (4, .int x4), (5, .int x5), (6, .int x6)]) hx hb dX10_canChange_360 rfl hl (by decide) rfl (fun ls hl => ?_)
            refine lv_iinc (v := x4 + (1 : Int32)) (lv' := [(4, .int (x4 + (1 : Int32))), (3, .int (x3 - (x6 * x5))), (0, .ref (gq G 0)), (5, .int x5), (6, .int x6)]) hx hb dX10_canChange_361 hl (k := 2) rfl (by rfl) (by decide) rfl (fun ls hl => ?_)
            refine lv_goto (tgt := 222) hx hb dX10_canChange_364 (by decide) ?_
            exact ih222 _ _ _ _ _ _ hf h (lv_sub hl [2, 1, 0] rfl)
          · have hf := if_f c3 hf
            refine lv_iinc (v := x6 + (-1 : Int32)) (lv' := [(6, .int (x6 + (-1 : Int32))), (0, .ref (gq G 0)), (3, .int x3), (4, .int x4), (5, .int x5)]) hx hb dX10_canChange_333 hl (k := 4) rfl (by rfl) (by decide) rfl (fun ls hl => ?_)
            refine lv_goto (tgt := 291) hx hb dX10_canChange_336 (by decide) ?_
            exact ih291 _ _ _ _ _ _ _ _ hf h (lv_sub hl [1, 2, 3, 4, 0] rfl)
      have J289 : ∀ (x3 : Int32) (x4 : Int32) (x5 : Int32) (xs0 : Int32) (w : MW) (H : Heap) (locs : List Loc) (ls : Array Slot), f_X10_canChange_b289 (f_X10_canChange_l222 n222) x3 x4 x5 xs0 w = some (r, w') → CH G (mw G w) (va_A (mw G w0) s.heap.size) s.heap H locs → lv_has ls 9 [(0, .ref (gq G 0)), (3, .int x3), (4, .int x4), (5, .int x5)] → W p l e { frames := 2, cells := 0, slots := 4096 * 0, locals := 45 } s m args below meth c H locs 0 (4096 * 0) (MQ below (QI G (mw G w0) s.heap.size r (fun _ => mw G (w'))) args s 0 (4096 * 0) (va_A (mw G w0) s.heap.size)) (F0 m 289 ls [.int xs0]) := by
        intro x3 x4 x5 xs0 w H locs ls hf h hl
        unfold f_X10_canChange_b289 at hf
        refine lv_istore (lv' := [(6, .int xs0), (0, .ref (gq G 0)), (3, .int x3), (4, .int x4), (5, .int x5)]) hx hb dX10_canChange_289 hl (by decide) rfl (fun ls hl => ?_)
        exact L291 FU _ _ _ _ _ _ _ _ hf h (lv_sub hl [1, 2, 3, 4, 0] rfl)
      intro x3 x4 w H locs ls hf h hl
      have hf : f_X10_canChange_l222_body (f_X10_canChange_l222 n222) x3 x4 w = _ := hf
      unfold f_X10_canChange_l222_body at hf
      refine lv_iload hx hb dX10_canChange_222 (lv_at hl 2 rfl) ?_
      refine lv_aload_n hx hb dX10_canChange_224 rfl (lv_at hl 0 rfl) ?_
      refine GM_0_15 X h k_X10_138 dX10_canChange_225 ?_
      refine lv_icmp_ge (tgt := 367) hx hb dX10_canChange_228 (by decide) (fun c6 => ?_) (fun c6 => ?_)
      · have hf := if_t c6 hf
        refine lv_iconst (v := 1) hx hb dX10_canChange_367 (by decide) ?_
        exact e0_z (Wf := mw G) X.1 hr hlocks (Or.inr rfl) hf h dX10_canChange_368
      · have hf := if_f c6 hf
        refine lv_aload_n hx hb dX10_canChange_231 rfl (lv_at hl 0 rfl) ?_
        refine GM_0_1 X h k_X10_7 dX10_canChange_232 ?_
        refine lv_sipush (v := 8720) hx hb dX10_canChange_235 (by decide) ?_
        refine lv_iconst (v := 2) hx hb dX10_canChange_238 (by decide) ?_
        refine lv_aload_n hx hb dX10_canChange_239 rfl (lv_at hl 0 rfl) ?_
        refine GM_0_14 X h k_X10_32 dX10_canChange_240 ?_
        refine lv_iload hx hb dX10_canChange_243 (lv_at hl 2 rfl) ?_
        obtain ⟨c7, hf⟩ := chk_some hf
        refine LM_8 X h c7 dX10_canChange_245 ?_
        refine lv_imul hx hb dX10_canChange_246 ?_
        refine lv_iadd hx hb dX10_canChange_247 ?_
        obtain ⟨c8, hf⟩ := chk_some hf
        refine LM_1 X h c8 dX10_canChange_248 ?_
        obtain ⟨z9, ez9, hf⟩ := bnd_some hf
        refine nm_i (Option.some.inj ez9) ?_
        refine lv_istore (lv' := [(5, .int z9), (0, .ref (gq G 0)), (3, .int x3), (4, .int x4)]) hx hb dX10_canChange_249 hl (by decide) rfl (fun ls hl => ?_)
        refine lv_iload_n hx hb dX10_canChange_251 rfl (lv_at hl 2 rfl) ?_
        refine lv_iload hx hb dX10_canChange_252 (lv_at hl 0 rfl) ?_
        obtain ⟨c10, hf⟩ := chk_some hf
        refine lv_idiv hx hb dX10_canChange_254 c10 ?_
        refine lv_aload_n hx hb dX10_canChange_255 rfl (lv_at hl 1 rfl) ?_
        refine GM_0_17 X h k_X10_38 dX10_canChange_256 ?_
        refine lv_aload_n hx hb dX10_canChange_259 rfl (lv_at hl 1 rfl) ?_
        refine GM_0_14 X h k_X10_32 dX10_canChange_260 ?_
        refine lv_iload hx hb dX10_canChange_263 (lv_at hl 3 rfl) ?_
        obtain ⟨c11, hf⟩ := chk_some hf
        refine LM_8 X h c11 dX10_canChange_265 ?_
        obtain ⟨c12, hf⟩ := chk_some hf
        refine LM_10 X h c12 dX10_canChange_266 ?_
        refine lv_icmp_ge (tgt := 277) hx hb dX10_canChange_267 (by decide) (fun c13 => ?_) (fun c13 => ?_)
        · have hf := if_t c13 hf
          refine lv_aload_n hx hb dX10_canChange_277 rfl (lv_at hl 1 rfl) ?_
          refine GM_0_17 X h k_X10_38 dX10_canChange_278 ?_
          refine lv_aload_n hx hb dX10_canChange_281 rfl (lv_at hl 1 rfl) ?_
          refine GM_0_14 X h k_X10_32 dX10_canChange_282 ?_
          refine lv_iload hx hb dX10_canChange_285 (lv_at hl 3 rfl) ?_
          obtain ⟨c14, hf⟩ := chk_some hf
          refine LM_8 X h c14 dX10_canChange_287 ?_
          obtain ⟨c15, hf⟩ := chk_some hf
          refine LM_10 X h c15 dX10_canChange_288 ?_
          exact J289 _ _ _ _ _ _ _ _ hf h (lv_sub hl [1, 2, 3, 0] rfl)
        · have hf := if_f c13 hf
          refine lv_iload_n hx hb dX10_canChange_270 rfl (lv_at hl 2 rfl) ?_
          refine lv_iload hx hb dX10_canChange_271 (lv_at hl 0 rfl) ?_
          obtain ⟨c16, hf⟩ := chk_some hf
          refine lv_idiv hx hb dX10_canChange_273 c16 ?_
          refine lv_goto (tgt := 289) hx hb dX10_canChange_274 (by decide) ?_
          exact J289 _ _ _ _ _ _ _ _ hf h (lv_sub hl [1, 2, 3, 0] rfl)
  have L60 : ∀ (n60 : Nat) (x2 : Int32) (x3 : Int32) (w : MW) (H : Heap) (locs : List Loc) (ls : Array Slot), f_X10_canChange_l60 n60 x2 x3 w = some (r, w') → CH G (mw G w) (va_A (mw G w0) s.heap.size) s.heap H locs → lv_has ls 9 [(0, .ref (gq G 0)), (2, .int x2), (3, .int x3)] → W p l e { frames := 2, cells := 0, slots := 4096 * 0, locals := 45 } s m args below meth c H locs 0 (4096 * 0) (MQ below (QI G (mw G w0) s.heap.size r (fun _ => mw G (w'))) args s 0 (4096 * 0) (va_A (mw G w0) s.heap.size)) (F0 m 60 ls []) := by
    intro n60
    induction n60 with
    | zero =>
      intro x2 x3 w H locs ls hf h hl
      cases (show (none : Option (Int32 × MW)) = some _ from hf)
    | succ n60 ih60 =>
      have L86 : ∀ (n86 : Nat) (x2 : Int32) (x3 : Int32) (x4 : Int32) (x5 : Int32) (w : MW) (H : Heap) (locs : List Loc) (ls : Array Slot), f_X10_canChange_l86 (f_X10_canChange_l60 n60) n86 x2 x3 x4 x5 w = some (r, w') → CH G (mw G w) (va_A (mw G w0) s.heap.size) s.heap H locs → lv_has ls 9 [(0, .ref (gq G 0)), (2, .int x2), (3, .int x3), (4, .int x4), (5, .int x5)] → W p l e { frames := 2, cells := 0, slots := 4096 * 0, locals := 45 } s m args below meth c H locs 0 (4096 * 0) (MQ below (QI G (mw G w0) s.heap.size r (fun _ => mw G (w'))) args s 0 (4096 * 0) (va_A (mw G w0) s.heap.size)) (F0 m 86 ls []) := by
        intro n86
        induction n86 with
        | zero =>
          intro x2 x3 x4 x5 w H locs ls hf h hl
          cases (show (none : Option (Int32 × MW)) = some _ from hf)
        | succ n86 ih86 =>
          have J176 : ∀ (x2 : Int32) (x3 : Int32) (x4 : Int32) (x5 : Int32) (x6 : Int32) (w : MW) (H : Heap) (locs : List Loc) (ls : Array Slot), f_X10_canChange_b176 (f_X10_canChange_l60 n60) (f_X10_canChange_l86 (f_X10_canChange_l60 n60) n86) x2 x3 x4 x5 x6 w = some (r, w') → CH G (mw G w) (va_A (mw G w0) s.heap.size) s.heap H locs → lv_has ls 9 [(0, .ref (gq G 0)), (2, .int x2), (3, .int x3), (4, .int x4), (5, .int x5), (6, .int x6)] → W p l e { frames := 2, cells := 0, slots := 4096 * 0, locals := 45 } s m args below meth c H locs 0 (4096 * 0) (MQ below (QI G (mw G w0) s.heap.size r (fun _ => mw G (w'))) args s 0 (4096 * 0) (va_A (mw G w0) s.heap.size)) (F0 m 176 ls []) := by
            intro x2 x3 x4 x5 x6 w H locs ls hf h hl
            unfold f_X10_canChange_b176 at hf
            refine lv_aload_n hx hb dX10_canChange_176 rfl (lv_at hl 0 rfl) ?_
            refine GM_0_16 X h k_X10_35 dX10_canChange_177 ?_
            refine lv_sipush (v := 501) hx hb dX10_canChange_180 (by decide) ?_
            refine lv_iload_n hx hb dX10_canChange_183 rfl (lv_at hl 2 rfl) ?_
            refine lv_imul hx hb dX10_canChange_184 ?_
            refine lv_iload hx hb dX10_canChange_185 (lv_at hl 4 rfl) ?_
            refine lv_iadd hx hb dX10_canChange_187 ?_
            refine lv_iload hx hb dX10_canChange_188 (lv_at hl 5 rfl) ?_
            obtain ⟨c17, hf⟩ := chk_some hf
            refine SM_9 X h c17 dX10_canChange_190 (fun H locs h => ?_)
            refine lv_iinc (v := x5 + (1 : Int32)) (lv' := [(5, .int (x5 + (1 : Int32))), (0, .ref (gq G 0)), (2, .int x2), (3, .int x3), (4, .int x4), (6, .int x6)]) hx hb dX10_canChange_191 hl (k := 4) rfl (by rfl) (by decide) rfl (fun ls hl => ?_)
            refine lv_goto (tgt := 86) hx hb dX10_canChange_194 (by decide) ?_
            exact ih86 _ _ _ _ _ _ _ _ hf h (lv_sub hl [1, 2, 3, 4, 0] rfl)
          have L100 : ∀ (n100 : Nat) (x2 : Int32) (x3 : Int32) (x4 : Int32) (x5 : Int32) (x6 : Int32) (x7 : Int32) (w : MW) (H : Heap) (locs : List Loc) (ls : Array Slot), f_X10_canChange_l100 (f_X10_canChange_l60 n60) (f_X10_canChange_l86 (f_X10_canChange_l60 n60) n86) n100 x2 x3 x4 x5 x6 x7 w = some (r, w') → CH G (mw G w) (va_A (mw G w0) s.heap.size) s.heap H locs → lv_has ls 9 [(0, .ref (gq G 0)), (2, .int x2), (3, .int x3), (4, .int x4), (5, .int x5), (6, .int x6), (7, .int x7)] → W p l e { frames := 2, cells := 0, slots := 4096 * 0, locals := 45 } s m args below meth c H locs 0 (4096 * 0) (MQ below (QI G (mw G w0) s.heap.size r (fun _ => mw G (w'))) args s 0 (4096 * 0) (va_A (mw G w0) s.heap.size)) (F0 m 100 ls []) := by
            intro n100
            induction n100 with
            | zero =>
              intro x2 x3 x4 x5 x6 x7 w H locs ls hf h hl
              cases (show (none : Option (Int32 × MW)) = some _ from hf)
            | succ n100 ih100 =>
              have J168 : ∀ (x2 : Int32) (x3 : Int32) (x4 : Int32) (x5 : Int32) (x7 : Int32) (xs0 : Int32) (w : MW) (H : Heap) (locs : List Loc) (ls : Array Slot), f_X10_canChange_b168 (f_X10_canChange_l60 n60) (f_X10_canChange_l86 (f_X10_canChange_l60 n60) n86) (f_X10_canChange_l100 (f_X10_canChange_l60 n60) (f_X10_canChange_l86 (f_X10_canChange_l60 n60) n86) n100) x2 x3 x4 x5 x7 xs0 w = some (r, w') → CH G (mw G w) (va_A (mw G w0) s.heap.size) s.heap H locs → lv_has ls 9 [(0, .ref (gq G 0)), (2, .int x2), (3, .int x3), (4, .int x4), (5, .int x5), (7, .int x7)] → W p l e { frames := 2, cells := 0, slots := 4096 * 0, locals := 45 } s m args below meth c H locs 0 (4096 * 0) (MQ below (QI G (mw G w0) s.heap.size r (fun _ => mw G (w'))) args s 0 (4096 * 0) (va_A (mw G w0) s.heap.size)) (F0 m 168 ls [.int xs0]) := by
                intro x2 x3 x4 x5 x7 xs0 w H locs ls hf h hl
                unfold f_X10_canChange_b168 at hf
                refine lv_istore (lv' := [(6, .int xs0), (0, .ref (gq G 0)), (2, .int x2), (3, .int x3), (4, .int x4), (5, .int x5), (7, .int x7)]) hx hb dX10_canChange_168 hl (by decide) rfl (fun ls hl => ?_)
                refine lv_iinc (v := x7 + (1 : Int32)) (lv' := [(7, .int (x7 + (1 : Int32))), (6, .int xs0), (0, .ref (gq G 0)), (2, .int x2), (3, .int x3), (4, .int x4), (5, .int x5)]) hx hb dX10_canChange_170 hl (k := 6) rfl (by rfl) (by decide) rfl (fun ls hl => ?_)
                refine lv_goto (tgt := 100) hx hb dX10_canChange_173 (by decide) ?_
                exact ih100 _ _ _ _ _ _ _ _ _ _ hf h (lv_sub hl [2, 3, 4, 5, 6, 1, 0] rfl)
              intro x2 x3 x4 x5 x6 x7 w H locs ls hf h hl
              have hf : f_X10_canChange_l100_body (f_X10_canChange_l60 n60) (f_X10_canChange_l86 (f_X10_canChange_l60 n60) n86) (f_X10_canChange_l100 (f_X10_canChange_l60 n60) (f_X10_canChange_l86 (f_X10_canChange_l60 n60) n86) n100) x2 x3 x4 x5 x6 x7 w = _ := hf
              unfold f_X10_canChange_l100_body at hf
              refine lv_iload hx hb dX10_canChange_100 (lv_at hl 6 rfl) ?_
              refine lv_aload_n hx hb dX10_canChange_102 rfl (lv_at hl 0 rfl) ?_
              refine GM_0_17 X h k_X10_38 dX10_canChange_103 ?_
              refine lv_aload_n hx hb dX10_canChange_106 rfl (lv_at hl 0 rfl) ?_
              refine GM_0_14 X h k_X10_32 dX10_canChange_107 ?_
              refine lv_iload_n hx hb dX10_canChange_110 rfl (lv_at hl 2 rfl) ?_
              obtain ⟨c18, hf⟩ := chk_some hf
              refine LM_8 X h c18 dX10_canChange_111 ?_
              obtain ⟨c19, hf⟩ := chk_some hf
              refine LM_10 X h c19 dX10_canChange_112 ?_
              refine lv_icmp_gt (tgt := 176) hx hb dX10_canChange_113 (by decide) (fun c20 => ?_) (fun c20 => ?_)
              · have hf := if_t c20 hf
                exact J176 _ _ _ _ _ _ _ _ _ hf h (lv_sub hl [0, 1, 2, 3, 4, 5] rfl)
              · have hf := if_f c20 hf
                refine lv_iload hx hb dX10_canChange_116 (lv_at hl 6 rfl) ?_
                refine lv_iload hx hb dX10_canChange_118 (lv_at hl 3 rfl) ?_
                refine lv_imul hx hb dX10_canChange_120 ?_
                refine lv_iload hx hb dX10_canChange_121 (lv_at hl 4 rfl) ?_
                refine lv_icmp_gt (tgt := 176) hx hb dX10_canChange_123 (by decide) (fun c21 => ?_) (fun c21 => ?_)
                · have hf := if_t c21 hf
                  exact J176 _ _ _ _ _ _ _ _ _ hf h (lv_sub hl [0, 1, 2, 3, 4, 5] rfl)
                · have hf := if_f c21 hf
                  refine lv_iload hx hb dX10_canChange_126 (lv_at hl 6 rfl) ?_
                  refine lv_aload_n hx hb dX10_canChange_128 rfl (lv_at hl 0 rfl) ?_
                  refine GM_0_16 X h k_X10_35 dX10_canChange_129 ?_
                  refine lv_sipush (v := 501) hx hb dX10_canChange_132 (by decide) ?_
                  refine lv_iload_n hx hb dX10_canChange_135 rfl (lv_at hl 2 rfl) ?_
                  refine lv_imul hx hb dX10_canChange_136 ?_
                  refine lv_sipush (v := 501) hx hb dX10_canChange_137 (by decide) ?_
                  refine lv_iadd hx hb dX10_canChange_140 ?_
                  refine lv_iload hx hb dX10_canChange_141 (lv_at hl 4 rfl) ?_
                  refine lv_iadd hx hb dX10_canChange_143 ?_
                  refine lv_iload hx hb dX10_canChange_144 (lv_at hl 6 rfl) ?_
                  refine lv_iload hx hb dX10_canChange_146 (lv_at hl 3 rfl) ?_
                  refine lv_imul hx hb dX10_canChange_148 ?_
                  refine lv_isub hx hb dX10_canChange_149 ?_
                  obtain ⟨c22, hf⟩ := chk_some hf
                  refine LM_9 X h c22 dX10_canChange_150 ?_
                  refine lv_iadd hx hb dX10_canChange_151 ?_
                  obtain ⟨z23, ez23, hf⟩ := bnd_some hf
                  refine nm_i (Option.some.inj ez23) ?_
                  refine lv_istore (lv' := [(8, .int z23), (0, .ref (gq G 0)), (2, .int x2), (3, .int x3), (4, .int x4), (5, .int x5), (6, .int x6), (7, .int x7)]) hx hb dX10_canChange_152 hl (by decide) rfl (fun ls hl => ?_)
                  refine lv_iload hx hb dX10_canChange_154 (lv_at hl 0 rfl) ?_
                  refine lv_iload hx hb dX10_canChange_156 (lv_at hl 6 rfl) ?_
                  refine lv_icmp_ge (tgt := 166) hx hb dX10_canChange_158 (by decide) (fun c24 => ?_) (fun c24 => ?_)
                  · have hf := if_t c24 hf
                    refine lv_iload hx hb dX10_canChange_166 (lv_at hl 6 rfl) ?_
                    exact J168 _ _ _ _ _ _ _ _ _ _ hf h (lv_sub hl [1, 2, 3, 4, 5, 7] rfl)
                  · have hf := if_f c24 hf
                    refine lv_iload hx hb dX10_canChange_161 (lv_at hl 0 rfl) ?_
                    refine lv_goto (tgt := 168) hx hb dX10_canChange_163 (by decide) ?_
                    exact J168 _ _ _ _ _ _ _ _ _ _ hf h (lv_sub hl [1, 2, 3, 4, 5, 7] rfl)
          intro x2 x3 x4 x5 w H locs ls hf h hl
          have hf : f_X10_canChange_l86_body (f_X10_canChange_l60 n60) (f_X10_canChange_l86 (f_X10_canChange_l60 n60) n86) x2 x3 x4 x5 w = _ := hf
          unfold f_X10_canChange_l86_body at hf
          refine lv_iload hx hb dX10_canChange_86 (lv_at hl 4 rfl) ?_
          refine lv_iload_n hx hb dX10_canChange_88 rfl (lv_at hl 1 rfl) ?_
          refine lv_icmp_gt (tgt := 197) hx hb dX10_canChange_89 (by decide) (fun c25 => ?_) (fun c25 => ?_)
          · have hf := if_t c25 hf
            refine lv_iinc (v := x3 + (-1 : Int32)) (lv' := [(3, .int (x3 + (-1 : Int32))), (0, .ref (gq G 0)), (2, .int x2), (4, .int x4), (5, .int x5)]) hx hb dX10_canChange_197 hl (k := 2) rfl (by rfl) (by decide) rfl (fun ls hl => ?_)
            refine lv_goto (tgt := 60) hx hb dX10_canChange_200 (by decide) ?_
            exact ih60 _ _ _ _ _ _ hf h (lv_sub hl [1, 2, 0] rfl)
          · have hf := if_f c25 hf
            refine lv_sipush (v := 9999) hx hb dX10_canChange_92 (by decide) ?_
            refine lv_istore (lv' := [(6, .int ((9999 : Int32))), (0, .ref (gq G 0)), (2, .int x2), (3, .int x3), (4, .int x4), (5, .int x5)]) hx hb dX10_canChange_95 hl (by decide) rfl (fun ls hl => ?_)
            refine lv_iconst (v := 0) hx hb dX10_canChange_97 (by decide) ?_
            refine lv_istore (lv' := [(7, .int ((0 : Int32))), (6, .int ((9999 : Int32))), (0, .ref (gq G 0)), (2, .int x2), (3, .int x3), (4, .int x4), (5, .int x5)]) hx hb dX10_canChange_98 hl (by decide) rfl (fun ls hl => ?_)
            exact L100 FU _ _ _ _ _ _ _ _ _ _ hf h (lv_sub hl [2, 3, 4, 5, 6, 1, 0] rfl)
      intro x2 x3 w H locs ls hf h hl
      have hf : f_X10_canChange_l60_body (f_X10_canChange_l60 n60) x2 x3 w = _ := hf
      unfold f_X10_canChange_l60_body at hf
      refine lv_iload_n hx hb dX10_canChange_60 rfl (lv_at hl 2 rfl) ?_
      refine lv_if_lt (tgt := 203) hx hb dX10_canChange_61 (by decide) (fun c26 => ?_) (fun c26 => ?_)
      · have hf := if_t c26 hf
        refine lv_aload_n hx hb dX10_canChange_203 rfl (lv_at hl 0 rfl) ?_
        refine GM_0_16 X h k_X10_35 dX10_canChange_204 ?_
        refine lv_iload_n hx hb dX10_canChange_207 rfl (lv_at hl 1 rfl) ?_
        obtain ⟨c27, hf⟩ := chk_some hf
        refine LM_9 X h c27 dX10_canChange_208 ?_
        refine lv_sipush (v := 9999) hx hb dX10_canChange_209 (by decide) ?_
        refine lv_icmp_lt (tgt := 217) hx hb dX10_canChange_212 (by decide) (fun c28 => ?_) (fun c28 => ?_)
        · have hf := if_t c28 hf
          refine lv_iload_n hx hb dX10_canChange_217 rfl (lv_at hl 1 rfl) ?_
          refine lv_istore_n (lv' := [(3, .int x2), (0, .ref (gq G 0)), (2, .int x2)]) hx hb dX10_canChange_218 rfl hl (by decide) rfl (fun ls hl => ?_)
          refine lv_iconst (v := 0) hx hb dX10_canChange_219 (by decide) ?_
          refine lv_istore (lv' := [(4, .int ((0 : Int32))), (3, .int x2), (0, .ref (gq G 0)), (2, .int x2)]) hx hb dX10_canChange_220 hl (by decide) rfl (fun ls hl => ?_)
          exact L222 FU _ _ _ _ _ _ hf h (lv_sub hl [2, 1, 0] rfl)
        · have hf := if_f c28 hf
          refine lv_iconst (v := 0) hx hb dX10_canChange_215 (by decide) ?_
          exact e0_z (Wf := mw G) X.1 hr hlocks (Or.inl rfl) hf h dX10_canChange_216
      · have hf := if_f c26 hf
        refine lv_aload_n hx hb dX10_canChange_64 rfl (lv_at hl 0 rfl) ?_
        refine GM_0_1 X h k_X10_7 dX10_canChange_65 ?_
        refine lv_sipush (v := 8720) hx hb dX10_canChange_68 (by decide) ?_
        refine lv_iconst (v := 2) hx hb dX10_canChange_71 (by decide) ?_
        refine lv_aload_n hx hb dX10_canChange_72 rfl (lv_at hl 0 rfl) ?_
        refine GM_0_14 X h k_X10_32 dX10_canChange_73 ?_
        refine lv_iload_n hx hb dX10_canChange_76 rfl (lv_at hl 2 rfl) ?_
        obtain ⟨c29, hf⟩ := chk_some hf
        refine LM_8 X h c29 dX10_canChange_77 ?_
        refine lv_imul hx hb dX10_canChange_78 ?_
        refine lv_iadd hx hb dX10_canChange_79 ?_
        obtain ⟨c30, hf⟩ := chk_some hf
        refine LM_1 X h c30 dX10_canChange_80 ?_
        obtain ⟨z31, ez31, hf⟩ := bnd_some hf
        refine nm_i (Option.some.inj ez31) ?_
        refine lv_istore (lv' := [(4, .int z31), (0, .ref (gq G 0)), (2, .int x2), (3, .int x3)]) hx hb dX10_canChange_81 hl (by decide) rfl (fun ls hl => ?_)
        refine lv_iconst (v := 0) hx hb dX10_canChange_83 (by decide) ?_
        refine lv_istore (lv' := [(5, .int ((0 : Int32))), (4, .int z31), (0, .ref (gq G 0)), (2, .int x2), (3, .int x3)]) hx hb dX10_canChange_84 hl (by decide) rfl (fun ls hl => ?_)
        exact L86 FU _ _ _ _ _ _ _ _ hf h (lv_sub hl [2, 3, 4, 1, 0] rfl)
  have L16 : ∀ (n16 : Nat) (x2 : Int32) (x3 : Int32) (w : MW) (H : Heap) (locs : List Loc) (ls : Array Slot), f_X10_canChange_l16 n16 x2 x3 w = some (r, w') → CH G (mw G w) (va_A (mw G w0) s.heap.size) s.heap H locs → lv_has ls 9 [(0, .ref (gq G 0)), (2, .int x2), (3, .int x3)] → W p l e { frames := 2, cells := 0, slots := 4096 * 0, locals := 45 } s m args below meth c H locs 0 (4096 * 0) (MQ below (QI G (mw G w0) s.heap.size r (fun _ => mw G (w'))) args s 0 (4096 * 0) (va_A (mw G w0) s.heap.size)) (F0 m 16 ls []) := by
    intro n16
    induction n16 with
    | zero =>
      intro x2 x3 w H locs ls hf h hl
      cases (show (none : Option (Int32 × MW)) = some _ from hf)
    | succ n16 ih16 =>
      have J46 : ∀ (x2 : Int32) (x3 : Int32) (xs1 : Int32) (xs2 : Int32) (w : MW) (H : Heap) (locs : List Loc) (ls : Array Slot), f_X10_canChange_b46 (f_X10_canChange_l16 n16) x2 x3 xs1 xs2 w = some (r, w') → CH G (mw G w) (va_A (mw G w0) s.heap.size) s.heap H locs → lv_has ls 9 [(0, .ref (gq G 0)), (2, .int x2), (3, .int x3)] → W p l e { frames := 2, cells := 0, slots := 4096 * 0, locals := 45 } s m args below meth c H locs 0 (4096 * 0) (MQ below (QI G (mw G w0) s.heap.size r (fun _ => mw G (w'))) args s 0 (4096 * 0) (va_A (mw G w0) s.heap.size)) (F0 m 46 ls [.int xs2, .int xs1, .ref (gq G 9)]) := by
        intro x2 x3 xs1 xs2 w H locs ls hf h hl
        unfold f_X10_canChange_b46 at hf
        obtain ⟨c32, hf⟩ := chk_some hf
        refine SM_9 X h c32 dX10_canChange_46 (fun H locs h => ?_)
        refine lv_iinc (v := x3 + (1 : Int32)) (lv' := [(3, .int (x3 + (1 : Int32))), (0, .ref (gq G 0)), (2, .int x2)]) hx hb dX10_canChange_47 hl (k := 2) rfl (by rfl) (by decide) rfl (fun ls hl => ?_)
        refine lv_goto (tgt := 16) hx hb dX10_canChange_50 (by decide) ?_
        exact ih16 _ _ _ _ _ _ hf h (lv_sub hl [1, 2, 0] rfl)
      intro x2 x3 w H locs ls hf h hl
      have hf : f_X10_canChange_l16_body (f_X10_canChange_l16 n16) x2 x3 w = _ := hf
      unfold f_X10_canChange_l16_body at hf
      refine lv_iload_n hx hb dX10_canChange_16 rfl (lv_at hl 2 rfl) ?_
      refine lv_iload_n hx hb dX10_canChange_17 rfl (lv_at hl 1 rfl) ?_
      refine lv_icmp_gt (tgt := 53) hx hb dX10_canChange_18 (by decide) (fun c33 => ?_) (fun c33 => ?_)
      · have hf := if_t c33 hf
        refine lv_aload_n hx hb dX10_canChange_53 rfl (lv_at hl 0 rfl) ?_
        refine GM_0_15 X h k_X10_138 dX10_canChange_54 ?_
        refine lv_iconst (v := 1) hx hb dX10_canChange_57 (by decide) ?_
        refine lv_isub hx hb dX10_canChange_58 ?_
        refine lv_istore_n (lv' := [(3, .int ((w 0 15) - ((1 : Int32)))), (0, .ref (gq G 0)), (2, .int x2)]) hx hb dX10_canChange_59 rfl hl (by decide) rfl (fun ls hl => ?_)
        exact L60 FU _ _ _ _ _ _ hf h (lv_sub hl [1, 2, 0] rfl)
      · have hf := if_f c33 hf
        refine lv_aload_n hx hb dX10_canChange_21 rfl (lv_at hl 0 rfl) ?_
        refine GM_0_16 X h k_X10_35 dX10_canChange_22 ?_
        refine lv_sipush (v := 501) hx hb dX10_canChange_25 (by decide) ?_
        refine lv_aload_n hx hb dX10_canChange_28 rfl (lv_at hl 0 rfl) ?_
        refine GM_0_15 X h k_X10_138 dX10_canChange_29 ?_
        refine lv_imul hx hb dX10_canChange_32 ?_
        refine lv_iload_n hx hb dX10_canChange_33 rfl (lv_at hl 2 rfl) ?_
        refine lv_iadd hx hb dX10_canChange_34 ?_
        refine lv_iload_n hx hb dX10_canChange_35 rfl (lv_at hl 2 rfl) ?_
        refine lv_if_ne (tgt := 43) hx hb dX10_canChange_36 (by decide) (fun c34 => ?_) (fun c34 => ?_)
        · have hf := if_f c34 hf
          refine lv_sipush (v := 9999) hx hb dX10_canChange_43 (by decide) ?_
          exact J46 _ _ _ _ _ _ _ _ hf h (lv_sub hl [0, 1, 2] rfl)
        · have hf := if_t c34 hf
          refine lv_iconst (v := 0) hx hb dX10_canChange_39 (by decide) ?_
          refine lv_goto (tgt := 46) hx hb dX10_canChange_40 (by decide) ?_
          exact J46 _ _ _ _ _ _ _ _ hf h (lv_sub hl [0, 1, 2] rfl)
  obtain ⟨w, rfl⟩ : ∃ z, z = w0 := ⟨_, rfl⟩
  have hl : lv_has ls 9 [(0, .ref (gq G 0)), (1, .int x1), (2, .int x2)] := hl
  unfold f_X10_canChange at hf
  refine lv_aload_n hx hb dX10_canChange_0 rfl (lv_at hl 0 rfl) ?_
  refine lv_iload_n hx hb dX10_canChange_1 rfl (lv_at hl 1 rfl) ?_
  obtain ⟨y35, ey35, hf⟩ := bnd_some hf
  refine k_X10_orderTubes X h hA ey35 k_X10_141 dX10_canChange_2 hl.1 ⟨(Nat.le_of_ble_eq_true rfl), (Nat.le_of_ble_eq_true rfl)⟩ (Nat.le_of_ble_eq_true rfl) ⟨Nat.zero_le _, Nat.zero_le _⟩ (fun H locs h => ?_)
  refine lv_iload_n hx hb dX10_canChange_5 rfl (lv_at hl 2 rfl) ?_
  refine lv_sipush (v := 500) hx hb dX10_canChange_6 (by decide) ?_
  refine lv_icmp_le (tgt := 14) hx hb dX10_canChange_9 (by decide) (fun c36 => ?_) (fun c36 => ?_)
  · have hf := if_t c36 hf
    refine lv_iconst (v := 0) hx hb dX10_canChange_14 (by decide) ?_
    refine lv_istore_n (lv' := [(3, .int ((0 : Int32))), (0, .ref (gq G 0)), (1, .int x1), (2, .int x2)]) hx hb dX10_canChange_15 rfl hl (by decide) rfl (fun ls hl => ?_)
    exact L16 FU _ _ _ _ _ _ hf h (lv_sub hl [1, 3, 0] rfl)
  · have hf := if_f c36 hf
    refine lv_iconst (v := 0) hx hb dX10_canChange_12 (by decide) ?_
    exact e0_z (Wf := mw G) X.1 hr hlocks (Or.inl rfl) hf h dX10_canChange_13
theorem m_X10_canChange : Cond.instanceMethod yX10_canChange ∈ lw_good ∧ Cond.selects RX10 yX10_canChange yX10_canChange ∈ lw_good ∧ Cond.initialized RX10 ∈ lw_good ∧ Cond.code yX10_canChange cX10_canChange 9 (some .boolean) ∈ lw_good := by decide +kernel
theorem k_X10_canChange {p : Program} {l : Launch} {e : Env} {R : Room} {s : State} {m : MethodId} {args : Array Value} {below : List Frame} {meth : Method} {c : Code} {H : Heap} {locs : List Loc} {cells slots : Nat} {Q : State → Prop} {cc : ByteArray} {nL pc idx : Nat} {ls : Array Slot} {rest : List Value} {own : String} {G : Gm} {A : Nat → Prop} {H0 : Heap} {w : MW} {x1 : Int32} {x2 : Int32} {y : Int32 × MW} (X : CX own cc nL G p s m args c) (h : CH G (mw G w) A H0 H locs) (hA : ∀ q, H0.size ≤ q → A q) (hf : f_X10_canChange x1 x2 w = some y) (hlk : Cond.methodLink own idx yX10_canChange ∈ lw_good) (hd : decode cc pc = .ok (.invokevirtual idx, 3)) (hsz : ls.size = nL) (hR : 3 ≤ R.frames ∧ 73 ≤ R.locals) (hrest : (rest.map fun v => v.category).sum ≤ 8) (hk : cells ≤ R.cells ∧ slots ≤ R.slots) (k : ∀ (H : Heap) (locs : List Loc), CH G (mw G y.2) A H0 H locs → W p l e R s m args below meth c H locs cells slots Q (F0 m (pc + 3) ls (.int y.1 :: rest))) : W p l e R s m args below meth c H locs cells slots Q (F0 m pc ls (.int x2 :: .int x1 :: .ref (gq G 0) :: rest)) :=
  fin_i (n := 0) (runV (As := [.int x1, .int x2]) X.1 2 (t_X10_canChange l G w x1 x2 y.1 y.2 hf _) rfl rfl hlk m_X10_canChange (by decide +kernel) ⟨hR.1, hR.2⟩ ⟨blindM, va_recv X.2.1 h.1 (ci := 9) (q0 := 0) rfl rfl, preM X.2 h⟩ rfl hsz hrest hd hk) h hA (fun _ H locs h => k H locs h)
def f_X10_pay_l99_body (kself : (Int32 → Int32 → Int32 → Int32 → MW → Option (Int32 × MW))) (x1 : Int32) (x2 : Int32) (x3 : Int32) (x4 : Int32) (w : MW) : Option (Int32 × MW) :=
 if ((12 : Int32)) ≤ x4 then
 (chk (inb ((11347 : Int32)) 11360) (
 (f_X10_w ((11347 : Int32)) ((w 1 ((11347 : Int32)).toNatClampNeg) + x3) w).bind fun y3 =>
 chk (inb ((11348 : Int32)) 11360) (
 (f_X10_w ((11348 : Int32)) ((y3 1 ((11348 : Int32)).toNatClampNeg) + x2) y3).bind fun y5 =>
 (f_X10_of x1 ((40 : Int32)) y5).bind fun y6 =>
 (f_X10_let x1 ((40 : Int32)) (y6 + x2) y5).bind fun y7 =>
 (f_X10_let x1 ((6 : Int32)) ((1 : Int32)) y7).bind fun y8 =>
 some (x3, y8))))
 else
 (chk (inb x4 12) (
 chk (inb x4 12) (
 chk (inb ((((8720 : Int32)) + (((2 : Int32)) * x4)) + ((1 : Int32))) 11360) (
 chk (inb x4 12) (
 (f_X10_w ((((8720 : Int32)) + (((2 : Int32)) * x4)) + ((1 : Int32))) (((mst w 7 x4.toNatClampNeg (w 11 x4.toNatClampNeg)) 1 ((((8720 : Int32)) + (((2 : Int32)) * x4)) + ((1 : Int32))).toNatClampNeg) - ((mst w 7 x4.toNatClampNeg (w 11 x4.toNatClampNeg)) 11 x4.toNatClampNeg)) (mst w 7 x4.toNatClampNeg (w 11 x4.toNatClampNeg))).bind fun y13 =>
 (f_X10_let x1 (((14 : Int32)) + x4) ((0 : Int32)) y13).bind fun y14 =>
 kself x1 x2 x3 (x4 + (1 : Int32)) y14)))))
def f_X10_pay_l99 : Nat → Int32 → Int32 → Int32 → Int32 → MW → Option (Int32 × MW)
  | 0, _, _, _, _, _ => none
  | n + 1, x1, x2, x3, x4, w => f_X10_pay_l99_body (f_X10_pay_l99 n) x1 x2 x3 x4 w
def f_X10_pay (x1 : Int32) (w : MW) : Option (Int32 × MW) :=
 (f_X10_isPlace x1).bind fun y15 =>
 if y15 = 0 then
 (some ((-1 : Int32), mst w 0 0 ((0 : Int32))))
 else
 ((f_X10_isThere x1 (mst w 0 0 ((0 : Int32)))).bind fun y17 =>
 if y17 = 0 then
 ((f_X10_found ((1 : Int32)) (mst w 0 0 ((0 : Int32)))).bind fun y30 =>
 some (y30.1, y30.2))
 else
 ((f_X10_touch x1 (mst w 0 0 ((0 : Int32)))).bind fun y19 =>
 (f_X10_of x1 ((6 : Int32)) y19).bind fun y20 =>
 if y20 = ((1 : Int32)) then
 (some ((-3 : Int32), y19))
 else
 ((f_X10_of x1 ((2 : Int32)) y19).bind fun y22 =>
 (f_X10_creditOf x1 y19).bind fun y23 =>
 if 0 ≤ (y23 - y22) then
 ((f_X10_canChange x1 (y23 - y22) y19).bind fun y25 =>
 if y25.1 = 0 then
 ((f_X10_giveBack x1 y25.2).bind fun y27 =>
 (f_X10_found ((9 : Int32)) y27.2).bind fun y28 =>
 some (y28.1, y28.2))
 else
 (f_X10_pay_l99 FU x1 y22 (y23 - y22) ((0 : Int32)) y25.2))
 else
 ((f_X10_found ((8 : Int32)) y19).bind fun y29 =>
 some (y29.1, y29.2)))))
set_option maxHeartbeats 4000000 in
set_option maxRecDepth 100000 in
theorem t_X10_pay (l : Launch) (G : Gm) (w0 : MW) (x1 : Int32) (r : Int32) (w' : MW) (hf : f_X10_pay x1 w0 = some (r, w')) : MetI l yX10_pay cX10_pay 5 (some .int) 3 73 G (mw G w0) [.ref (gq G 0), .int x1] r (fun _ => mw G (w')) 0 := by
  intro sz
  refine ent (own := RX10) (As := [.ref (gq G 0), .int x1]) (by decide +kernel) rfl (Nat.le_of_ble_eq_true rfl) (fun _ _ h => h.1) ?_
  intro p e s m args below meth c ls B hr hlocks hv hl
  obtain ⟨-, hsz, hP, hKK, hD⟩ := hv
  subst hsz
  have X : CX RX10 cX10_pay 5 G p s m args c := ⟨B, hKK⟩
  obtain ⟨hx, hb, hml, hown, hts⟩ := id B
  have hA : ∀ q : Nat, s.heap.size ≤ q → va_A (mw G w0) s.heap.size q := fun q z => Or.inr z
  have h : CH G (mw G w0) (va_A (mw G w0) s.heap.size) s.heap s.heap [] := ⟨hP, hD.self, va_S.rf⟩
  have L99 : ∀ (n99 : Nat) (x1 : Int32) (x2 : Int32) (x3 : Int32) (x4 : Int32) (w : MW) (H : Heap) (locs : List Loc) (ls : Array Slot), f_X10_pay_l99 n99 x1 x2 x3 x4 w = some (r, w') → CH G (mw G w) (va_A (mw G w0) s.heap.size) s.heap H locs → lv_has ls 5 [(0, .ref (gq G 0)), (1, .int x1), (2, .int x2), (3, .int x3), (4, .int x4)] → W p l e { frames := 3, cells := 0, slots := 4096 * 0, locals := 73 } s m args below meth c H locs 0 (4096 * 0) (MQ below (QI G (mw G w0) s.heap.size r (fun _ => mw G (w'))) args s 0 (4096 * 0) (va_A (mw G w0) s.heap.size)) (F0 m 99 ls []) := by
    intro n99
    induction n99 with
    | zero =>
      intro x1 x2 x3 x4 w H locs ls hf h hl
      cases (show (none : Option (Int32 × MW)) = some _ from hf)
    | succ n99 ih99 =>
      intro x1 x2 x3 x4 w H locs ls hf h hl
      have hf : f_X10_pay_l99_body (f_X10_pay_l99 n99) x1 x2 x3 x4 w = _ := hf
      unfold f_X10_pay_l99_body at hf
      refine lv_iload hx hb dX10_pay_99 (lv_at hl 4 rfl) ?_
      refine lv_bipush (v := 12) hx hb dX10_pay_101 (by decide) ?_
      refine lv_icmp_ge (tgt := 174) hx hb dX10_pay_103 (by decide) (fun c1 => ?_) (fun c1 => ?_)
      · have hf := if_t c1 hf
        refine lv_aload_n hx hb dX10_pay_174 rfl (lv_at hl 0 rfl) ?_
        refine lv_sipush (v := 11347) hx hb dX10_pay_175 (by decide) ?_
        refine lv_aload_n hx hb dX10_pay_178 rfl (lv_at hl 0 rfl) ?_
        refine GM_0_1 X h k_X10_7 dX10_pay_179 ?_
        refine lv_sipush (v := 11347) hx hb dX10_pay_182 (by decide) ?_
        obtain ⟨c2, hf⟩ := chk_some hf
        refine LM_1 X h c2 dX10_pay_185 ?_
        refine lv_iload_n hx hb dX10_pay_186 rfl (lv_at hl 3 rfl) ?_
        refine lv_iadd hx hb dX10_pay_187 ?_
        obtain ⟨y3, ey3, hf⟩ := bnd_some hf
        refine k_X10_w X h hA ey3 k_X10_67 dX10_pay_188 hl.1 ⟨(Nat.le_of_ble_eq_true rfl), (Nat.le_of_ble_eq_true rfl)⟩ (Nat.le_of_ble_eq_true rfl) ⟨Nat.zero_le _, Nat.zero_le _⟩ (fun H locs h => ?_)
        refine lv_aload_n hx hb dX10_pay_191 rfl (lv_at hl 0 rfl) ?_
        refine lv_sipush (v := 11348) hx hb dX10_pay_192 (by decide) ?_
        refine lv_aload_n hx hb dX10_pay_195 rfl (lv_at hl 0 rfl) ?_
        refine GM_0_1 X h k_X10_7 dX10_pay_196 ?_
        refine lv_sipush (v := 11348) hx hb dX10_pay_199 (by decide) ?_
        obtain ⟨c4, hf⟩ := chk_some hf
        refine LM_1 X h c4 dX10_pay_202 ?_
        refine lv_iload_n hx hb dX10_pay_203 rfl (lv_at hl 2 rfl) ?_
        refine lv_iadd hx hb dX10_pay_204 ?_
        obtain ⟨y5, ey5, hf⟩ := bnd_some hf
        refine k_X10_w X h hA ey5 k_X10_67 dX10_pay_205 hl.1 ⟨(Nat.le_of_ble_eq_true rfl), (Nat.le_of_ble_eq_true rfl)⟩ (Nat.le_of_ble_eq_true rfl) ⟨Nat.zero_le _, Nat.zero_le _⟩ (fun H locs h => ?_)
        refine lv_aload_n hx hb dX10_pay_208 rfl (lv_at hl 0 rfl) ?_
        refine lv_iload_n hx hb dX10_pay_209 rfl (lv_at hl 1 rfl) ?_
        refine lv_bipush (v := 40) hx hb dX10_pay_210 (by decide) ?_
        refine lv_aload_n hx hb dX10_pay_212 rfl (lv_at hl 0 rfl) ?_
        refine lv_iload_n hx hb dX10_pay_213 rfl (lv_at hl 1 rfl) ?_
        refine lv_bipush (v := 40) hx hb dX10_pay_214 (by decide) ?_
        obtain ⟨y6, ey6, hf⟩ := bnd_some hf
        refine k_X10_of X h ey6 k_X10_75 dX10_pay_216 hl.1 ⟨(Nat.le_of_ble_eq_true rfl), (Nat.le_of_ble_eq_true rfl)⟩ (Nat.le_of_ble_eq_true rfl) ⟨Nat.zero_le _, Nat.zero_le _⟩ ?_
        refine lv_iload_n hx hb dX10_pay_219 rfl (lv_at hl 2 rfl) ?_
        refine lv_iadd hx hb dX10_pay_220 ?_
        obtain ⟨y7, ey7, hf⟩ := bnd_some hf
        refine k_X10_let X h hA ey7 k_X10_113 dX10_pay_221 hl.1 ⟨(Nat.le_of_ble_eq_true rfl), (Nat.le_of_ble_eq_true rfl)⟩ (Nat.le_of_ble_eq_true rfl) ⟨Nat.zero_le _, Nat.zero_le _⟩ (fun H locs h => ?_)
        refine lv_aload_n hx hb dX10_pay_224 rfl (lv_at hl 0 rfl) ?_
        refine lv_iload_n hx hb dX10_pay_225 rfl (lv_at hl 1 rfl) ?_
        refine lv_bipush (v := 6) hx hb dX10_pay_226 (by decide) ?_
        refine lv_iconst (v := 1) hx hb dX10_pay_228 (by decide) ?_
        obtain ⟨y8, ey8, hf⟩ := bnd_some hf
        refine k_X10_let X h hA ey8 k_X10_113 dX10_pay_229 hl.1 ⟨(Nat.le_of_ble_eq_true rfl), (Nat.le_of_ble_eq_true rfl)⟩ (Nat.le_of_ble_eq_true rfl) ⟨Nat.zero_le _, Nat.zero_le _⟩ (fun H locs h => ?_)
        refine lv_iload_n hx hb dX10_pay_232 rfl (lv_at hl 3 rfl) ?_
        exact e0_i (Wf := mw G) X.1 hr hlocks hf h dX10_pay_233
      · have hf := if_f c1 hf
        refine lv_aload_n hx hb dX10_pay_106 rfl (lv_at hl 0 rfl) ?_
        refine GM_0_13 X h k_X10_29 dX10_pay_107 ?_
        refine lv_iload hx hb dX10_pay_110 (lv_at hl 4 rfl) ?_
        refine lv_aload_n hx hb dX10_pay_112 rfl (lv_at hl 0 rfl) ?_
        refine GM_0_18 X h k_X10_41 dX10_pay_113 ?_
        refine lv_iload hx hb dX10_pay_116 (lv_at hl 4 rfl) ?_
        obtain ⟨c9, hf⟩ := chk_some hf
        refine LM_11 X h c9 dX10_pay_118 ?_
        obtain ⟨c10, hf⟩ := chk_some hf
        refine SM_7 X h c10 dX10_pay_119 (fun H locs h => ?_)
        refine lv_aload_n hx hb dX10_pay_120 rfl (lv_at hl 0 rfl) ?_
        refine lv_sipush (v := 8720) hx hb dX10_pay_121 (by decide) ?_
        refine lv_iconst (v := 2) hx hb dX10_pay_124 (by decide) ?_
        refine lv_iload hx hb dX10_pay_125 (lv_at hl 4 rfl) ?_
        refine lv_imul hx hb dX10_pay_127 ?_
        refine lv_iadd hx hb dX10_pay_128 ?_
        refine lv_iconst (v := 1) hx hb dX10_pay_129 (by decide) ?_
        refine lv_iadd hx hb dX10_pay_130 ?_
        refine lv_aload_n hx hb dX10_pay_131 rfl (lv_at hl 0 rfl) ?_
        refine GM_0_1 X h k_X10_7 dX10_pay_132 ?_
        refine lv_sipush (v := 8720) hx hb dX10_pay_135 (by decide) ?_
        refine lv_iconst (v := 2) hx hb dX10_pay_138 (by decide) ?_
        refine lv_iload hx hb dX10_pay_139 (lv_at hl 4 rfl) ?_
        refine lv_imul hx hb dX10_pay_141 ?_
        refine lv_iadd hx hb dX10_pay_142 ?_
        refine lv_iconst (v := 1) hx hb dX10_pay_143 (by decide) ?_
        refine lv_iadd hx hb dX10_pay_144 ?_
        obtain ⟨c11, hf⟩ := chk_some hf
        refine LM_1 X h c11 dX10_pay_145 ?_
        refine lv_aload_n hx hb dX10_pay_146 rfl (lv_at hl 0 rfl) ?_
        refine GM_0_18 X h k_X10_41 dX10_pay_147 ?_
        refine lv_iload hx hb dX10_pay_150 (lv_at hl 4 rfl) ?_
        obtain ⟨c12, hf⟩ := chk_some hf
        refine LM_11 X h c12 dX10_pay_152 ?_
        refine lv_isub hx hb dX10_pay_153 ?_
        obtain ⟨y13, ey13, hf⟩ := bnd_some hf
        refine k_X10_w X h hA ey13 k_X10_67 dX10_pay_154 hl.1 ⟨(Nat.le_of_ble_eq_true rfl), (Nat.le_of_ble_eq_true rfl)⟩ (Nat.le_of_ble_eq_true rfl) ⟨Nat.zero_le _, Nat.zero_le _⟩ (fun H locs h => ?_)
        refine lv_aload_n hx hb dX10_pay_157 rfl (lv_at hl 0 rfl) ?_
        refine lv_iload_n hx hb dX10_pay_158 rfl (lv_at hl 1 rfl) ?_
        refine lv_bipush (v := 14) hx hb dX10_pay_159 (by decide) ?_
        refine lv_iload hx hb dX10_pay_161 (lv_at hl 4 rfl) ?_
        refine lv_iadd hx hb dX10_pay_163 ?_
        refine lv_iconst (v := 0) hx hb dX10_pay_164 (by decide) ?_
        obtain ⟨y14, ey14, hf⟩ := bnd_some hf
        refine k_X10_let X h hA ey14 k_X10_113 dX10_pay_165 hl.1 ⟨(Nat.le_of_ble_eq_true rfl), (Nat.le_of_ble_eq_true rfl)⟩ (Nat.le_of_ble_eq_true rfl) ⟨Nat.zero_le _, Nat.zero_le _⟩ (fun H locs h => ?_)
        refine lv_iinc (v := x4 + (1 : Int32)) (lv' := [(4, .int (x4 + (1 : Int32))), (0, .ref (gq G 0)), (1, .int x1), (2, .int x2), (3, .int x3)]) hx hb dX10_pay_168 hl (k := 4) rfl (by rfl) (by decide) rfl (fun ls hl => ?_)
        refine lv_goto (tgt := 99) hx hb dX10_pay_171 (by decide) ?_
        exact ih99 _ _ _ _ _ _ _ _ hf h (lv_sub hl [1, 2, 3, 4, 0] rfl)
  obtain ⟨w, rfl⟩ : ∃ z, z = w0 := ⟨_, rfl⟩
  have hl : lv_has ls 5 [(0, .ref (gq G 0)), (1, .int x1)] := hl
  unfold f_X10_pay at hf
  refine lv_aload_n hx hb dX10_pay_0 rfl (lv_at hl 0 rfl) ?_
  refine lv_iconst (v := 0) hx hb dX10_pay_1 (by decide) ?_
  refine PM_0_0 X h k_X10_53 dX10_pay_2 (fun H locs h => ?_)
  refine lv_iload_n hx hb dX10_pay_5 rfl (lv_at hl 1 rfl) ?_
  obtain ⟨y15, ey15, hf⟩ := bnd_some hf
  refine k_X10_isPlace X.1 ey15 k_X10_106 dX10_pay_6 hl.1 ⟨(Nat.le_of_ble_eq_true rfl), (Nat.le_of_ble_eq_true rfl)⟩ (Nat.le_of_ble_eq_true rfl) ⟨Nat.zero_le _, Nat.zero_le _⟩ ?_
  refine lv_if_ne (tgt := 14) hx hb dX10_pay_9 (by decide) (fun c16 => ?_) (fun c16 => ?_)
  · have hf := if_f c16 hf
    refine lv_aload_n hx hb dX10_pay_14 rfl (lv_at hl 0 rfl) ?_
    refine lv_iload_n hx hb dX10_pay_15 rfl (lv_at hl 1 rfl) ?_
    obtain ⟨y17, ey17, hf⟩ := bnd_some hf
    refine k_X10_isThere X h ey17 k_X10_110 dX10_pay_16 hl.1 ⟨(Nat.le_of_ble_eq_true rfl), (Nat.le_of_ble_eq_true rfl)⟩ (Nat.le_of_ble_eq_true rfl) ⟨Nat.zero_le _, Nat.zero_le _⟩ ?_
    refine lv_if_ne (tgt := 28) hx hb dX10_pay_19 (by decide) (fun c18 => ?_) (fun c18 => ?_)
    · have hf := if_f c18 hf
      refine lv_aload_n hx hb dX10_pay_28 rfl (lv_at hl 0 rfl) ?_
      refine lv_iload_n hx hb dX10_pay_29 rfl (lv_at hl 1 rfl) ?_
      obtain ⟨y19, ey19, hf⟩ := bnd_some hf
      refine k_X10_touch X h hA ey19 k_X10_145 dX10_pay_30 hl.1 ⟨(Nat.le_of_ble_eq_true rfl), (Nat.le_of_ble_eq_true rfl)⟩ (Nat.le_of_ble_eq_true rfl) ⟨Nat.zero_le _, Nat.zero_le _⟩ (fun H locs h => ?_)
      refine lv_aload_n hx hb dX10_pay_33 rfl (lv_at hl 0 rfl) ?_
      refine lv_iload_n hx hb dX10_pay_34 rfl (lv_at hl 1 rfl) ?_
      refine lv_bipush (v := 6) hx hb dX10_pay_35 (by decide) ?_
      obtain ⟨y20, ey20, hf⟩ := bnd_some hf
      refine k_X10_of X h ey20 k_X10_75 dX10_pay_37 hl.1 ⟨(Nat.le_of_ble_eq_true rfl), (Nat.le_of_ble_eq_true rfl)⟩ (Nat.le_of_ble_eq_true rfl) ⟨Nat.zero_le _, Nat.zero_le _⟩ ?_
      refine lv_iconst (v := 1) hx hb dX10_pay_40 (by decide) ?_
      refine lv_icmp_ne (tgt := 47) hx hb dX10_pay_41 (by decide) (fun c21 => ?_) (fun c21 => ?_)
      · have hf := if_f c21 hf
        refine lv_aload_n hx hb dX10_pay_47 rfl (lv_at hl 0 rfl) ?_
        refine lv_iload_n hx hb dX10_pay_48 rfl (lv_at hl 1 rfl) ?_
        refine lv_iconst (v := 2) hx hb dX10_pay_49 (by decide) ?_
        obtain ⟨y22, ey22, hf⟩ := bnd_some hf
        refine k_X10_of X h ey22 k_X10_75 dX10_pay_50 hl.1 ⟨(Nat.le_of_ble_eq_true rfl), (Nat.le_of_ble_eq_true rfl)⟩ (Nat.le_of_ble_eq_true rfl) ⟨Nat.zero_le _, Nat.zero_le _⟩ ?_
        refine lv_istore_n (lv' := [(2, .int y22), (0, .ref (gq G 0)), (1, .int x1)]) hx hb dX10_pay_53 rfl hl (by decide) rfl (fun ls hl => ?_)
        refine lv_aload_n hx hb dX10_pay_54 rfl (lv_at hl 1 rfl) ?_
        refine lv_iload_n hx hb dX10_pay_55 rfl (lv_at hl 2 rfl) ?_
        obtain ⟨y23, ey23, hf⟩ := bnd_some hf
        refine k_X10_creditOf X h ey23 k_X10_123 dX10_pay_56 hl.1 ⟨(Nat.le_of_ble_eq_true rfl), (Nat.le_of_ble_eq_true rfl)⟩ (Nat.le_of_ble_eq_true rfl) ⟨Nat.zero_le _, Nat.zero_le _⟩ ?_
        refine lv_iload_n hx hb dX10_pay_59 rfl (lv_at hl 0 rfl) ?_
        refine lv_isub hx hb dX10_pay_60 ?_
        refine lv_istore_n (lv' := [(3, .int (y23 - y22)), (2, .int y22), (0, .ref (gq G 0)), (1, .int x1)]) hx hb dX10_pay_61 rfl hl (by decide) rfl (fun ls hl => ?_)
        refine lv_iload_n hx hb dX10_pay_62 rfl (lv_at hl 0 rfl) ?_
        refine lv_if_ge (tgt := 73) hx hb dX10_pay_63 (by decide) (fun c24 => ?_) (fun c24 => ?_)
        · have hf := if_t c24 hf
          refine lv_aload_n hx hb dX10_pay_73 rfl (lv_at hl 2 rfl) ?_
          refine lv_iload_n hx hb dX10_pay_74 rfl (lv_at hl 3 rfl) ?_
          refine lv_iload_n hx hb dX10_pay_75 rfl (lv_at hl 0 rfl) ?_
          obtain ⟨y25, ey25, hf⟩ := bnd_some hf
          refine k_X10_canChange X h hA ey25 k_X10_148 dX10_pay_76 hl.1 ⟨(Nat.le_of_ble_eq_true rfl), (Nat.le_of_ble_eq_true rfl)⟩ (Nat.le_of_ble_eq_true rfl) ⟨Nat.zero_le _, Nat.zero_le _⟩ (fun H locs h => ?_)
          refine lv_if_ne (tgt := 96) hx hb dX10_pay_79 (by decide) (fun c26 => ?_) (fun c26 => ?_)
          · have hf := if_f c26 hf
            refine lv_iconst (v := 0) hx hb dX10_pay_96 (by decide) ?_
            refine lv_istore (lv' := [(4, .int ((0 : Int32))), (3, .int (y23 - y22)), (2, .int y22), (0, .ref (gq G 0)), (1, .int x1)]) hx hb dX10_pay_97 hl (by decide) rfl (fun ls hl => ?_)
            exact L99 FU _ _ _ _ _ _ _ _ hf h (lv_sub hl [3, 4, 2, 1, 0] rfl)
          · have hf := if_t c26 hf
            refine lv_aload_n hx hb dX10_pay_82 rfl (lv_at hl 2 rfl) ?_
            refine lv_iload_n hx hb dX10_pay_83 rfl (lv_at hl 3 rfl) ?_
            obtain ⟨y27, ey27, hf⟩ := bnd_some hf
            refine k_X10_giveBack X h hA ey27 k_X10_151 dX10_pay_84 hl.1 ⟨(Nat.le_of_ble_eq_true rfl), (Nat.le_of_ble_eq_true rfl)⟩ (Nat.le_of_ble_eq_true rfl) ⟨Nat.zero_le _, Nat.zero_le _⟩ (fun H locs h => ?_)
            refine lv_istore (lv' := [(4, .int y27.1), (3, .int (y23 - y22)), (2, .int y22), (0, .ref (gq G 0)), (1, .int x1)]) hx hb dX10_pay_87 hl (by decide) rfl (fun ls hl => ?_)
            refine lv_aload_n hx hb dX10_pay_89 rfl (lv_at hl 3 rfl) ?_
            refine lv_bipush (v := 9) hx hb dX10_pay_90 (by decide) ?_
            obtain ⟨y28, ey28, hf⟩ := bnd_some hf
            refine k_X10_found X h hA ey28 k_X10_117 dX10_pay_92 hl.1 ⟨(Nat.le_of_ble_eq_true rfl), (Nat.le_of_ble_eq_true rfl)⟩ (Nat.le_of_ble_eq_true rfl) ⟨Nat.zero_le _, Nat.zero_le _⟩ (fun H locs h => ?_)
            exact e0_i (Wf := mw G) X.1 hr hlocks hf h dX10_pay_95
        · have hf := if_f c24 hf
          refine lv_aload_n hx hb dX10_pay_66 rfl (lv_at hl 2 rfl) ?_
          refine lv_bipush (v := 8) hx hb dX10_pay_67 (by decide) ?_
          obtain ⟨y29, ey29, hf⟩ := bnd_some hf
          refine k_X10_found X h hA ey29 k_X10_117 dX10_pay_69 hl.1 ⟨(Nat.le_of_ble_eq_true rfl), (Nat.le_of_ble_eq_true rfl)⟩ (Nat.le_of_ble_eq_true rfl) ⟨Nat.zero_le _, Nat.zero_le _⟩ (fun H locs h => ?_)
          exact e0_i (Wf := mw G) X.1 hr hlocks hf h dX10_pay_72
      · have hf := if_t c21 hf
        refine lv_bipush (v := (-3)) hx hb dX10_pay_44 (by decide) ?_
        exact e0_i (Wf := mw G) X.1 hr hlocks hf h dX10_pay_46
    · have hf := if_t c18 hf
      refine lv_aload_n hx hb dX10_pay_22 rfl (lv_at hl 0 rfl) ?_
      refine lv_iconst (v := 1) hx hb dX10_pay_23 (by decide) ?_
      obtain ⟨y30, ey30, hf⟩ := bnd_some hf
      refine k_X10_found X h hA ey30 k_X10_117 dX10_pay_24 hl.1 ⟨(Nat.le_of_ble_eq_true rfl), (Nat.le_of_ble_eq_true rfl)⟩ (Nat.le_of_ble_eq_true rfl) ⟨Nat.zero_le _, Nat.zero_le _⟩ (fun H locs h => ?_)
      exact e0_i (Wf := mw G) X.1 hr hlocks hf h dX10_pay_27
  · have hf := if_t c16 hf
    refine lv_iconst (v := (-1)) hx hb dX10_pay_12 (by decide) ?_
    exact e0_i (Wf := mw G) X.1 hr hlocks hf h dX10_pay_13
theorem m_X10_pay : Cond.instanceMethod yX10_pay ∈ lw_good ∧ Cond.selects RX10 yX10_pay yX10_pay ∈ lw_good ∧ Cond.initialized RX10 ∈ lw_good ∧ Cond.code yX10_pay cX10_pay 5 (some .int) ∈ lw_good := by decide +kernel
theorem k_X10_pay {p : Program} {l : Launch} {e : Env} {R : Room} {s : State} {m : MethodId} {args : Array Value} {below : List Frame} {meth : Method} {c : Code} {H : Heap} {locs : List Loc} {cells slots : Nat} {Q : State → Prop} {cc : ByteArray} {nL pc idx : Nat} {ls : Array Slot} {rest : List Value} {own : String} {G : Gm} {A : Nat → Prop} {H0 : Heap} {w : MW} {x1 : Int32} {y : Int32 × MW} (X : CX own cc nL G p s m args c) (h : CH G (mw G w) A H0 H locs) (hA : ∀ q, H0.size ≤ q → A q) (hf : f_X10_pay x1 w = some y) (hlk : Cond.methodLink own idx yX10_pay ∈ lw_good) (hd : decode cc pc = .ok (.invokevirtual idx, 3)) (hsz : ls.size = nL) (hR : 4 ≤ R.frames ∧ 97 ≤ R.locals) (hrest : (rest.map fun v => v.category).sum ≤ 8) (hk : cells ≤ R.cells ∧ slots ≤ R.slots) (k : ∀ (H : Heap) (locs : List Loc), CH G (mw G y.2) A H0 H locs → W p l e R s m args below meth c H locs cells slots Q (F0 m (pc + 3) ls (.int y.1 :: rest))) : W p l e R s m args below meth c H locs cells slots Q (F0 m pc ls (.int x1 :: .ref (gq G 0) :: rest)) :=
  fin_i (n := 0) (runV (As := [.int x1]) X.1 1 (t_X10_pay l G w x1 y.1 y.2 hf _) rfl rfl hlk m_X10_pay (by decide +kernel) ⟨hR.1, hR.2⟩ ⟨blindM, va_recv X.2.1 h.1 (ci := 9) (q0 := 0) rfl rfl, preM X.2 h⟩ rfl hsz hrest hd hk) h hA (fun _ H locs h => k H locs h)
