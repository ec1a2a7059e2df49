def f_X10_breakDown_b37 (x1 : Int32) (w : MW) : Option MW :=
 (f_X10_let x1 ((31 : Int32)) ((0 : Int32)) w).bind fun y1 =>
 (f_X10_let x1 ((101 : Int32)) ((1 : Int32)) y1).bind fun y2 =>
 (f_X10_let x1 ((4 : Int32)) ((4 : Int32)) y2).bind fun y3 =>
 some y3
def f_X10_breakDown (x1 : Int32) (w : MW) : Option MW :=
 (f_X10_touch x1 w).bind fun y4 =>
 (f_X10_of x1 ((26 : Int32)) y4).bind fun y5 =>
 if y5 = ((1 : Int32)) then
 ((f_X10_ends x1 y4).bind fun y7 =>
 (f_X10_of x1 ((39 : Int32)) y7).bind fun y8 =>
 (f_X10_let x1 ((39 : Int32)) (y8 + ((1 : Int32))) y7).bind fun y9 =>
 f_X10_breakDown_b37 x1 y9)
 else
 (f_X10_breakDown_b37 x1 y4)
set_option maxHeartbeats 4000000 in
set_option maxRecDepth 100000 in
theorem t_X10_breakDown (l : Launch) (G : Gm) (w0 : MW) (x1 : Int32) (w' : MW) (hf : f_X10_breakDown x1 w0 = some w') : MetV l yX10_breakDown cX10_breakDown 2 3 66 G (mw G w0) [.ref (gq G 0), .int x1] (fun _ => mw G (w')) 0 := by
  intro sz
  refine ent (own := RX10) (As := [.ref (gq G 0), .int x1]) (by decide +kernel) rfl (Nat.le_of_ble_eq_true rfl) (fun _ _ h => h.1) ?_
  intro p e s m args below meth c ls B hr hlocks hv hl
  obtain ⟨-, hsz, hP, hKK, hD⟩ := hv
  subst hsz
  have X : CX RX10 cX10_breakDown 2 G p s m args c := ⟨B, hKK⟩
  obtain ⟨hx, hb, hml, hown, hts⟩ := id B
  have hA : ∀ q : Nat, s.heap.size ≤ q → va_A (mw G w0) s.heap.size q := fun q z => Or.inr z
  have h : CH G (mw G w0) (va_A (mw G w0) s.heap.size) s.heap s.heap [] := ⟨hP, hD.self, va_S.rf⟩
  have J37 : ∀ (x1 : Int32) (w : MW) (H : Heap) (locs : List Loc) (ls : Array Slot), f_X10_breakDown_b37 x1 w = some w' → CH G (mw G w) (va_A (mw G w0) s.heap.size) s.heap H locs → lv_has ls 2 [(0, .ref (gq G 0)), (1, .int x1)] → W p l e { frames := 3, cells := 0, slots := 4096 * 0, locals := 66 } s m args below meth c H locs 0 (4096 * 0) (MQ below (QV G (mw G w0) s.heap.size (fun _ => mw G (w'))) args s 0 (4096 * 0) (va_A (mw G w0) s.heap.size)) (F0 m 37 ls []) := by
    intro x1 w H locs ls hf h hl
    unfold f_X10_breakDown_b37 at hf
    refine lv_aload_n hx hb dX10_breakDown_37 rfl (lv_at hl 0 rfl) ?_
    refine lv_iload_n hx hb dX10_breakDown_38 rfl (lv_at hl 1 rfl) ?_
    refine lv_bipush (v := 31) hx hb dX10_breakDown_39 (by decide) ?_
    refine lv_iconst (v := 0) hx hb dX10_breakDown_41 (by decide) ?_
    obtain ⟨y1, ey1, hf⟩ := bnd_some hf
    refine k_X10_let X h hA ey1 k_X10_113 dX10_breakDown_42 hl.1 ⟨(Nat.le_of_ble_eq_true rfl), (Nat.le_of_ble_eq_true rfl)⟩ (Nat.le_of_ble_eq_true rfl) ⟨Nat.zero_le _, Nat.zero_le _⟩ (fun H locs h => ?_)
    refine lv_aload_n hx hb dX10_breakDown_45 rfl (lv_at hl 0 rfl) ?_
    refine lv_iload_n hx hb dX10_breakDown_46 rfl (lv_at hl 1 rfl) ?_
    refine lv_bipush (v := 101) hx hb dX10_breakDown_47 (by decide) ?_
    refine lv_iconst (v := 1) hx hb dX10_breakDown_49 (by decide) ?_
    obtain ⟨y2, ey2, hf⟩ := bnd_some hf
    refine k_X10_let X h hA ey2 k_X10_113 dX10_breakDown_50 hl.1 ⟨(Nat.le_of_ble_eq_true rfl), (Nat.le_of_ble_eq_true rfl)⟩ (Nat.le_of_ble_eq_true rfl) ⟨Nat.zero_le _, Nat.zero_le _⟩ (fun H locs h => ?_)
    refine lv_aload_n hx hb dX10_breakDown_53 rfl (lv_at hl 0 rfl) ?_
    refine lv_iload_n hx hb dX10_breakDown_54 rfl (lv_at hl 1 rfl) ?_
    refine lv_iconst (v := 4) hx hb dX10_breakDown_55 (by decide) ?_
    refine lv_iconst (v := 4) hx hb dX10_breakDown_56 (by decide) ?_
    obtain ⟨y3, ey3, hf⟩ := bnd_some hf
    refine k_X10_let X h hA ey3 k_X10_113 dX10_breakDown_57 hl.1 ⟨(Nat.le_of_ble_eq_true rfl), (Nat.le_of_ble_eq_true rfl)⟩ (Nat.le_of_ble_eq_true rfl) ⟨Nat.zero_le _, Nat.zero_le _⟩ (fun H locs h => ?_)
    exact e0_v (Wf := mw G) X.1 hr hlocks hf h dX10_breakDown_60
  obtain ⟨w, rfl⟩ : ∃ z, z = w0 := ⟨_, rfl⟩
  have hl : lv_has ls 2 [(0, .ref (gq G 0)), (1, .int x1)] := hl
  unfold f_X10_breakDown at hf
  refine lv_aload_n hx hb dX10_breakDown_0 rfl (lv_at hl 0 rfl) ?_
  refine lv_iload_n hx hb dX10_breakDown_1 rfl (lv_at hl 1 rfl) ?_
  obtain ⟨y4, ey4, hf⟩ := bnd_some hf
  refine k_X10_touch X h hA ey4 k_X10_145 dX10_breakDown_2 hl.1 ⟨(Nat.le_of_ble_eq_true rfl), (Nat.le_of_ble_eq_true rfl)⟩ (Nat.le_of_ble_eq_true rfl) ⟨Nat.zero_le _, Nat.zero_le _⟩ (fun H locs h => ?_)
  refine lv_aload_n hx hb dX10_breakDown_5 rfl (lv_at hl 0 rfl) ?_
  refine lv_iload_n hx hb dX10_breakDown_6 rfl (lv_at hl 1 rfl) ?_
  refine lv_bipush (v := 26) hx hb dX10_breakDown_7 (by decide) ?_
  obtain ⟨y5, ey5, hf⟩ := bnd_some hf
  refine k_X10_of X h ey5 k_X10_75 dX10_breakDown_9 hl.1 ⟨(Nat.le_of_ble_eq_true rfl), (Nat.le_of_ble_eq_true rfl)⟩ (Nat.le_of_ble_eq_true rfl) ⟨Nat.zero_le _, Nat.zero_le _⟩ ?_
  refine lv_iconst (v := 1) hx hb dX10_breakDown_12 (by decide) ?_
  refine lv_icmp_ne (tgt := 37) hx hb dX10_breakDown_13 (by decide) (fun c6 => ?_) (fun c6 => ?_)
  · have hf := if_f c6 hf
    exact J37 _ _ _ _ _ hf h (lv_sub hl [0, 1] rfl)
  · have hf := if_t c6 hf
    refine lv_aload_n hx hb dX10_breakDown_16 rfl (lv_at hl 0 rfl) ?_
    refine lv_iload_n hx hb dX10_breakDown_17 rfl (lv_at hl 1 rfl) ?_
    obtain ⟨y7, ey7, hf⟩ := bnd_some hf
    refine k_X10_ends X h hA ey7 k_X10_172 dX10_breakDown_18 hl.1 ⟨(Nat.le_of_ble_eq_true rfl), (Nat.le_of_ble_eq_true rfl)⟩ (Nat.le_of_ble_eq_true rfl) ⟨Nat.zero_le _, Nat.zero_le _⟩ (fun H locs h => ?_)
    refine lv_aload_n hx hb dX10_breakDown_21 rfl (lv_at hl 0 rfl) ?_
    refine lv_iload_n hx hb dX10_breakDown_22 rfl (lv_at hl 1 rfl) ?_
    refine lv_bipush (v := 39) hx hb dX10_breakDown_23 (by decide) ?_
    refine lv_aload_n hx hb dX10_breakDown_25 rfl (lv_at hl 0 rfl) ?_
    refine lv_iload_n hx hb dX10_breakDown_26 rfl (lv_at hl 1 rfl) ?_
    refine lv_bipush (v := 39) hx hb dX10_breakDown_27 (by decide) ?_
    obtain ⟨y8, ey8, hf⟩ := bnd_some hf
    refine k_X10_of X h ey8 k_X10_75 dX10_breakDown_29 hl.1 ⟨(Nat.le_of_ble_eq_true rfl), (Nat.le_of_ble_eq_true rfl)⟩ (Nat.le_of_ble_eq_true rfl) ⟨Nat.zero_le _, Nat.zero_le _⟩ ?_
    refine lv_iconst (v := 1) hx hb dX10_breakDown_32 (by decide) ?_
    refine lv_iadd hx hb dX10_breakDown_33 ?_
    obtain ⟨y9, ey9, hf⟩ := bnd_some hf
    refine k_X10_let X h hA ey9 k_X10_113 dX10_breakDown_34 hl.1 ⟨(Nat.le_of_ble_eq_true rfl), (Nat.le_of_ble_eq_true rfl)⟩ (Nat.le_of_ble_eq_true rfl) ⟨Nat.zero_le _, Nat.zero_le _⟩ (fun H locs h => ?_)
    exact J37 _ _ _ _ _ hf h (lv_sub hl [0, 1] rfl)
theorem m_X10_breakDown : Cond.instanceMethod yX10_breakDown ∈ lw_good ∧ Cond.selects RX10 yX10_breakDown yX10_breakDown ∈ lw_good ∧ Cond.initialized RX10 ∈ lw_good ∧ Cond.code yX10_breakDown cX10_breakDown 2 none ∈ lw_good := by decide +kernel
theorem k_X10_breakDown {p : Program} {l : Launch} {e : Env} {R : Room} {s : State} {m : MethodId} {args : Array Value} {below : List Frame} {meth : Method} {c : Code} {H : Heap} {locs : List Loc} {cells slots : Nat} {Q : State → Prop} {cc : ByteArray} {nL pc idx : Nat} {ls : Array Slot} {rest : List Value} {own : String} {G : Gm} {A : Nat → Prop} {H0 : Heap} {w : MW} {x1 : Int32} {w' : MW} (X : CX own cc nL G p s m args c) (h : CH G (mw G w) A H0 H locs) (hA : ∀ q, H0.size ≤ q → A q) (hf : f_X10_breakDown x1 w = some w') (hlk : Cond.methodLink own idx yX10_breakDown ∈ lw_good) (hd : decode cc pc = .ok (.invokevirtual idx, 3)) (hsz : ls.size = nL) (hR : 4 ≤ R.frames ∧ 87 ≤ R.locals) (hrest : (rest.map fun v => v.category).sum ≤ 8) (hk : cells ≤ R.cells ∧ slots ≤ R.slots) (k : ∀ (H : Heap) (locs : List Loc), CH G (mw G (w')) A H0 H locs → W p l e R s m args below meth c H locs cells slots Q (F0 m (pc + 3) ls (rest))) : W p l e R s m args below meth c H locs cells slots Q (F0 m pc ls (.int x1 :: .ref (gq G 0) :: rest)) :=
  fin_v (n := 0) (runV (As := [.int x1]) X.1 1 (t_X10_breakDown l G w x1 w' hf _) rfl rfl hlk m_X10_breakDown (by decide +kernel) ⟨hR.1, hR.2⟩ ⟨blindM, va_recv X.2.1 h.1 (ci := 9) (q0 := 0) rfl rfl, preM X.2 h⟩ rfl hsz hrest hd hk) h hA (fun _ H locs h => k H locs h)
def f_X10_goes_b159 (x1 : Int32) (w : MW) : Option MW :=
 (f_X10_let x1 ((30 : Int32)) ((0 : Int32)) w).bind fun y1 =>
 (f_X10_let x1 ((4 : Int32)) ((2 : Int32)) y1).bind fun y2 =>
 (f_X10_of x1 ((29 : Int32)) y2).bind fun y3 =>
 (f_X10_let x1 ((29 : Int32)) (y3 - ((1 : Int32))) y2).bind fun y4 =>
 (f_X10_of x1 ((29 : Int32)) y4).bind fun y5 =>
 if y5 = 0 then
 ((f_X10_of x1 ((28 : Int32)) y4).bind fun y7 =>
 (f_X10_let x1 ((28 : Int32)) (y7 + ((1 : Int32))) y4).bind fun y8 =>
 (f_X10_of x1 ((28 : Int32)) y8).bind fun y9 =>
 (f_X10_of x1 ((27 : Int32)) y8).bind fun y10 =>
 if y9 = y10 then
 ((f_X10_ends x1 y8).bind fun y15 =>
 some y15)
 else
 ((f_X10_of x1 ((28 : Int32)) y8).bind fun y12 =>
 (f_X10_of x1 (((71 : Int32)) + y12) y8).bind fun y13 =>
 (f_X10_let x1 ((29 : Int32)) y13 y8).bind fun y14 =>
 some y14))
 else
 (some y4)
def f_X10_goes_b133 (x1 : Int32) (x2 : Int32) (w : MW) : Option MW :=
 if x2 = ((1 : Int32)) then
 ((f_X10_of x1 ((37 : Int32)) w).bind fun y17 =>
 (f_X10_wearOf x1 ((1 : Int32)) w).bind fun y18 =>
 (f_X10_let x1 ((37 : Int32)) (y17 + y18.1) y18.2).bind fun y19 =>
 f_X10_goes_b159 x1 y19)
 else
 (f_X10_goes_b159 x1 w)
def f_X10_goes_l18_body (kself : (Int32 → Int32 → Int32 → MW → Option MW)) (x1 : Int32) (x2 : Int32) (x3 : Int32) (w : MW) : Option MW :=
 if ((3 : Int32)) ≤ x3 then
 ((f_X10_of x1 ((5 : Int32)) w).bind fun y21 =>
 chk (inb ((0 : Int32)) 3) (
 (f_X10_let x1 ((5 : Int32)) (y21 + (w 13 ((0 : Int32)).toNatClampNeg)) w).bind fun y23 =>
 if x2 = ((3 : Int32)) then
 (chk (inb ((11349 : Int32)) 11360) (
 (f_X10_of x1 ((5 : Int32)) y23).bind fun y26 =>
 (f_X10_w ((11349 : Int32)) ((y23 1 ((11349 : Int32)).toNatClampNeg) + y26) y23).bind fun y27 =>
 (f_X10_let x1 ((5 : Int32)) ((0 : Int32)) y27).bind fun y28 =>
 f_X10_goes_b133 x1 x2 y28))
 else
 (f_X10_goes_b133 x1 x2 y23)))
 else
 (chk (inb (((11350 : Int32)) + x3) 11360) (
 chk (inb x3 3) (
 (f_X10_w (((11350 : Int32)) + x3) ((w 1 (((11350 : Int32)) + x3).toNatClampNeg) + (w 13 x3.toNatClampNeg)) w).bind fun y31 =>
 (f_X10_of x1 (((34 : Int32)) + x3) y31).bind fun y32 =>
 chk (inb x3 3) (
 (f_X10_let x1 (((34 : Int32)) + x3) (y32 + (y31 13 x3.toNatClampNeg)) y31).bind fun y34 =>
 kself x1 x2 (x3 + (1 : Int32)) y34))))
def f_X10_goes_l18 : Nat → Int32 → Int32 → Int32 → MW → Option MW
  | 0, _, _, _, _ => none
  | n + 1, x1, x2, x3, w => f_X10_goes_l18_body (f_X10_goes_l18 n) x1 x2 x3 w
def f_X10_goes (x1 : Int32) (x2 : Int32) (w : MW) : Option MW :=
 (f_X10_of x1 ((32 : Int32)) w).bind fun y35 =>
 (f_X10_let x1 ((32 : Int32)) (y35 + ((1 : Int32))) w).bind fun y36 =>
 f_X10_goes_l18 FU x1 x2 ((0 : Int32)) y36
set_option maxHeartbeats 4000000 in
set_option maxRecDepth 100000 in
theorem t_X10_goes (l : Launch) (G : Gm) (w0 : MW) (x1 : Int32) (x2 : Int32) (w' : MW) (hf : f_X10_goes x1 x2 w0 = some w') : MetV l yX10_goes cX10_goes 4 5 114 G (mw G w0) [.ref (gq G 0), .int x1, .int x2] (fun _ => mw G (w')) 0 := by
  intro sz
  refine ent (own := RX10) (As := [.ref (gq G 0), .int x1, .int x2]) (by decide +kernel) rfl (Nat.le_of_ble_eq_true rfl) (fun _ _ h => h.1) ?_
  intro p e s m args below meth c ls B hr hlocks hv hl
  obtain ⟨-, hsz, hP, hKK, hD⟩ := hv
  subst hsz
  have X : CX RX10 cX10_goes 4 G p s m args c := ⟨B, hKK⟩
  obtain ⟨hx, hb, hml, hown, hts⟩ := id B
  have hA : ∀ q : Nat, s.heap.size ≤ q → va_A (mw G w0) s.heap.size q := fun q z => Or.inr z
  have h : CH G (mw G w0) (va_A (mw G w0) s.heap.size) s.heap s.heap [] := ⟨hP, hD.self, va_S.rf⟩
  have J159 : ∀ (x1 : Int32) (w : MW) (H : Heap) (locs : List Loc) (ls : Array Slot), f_X10_goes_b159 x1 w = some w' → CH G (mw G w) (va_A (mw G w0) s.heap.size) s.heap H locs → lv_has ls 4 [(0, .ref (gq G 0)), (1, .int x1)] → W p l e { frames := 5, cells := 0, slots := 4096 * 0, locals := 114 } s m args below meth c H locs 0 (4096 * 0) (MQ below (QV G (mw G w0) s.heap.size (fun _ => mw G (w'))) args s 0 (4096 * 0) (va_A (mw G w0) s.heap.size)) (F0 m 159 ls []) := by
    intro x1 w H locs ls hf h hl
    unfold f_X10_goes_b159 at hf
    refine lv_aload_n hx hb dX10_goes_159 rfl (lv_at hl 0 rfl) ?_
    refine lv_iload_n hx hb dX10_goes_160 rfl (lv_at hl 1 rfl) ?_
    refine lv_bipush (v := 30) hx hb dX10_goes_161 (by decide) ?_
    refine lv_iconst (v := 0) hx hb dX10_goes_163 (by decide) ?_
    obtain ⟨y1, ey1, hf⟩ := bnd_some hf
    refine k_X10_let X h hA ey1 k_X10_113 dX10_goes_164 hl.1 ⟨(Nat.le_of_ble_eq_true rfl), (Nat.le_of_ble_eq_true rfl)⟩ (Nat.le_of_ble_eq_true rfl) ⟨Nat.zero_le _, Nat.zero_le _⟩ (fun H locs h => ?_)
    refine lv_aload_n hx hb dX10_goes_167 rfl (lv_at hl 0 rfl) ?_
    refine lv_iload_n hx hb dX10_goes_168 rfl (lv_at hl 1 rfl) ?_
    refine lv_iconst (v := 4) hx hb dX10_goes_169 (by decide) ?_
    refine lv_iconst (v := 2) hx hb dX10_goes_170 (by decide) ?_
    obtain ⟨y2, ey2, hf⟩ := bnd_some hf
    refine k_X10_let X h hA ey2 k_X10_113 dX10_goes_171 hl.1 ⟨(Nat.le_of_ble_eq_true rfl), (Nat.le_of_ble_eq_true rfl)⟩ (Nat.le_of_ble_eq_true rfl) ⟨Nat.zero_le _, Nat.zero_le _⟩ (fun H locs h => ?_)
    refine lv_aload_n hx hb dX10_goes_174 rfl (lv_at hl 0 rfl) ?_
    refine lv_iload_n hx hb dX10_goes_175 rfl (lv_at hl 1 rfl) ?_
    refine lv_bipush (v := 29) hx hb dX10_goes_176 (by decide) ?_
    refine lv_aload_n hx hb dX10_goes_178 rfl (lv_at hl 0 rfl) ?_
    refine lv_iload_n hx hb dX10_goes_179 rfl (lv_at hl 1 rfl) ?_
    refine lv_bipush (v := 29) hx hb dX10_goes_180 (by decide) ?_
    obtain ⟨y3, ey3, hf⟩ := bnd_some hf
    refine k_X10_of X h ey3 k_X10_75 dX10_goes_182 hl.1 ⟨(Nat.le_of_ble_eq_true rfl), (Nat.le_of_ble_eq_true rfl)⟩ (Nat.le_of_ble_eq_true rfl) ⟨Nat.zero_le _, Nat.zero_le _⟩ ?_
    refine lv_iconst (v := 1) hx hb dX10_goes_185 (by decide) ?_
    refine lv_isub hx hb dX10_goes_186 ?_
    obtain ⟨y4, ey4, hf⟩ := bnd_some hf
    refine k_X10_let X h hA ey4 k_X10_113 dX10_goes_187 hl.1 ⟨(Nat.le_of_ble_eq_true rfl), (Nat.le_of_ble_eq_true rfl)⟩ (Nat.le_of_ble_eq_true rfl) ⟨Nat.zero_le _, Nat.zero_le _⟩ (fun H locs h => ?_)
    refine lv_aload_n hx hb dX10_goes_190 rfl (lv_at hl 0 rfl) ?_
    refine lv_iload_n hx hb dX10_goes_191 rfl (lv_at hl 1 rfl) ?_
    refine lv_bipush (v := 29) hx hb dX10_goes_192 (by decide) ?_
    obtain ⟨y5, ey5, hf⟩ := bnd_some hf
    refine k_X10_of X h ey5 k_X10_75 dX10_goes_194 hl.1 ⟨(Nat.le_of_ble_eq_true rfl), (Nat.le_of_ble_eq_true rfl)⟩ (Nat.le_of_ble_eq_true rfl) ⟨Nat.zero_le _, Nat.zero_le _⟩ ?_
    refine lv_if_ne (tgt := 263) hx hb dX10_goes_197 (by decide) (fun c6 => ?_) (fun c6 => ?_)
    · have hf := if_f c6 hf
      exact e0_v (Wf := mw G) X.1 hr hlocks hf h dX10_goes_263
    · have hf := if_t c6 hf
      refine lv_aload_n hx hb dX10_goes_200 rfl (lv_at hl 0 rfl) ?_
      refine lv_iload_n hx hb dX10_goes_201 rfl (lv_at hl 1 rfl) ?_
      refine lv_bipush (v := 28) hx hb dX10_goes_202 (by decide) ?_
      refine lv_aload_n hx hb dX10_goes_204 rfl (lv_at hl 0 rfl) ?_
      refine lv_iload_n hx hb dX10_goes_205 rfl (lv_at hl 1 rfl) ?_
      refine lv_bipush (v := 28) hx hb dX10_goes_206 (by decide) ?_
      obtain ⟨y7, ey7, hf⟩ := bnd_some hf
      refine k_X10_of X h ey7 k_X10_75 dX10_goes_208 hl.1 ⟨(Nat.le_of_ble_eq_true rfl), (Nat.le_of_ble_eq_true rfl)⟩ (Nat.le_of_ble_eq_true rfl) ⟨Nat.zero_le _, Nat.zero_le _⟩ ?_
      refine lv_iconst (v := 1) hx hb dX10_goes_211 (by decide) ?_
      refine lv_iadd hx hb dX10_goes_212 ?_
      obtain ⟨y8, ey8, hf⟩ := bnd_some hf
      refine k_X10_let X h hA ey8 k_X10_113 dX10_goes_213 hl.1 ⟨(Nat.le_of_ble_eq_true rfl), (Nat.le_of_ble_eq_true rfl)⟩ (Nat.le_of_ble_eq_true rfl) ⟨Nat.zero_le _, Nat.zero_le _⟩ (fun H locs h => ?_)
      refine lv_aload_n hx hb dX10_goes_216 rfl (lv_at hl 0 rfl) ?_
      refine lv_iload_n hx hb dX10_goes_217 rfl (lv_at hl 1 rfl) ?_
      refine lv_bipush (v := 28) hx hb dX10_goes_218 (by decide) ?_
      obtain ⟨y9, ey9, hf⟩ := bnd_some hf
      refine k_X10_of X h ey9 k_X10_75 dX10_goes_220 hl.1 ⟨(Nat.le_of_ble_eq_true rfl), (Nat.le_of_ble_eq_true rfl)⟩ (Nat.le_of_ble_eq_true rfl) ⟨Nat.zero_le _, Nat.zero_le _⟩ ?_
      refine lv_aload_n hx hb dX10_goes_223 rfl (lv_at hl 0 rfl) ?_
      refine lv_iload_n hx hb dX10_goes_224 rfl (lv_at hl 1 rfl) ?_
      refine lv_bipush (v := 27) hx hb dX10_goes_225 (by decide) ?_
      obtain ⟨y10, ey10, hf⟩ := bnd_some hf
      refine k_X10_of X h ey10 k_X10_75 dX10_goes_227 hl.1 ⟨(Nat.le_of_ble_eq_true rfl), (Nat.le_of_ble_eq_true rfl)⟩ (Nat.le_of_ble_eq_true rfl) ⟨Nat.zero_le _, Nat.zero_le _⟩ ?_
      refine lv_icmp_ne (tgt := 241) hx hb dX10_goes_230 (by decide) (fun c11 => ?_) (fun c11 => ?_)
      · have hf := if_f c11 hf
        refine lv_aload_n hx hb dX10_goes_241 rfl (lv_at hl 0 rfl) ?_
        refine lv_iload_n hx hb dX10_goes_242 rfl (lv_at hl 1 rfl) ?_
        refine lv_bipush (v := 29) hx hb dX10_goes_243 (by decide) ?_
        refine lv_aload_n hx hb dX10_goes_245 rfl (lv_at hl 0 rfl) ?_
        refine lv_iload_n hx hb dX10_goes_246 rfl (lv_at hl 1 rfl) ?_
        refine lv_bipush (v := 71) hx hb dX10_goes_247 (by decide) ?_
        refine lv_aload_n hx hb dX10_goes_249 rfl (lv_at hl 0 rfl) ?_
        refine lv_iload_n hx hb dX10_goes_250 rfl (lv_at hl 1 rfl) ?_
        refine lv_bipush (v := 28) hx hb dX10_goes_251 (by decide) ?_
        obtain ⟨y12, ey12, hf⟩ := bnd_some hf
        refine k_X10_of X h ey12 k_X10_75 dX10_goes_253 hl.1 ⟨(Nat.le_of_ble_eq_true rfl), (Nat.le_of_ble_eq_true rfl)⟩ (Nat.le_of_ble_eq_true rfl) ⟨Nat.zero_le _, Nat.zero_le _⟩ ?_
        refine lv_iadd hx hb dX10_goes_256 ?_
        obtain ⟨y13, ey13, hf⟩ := bnd_some hf
        refine k_X10_of X h ey13 k_X10_75 dX10_goes_257 hl.1 ⟨(Nat.le_of_ble_eq_true rfl), (Nat.le_of_ble_eq_true rfl)⟩ (Nat.le_of_ble_eq_true rfl) ⟨Nat.zero_le _, Nat.zero_le _⟩ ?_
        obtain ⟨y14, ey14, hf⟩ := bnd_some hf
        refine k_X10_let X h hA ey14 k_X10_113 dX10_goes_260 hl.1 ⟨(Nat.le_of_ble_eq_true rfl), (Nat.le_of_ble_eq_true rfl)⟩ (Nat.le_of_ble_eq_true rfl) ⟨Nat.zero_le _, Nat.zero_le _⟩ (fun H locs h => ?_)
        exact e0_v (Wf := mw G) X.1 hr hlocks hf h dX10_goes_263
      · have hf := if_t c11 hf
        refine lv_aload_n hx hb dX10_goes_233 rfl (lv_at hl 0 rfl) ?_
        refine lv_iload_n hx hb dX10_goes_234 rfl (lv_at hl 1 rfl) ?_
        obtain ⟨y15, ey15, hf⟩ := bnd_some hf
        refine k_X10_ends X h hA ey15 k_X10_172 dX10_goes_235 hl.1 ⟨(Nat.le_of_ble_eq_true rfl), (Nat.le_of_ble_eq_true rfl)⟩ (Nat.le_of_ble_eq_true rfl) ⟨Nat.zero_le _, Nat.zero_le _⟩ (fun H locs h => ?_)
        refine lv_goto (tgt := 263) hx hb dX10_goes_238 (by decide) ?_
        exact e0_v (Wf := mw G) X.1 hr hlocks hf h dX10_goes_263
  have J133 : ∀ (x1 : Int32) (x2 : Int32) (w : MW) (H : Heap) (locs : List Loc) (ls : Array Slot), f_X10_goes_b133 x1 x2 w = some w' → CH G (mw G w) (va_A (mw G w0) s.heap.size) s.heap H locs → lv_has ls 4 [(0, .ref (gq G 0)), (1, .int x1), (2, .int x2)] → W p l e { frames := 5, cells := 0, slots := 4096 * 0, locals := 114 } s m args below meth c H locs 0 (4096 * 0) (MQ below (QV G (mw G w0) s.heap.size (fun _ => mw G (w'))) args s 0 (4096 * 0) (va_A (mw G w0) s.heap.size)) (F0 m 133 ls []) := by
    intro x1 x2 w H locs ls hf h hl
    unfold f_X10_goes_b133 at hf
    refine lv_iload_n hx hb dX10_goes_133 rfl (lv_at hl 2 rfl) ?_
    refine lv_iconst (v := 1) hx hb dX10_goes_134 (by decide) ?_
    refine lv_icmp_ne (tgt := 159) hx hb dX10_goes_135 (by decide) (fun c16 => ?_) (fun c16 => ?_)
    · have hf := if_f c16 hf
      exact J159 _ _ _ _ _ hf h (lv_sub hl [0, 1] rfl)
    · have hf := if_t c16 hf
      refine lv_aload_n hx hb dX10_goes_138 rfl (lv_at hl 0 rfl) ?_
      refine lv_iload_n hx hb dX10_goes_139 rfl (lv_at hl 1 rfl) ?_
      refine lv_bipush (v := 37) hx hb dX10_goes_140 (by decide) ?_
      refine lv_aload_n hx hb dX10_goes_142 rfl (lv_at hl 0 rfl) ?_
      refine lv_iload_n hx hb dX10_goes_143 rfl (lv_at hl 1 rfl) ?_
      refine lv_bipush (v := 37) hx hb dX10_goes_144 (by decide) ?_
      obtain ⟨y17, ey17, hf⟩ := bnd_some hf
      refine k_X10_of X h ey17 k_X10_75 dX10_goes_146 hl.1 ⟨(Nat.le_of_ble_eq_true rfl), (Nat.le_of_ble_eq_true rfl)⟩ (Nat.le_of_ble_eq_true rfl) ⟨Nat.zero_le _, Nat.zero_le _⟩ ?_
      refine lv_aload_n hx hb dX10_goes_149 rfl (lv_at hl 0 rfl) ?_
      refine lv_iload_n hx hb dX10_goes_150 rfl (lv_at hl 1 rfl) ?_
      refine lv_iconst (v := 1) hx hb dX10_goes_151 (by decide) ?_
      obtain ⟨y18, ey18, hf⟩ := bnd_some hf
      refine k_X10_wearOf X h hA ey18 k_X10_129 dX10_goes_152 hl.1 ⟨(Nat.le_of_ble_eq_true rfl), (Nat.le_of_ble_eq_true rfl)⟩ (Nat.le_of_ble_eq_true rfl) ⟨Nat.zero_le _, Nat.zero_le _⟩ (fun H locs h => ?_)
      refine lv_iadd hx hb dX10_goes_155 ?_
      obtain ⟨y19, ey19, hf⟩ := bnd_some hf
      refine k_X10_let X h hA ey19 k_X10_113 dX10_goes_156 hl.1 ⟨(Nat.le_of_ble_eq_true rfl), (Nat.le_of_ble_eq_true rfl)⟩ (Nat.le_of_ble_eq_true rfl) ⟨Nat.zero_le _, Nat.zero_le _⟩ (fun H locs h => ?_)
      exact J159 _ _ _ _ _ hf h (lv_sub hl [0, 1] rfl)
  have L18 : ∀ (n18 : Nat) (x1 : Int32) (x2 : Int32) (x3 : Int32) (w : MW) (H : Heap) (locs : List Loc) (ls : Array Slot), f_X10_goes_l18 n18 x1 x2 x3 w = some w' → CH G (mw G w) (va_A (mw G w0) s.heap.size) s.heap H locs → lv_has ls 4 [(0, .ref (gq G 0)), (1, .int x1), (2, .int x2), (3, .int x3)] → W p l e { frames := 5, cells := 0, slots := 4096 * 0, locals := 114 } s m args below meth c H locs 0 (4096 * 0) (MQ below (QV G (mw G w0) s.heap.size (fun _ => mw G (w'))) args s 0 (4096 * 0) (va_A (mw G w0) s.heap.size)) (F0 m 18 ls []) := by
    intro n18
    induction n18 with
    | zero =>
      intro x1 x2 x3 w H locs ls hf h hl
      cases (show (none : Option MW) = some _ from hf)
    | succ n18 ih18 =>
      intro x1 x2 x3 w H locs ls hf h hl
      have hf : f_X10_goes_l18_body (f_X10_goes_l18 n18) x1 x2 x3 w = _ := hf
      unfold f_X10_goes_l18_body at hf
      refine lv_iload_n hx hb dX10_goes_18 rfl (lv_at hl 3 rfl) ?_
      refine lv_iconst (v := 3) hx hb dX10_goes_19 (by decide) ?_
      refine lv_icmp_ge (tgt := 80) hx hb dX10_goes_20 (by decide) (fun c20 => ?_) (fun c20 => ?_)
      · have hf := if_t c20 hf
        refine lv_aload_n hx hb dX10_goes_80 rfl (lv_at hl 0 rfl) ?_
        refine lv_iload_n hx hb dX10_goes_81 rfl (lv_at hl 1 rfl) ?_
        refine lv_iconst (v := 5) hx hb dX10_goes_82 (by decide) ?_
        refine lv_aload_n hx hb dX10_goes_83 rfl (lv_at hl 0 rfl) ?_
        refine lv_iload_n hx hb dX10_goes_84 rfl (lv_at hl 1 rfl) ?_
        refine lv_iconst (v := 5) hx hb dX10_goes_85 (by decide) ?_
        obtain ⟨y21, ey21, hf⟩ := bnd_some hf
        refine k_X10_of X h ey21 k_X10_75 dX10_goes_86 hl.1 ⟨(Nat.le_of_ble_eq_true rfl), (Nat.le_of_ble_eq_true rfl)⟩ (Nat.le_of_ble_eq_true rfl) ⟨Nat.zero_le _, Nat.zero_le _⟩ ?_
        refine lv_aload_n hx hb dX10_goes_89 rfl (lv_at hl 0 rfl) ?_
        refine GM_0_20 X h k_X10_47 dX10_goes_90 ?_
        refine lv_iconst (v := 0) hx hb dX10_goes_93 (by decide) ?_
        obtain ⟨c22, hf⟩ := chk_some hf
        refine LM_13 X h c22 dX10_goes_94 ?_
        refine lv_iadd hx hb dX10_goes_95 ?_
        obtain ⟨y23, ey23, hf⟩ := bnd_some hf
        refine k_X10_let X h hA ey23 k_X10_113 dX10_goes_96 hl.1 ⟨(Nat.le_of_ble_eq_true rfl), (Nat.le_of_ble_eq_true rfl)⟩ (Nat.le_of_ble_eq_true rfl) ⟨Nat.zero_le _, Nat.zero_le _⟩ (fun H locs h => ?_)
        refine lv_iload_n hx hb dX10_goes_99 rfl (lv_at hl 2 rfl) ?_
        refine lv_iconst (v := 3) hx hb dX10_goes_100 (by decide) ?_
        refine lv_icmp_ne (tgt := 133) hx hb dX10_goes_101 (by decide) (fun c24 => ?_) (fun c24 => ?_)
        · have hf := if_f c24 hf
          exact J133 _ _ _ _ _ _ hf h (lv_sub hl [0, 1, 2] rfl)
        · have hf := if_t c24 hf
          refine lv_aload_n hx hb dX10_goes_104 rfl (lv_at hl 0 rfl) ?_
          refine lv_sipush (v := 11349) hx hb dX10_goes_105 (by decide) ?_
          refine lv_aload_n hx hb dX10_goes_108 rfl (lv_at hl 0 rfl) ?_
          refine GM_0_1 X h k_X10_7 dX10_goes_109 ?_
          refine lv_sipush (v := 11349) hx hb dX10_goes_112 (by decide) ?_
          obtain ⟨c25, hf⟩ := chk_some hf
          refine LM_1 X h c25 dX10_goes_115 ?_
          refine lv_aload_n hx hb dX10_goes_116 rfl (lv_at hl 0 rfl) ?_
          refine lv_iload_n hx hb dX10_goes_117 rfl (lv_at hl 1 rfl) ?_
          refine lv_iconst (v := 5) hx hb dX10_goes_118 (by decide) ?_
          obtain ⟨y26, ey26, hf⟩ := bnd_some hf
          refine k_X10_of X h ey26 k_X10_75 dX10_goes_119 hl.1 ⟨(Nat.le_of_ble_eq_true rfl), (Nat.le_of_ble_eq_true rfl)⟩ (Nat.le_of_ble_eq_true rfl) ⟨Nat.zero_le _, Nat.zero_le _⟩ ?_
          refine lv_iadd hx hb dX10_goes_122 ?_
          obtain ⟨y27, ey27, hf⟩ := bnd_some hf
          refine k_X10_w X h hA ey27 k_X10_67 dX10_goes_123 hl.1 ⟨(Nat.le_of_ble_eq_true rfl), (Nat.le_of_ble_eq_true rfl)⟩ (Nat.le_of_ble_eq_true rfl) ⟨Nat.zero_le _, Nat.zero_le _⟩ (fun H locs h => ?_)
          refine lv_aload_n hx hb dX10_goes_126 rfl (lv_at hl 0 rfl) ?_
          refine lv_iload_n hx hb dX10_goes_127 rfl (lv_at hl 1 rfl) ?_
          refine lv_iconst (v := 5) hx hb dX10_goes_128 (by decide) ?_
          refine lv_iconst (v := 0) hx hb dX10_goes_129 (by decide) ?_
          obtain ⟨y28, ey28, hf⟩ := bnd_some hf
          refine k_X10_let X h hA ey28 k_X10_113 dX10_goes_130 hl.1 ⟨(Nat.le_of_ble_eq_true rfl), (Nat.le_of_ble_eq_true rfl)⟩ (Nat.le_of_ble_eq_true rfl) ⟨Nat.zero_le _, Nat.zero_le _⟩ (fun H locs h => ?_)
          exact J133 _ _ _ _ _ _ hf h (lv_sub hl [0, 1, 2] rfl)
      · have hf := if_f c20 hf
        refine lv_aload_n hx hb dX10_goes_23 rfl (lv_at hl 0 rfl) ?_
        refine lv_sipush (v := 11350) hx hb dX10_goes_24 (by decide) ?_
        refine lv_iload_n hx hb dX10_goes_27 rfl (lv_at hl 3 rfl) ?_
        refine lv_iadd hx hb dX10_goes_28 ?_
        refine lv_aload_n hx hb dX10_goes_29 rfl (lv_at hl 0 rfl) ?_
        refine GM_0_1 X h k_X10_7 dX10_goes_30 ?_
        refine lv_sipush (v := 11350) hx hb dX10_goes_33 (by decide) ?_
        refine lv_iload_n hx hb dX10_goes_36 rfl (lv_at hl 3 rfl) ?_
        refine lv_iadd hx hb dX10_goes_37 ?_
        obtain ⟨c29, hf⟩ := chk_some hf
        refine LM_1 X h c29 dX10_goes_38 ?_
        refine lv_aload_n hx hb dX10_goes_39 rfl (lv_at hl 0 rfl) ?_
        refine GM_0_20 X h k_X10_47 dX10_goes_40 ?_
        refine lv_iload_n hx hb dX10_goes_43 rfl (lv_at hl 3 rfl) ?_
        obtain ⟨c30, hf⟩ := chk_some hf
        refine LM_13 X h c30 dX10_goes_44 ?_
        refine lv_iadd hx hb dX10_goes_45 ?_
        obtain ⟨y31, ey31, hf⟩ := bnd_some hf
        refine k_X10_w X h hA ey31 k_X10_67 dX10_goes_46 hl.1 ⟨(Nat.le_of_ble_eq_true rfl), (Nat.le_of_ble_eq_true rfl)⟩ (Nat.le_of_ble_eq_true rfl) ⟨Nat.zero_le _, Nat.zero_le _⟩ (fun H locs h => ?_)
        refine lv_aload_n hx hb dX10_goes_49 rfl (lv_at hl 0 rfl) ?_
        refine lv_iload_n hx hb dX10_goes_50 rfl (lv_at hl 1 rfl) ?_
        refine lv_bipush (v := 34) hx hb dX10_goes_51 (by decide) ?_
        refine lv_iload_n hx hb dX10_goes_53 rfl (lv_at hl 3 rfl) ?_
        refine lv_iadd hx hb dX10_goes_54 ?_
        refine lv_aload_n hx hb dX10_goes_55 rfl (lv_at hl 0 rfl) ?_
        refine lv_iload_n hx hb dX10_goes_56 rfl (lv_at hl 1 rfl) ?_
        refine lv_bipush (v := 34) hx hb dX10_goes_57 (by decide) ?_
        refine lv_iload_n hx hb dX10_goes_59 rfl (lv_at hl 3 rfl) ?_
        refine lv_iadd hx hb dX10_goes_60 ?_
        obtain ⟨y32, ey32, hf⟩ := bnd_some hf
        refine k_X10_of X h ey32 k_X10_75 dX10_goes_61 hl.1 ⟨(Nat.le_of_ble_eq_true rfl), (Nat.le_of_ble_eq_true rfl)⟩ (Nat.le_of_ble_eq_true rfl) ⟨Nat.zero_le _, Nat.zero_le _⟩ ?_
        refine lv_aload_n hx hb dX10_goes_64 rfl (lv_at hl 0 rfl) ?_
        refine GM_0_20 X h k_X10_47 dX10_goes_65 ?_
        refine lv_iload_n hx hb dX10_goes_68 rfl (lv_at hl 3 rfl) ?_
        obtain ⟨c33, hf⟩ := chk_some hf
        refine LM_13 X h c33 dX10_goes_69 ?_
        refine lv_iadd hx hb dX10_goes_70 ?_
        obtain ⟨y34, ey34, hf⟩ := bnd_some hf
        refine k_X10_let X h hA ey34 k_X10_113 dX10_goes_71 hl.1 ⟨(Nat.le_of_ble_eq_true rfl), (Nat.le_of_ble_eq_true rfl)⟩ (Nat.le_of_ble_eq_true rfl) ⟨Nat.zero_le _, Nat.zero_le _⟩ (fun H locs h => ?_)
        refine lv_iinc (v := x3 + (1 : Int32)) (lv' := [(3, .int (x3 + (1 : Int32))), (0, .ref (gq G 0)), (1, .int x1), (2, .int x2)]) hx hb dX10_goes_74 hl (k := 3) rfl (by rfl) (by decide) rfl (fun ls hl => ?_)
        refine lv_goto (tgt := 18) hx hb dX10_goes_77 (by decide) ?_
        exact ih18 _ _ _ _ _ _ _ hf h (lv_sub hl [1, 2, 3, 0] rfl)
  obtain ⟨w, rfl⟩ : ∃ z, z = w0 := ⟨_, rfl⟩
  have hl : lv_has ls 4 [(0, .ref (gq G 0)), (1, .int x1), (2, .int x2)] := hl
  unfold f_X10_goes at hf
  refine lv_aload_n hx hb dX10_goes_0 rfl (lv_at hl 0 rfl) ?_
  refine lv_iload_n hx hb dX10_goes_1 rfl (lv_at hl 1 rfl) ?_
  refine lv_bipush (v := 32) hx hb dX10_goes_2 (by decide) ?_
  refine lv_aload_n hx hb dX10_goes_4 rfl (lv_at hl 0 rfl) ?_
  refine lv_iload_n hx hb dX10_goes_5 rfl (lv_at hl 1 rfl) ?_
  refine lv_bipush (v := 32) hx hb dX10_goes_6 (by decide) ?_
  obtain ⟨y35, ey35, hf⟩ := bnd_some hf
  refine k_X10_of X h ey35 k_X10_75 dX10_goes_8 hl.1 ⟨(Nat.le_of_ble_eq_true rfl), (Nat.le_of_ble_eq_true rfl)⟩ (Nat.le_of_ble_eq_true rfl) ⟨Nat.zero_le _, Nat.zero_le _⟩ ?_
  refine lv_iconst (v := 1) hx hb dX10_goes_11 (by decide) ?_
  refine lv_iadd hx hb dX10_goes_12 ?_
  obtain ⟨y36, ey36, hf⟩ := bnd_some hf
  refine k_X10_let X h hA ey36 k_X10_113 dX10_goes_13 hl.1 ⟨(Nat.le_of_ble_eq_true rfl), (Nat.le_of_ble_eq_true rfl)⟩ (Nat.le_of_ble_eq_true rfl) ⟨Nat.zero_le _, Nat.zero_le _⟩ (fun H locs h => ?_)
  refine lv_iconst (v := 0) hx hb dX10_goes_16 (by decide) ?_
  refine lv_istore_n (lv' := [(3, .int ((0 : Int32))), (0, .ref (gq G 0)), (1, .int x1), (2, .int x2)]) hx hb dX10_goes_17 rfl hl (by decide) rfl (fun ls hl => ?_)
  exact L18 FU _ _ _ _ _ _ _ hf h (lv_sub hl [1, 2, 3, 0] rfl)
theorem m_X10_goes : Cond.instanceMethod yX10_goes ∈ lw_good ∧ Cond.selects RX10 yX10_goes yX10_goes ∈ lw_good ∧ Cond.initialized RX10 ∈ lw_good ∧ Cond.code yX10_goes cX10_goes 4 none ∈ lw_good := by decide +kernel
theorem k_X10_goes {p : Program} {l : Launch} {e : Env} {R : Room} {s : State} {m : MethodId} {args : Array Value} {below : List Frame} {meth : Method} {c : Code} {H : Heap} {locs : List Loc} {cells slots : Nat} {Q : State → Prop} {cc : ByteArray} {nL pc idx : Nat} {ls : Array Slot} {rest : List Value} {own : String} {G : Gm} {A : Nat → Prop} {H0 : Heap} {w : MW} {x1 : Int32} {x2 : Int32} {w' : MW} (X : CX own cc nL G p s m args c) (h : CH G (mw G w) A H0 H locs) (hA : ∀ q, H0.size ≤ q → A q) (hf : f_X10_goes x1 x2 w = some w') (hlk : Cond.methodLink own idx yX10_goes ∈ lw_good) (hd : decode cc pc = .ok (.invokevirtual idx, 3)) (hsz : ls.size = nL) (hR : 6 ≤ R.frames ∧ 137 ≤ R.locals) (hrest : (rest.map fun v => v.category).sum ≤ 8) (hk : cells ≤ R.cells ∧ slots ≤ R.slots) (k : ∀ (H : Heap) (locs : List Loc), CH G (mw G (w')) A H0 H locs → W p l e R s m args below meth c H locs cells slots Q (F0 m (pc + 3) ls (rest))) : W p l e R s m args below meth c H locs cells slots Q (F0 m pc ls (.int x2 :: .int x1 :: .ref (gq G 0) :: rest)) :=
  fin_v (n := 0) (runV (As := [.int x1, .int x2]) X.1 2 (t_X10_goes l G w x1 x2 w' hf _) rfl rfl hlk m_X10_goes (by decide +kernel) ⟨hR.1, hR.2⟩ ⟨blindM, va_recv X.2.1 h.1 (ci := 9) (q0 := 0) rfl rfl, preM X.2 h⟩ rfl hsz hrest hd hk) h hA (fun _ H locs h => k H locs h)
def f_X10_goesOrWaits_b77 (k32 : (Int32 → Int32 → Int32 → Int32 → MW → Option MW)) (x1 : Int32) (x2 : Int32) (x4 : Int32) (xs0 : Int32) (xs1 : Int32) (w : MW) : Option MW :=
 k32 x1 x2 (xs0 &&& xs1) (x4 + (1 : Int32)) w
def f_X10_goesOrWaits_l32_body (kself : (Int32 → Int32 → Int32 → Int32 → MW → Option MW)) (x1 : Int32) (x2 : Int32) (x3 : Int32) (x4 : Int32) (w : MW) : Option MW :=
 if ((3 : Int32)) ≤ x4 then
 (if x3 = 0 then
 ((f_X10_of x1 ((33 : Int32)) w).bind fun y3 =>
 (f_X10_let x1 ((33 : Int32)) (y3 + ((1 : Int32))) w).bind fun y4 =>
 (f_X10_of x1 ((30 : Int32)) y4).bind fun y5 =>
 (f_X10_let x1 ((30 : Int32)) (y5 + ((1 : Int32))) y4).bind fun y6 =>
 (f_X10_let x1 ((4 : Int32)) ((3 : Int32)) y6).bind fun y7 =>
 some y7)
 else
 ((f_X10_goes x1 x2 w).bind fun y8 =>
 some y8))
 else
 (chk (inb (((11350 : Int32)) + x4) 11360) (
 chk (inb x4 3) (
 chk (inb (((11353 : Int32)) + x4) 11360) (
 if (w 1 (((11353 : Int32)) + x4).toNatClampNeg) < ((w 1 (((11350 : Int32)) + x4).toNatClampNeg) + (w 13 x4.toNatClampNeg)) then
 (f_X10_goesOrWaits_b77 kself x1 x2 x4 x3 ((0 : Int32)) w)
 else
 (f_X10_goesOrWaits_b77 kself x1 x2 x4 x3 ((1 : Int32)) w)))))
def f_X10_goesOrWaits_l32 : Nat → Int32 → Int32 → Int32 → Int32 → MW → Option MW
  | 0, _, _, _, _, _ => none
  | n + 1, x1, x2, x3, x4, w => f_X10_goesOrWaits_l32_body (f_X10_goesOrWaits_l32 n) x1 x2 x3 x4 w
def f_X10_goesOrWaits (x1 : Int32) (w : MW) : Option MW :=
 (f_X10_touch x1 w).bind fun y13 =>
 (f_X10_of x1 ((28 : Int32)) y13).bind fun y14 =>
 (f_X10_of x1 (((41 : Int32)) + y14) y13).bind fun y15 =>
 (f_X10_ask x1 y15 y13).bind fun y16 =>
 f_X10_goesOrWaits_l32 FU x1 y15 ((1 : Int32)) ((0 : Int32)) y16
set_option maxHeartbeats 4000000 in
set_option maxRecDepth 100000 in
theorem t_X10_goesOrWaits (l : Launch) (G : Gm) (w0 : MW) (x1 : Int32) (w' : MW) (hf : f_X10_goesOrWaits x1 w0 = some w') : MetV l yX10_goesOrWaits cX10_goesOrWaits 5 6 137 G (mw G w0) [.ref (gq G 0), .int x1] (fun _ => mw G (w')) 0 := by
  intro sz
  refine ent (own := RX10) (As := [.ref (gq G 0), .int x1]) (by decide +kernel) rfl (Nat.le_of_ble_eq_true rfl) (fun _ _ h => h.1) ?_
  intro p e s m args below meth c ls B hr hlocks hv hl
  obtain ⟨-, hsz, hP, hKK, hD⟩ := hv
  subst hsz
  have X : CX RX10 cX10_goesOrWaits 5 G p s m args c := ⟨B, hKK⟩
  obtain ⟨hx, hb, hml, hown, hts⟩ := id B
  have hA : ∀ q : Nat, s.heap.size ≤ q → va_A (mw G w0) s.heap.size q := fun q z => Or.inr z
  have h : CH G (mw G w0) (va_A (mw G w0) s.heap.size) s.heap s.heap [] := ⟨hP, hD.self, va_S.rf⟩
  have L32 : ∀ (n32 : Nat) (x1 : Int32) (x2 : Int32) (x3 : Int32) (x4 : Int32) (w : MW) (H : Heap) (locs : List Loc) (ls : Array Slot), f_X10_goesOrWaits_l32 n32 x1 x2 x3 x4 w = some w' → CH G (mw G w) (va_A (mw G w0) s.heap.size) s.heap H locs → lv_has ls 5 [(0, .ref (gq G 0)), (1, .int x1), (2, .int x2), (3, .int x3), (4, .int x4)] → W p l e { frames := 6, cells := 0, slots := 4096 * 0, locals := 137 } s m args below meth c H locs 0 (4096 * 0) (MQ below (QV G (mw G w0) s.heap.size (fun _ => mw G (w'))) args s 0 (4096 * 0) (va_A (mw G w0) s.heap.size)) (F0 m 32 ls []) := by
    intro n32
    induction n32 with
    | zero =>
      intro x1 x2 x3 x4 w H locs ls hf h hl
      cases (show (none : Option MW) = some _ from hf)
    | succ n32 ih32 =>
      have J77 : ∀ (x1 : Int32) (x2 : Int32) (x4 : Int32) (xs0 : Int32) (xs1 : Int32) (w : MW) (H : Heap) (locs : List Loc) (ls : Array Slot), f_X10_goesOrWaits_b77 (f_X10_goesOrWaits_l32 n32) x1 x2 x4 xs0 xs1 w = some w' → CH G (mw G w) (va_A (mw G w0) s.heap.size) s.heap H locs → lv_has ls 5 [(0, .ref (gq G 0)), (1, .int x1), (2, .int x2), (4, .int x4)] → W p l e { frames := 6, cells := 0, slots := 4096 * 0, locals := 137 } s m args below meth c H locs 0 (4096 * 0) (MQ below (QV G (mw G w0) s.heap.size (fun _ => mw G (w'))) args s 0 (4096 * 0) (va_A (mw G w0) s.heap.size)) (F0 m 77 ls [.int xs1, .int xs0]) := by
        intro x1 x2 x4 xs0 xs1 w H locs ls hf h hl
        unfold f_X10_goesOrWaits_b77 at hf
        refine lv_iand hx hb dX10_goesOrWaits_77 ?_
        refine lv_istore_n (lv' := [(3, .int (xs0 &&& xs1)), (0, .ref (gq G 0)), (1, .int x1), (2, .int x2), (4, .int x4)]) hx hb dX10_goesOrWaits_78 rfl hl (by decide) rfl (fun ls hl => ?_)
        refine lv_iinc (v := x4 + (1 : Int32)) (lv' := [(4, .int (x4 + (1 : Int32))), (3, .int (xs0 &&& xs1)), (0, .ref (gq G 0)), (1, .int x1), (2, .int x2)]) hx hb dX10_goesOrWaits_79 hl (k := 4) rfl (by rfl) (by decide) rfl (fun ls hl => ?_)
        refine lv_goto (tgt := 32) hx hb dX10_goesOrWaits_82 (by decide) ?_
        exact ih32 _ _ _ _ _ _ _ _ hf h (lv_sub hl [2, 3, 4, 1, 0] rfl)
      intro x1 x2 x3 x4 w H locs ls hf h hl
      have hf : f_X10_goesOrWaits_l32_body (f_X10_goesOrWaits_l32 n32) x1 x2 x3 x4 w = _ := hf
      unfold f_X10_goesOrWaits_l32_body at hf
      refine lv_iload hx hb dX10_goesOrWaits_32 (lv_at hl 4 rfl) ?_
      refine lv_iconst (v := 3) hx hb dX10_goesOrWaits_34 (by decide) ?_
      refine lv_icmp_ge (tgt := 85) hx hb dX10_goesOrWaits_35 (by decide) (fun c1 => ?_) (fun c1 => ?_)
      · have hf := if_t c1 hf
        refine lv_iload_n hx hb dX10_goesOrWaits_85 rfl (lv_at hl 3 rfl) ?_
        refine lv_if_eq (tgt := 98) hx hb dX10_goesOrWaits_86 (by decide) (fun c2 => ?_) (fun c2 => ?_)
        · have hf := if_t c2 hf
          refine lv_aload_n hx hb dX10_goesOrWaits_98 rfl (lv_at hl 0 rfl) ?_
          refine lv_iload_n hx hb dX10_goesOrWaits_99 rfl (lv_at hl 1 rfl) ?_
          refine lv_bipush (v := 33) hx hb dX10_goesOrWaits_100 (by decide) ?_
          refine lv_aload_n hx hb dX10_goesOrWaits_102 rfl (lv_at hl 0 rfl) ?_
          refine lv_iload_n hx hb dX10_goesOrWaits_103 rfl (lv_at hl 1 rfl) ?_
          refine lv_bipush (v := 33) hx hb dX10_goesOrWaits_104 (by decide) ?_
          obtain ⟨y3, ey3, hf⟩ := bnd_some hf
          refine k_X10_of X h ey3 k_X10_75 dX10_goesOrWaits_106 hl.1 ⟨(Nat.le_of_ble_eq_true rfl), (Nat.le_of_ble_eq_true rfl)⟩ (Nat.le_of_ble_eq_true rfl) ⟨Nat.zero_le _, Nat.zero_le _⟩ ?_
          refine lv_iconst (v := 1) hx hb dX10_goesOrWaits_109 (by decide) ?_
          refine lv_iadd hx hb dX10_goesOrWaits_110 ?_
          obtain ⟨y4, ey4, hf⟩ := bnd_some hf
          refine k_X10_let X h hA ey4 k_X10_113 dX10_goesOrWaits_111 hl.1 ⟨(Nat.le_of_ble_eq_true rfl), (Nat.le_of_ble_eq_true rfl)⟩ (Nat.le_of_ble_eq_true rfl) ⟨Nat.zero_le _, Nat.zero_le _⟩ (fun H locs h => ?_)
          refine lv_aload_n hx hb dX10_goesOrWaits_114 rfl (lv_at hl 0 rfl) ?_
          refine lv_iload_n hx hb dX10_goesOrWaits_115 rfl (lv_at hl 1 rfl) ?_
          refine lv_bipush (v := 30) hx hb dX10_goesOrWaits_116 (by decide) ?_
          refine lv_aload_n hx hb dX10_goesOrWaits_118 rfl (lv_at hl 0 rfl) ?_
          refine lv_iload_n hx hb dX10_goesOrWaits_119 rfl (lv_at hl 1 rfl) ?_
          refine lv_bipush (v := 30) hx hb dX10_goesOrWaits_120 (by decide) ?_
          obtain ⟨y5, ey5, hf⟩ := bnd_some hf
          refine k_X10_of X h ey5 k_X10_75 dX10_goesOrWaits_122 hl.1 ⟨(Nat.le_of_ble_eq_true rfl), (Nat.le_of_ble_eq_true rfl)⟩ (Nat.le_of_ble_eq_true rfl) ⟨Nat.zero_le _, Nat.zero_le _⟩ ?_
          refine lv_iconst (v := 1) hx hb dX10_goesOrWaits_125 (by decide) ?_
          refine lv_iadd hx hb dX10_goesOrWaits_126 ?_
          obtain ⟨y6, ey6, hf⟩ := bnd_some hf
          refine k_X10_let X h hA ey6 k_X10_113 dX10_goesOrWaits_127 hl.1 ⟨(Nat.le_of_ble_eq_true rfl), (Nat.le_of_ble_eq_true rfl)⟩ (Nat.le_of_ble_eq_true rfl) ⟨Nat.zero_le _, Nat.zero_le _⟩ (fun H locs h => ?_)
          refine lv_aload_n hx hb dX10_goesOrWaits_130 rfl (lv_at hl 0 rfl) ?_
          refine lv_iload_n hx hb dX10_goesOrWaits_131 rfl (lv_at hl 1 rfl) ?_
          refine lv_iconst (v := 4) hx hb dX10_goesOrWaits_132 (by decide) ?_
          refine lv_iconst (v := 3) hx hb dX10_goesOrWaits_133 (by decide) ?_
          obtain ⟨y7, ey7, hf⟩ := bnd_some hf
          refine k_X10_let X h hA ey7 k_X10_113 dX10_goesOrWaits_134 hl.1 ⟨(Nat.le_of_ble_eq_true rfl), (Nat.le_of_ble_eq_true rfl)⟩ (Nat.le_of_ble_eq_true rfl) ⟨Nat.zero_le _, Nat.zero_le _⟩ (fun H locs h => ?_)
          exact e0_v (Wf := mw G) X.1 hr hlocks hf h dX10_goesOrWaits_137
        · have hf := if_f c2 hf
          refine lv_aload_n hx hb dX10_goesOrWaits_89 rfl (lv_at hl 0 rfl) ?_
          refine lv_iload_n hx hb dX10_goesOrWaits_90 rfl (lv_at hl 1 rfl) ?_
          refine lv_iload_n hx hb dX10_goesOrWaits_91 rfl (lv_at hl 2 rfl) ?_
          obtain ⟨y8, ey8, hf⟩ := bnd_some hf
          refine k_X10_goes X h hA ey8 k_X10_175 dX10_goesOrWaits_92 hl.1 ⟨(Nat.le_of_ble_eq_true rfl), (Nat.le_of_ble_eq_true rfl)⟩ (Nat.le_of_ble_eq_true rfl) ⟨Nat.zero_le _, Nat.zero_le _⟩ (fun H locs h => ?_)
          refine lv_goto (tgt := 137) hx hb dX10_goesOrWaits_95 (by decide) ?_
          exact e0_v (Wf := mw G) X.1 hr hlocks hf h dX10_goesOrWaits_137
      · have hf := if_f c1 hf
        refine lv_iload_n hx hb dX10_goesOrWaits_38 rfl (lv_at hl 3 rfl) ?_
        refine lv_aload_n hx hb dX10_goesOrWaits_39 rfl (lv_at hl 0 rfl) ?_
        refine GM_0_1 X h k_X10_7 dX10_goesOrWaits_40 ?_
        refine lv_sipush (v := 11350) hx hb dX10_goesOrWaits_43 (by decide) ?_
        refine lv_iload hx hb dX10_goesOrWaits_46 (lv_at hl 4 rfl) ?_
        refine lv_iadd hx hb dX10_goesOrWaits_48 ?_
        obtain ⟨c9, hf⟩ := chk_some hf
        refine LM_1 X h c9 dX10_goesOrWaits_49 ?_
        refine lv_aload_n hx hb dX10_goesOrWaits_50 rfl (lv_at hl 0 rfl) ?_
        refine GM_0_20 X h k_X10_47 dX10_goesOrWaits_51 ?_
        refine lv_iload hx hb dX10_goesOrWaits_54 (lv_at hl 4 rfl) ?_
        obtain ⟨c10, hf⟩ := chk_some hf
        refine LM_13 X h c10 dX10_goesOrWaits_56 ?_
        refine lv_iadd hx hb dX10_goesOrWaits_57 ?_
        refine lv_aload_n hx hb dX10_goesOrWaits_58 rfl (lv_at hl 0 rfl) ?_
        refine GM_0_1 X h k_X10_7 dX10_goesOrWaits_59 ?_
        refine lv_sipush (v := 11353) hx hb dX10_goesOrWaits_62 (by decide) ?_
        refine lv_iload hx hb dX10_goesOrWaits_65 (lv_at hl 4 rfl) ?_
        refine lv_iadd hx hb dX10_goesOrWaits_67 ?_
        obtain ⟨c11, hf⟩ := chk_some hf
        refine LM_1 X h c11 dX10_goesOrWaits_68 ?_
        refine lv_icmp_gt (tgt := 76) hx hb dX10_goesOrWaits_69 (by decide) (fun c12 => ?_) (fun c12 => ?_)
        · have hf := if_t c12 hf
          refine lv_iconst (v := 0) hx hb dX10_goesOrWaits_76 (by decide) ?_
          exact J77 _ _ _ _ _ _ _ _ _ hf h (lv_sub hl [0, 1, 2, 4] rfl)
        · have hf := if_f c12 hf
          refine lv_iconst (v := 1) hx hb dX10_goesOrWaits_72 (by decide) ?_
          refine lv_goto (tgt := 77) hx hb dX10_goesOrWaits_73 (by decide) ?_
          exact J77 _ _ _ _ _ _ _ _ _ hf h (lv_sub hl [0, 1, 2, 4] rfl)
  obtain ⟨w, rfl⟩ : ∃ z, z = w0 := ⟨_, rfl⟩
  have hl : lv_has ls 5 [(0, .ref (gq G 0)), (1, .int x1)] := hl
  unfold f_X10_goesOrWaits at hf
  refine lv_aload_n hx hb dX10_goesOrWaits_0 rfl (lv_at hl 0 rfl) ?_
  refine lv_iload_n hx hb dX10_goesOrWaits_1 rfl (lv_at hl 1 rfl) ?_
  obtain ⟨y13, ey13, hf⟩ := bnd_some hf
  refine k_X10_touch X h hA ey13 k_X10_145 dX10_goesOrWaits_2 hl.1 ⟨(Nat.le_of_ble_eq_true rfl), (Nat.le_of_ble_eq_true rfl)⟩ (Nat.le_of_ble_eq_true rfl) ⟨Nat.zero_le _, Nat.zero_le _⟩ (fun H locs h => ?_)
  refine lv_aload_n hx hb dX10_goesOrWaits_5 rfl (lv_at hl 0 rfl) ?_
  refine lv_iload_n hx hb dX10_goesOrWaits_6 rfl (lv_at hl 1 rfl) ?_
  refine lv_bipush (v := 41) hx hb dX10_goesOrWaits_7 (by decide) ?_
  refine lv_aload_n hx hb dX10_goesOrWaits_9 rfl (lv_at hl 0 rfl) ?_
  refine lv_iload_n hx hb dX10_goesOrWaits_10 rfl (lv_at hl 1 rfl) ?_
  refine lv_bipush (v := 28) hx hb dX10_goesOrWaits_11 (by decide) ?_
  obtain ⟨y14, ey14, hf⟩ := bnd_some hf
  refine k_X10_of X h ey14 k_X10_75 dX10_goesOrWaits_13 hl.1 ⟨(Nat.le_of_ble_eq_true rfl), (Nat.le_of_ble_eq_true rfl)⟩ (Nat.le_of_ble_eq_true rfl) ⟨Nat.zero_le _, Nat.zero_le _⟩ ?_
  refine lv_iadd hx hb dX10_goesOrWaits_16 ?_
  obtain ⟨y15, ey15, hf⟩ := bnd_some hf
  refine k_X10_of X h ey15 k_X10_75 dX10_goesOrWaits_17 hl.1 ⟨(Nat.le_of_ble_eq_true rfl), (Nat.le_of_ble_eq_true rfl)⟩ (Nat.le_of_ble_eq_true rfl) ⟨Nat.zero_le _, Nat.zero_le _⟩ ?_
  refine lv_istore_n (lv' := [(2, .int y15), (0, .ref (gq G 0)), (1, .int x1)]) hx hb dX10_goesOrWaits_20 rfl hl (by decide) rfl (fun ls hl => ?_)
  refine lv_aload_n hx hb dX10_goesOrWaits_21 rfl (lv_at hl 1 rfl) ?_
  refine lv_iload_n hx hb dX10_goesOrWaits_22 rfl (lv_at hl 2 rfl) ?_
  refine lv_iload_n hx hb dX10_goesOrWaits_23 rfl (lv_at hl 0 rfl) ?_
  obtain ⟨y16, ey16, hf⟩ := bnd_some hf
  refine k_X10_ask X h hA ey16 k_X10_166 dX10_goesOrWaits_24 hl.1 ⟨(Nat.le_of_ble_eq_true rfl), (Nat.le_of_ble_eq_true rfl)⟩ (Nat.le_of_ble_eq_true rfl) ⟨Nat.zero_le _, Nat.zero_le _⟩ (fun H locs h => ?_)
  refine lv_iconst (v := 1) hx hb dX10_goesOrWaits_27 (by decide) ?_
  refine lv_istore_n (lv' := [(3, .int ((1 : Int32))), (2, .int y15), (0, .ref (gq G 0)), (1, .int x1)]) hx hb dX10_goesOrWaits_28 rfl hl (by decide) rfl (fun ls hl => ?_)
  refine lv_iconst (v := 0) hx hb dX10_goesOrWaits_29 (by decide) ?_
  refine lv_istore (lv' := [(4, .int ((0 : Int32))), (3, .int ((1 : Int32))), (2, .int y15), (0, .ref (gq G 0)), (1, .int x1)]) hx hb dX10_goesOrWaits_30 hl (by decide) rfl (fun ls hl => ?_)
  exact L32 FU _ _ _ _ _ _ _ _ hf h (lv_sub hl [3, 4, 2, 1, 0] rfl)
theorem m_X10_goesOrWaits : Cond.instanceMethod yX10_goesOrWaits ∈ lw_good ∧ Cond.selects RX10 yX10_goesOrWaits yX10_goesOrWaits ∈ lw_good ∧ Cond.initialized RX10 ∈ lw_good ∧ Cond.code yX10_goesOrWaits cX10_goesOrWaits 5 none ∈ lw_good := by decide +kernel
theorem k_X10_goesOrWaits {p : Program} {l : Launch} {e : Env} {R : Room} {s : State} {m : MethodId} {args : Array Value} {below : List Frame} {meth : Method} {c : Code} {H : Heap} {locs : List Loc} {cells slots : Nat} {Q : State → Prop} {cc : ByteArray} {nL pc idx : Nat} {ls : Array Slot} {rest : List Value} {own : String} {G : Gm} {A : Nat → Prop} {H0 : Heap} {w : MW} {x1 : Int32} {w' : MW} (X : CX own cc nL G p s m args c) (h : CH G (mw G w) A H0 H locs) (hA : ∀ q, H0.size ≤ q → A q) (hf : f_X10_goesOrWaits x1 w = some w') (hlk : Cond.methodLink own idx yX10_goesOrWaits ∈ lw_good) (hd : decode cc pc = .ok (.invokevirtual idx, 3)) (hsz : ls.size = nL) (hR : 7 ≤ R.frames ∧ 161 ≤ R.locals) (hrest : (rest.map fun v => v.category).sum ≤ 8) (hk : cells ≤ R.cells ∧ slots ≤ R.slots) (k : ∀ (H : Heap) (locs : List Loc), CH G (mw G (w')) A H0 H locs → W p l e R s m args below meth c H locs cells slots Q (F0 m (pc + 3) ls (rest))) : W p l e R s m args below meth c H locs cells slots Q (F0 m pc ls (.int x1 :: .ref (gq G 0) :: rest)) :=
  fin_v (n := 0) (runV (As := [.int x1]) X.1 1 (t_X10_goesOrWaits l G w x1 w' hf _) rfl rfl hlk m_X10_goesOrWaits (by decide +kernel) ⟨hR.1, hR.2⟩ ⟨blindM, va_recv X.2.1 h.1 (ci := 9) (q0 := 0) rfl rfl, preM X.2 h⟩ rfl hsz hrest hd hk) h hA (fun _ H locs h => k H locs h)
def f_X10_oneMinute_b226 (k187 : (Int32 → Int32 → MW → Option MW)) (k197 : (Int32 → Int32 → Int32 → Int32 → MW → Option MW)) (x1 : Int32) (x2 : Int32) (x4 : Int32) (xs0 : Int32) (w : MW) : Option MW :=
 k197 x1 x2 xs0 (x4 + (1 : Int32)) w
def f_X10_oneMinute_l197_body (k187 : (Int32 → Int32 → MW → Option MW)) (kself : (Int32 → Int32 → Int32 → Int32 → MW → Option MW)) (x1 : Int32) (x2 : Int32) (x3 : Int32) (x4 : Int32) (w : MW) : Option MW :=
 if ((60 : Int32)) ≤ x4 then
 (chk (inb x3 60) (
 (f_X10_goesOrWaits x3 (mst w 14 x3.toNatClampNeg ((-1 : Int32)))).bind fun y3 =>
 k187 x1 (x2 + (1 : Int32)) y3))
 else
 (chk (inb x4 60) (
 chk (inb x3 60) (
 if (w 14 x4.toNatClampNeg) ≤ (w 14 x3.toNatClampNeg) then
 (f_X10_oneMinute_b226 k187 kself x1 x2 x4 x3 w)
 else
 (f_X10_oneMinute_b226 k187 kself x1 x2 x4 x4 w))))
def f_X10_oneMinute_l197 (k187 : (Int32 → Int32 → MW → Option MW)) : Nat → Int32 → Int32 → Int32 → Int32 → MW → Option MW
  | 0, _, _, _, _, _ => none
  | n + 1, x1, x2, x3, x4, w => f_X10_oneMinute_l197_body k187 (f_X10_oneMinute_l197 k187 n) x1 x2 x3 x4 w
def f_X10_oneMinute_l187_body (kself : (Int32 → Int32 → MW → Option MW)) (x1 : Int32) (x2 : Int32) (w : MW) : Option MW :=
 if x1 ≤ x2 then
 (chk (inb ((11344 : Int32)) 11360) (
 chk (inb ((w 1 ((11344 : Int32)).toNatClampNeg) - (w 1 ((11344 : Int32)).toNatClampNeg) / ((301 : Int32)) * ((301 : Int32))) 301) (
 (some (mst w 4 ((w 1 ((11344 : Int32)).toNatClampNeg) - (w 1 ((11344 : Int32)).toNatClampNeg) / ((301 : Int32)) * ((301 : Int32))).toNatClampNeg (w 0 4))).bind fun w10 =>
 chk (inb ((11344 : Int32)) 11360) (
 if ((w10 1 ((11344 : Int32)).toNatClampNeg) - (w10 0 6)) ≤ ((300 : Int32)) then
 (some (mst w10 0 6 (w10 0 6)))
 else
 (chk (inb ((11344 : Int32)) 11360) (
 some (mst w10 0 6 ((w10 1 ((11344 : Int32)).toNatClampNeg) - ((300 : Int32))))))))))
 else
 (f_X10_oneMinute_l197 kself FU x1 x2 ((0 : Int32)) ((1 : Int32)) w)
def f_X10_oneMinute_l187 : Nat → Int32 → Int32 → MW → Option MW
  | 0, _, _, _ => none
  | n + 1, x1, x2, w => f_X10_oneMinute_l187_body (f_X10_oneMinute_l187 n) x1 x2 w
def f_X10_oneMinute_b177 (k115 : (Int32 → Int32 → MW → Option MW)) (x2 : Int32) (xs0 : Int32) (xs1 : Int32) (w : MW) : Option MW :=
 k115 (xs0 + xs1) (x2 + (1 : Int32)) w
def f_X10_oneMinute_b166 (k115 : (Int32 → Int32 → MW → Option MW)) (x1 : Int32) (x2 : Int32) (x3 : Int32) (xs1 : Int32) (xs2 : Int32) (w : MW) : Option MW :=
 chk (inb xs1 60) (
 if x3 = 0 then
 (f_X10_oneMinute_b177 k115 x2 x1 ((0 : Int32)) (mst w 14 xs1.toNatClampNeg xs2))
 else
 (f_X10_oneMinute_b177 k115 x2 x1 ((1 : Int32)) (mst w 14 xs1.toNatClampNeg xs2)))
def f_X10_oneMinute_b145 (k115 : (Int32 → Int32 → MW → Option MW)) (x1 : Int32) (x2 : Int32) (xs0 : Int32) (w : MW) : Option MW :=
 if xs0 = 0 then
 (f_X10_oneMinute_b166 k115 x1 x2 xs0 x2 ((-1 : Int32)) w)
 else
 ((f_X10_of x2 ((30 : Int32)) w).bind fun y17 =>
 f_X10_oneMinute_b166 k115 x1 x2 xs0 x2 y17 w)
def f_X10_oneMinute_b144 (k115 : (Int32 → Int32 → MW → Option MW)) (x1 : Int32) (x2 : Int32) (w : MW) : Option MW :=
 f_X10_oneMinute_b145 k115 x1 x2 ((0 : Int32)) w
def f_X10_oneMinute_l115_body (kself : (Int32 → Int32 → MW → Option MW)) (x1 : Int32) (x2 : Int32) (w : MW) : Option MW :=
 if ((60 : Int32)) ≤ x2 then
 (f_X10_oneMinute_l187 FU x1 ((0 : Int32)) w)
 else
 ((f_X10_isThere x2 w).bind fun y19 =>
 if y19 = 0 then
 (f_X10_oneMinute_b144 kself x1 x2 w)
 else
 ((f_X10_of x2 ((26 : Int32)) w).bind fun y21 =>
 if y21 = ((1 : Int32)) then
 (f_X10_oneMinute_b145 kself x1 x2 ((1 : Int32)) w)
 else
 (f_X10_oneMinute_b144 kself x1 x2 w)))
def f_X10_oneMinute_l115 : Nat → Int32 → Int32 → MW → Option MW
  | 0, _, _, _ => none
  | n + 1, x1, x2, w => f_X10_oneMinute_l115_body (f_X10_oneMinute_l115 n) x1 x2 w
def f_X10_oneMinute_l90_body (kself : (Int32 → MW → Option MW)) (x1 : Int32) (w : MW) : Option MW :=
 if ((3 : Int32)) ≤ x1 then
 (f_X10_oneMinute_l115 FU ((0 : Int32)) ((0 : Int32)) w)
 else
 ((f_X10_w (((11350 : Int32)) + x1) ((0 : Int32)) w).bind fun y24 =>
 kself (x1 + (1 : Int32)) y24)
def f_X10_oneMinute_l90 : Nat → Int32 → MW → Option MW
  | 0, _, _ => none
  | n + 1, x1, w => f_X10_oneMinute_l90_body (f_X10_oneMinute_l90 n) x1 w
def f_X10_oneMinute_b82 (k45 : (Int32 → MW → Option MW)) (x1 : Int32) (w : MW) : Option MW :=
 k45 (x1 + (1 : Int32)) w
def f_X10_oneMinute_l45_body (kself : (Int32 → MW → Option MW)) (x1 : Int32) (w : MW) : Option MW :=
 if ((60 : Int32)) ≤ x1 then
 (f_X10_oneMinute_l90 FU ((0 : Int32)) w)
 else
 ((f_X10_isThere x1 w).bind fun y26 =>
 if y26 = 0 then
 (f_X10_oneMinute_b82 kself x1 w)
 else
 ((f_X10_of x1 ((31 : Int32)) w).bind fun y28 =>
 chk (inb ((11344 : Int32)) 11360) (
 if y28 = (w 1 ((11344 : Int32)).toNatClampNeg) then
 ((f_X10_breakDown x1 w).bind fun y31 =>
 f_X10_oneMinute_b82 kself x1 y31)
 else
 (f_X10_oneMinute_b82 kself x1 w))))
def f_X10_oneMinute_l45 : Nat → Int32 → MW → Option MW
  | 0, _, _ => none
  | n + 1, x1, w => f_X10_oneMinute_l45_body (f_X10_oneMinute_l45 n) x1 w
def f_X10_oneMinute_b26 (w : MW) : Option MW :=
 chk (inb ((11344 : Int32)) 11360) (
 (f_X10_w ((11344 : Int32)) ((w 1 ((11344 : Int32)).toNatClampNeg) + ((1 : Int32))) w).bind fun y33 =>
 f_X10_oneMinute_l45 FU ((0 : Int32)) y33)
def f_X10_oneMinute (w : MW) : Option MW :=
 chk (inb ((11344 : Int32)) 11360) (
 if (w 1 ((11344 : Int32)).toNatClampNeg) = 0 then
 (chk (inb ((0 : Int32)) 301) (
 f_X10_oneMinute_b26 (mst (mst w 4 ((0 : Int32)).toNatClampNeg (w 0 4)) 0 6 ((0 : Int32)))))
 else
 (f_X10_oneMinute_b26 w))
set_option maxHeartbeats 4000000 in
set_option maxRecDepth 100000 in
theorem t_X10_oneMinute (l : Launch) (G : Gm) (w0 : MW) (w' : MW) (hf : f_X10_oneMinute w0 = some w') : MetV l yX10_oneMinute cX10_oneMinute 5 7 161 G (mw G w0) [.ref (gq G 0)] (fun _ => mw G (w')) 0 := by
  intro sz
  refine ent (own := RX10) (As := [.ref (gq G 0)]) (by decide +kernel) rfl (Nat.le_of_ble_eq_true rfl) (fun _ _ h => h.1) ?_
  intro p e s m args below meth c ls B hr hlocks hv hl
  obtain ⟨-, hsz, hP, hKK, hD⟩ := hv
  subst hsz
  have X : CX RX10 cX10_oneMinute 5 G p s m args c := ⟨B, hKK⟩
  obtain ⟨hx, hb, hml, hown, hts⟩ := id B
  have hA : ∀ q : Nat, s.heap.size ≤ q → va_A (mw G w0) s.heap.size q := fun q z => Or.inr z
  have h : CH G (mw G w0) (va_A (mw G w0) s.heap.size) s.heap s.heap [] := ⟨hP, hD.self, va_S.rf⟩
  have L187 : ∀ (n187 : Nat) (x1 : Int32) (x2 : Int32) (w : MW) (H : Heap) (locs : List Loc) (ls : Array Slot), f_X10_oneMinute_l187 n187 x1 x2 w = some w' → CH G (mw G w) (va_A (mw G w0) s.heap.size) s.heap H locs → lv_has ls 5 [(0, .ref (gq G 0)), (1, .int x1), (2, .int x2)] → W p l e { frames := 7, cells := 0, slots := 4096 * 0, locals := 161 } s m args below meth c H locs 0 (4096 * 0) (MQ below (QV G (mw G w0) s.heap.size (fun _ => mw G (w'))) args s 0 (4096 * 0) (va_A (mw G w0) s.heap.size)) (F0 m 187 ls []) := by
    intro n187
    induction n187 with
    | zero =>
      intro x1 x2 w H locs ls hf h hl
      cases (show (none : Option MW) = some _ from hf)
    | succ n187 ih187 =>
      have L197 : ∀ (n197 : Nat) (x1 : Int32) (x2 : Int32) (x3 : Int32) (x4 : Int32) (w : MW) (H : Heap) (locs : List Loc) (ls : Array Slot), f_X10_oneMinute_l197 (f_X10_oneMinute_l187 n187) n197 x1 x2 x3 x4 w = some w' → CH G (mw G w) (va_A (mw G w0) s.heap.size) s.heap H locs → lv_has ls 5 [(0, .ref (gq G 0)), (1, .int x1), (2, .int x2), (3, .int x3), (4, .int x4)] → W p l e { frames := 7, cells := 0, slots := 4096 * 0, locals := 161 } s m args below meth c H locs 0 (4096 * 0) (MQ below (QV G (mw G w0) s.heap.size (fun _ => mw G (w'))) args s 0 (4096 * 0) (va_A (mw G w0) s.heap.size)) (F0 m 197 ls []) := by
        intro n197
        induction n197 with
        | zero =>
          intro x1 x2 x3 x4 w H locs ls hf h hl
          cases (show (none : Option MW) = some _ from hf)
        | succ n197 ih197 =>
          have J226 : ∀ (x1 : Int32) (x2 : Int32) (x4 : Int32) (xs0 : Int32) (w : MW) (H : Heap) (locs : List Loc) (ls : Array Slot), f_X10_oneMinute_b226 (f_X10_oneMinute_l187 n187) (f_X10_oneMinute_l197 (f_X10_oneMinute_l187 n187) n197) x1 x2 x4 xs0 w = some w' → CH G (mw G w) (va_A (mw G w0) s.heap.size) s.heap H locs → lv_has ls 5 [(0, .ref (gq G 0)), (1, .int x1), (2, .int x2), (4, .int x4)] → W p l e { frames := 7, cells := 0, slots := 4096 * 0, locals := 161 } s m args below meth c H locs 0 (4096 * 0) (MQ below (QV G (mw G w0) s.heap.size (fun _ => mw G (w'))) args s 0 (4096 * 0) (va_A (mw G w0) s.heap.size)) (F0 m 226 ls [.int xs0]) := by
            intro x1 x2 x4 xs0 w H locs ls hf h hl
            unfold f_X10_oneMinute_b226 at hf
            refine lv_istore_n (lv' := [(3, .int xs0), (0, .ref (gq G 0)), (1, .int x1), (2, .int x2), (4, .int x4)]) hx hb dX10_oneMinute_226 rfl hl (by decide) rfl (fun ls hl => ?_)
            refine lv_iinc (v := x4 + (1 : Int32)) (lv' := [(4, .int (x4 + (1 : Int32))), (3, .int xs0), (0, .ref (gq G 0)), (1, .int x1), (2, .int x2)]) hx hb dX10_oneMinute_227 hl (k := 4) rfl (by rfl) (by decide) rfl (fun ls hl => ?_)
            refine lv_goto (tgt := 197) hx hb dX10_oneMinute_230 (by decide) ?_
            exact ih197 _ _ _ _ _ _ _ _ hf h (lv_sub hl [2, 3, 4, 1, 0] rfl)
          intro x1 x2 x3 x4 w H locs ls hf h hl
          have hf : f_X10_oneMinute_l197_body (f_X10_oneMinute_l187 n187) (f_X10_oneMinute_l197 (f_X10_oneMinute_l187 n187) n197) x1 x2 x3 x4 w = _ := hf
          unfold f_X10_oneMinute_l197_body at hf
          refine lv_iload hx hb dX10_oneMinute_197 (lv_at hl 4 rfl) ?_
          refine lv_bipush (v := 60) hx hb dX10_oneMinute_199 (by decide) ?_
          refine lv_icmp_ge (tgt := 233) hx hb dX10_oneMinute_201 (by decide) (fun c1 => ?_) (fun c1 => ?_)
          · have hf := if_t c1 hf
            refine lv_aload_n hx hb dX10_oneMinute_233 rfl (lv_at hl 0 rfl) ?_
            refine GM_0_21 X h k_X10_50 dX10_oneMinute_234 ?_
            refine lv_iload_n hx hb dX10_oneMinute_237 rfl (lv_at hl 3 rfl) ?_
            refine lv_iconst (v := (-1)) hx hb dX10_oneMinute_238 (by decide) ?_
            obtain ⟨c2, hf⟩ := chk_some hf
            refine SM_14 X h c2 dX10_oneMinute_239 (fun H locs h => ?_)
            refine lv_aload_n hx hb dX10_oneMinute_240 rfl (lv_at hl 0 rfl) ?_
            refine lv_iload_n hx hb dX10_oneMinute_241 rfl (lv_at hl 3 rfl) ?_
            obtain ⟨y3, ey3, hf⟩ := bnd_some hf
            refine k_X10_goesOrWaits X h hA ey3 k_X10_184 dX10_oneMinute_242 hl.1 ⟨(Nat.le_of_ble_eq_true rfl), (Nat.le_of_ble_eq_true rfl)⟩ (Nat.le_of_ble_eq_true rfl) ⟨Nat.zero_le _, Nat.zero_le _⟩ (fun H locs h => ?_)
            refine lv_iinc (v := x2 + (1 : Int32)) (lv' := [(2, .int (x2 + (1 : Int32))), (0, .ref (gq G 0)), (1, .int x1), (3, .int x3), (4, .int x4)]) hx hb dX10_oneMinute_245 hl (k := 2) rfl (by rfl) (by decide) rfl (fun ls hl => ?_)
            refine lv_goto (tgt := 187) hx hb dX10_oneMinute_248 (by decide) ?_
            exact ih187 _ _ _ _ _ _ hf h (lv_sub hl [1, 2, 0] rfl)
          · have hf := if_f c1 hf
            refine lv_aload_n hx hb dX10_oneMinute_204 rfl (lv_at hl 0 rfl) ?_
            refine GM_0_21 X h k_X10_50 dX10_oneMinute_205 ?_
            refine lv_iload hx hb dX10_oneMinute_208 (lv_at hl 4 rfl) ?_
            obtain ⟨c4, hf⟩ := chk_some hf
            refine LM_14 X h c4 dX10_oneMinute_210 ?_
            refine lv_aload_n hx hb dX10_oneMinute_211 rfl (lv_at hl 0 rfl) ?_
            refine GM_0_21 X h k_X10_50 dX10_oneMinute_212 ?_
            refine lv_iload_n hx hb dX10_oneMinute_215 rfl (lv_at hl 3 rfl) ?_
            obtain ⟨c5, hf⟩ := chk_some hf
            refine LM_14 X h c5 dX10_oneMinute_216 ?_
            refine lv_icmp_le (tgt := 225) hx hb dX10_oneMinute_217 (by decide) (fun c6 => ?_) (fun c6 => ?_)
            · have hf := if_t c6 hf
              refine lv_iload_n hx hb dX10_oneMinute_225 rfl (lv_at hl 3 rfl) ?_
              exact J226 _ _ _ _ _ _ _ _ hf h (lv_sub hl [0, 1, 2, 4] rfl)
            · have hf := if_f c6 hf
              refine lv_iload hx hb dX10_oneMinute_220 (lv_at hl 4 rfl) ?_
              refine lv_goto (tgt := 226) hx hb dX10_oneMinute_222 (by decide) ?_
              exact J226 _ _ _ _ _ _ _ _ hf h (lv_sub hl [0, 1, 2, 4] rfl)
      intro x1 x2 w H locs ls hf h hl
      have hf : f_X10_oneMinute_l187_body (f_X10_oneMinute_l187 n187) x1 x2 w = _ := hf
      unfold f_X10_oneMinute_l187_body at hf
      refine lv_iload_n hx hb dX10_oneMinute_187 rfl (lv_at hl 2 rfl) ?_
      refine lv_iload_n hx hb dX10_oneMinute_188 rfl (lv_at hl 1 rfl) ?_
      refine lv_icmp_ge (tgt := 251) hx hb dX10_oneMinute_189 (by decide) (fun c7 => ?_) (fun c7 => ?_)
      · have hf := if_t c7 hf
        refine lv_aload_n hx hb dX10_oneMinute_251 rfl (lv_at hl 0 rfl) ?_
        refine GM_0_5 X h k_X10_20 dX10_oneMinute_252 ?_
        refine lv_aload_n hx hb dX10_oneMinute_255 rfl (lv_at hl 0 rfl) ?_
        refine GM_0_1 X h k_X10_7 dX10_oneMinute_256 ?_
        refine lv_sipush (v := 11344) hx hb dX10_oneMinute_259 (by decide) ?_
        obtain ⟨c8, hf⟩ := chk_some hf
        refine LM_1 X h c8 dX10_oneMinute_262 ?_
        refine lv_sipush (v := 301) hx hb dX10_oneMinute_263 (by decide) ?_
        refine lv_irem hx hb dX10_oneMinute_266 (by decide) ?_
        refine lv_aload_n hx hb dX10_oneMinute_267 rfl (lv_at hl 0 rfl) ?_
        refine GM_0_4 X h k_X10_57 dX10_oneMinute_268 ?_
        obtain ⟨c9, hf⟩ := chk_some hf
        refine SM_4 X h c9 dX10_oneMinute_271 (fun H locs h => ?_)
        obtain ⟨w10, ew10, hf⟩ := bnd_some hf
        have h := (Option.some.inj ew10) ▸ h
        refine lv_aload_n hx hb dX10_oneMinute_272 rfl (lv_at hl 0 rfl) ?_
        refine lv_aload_n hx hb dX10_oneMinute_273 rfl (lv_at hl 0 rfl) ?_
        refine GM_0_1 X h k_X10_7 dX10_oneMinute_274 ?_
        refine lv_sipush (v := 11344) hx hb dX10_oneMinute_277 (by decide) ?_
        obtain ⟨c11, hf⟩ := chk_some hf
        refine LM_1 X h c11 dX10_oneMinute_280 ?_
        refine lv_aload_n hx hb dX10_oneMinute_281 rfl (lv_at hl 0 rfl) ?_
        refine GM_0_6 X h k_X10_178 dX10_oneMinute_282 ?_
        refine lv_isub hx hb dX10_oneMinute_285 ?_
        refine lv_sipush (v := 300) hx hb dX10_oneMinute_286 (by decide) ?_
        refine lv_icmp_le (tgt := 307) hx hb dX10_oneMinute_289 (by decide) (fun c12 => ?_) (fun c12 => ?_)
        · have hf := if_t c12 hf
          refine lv_aload_n hx hb dX10_oneMinute_307 rfl (lv_at hl 0 rfl) ?_
          refine GM_0_6 X h k_X10_178 dX10_oneMinute_308 ?_
          refine PM_0_6 X h k_X10_178 dX10_oneMinute_311 (fun H locs h => ?_)
          exact e0_v (Wf := mw G) X.1 hr hlocks hf h dX10_oneMinute_314
        · have hf := if_f c12 hf
          refine lv_aload_n hx hb dX10_oneMinute_292 rfl (lv_at hl 0 rfl) ?_
          refine GM_0_1 X h k_X10_7 dX10_oneMinute_293 ?_
          refine lv_sipush (v := 11344) hx hb dX10_oneMinute_296 (by decide) ?_
          obtain ⟨c13, hf⟩ := chk_some hf
          refine LM_1 X h c13 dX10_oneMinute_299 ?_
          refine lv_sipush (v := 300) hx hb dX10_oneMinute_300 (by decide) ?_
          refine lv_isub hx hb dX10_oneMinute_303 ?_
          refine lv_goto (tgt := 311) hx hb dX10_oneMinute_304 (by decide) ?_
          refine PM_0_6 X h k_X10_178 dX10_oneMinute_311 (fun H locs h => ?_)
          exact e0_v (Wf := mw G) X.1 hr hlocks hf h dX10_oneMinute_314
      · have hf := if_f c7 hf
        refine lv_iconst (v := 0) hx hb dX10_oneMinute_192 (by decide) ?_
        refine lv_istore_n (lv' := [(3, .int ((0 : Int32))), (0, .ref (gq G 0)), (1, .int x1), (2, .int x2)]) hx hb dX10_oneMinute_193 rfl hl (by decide) rfl (fun ls hl => ?_)
        refine lv_iconst (v := 1) hx hb dX10_oneMinute_194 (by decide) ?_
        refine lv_istore (lv' := [(4, .int ((1 : Int32))), (3, .int ((0 : Int32))), (0, .ref (gq G 0)), (1, .int x1), (2, .int x2)]) hx hb dX10_oneMinute_195 hl (by decide) rfl (fun ls hl => ?_)
        exact L197 FU _ _ _ _ _ _ _ _ hf h (lv_sub hl [2, 3, 4, 1, 0] rfl)
  have L115 : ∀ (n115 : Nat) (x1 : Int32) (x2 : Int32) (w : MW) (H : Heap) (locs : List Loc) (ls : Array Slot), f_X10_oneMinute_l115 n115 x1 x2 w = some w' → CH G (mw G w) (va_A (mw G w0) s.heap.size) s.heap H locs → lv_has ls 5 [(0, .ref (gq G 0)), (1, .int x1), (2, .int x2)] → W p l e { frames := 7, cells := 0, slots := 4096 * 0, locals := 161 } s m args below meth c H locs 0 (4096 * 0) (MQ below (QV G (mw G w0) s.heap.size (fun _ => mw G (w'))) args s 0 (4096 * 0) (va_A (mw G w0) s.heap.size)) (F0 m 115 ls []) := by
    intro n115
    induction n115 with
    | zero =>
      intro x1 x2 w H locs ls hf h hl
      cases (show (none : Option MW) = some _ from hf)
    | succ n115 ih115 =>
      have J177 : ∀ (x2 : Int32) (xs0 : Int32) (xs1 : Int32) (w : MW) (H : Heap) (locs : List Loc) (ls : Array Slot), f_X10_oneMinute_b177 (f_X10_oneMinute_l115 n115) x2 xs0 xs1 w = some w' → CH G (mw G w) (va_A (mw G w0) s.heap.size) s.heap H locs → lv_has ls 5 [(0, .ref (gq G 0)), (2, .int x2)] → W p l e { frames := 7, cells := 0, slots := 4096 * 0, locals := 161 } s m args below meth c H locs 0 (4096 * 0) (MQ below (QV G (mw G w0) s.heap.size (fun _ => mw G (w'))) args s 0 (4096 * 0) (va_A (mw G w0) s.heap.size)) (F0 m 177 ls [.int xs1, .int xs0]) := by
        intro x2 xs0 xs1 w H locs ls hf h hl
        unfold f_X10_oneMinute_b177 at hf
        refine lv_iadd hx hb dX10_oneMinute_177 ?_
        refine lv_istore_n (lv' := [(1, .int (xs0 + xs1)), (0, .ref (gq G 0)), (2, .int x2)]) hx hb dX10_oneMinute_178 rfl hl (by decide) rfl (fun ls hl => ?_)
        refine lv_iinc (v := x2 + (1 : Int32)) (lv' := [(2, .int (x2 + (1 : Int32))), (1, .int (xs0 + xs1)), (0, .ref (gq G 0))]) hx hb dX10_oneMinute_179 hl (k := 2) rfl (by rfl) (by decide) rfl (fun ls hl => ?_)
        refine lv_goto (tgt := 115) hx hb dX10_oneMinute_182 (by decide) ?_
        exact ih115 _ _ _ _ _ _ hf h (lv_sub hl [2, 1, 0] rfl)
      have J166 : ∀ (x1 : Int32) (x2 : Int32) (x3 : Int32) (xs1 : Int32) (xs2 : Int32) (w : MW) (H : Heap) (locs : List Loc) (ls : Array Slot), f_X10_oneMinute_b166 (f_X10_oneMinute_l115 n115) x1 x2 x3 xs1 xs2 w = some w' → CH G (mw G w) (va_A (mw G w0) s.heap.size) s.heap H locs → lv_has ls 5 [(0, .ref (gq G 0)), (1, .int x1), (2, .int x2), (3, .int x3)] → W p l e { frames := 7, cells := 0, slots := 4096 * 0, locals := 161 } s m args below meth c H locs 0 (4096 * 0) (MQ below (QV G (mw G w0) s.heap.size (fun _ => mw G (w'))) args s 0 (4096 * 0) (va_A (mw G w0) s.heap.size)) (F0 m 166 ls [.int xs2, .int xs1, .ref (gq G 14)]) := by
        intro x1 x2 x3 xs1 xs2 w H locs ls hf h hl
        unfold f_X10_oneMinute_b166 at hf
        obtain ⟨c14, hf⟩ := chk_some hf
        refine SM_14 X h c14 dX10_oneMinute_166 (fun H locs h => ?_)
        refine lv_iload_n hx hb dX10_oneMinute_167 rfl (lv_at hl 1 rfl) ?_
        refine lv_iload_n hx hb dX10_oneMinute_168 rfl (lv_at hl 3 rfl) ?_
        refine lv_if_eq (tgt := 176) hx hb dX10_oneMinute_169 (by decide) (fun c15 => ?_) (fun c15 => ?_)
        · have hf := if_t c15 hf
          refine lv_iconst (v := 0) hx hb dX10_oneMinute_176 (by decide) ?_
          exact J177 _ _ _ _ _ _ _ hf h (lv_sub hl [0, 2] rfl)
        · have hf := if_f c15 hf
          refine lv_iconst (v := 1) hx hb dX10_oneMinute_172 (by decide) ?_
          refine lv_goto (tgt := 177) hx hb dX10_oneMinute_173 (by decide) ?_
          exact J177 _ _ _ _ _ _ _ hf h (lv_sub hl [0, 2] rfl)
      have J145 : ∀ (x1 : Int32) (x2 : Int32) (xs0 : Int32) (w : MW) (H : Heap) (locs : List Loc) (ls : Array Slot), f_X10_oneMinute_b145 (f_X10_oneMinute_l115 n115) x1 x2 xs0 w = some w' → CH G (mw G w) (va_A (mw G w0) s.heap.size) s.heap H locs → lv_has ls 5 [(0, .ref (gq G 0)), (1, .int x1), (2, .int x2)] → W p l e { frames := 7, cells := 0, slots := 4096 * 0, locals := 161 } s m args below meth c H locs 0 (4096 * 0) (MQ below (QV G (mw G w0) s.heap.size (fun _ => mw G (w'))) args s 0 (4096 * 0) (va_A (mw G w0) s.heap.size)) (F0 m 145 ls [.int xs0]) := by
        intro x1 x2 xs0 w H locs ls hf h hl
        unfold f_X10_oneMinute_b145 at hf
        refine lv_istore_n (lv' := [(3, .int xs0), (0, .ref (gq G 0)), (1, .int x1), (2, .int x2)]) hx hb dX10_oneMinute_145 rfl hl (by decide) rfl (fun ls hl => ?_)
        refine lv_aload_n hx hb dX10_oneMinute_146 rfl (lv_at hl 1 rfl) ?_
        refine GM_0_21 X h k_X10_50 dX10_oneMinute_147 ?_
        refine lv_iload_n hx hb dX10_oneMinute_150 rfl (lv_at hl 3 rfl) ?_
        refine lv_iload_n hx hb dX10_oneMinute_151 rfl (lv_at hl 0 rfl) ?_
        refine lv_if_eq (tgt := 165) hx hb dX10_oneMinute_152 (by decide) (fun c16 => ?_) (fun c16 => ?_)
        · have hf := if_t c16 hf
          refine lv_iconst (v := (-1)) hx hb dX10_oneMinute_165 (by decide) ?_
          exact J166 _ _ _ _ _ _ _ _ _ hf h (lv_sub hl [1, 2, 3, 0] rfl)
        · have hf := if_f c16 hf
          refine lv_aload_n hx hb dX10_oneMinute_155 rfl (lv_at hl 1 rfl) ?_
          refine lv_iload_n hx hb dX10_oneMinute_156 rfl (lv_at hl 3 rfl) ?_
          refine lv_bipush (v := 30) hx hb dX10_oneMinute_157 (by decide) ?_
          obtain ⟨y17, ey17, hf⟩ := bnd_some hf
          refine k_X10_of X h ey17 k_X10_75 dX10_oneMinute_159 hl.1 ⟨(Nat.le_of_ble_eq_true rfl), (Nat.le_of_ble_eq_true rfl)⟩ (Nat.le_of_ble_eq_true rfl) ⟨Nat.zero_le _, Nat.zero_le _⟩ ?_
          refine lv_goto (tgt := 166) hx hb dX10_oneMinute_162 (by decide) ?_
          exact J166 _ _ _ _ _ _ _ _ _ hf h (lv_sub hl [1, 2, 3, 0] rfl)
      have J144 : ∀ (x1 : Int32) (x2 : Int32) (w : MW) (H : Heap) (locs : List Loc) (ls : Array Slot), f_X10_oneMinute_b144 (f_X10_oneMinute_l115 n115) x1 x2 w = some w' → CH G (mw G w) (va_A (mw G w0) s.heap.size) s.heap H locs → lv_has ls 5 [(0, .ref (gq G 0)), (1, .int x1), (2, .int x2)] → W p l e { frames := 7, cells := 0, slots := 4096 * 0, locals := 161 } s m args below meth c H locs 0 (4096 * 0) (MQ below (QV G (mw G w0) s.heap.size (fun _ => mw G (w'))) args s 0 (4096 * 0) (va_A (mw G w0) s.heap.size)) (F0 m 144 ls []) := by
        intro x1 x2 w H locs ls hf h hl
        unfold f_X10_oneMinute_b144 at hf
        refine lv_iconst (v := 0) hx hb dX10_oneMinute_144 (by decide) ?_
        exact J145 _ _ _ _ _ _ _ hf h (lv_sub hl [0, 1, 2] rfl)
      intro x1 x2 w H locs ls hf h hl
      have hf : f_X10_oneMinute_l115_body (f_X10_oneMinute_l115 n115) x1 x2 w = _ := hf
      unfold f_X10_oneMinute_l115_body at hf
      refine lv_iload_n hx hb dX10_oneMinute_115 rfl (lv_at hl 2 rfl) ?_
      refine lv_bipush (v := 60) hx hb dX10_oneMinute_116 (by decide) ?_
      refine lv_icmp_ge (tgt := 185) hx hb dX10_oneMinute_118 (by decide) (fun c18 => ?_) (fun c18 => ?_)
      · have hf := if_t c18 hf
        refine lv_iconst (v := 0) hx hb dX10_oneMinute_185 (by decide) ?_
        refine lv_istore_n (lv' := [(2, .int ((0 : Int32))), (0, .ref (gq G 0)), (1, .int x1)]) hx hb dX10_oneMinute_186 rfl hl (by decide) rfl (fun ls hl => ?_)
        exact L187 FU _ _ _ _ _ _ hf h (lv_sub hl [1, 2, 0] rfl)
      · have hf := if_f c18 hf
        refine lv_aload_n hx hb dX10_oneMinute_121 rfl (lv_at hl 0 rfl) ?_
        refine lv_iload_n hx hb dX10_oneMinute_122 rfl (lv_at hl 2 rfl) ?_
        obtain ⟨y19, ey19, hf⟩ := bnd_some hf
        refine k_X10_isThere X h ey19 k_X10_110 dX10_oneMinute_123 hl.1 ⟨(Nat.le_of_ble_eq_true rfl), (Nat.le_of_ble_eq_true rfl)⟩ (Nat.le_of_ble_eq_true rfl) ⟨Nat.zero_le _, Nat.zero_le _⟩ ?_
        refine lv_if_eq (tgt := 144) hx hb dX10_oneMinute_126 (by decide) (fun c20 => ?_) (fun c20 => ?_)
        · have hf := if_t c20 hf
          exact J144 _ _ _ _ _ _ hf h (lv_sub hl [0, 1, 2] rfl)
        · have hf := if_f c20 hf
          refine lv_aload_n hx hb dX10_oneMinute_129 rfl (lv_at hl 0 rfl) ?_
          refine lv_iload_n hx hb dX10_oneMinute_130 rfl (lv_at hl 2 rfl) ?_
          refine lv_bipush (v := 26) hx hb dX10_oneMinute_131 (by decide) ?_
          obtain ⟨y21, ey21, hf⟩ := bnd_some hf
          refine k_X10_of X h ey21 k_X10_75 dX10_oneMinute_133 hl.1 ⟨(Nat.le_of_ble_eq_true rfl), (Nat.le_of_ble_eq_true rfl)⟩ (Nat.le_of_ble_eq_true rfl) ⟨Nat.zero_le _, Nat.zero_le _⟩ ?_
          refine lv_iconst (v := 1) hx hb dX10_oneMinute_136 (by decide) ?_
          refine lv_icmp_ne (tgt := 144) hx hb dX10_oneMinute_137 (by decide) (fun c22 => ?_) (fun c22 => ?_)
          · have hf := if_f c22 hf
            exact J144 _ _ _ _ _ _ hf h (lv_sub hl [0, 1, 2] rfl)
          · have hf := if_t c22 hf
            refine lv_iconst (v := 1) hx hb dX10_oneMinute_140 (by decide) ?_
            refine lv_goto (tgt := 145) hx hb dX10_oneMinute_141 (by decide) ?_
            exact J145 _ _ _ _ _ _ _ hf h (lv_sub hl [0, 1, 2] rfl)
  have L90 : ∀ (n90 : Nat) (x1 : Int32) (w : MW) (H : Heap) (locs : List Loc) (ls : Array Slot), f_X10_oneMinute_l90 n90 x1 w = some w' → CH G (mw G w) (va_A (mw G w0) s.heap.size) s.heap H locs → lv_has ls 5 [(0, .ref (gq G 0)), (1, .int x1)] → W p l e { frames := 7, cells := 0, slots := 4096 * 0, locals := 161 } s m args below meth c H locs 0 (4096 * 0) (MQ below (QV G (mw G w0) s.heap.size (fun _ => mw G (w'))) args s 0 (4096 * 0) (va_A (mw G w0) s.heap.size)) (F0 m 90 ls []) := by
    intro n90
    induction n90 with
    | zero =>
      intro x1 w H locs ls hf h hl
      cases (show (none : Option MW) = some _ from hf)
    | succ n90 ih90 =>
      intro x1 w H locs ls hf h hl
      have hf : f_X10_oneMinute_l90_body (f_X10_oneMinute_l90 n90) x1 w = _ := hf
      unfold f_X10_oneMinute_l90_body at hf
      refine lv_iload_n hx hb dX10_oneMinute_90 rfl (lv_at hl 1 rfl) ?_
      refine lv_iconst (v := 3) hx hb dX10_oneMinute_91 (by decide) ?_
      refine lv_icmp_ge (tgt := 111) hx hb dX10_oneMinute_92 (by decide) (fun c23 => ?_) (fun c23 => ?_)
      · have hf := if_t c23 hf
        refine lv_iconst (v := 0) hx hb dX10_oneMinute_111 (by decide) ?_
        refine lv_istore_n (lv' := [(1, .int ((0 : Int32))), (0, .ref (gq G 0))]) hx hb dX10_oneMinute_112 rfl hl (by decide) rfl (fun ls hl => ?_)
        refine lv_iconst (v := 0) hx hb dX10_oneMinute_113 (by decide) ?_
        refine lv_istore_n (lv' := [(2, .int ((0 : Int32))), (1, .int ((0 : Int32))), (0, .ref (gq G 0))]) hx hb dX10_oneMinute_114 rfl hl (by decide) rfl (fun ls hl => ?_)
        exact L115 FU _ _ _ _ _ _ hf h (lv_sub hl [2, 1, 0] rfl)
      · have hf := if_f c23 hf
        refine lv_aload_n hx hb dX10_oneMinute_95 rfl (lv_at hl 0 rfl) ?_
        refine lv_sipush (v := 11350) hx hb dX10_oneMinute_96 (by decide) ?_
        refine lv_iload_n hx hb dX10_oneMinute_99 rfl (lv_at hl 1 rfl) ?_
        refine lv_iadd hx hb dX10_oneMinute_100 ?_
        refine lv_iconst (v := 0) hx hb dX10_oneMinute_101 (by decide) ?_
        obtain ⟨y24, ey24, hf⟩ := bnd_some hf
        refine k_X10_w X h hA ey24 k_X10_67 dX10_oneMinute_102 hl.1 ⟨(Nat.le_of_ble_eq_true rfl), (Nat.le_of_ble_eq_true rfl)⟩ (Nat.le_of_ble_eq_true rfl) ⟨Nat.zero_le _, Nat.zero_le _⟩ (fun H locs h => ?_)
        refine lv_iinc (v := x1 + (1 : Int32)) (lv' := [(1, .int (x1 + (1 : Int32))), (0, .ref (gq G 0))]) hx hb dX10_oneMinute_105 hl (k := 1) rfl (by rfl) (by decide) rfl (fun ls hl => ?_)
        refine lv_goto (tgt := 90) hx hb dX10_oneMinute_108 (by decide) ?_
        exact ih90 _ _ _ _ _ hf h (lv_sub hl [1, 0] rfl)
  have L45 : ∀ (n45 : Nat) (x1 : Int32) (w : MW) (H : Heap) (locs : List Loc) (ls : Array Slot), f_X10_oneMinute_l45 n45 x1 w = some w' → CH G (mw G w) (va_A (mw G w0) s.heap.size) s.heap H locs → lv_has ls 5 [(0, .ref (gq G 0)), (1, .int x1)] → W p l e { frames := 7, cells := 0, slots := 4096 * 0, locals := 161 } s m args below meth c H locs 0 (4096 * 0) (MQ below (QV G (mw G w0) s.heap.size (fun _ => mw G (w'))) args s 0 (4096 * 0) (va_A (mw G w0) s.heap.size)) (F0 m 45 ls []) := by
    intro n45
    induction n45 with
    | zero =>
      intro x1 w H locs ls hf h hl
      cases (show (none : Option MW) = some _ from hf)
    | succ n45 ih45 =>
      have J82 : ∀ (x1 : Int32) (w : MW) (H : Heap) (locs : List Loc) (ls : Array Slot), f_X10_oneMinute_b82 (f_X10_oneMinute_l45 n45) x1 w = some w' → CH G (mw G w) (va_A (mw G w0) s.heap.size) s.heap H locs → lv_has ls 5 [(0, .ref (gq G 0)), (1, .int x1)] → W p l e { frames := 7, cells := 0, slots := 4096 * 0, locals := 161 } s m args below meth c H locs 0 (4096 * 0) (MQ below (QV G (mw G w0) s.heap.size (fun _ => mw G (w'))) args s 0 (4096 * 0) (va_A (mw G w0) s.heap.size)) (F0 m 82 ls []) := by
        intro x1 w H locs ls hf h hl
        unfold f_X10_oneMinute_b82 at hf
        refine lv_iinc (v := x1 + (1 : Int32)) (lv' := [(1, .int (x1 + (1 : Int32))), (0, .ref (gq G 0))]) hx hb dX10_oneMinute_82 hl (k := 1) rfl (by rfl) (by decide) rfl (fun ls hl => ?_)
        refine lv_goto (tgt := 45) hx hb dX10_oneMinute_85 (by decide) ?_
        exact ih45 _ _ _ _ _ hf h (lv_sub hl [1, 0] rfl)
      intro x1 w H locs ls hf h hl
      have hf : f_X10_oneMinute_l45_body (f_X10_oneMinute_l45 n45) x1 w = _ := hf
      unfold f_X10_oneMinute_l45_body at hf
      refine lv_iload_n hx hb dX10_oneMinute_45 rfl (lv_at hl 1 rfl) ?_
      refine lv_bipush (v := 60) hx hb dX10_oneMinute_46 (by decide) ?_
      refine lv_icmp_ge (tgt := 88) hx hb dX10_oneMinute_48 (by decide) (fun c25 => ?_) (fun c25 => ?_)
      · have hf := if_t c25 hf
        refine lv_iconst (v := 0) hx hb dX10_oneMinute_88 (by decide) ?_
        refine lv_istore_n (lv' := [(1, .int ((0 : Int32))), (0, .ref (gq G 0))]) hx hb dX10_oneMinute_89 rfl hl (by decide) rfl (fun ls hl => ?_)
        exact L90 FU _ _ _ _ _ hf h (lv_sub hl [1, 0] rfl)
      · have hf := if_f c25 hf
        refine lv_aload_n hx hb dX10_oneMinute_51 rfl (lv_at hl 0 rfl) ?_
        refine lv_iload_n hx hb dX10_oneMinute_52 rfl (lv_at hl 1 rfl) ?_
        obtain ⟨y26, ey26, hf⟩ := bnd_some hf
        refine k_X10_isThere X h ey26 k_X10_110 dX10_oneMinute_53 hl.1 ⟨(Nat.le_of_ble_eq_true rfl), (Nat.le_of_ble_eq_true rfl)⟩ (Nat.le_of_ble_eq_true rfl) ⟨Nat.zero_le _, Nat.zero_le _⟩ ?_
        refine lv_if_eq (tgt := 82) hx hb dX10_oneMinute_56 (by decide) (fun c27 => ?_) (fun c27 => ?_)
        · have hf := if_t c27 hf
          exact J82 _ _ _ _ _ hf h (lv_sub hl [0, 1] rfl)
        · have hf := if_f c27 hf
          refine lv_aload_n hx hb dX10_oneMinute_59 rfl (lv_at hl 0 rfl) ?_
          refine lv_iload_n hx hb dX10_oneMinute_60 rfl (lv_at hl 1 rfl) ?_
          refine lv_bipush (v := 31) hx hb dX10_oneMinute_61 (by decide) ?_
          obtain ⟨y28, ey28, hf⟩ := bnd_some hf
          refine k_X10_of X h ey28 k_X10_75 dX10_oneMinute_63 hl.1 ⟨(Nat.le_of_ble_eq_true rfl), (Nat.le_of_ble_eq_true rfl)⟩ (Nat.le_of_ble_eq_true rfl) ⟨Nat.zero_le _, Nat.zero_le _⟩ ?_
          refine lv_aload_n hx hb dX10_oneMinute_66 rfl (lv_at hl 0 rfl) ?_
          refine GM_0_1 X h k_X10_7 dX10_oneMinute_67 ?_
          refine lv_sipush (v := 11344) hx hb dX10_oneMinute_70 (by decide) ?_
          obtain ⟨c29, hf⟩ := chk_some hf
          refine LM_1 X h c29 dX10_oneMinute_73 ?_
          refine lv_icmp_ne (tgt := 82) hx hb dX10_oneMinute_74 (by decide) (fun c30 => ?_) (fun c30 => ?_)
          · have hf := if_f c30 hf
            exact J82 _ _ _ _ _ hf h (lv_sub hl [0, 1] rfl)
          · have hf := if_t c30 hf
            refine lv_aload_n hx hb dX10_oneMinute_77 rfl (lv_at hl 0 rfl) ?_
            refine lv_iload_n hx hb dX10_oneMinute_78 rfl (lv_at hl 1 rfl) ?_
            obtain ⟨y31, ey31, hf⟩ := bnd_some hf
            refine k_X10_breakDown X h hA ey31 k_X10_181 dX10_oneMinute_79 hl.1 ⟨(Nat.le_of_ble_eq_true rfl), (Nat.le_of_ble_eq_true rfl)⟩ (Nat.le_of_ble_eq_true rfl) ⟨Nat.zero_le _, Nat.zero_le _⟩ (fun H locs h => ?_)
            exact J82 _ _ _ _ _ hf h (lv_sub hl [0, 1] rfl)
  have J26 : ∀ (w : MW) (H : Heap) (locs : List Loc) (ls : Array Slot), f_X10_oneMinute_b26 w = some w' → CH G (mw G w) (va_A (mw G w0) s.heap.size) s.heap H locs → lv_has ls 5 [(0, .ref (gq G 0))] → W p l e { frames := 7, cells := 0, slots := 4096 * 0, locals := 161 } s m args below meth c H locs 0 (4096 * 0) (MQ below (QV G (mw G w0) s.heap.size (fun _ => mw G (w'))) args s 0 (4096 * 0) (va_A (mw G w0) s.heap.size)) (F0 m 26 ls []) := by
    intro w H locs ls hf h hl
    unfold f_X10_oneMinute_b26 at hf
    refine lv_aload_n hx hb dX10_oneMinute_26 rfl (lv_at hl 0 rfl) ?_
    refine lv_sipush (v := 11344) hx hb dX10_oneMinute_27 (by decide) ?_
    refine lv_aload_n hx hb dX10_oneMinute_30 rfl (lv_at hl 0 rfl) ?_
    refine GM_0_1 X h k_X10_7 dX10_oneMinute_31 ?_
    refine lv_sipush (v := 11344) hx hb dX10_oneMinute_34 (by decide) ?_
    obtain ⟨c32, hf⟩ := chk_some hf
    refine LM_1 X h c32 dX10_oneMinute_37 ?_
    refine lv_iconst (v := 1) hx hb dX10_oneMinute_38 (by decide) ?_
    refine lv_iadd hx hb dX10_oneMinute_39 ?_
    obtain ⟨y33, ey33, hf⟩ := bnd_some hf
    refine k_X10_w X h hA ey33 k_X10_67 dX10_oneMinute_40 hl.1 ⟨(Nat.le_of_ble_eq_true rfl), (Nat.le_of_ble_eq_true rfl)⟩ (Nat.le_of_ble_eq_true rfl) ⟨Nat.zero_le _, Nat.zero_le _⟩ (fun H locs h => ?_)
    refine lv_iconst (v := 0) hx hb dX10_oneMinute_43 (by decide) ?_
    refine lv_istore_n (lv' := [(1, .int ((0 : Int32))), (0, .ref (gq G 0))]) hx hb dX10_oneMinute_44 rfl hl (by decide) rfl (fun ls hl => ?_)
    exact L45 FU _ _ _ _ _ hf h (lv_sub hl [1, 0] rfl)
  obtain ⟨w, rfl⟩ : ∃ z, z = w0 := ⟨_, rfl⟩
  have hl : lv_has ls 5 [(0, .ref (gq G 0))] := hl
  unfold f_X10_oneMinute at hf
  refine lv_aload_n hx hb dX10_oneMinute_0 rfl (lv_at hl 0 rfl) ?_
  refine GM_0_1 X h k_X10_7 dX10_oneMinute_1 ?_
  refine lv_sipush (v := 11344) hx hb dX10_oneMinute_4 (by decide) ?_
  obtain ⟨c34, hf⟩ := chk_some hf
  refine LM_1 X h c34 dX10_oneMinute_7 ?_
  refine lv_if_ne (tgt := 26) hx hb dX10_oneMinute_8 (by decide) (fun c35 => ?_) (fun c35 => ?_)
  · have hf := if_f c35 hf
    exact J26 _ _ _ _ hf h (lv_sub hl [0] rfl)
  · have hf := if_t c35 hf
    refine lv_aload_n hx hb dX10_oneMinute_11 rfl (lv_at hl 0 rfl) ?_
    refine GM_0_5 X h k_X10_20 dX10_oneMinute_12 ?_
    refine lv_iconst (v := 0) hx hb dX10_oneMinute_15 (by decide) ?_
    refine lv_aload_n hx hb dX10_oneMinute_16 rfl (lv_at hl 0 rfl) ?_
    refine GM_0_4 X h k_X10_57 dX10_oneMinute_17 ?_
    obtain ⟨c36, hf⟩ := chk_some hf
    refine SM_4 X h c36 dX10_oneMinute_20 (fun H locs h => ?_)
    refine lv_aload_n hx hb dX10_oneMinute_21 rfl (lv_at hl 0 rfl) ?_
    refine lv_iconst (v := 0) hx hb dX10_oneMinute_22 (by decide) ?_
    refine PM_0_6 X h k_X10_178 dX10_oneMinute_23 (fun H locs h => ?_)
    exact J26 _ _ _ _ hf h (lv_sub hl [0] rfl)
theorem m_X10_oneMinute : Cond.instanceMethod yX10_oneMinute ∈ lw_good ∧ Cond.selects RX10 yX10_oneMinute yX10_oneMinute ∈ lw_good ∧ Cond.initialized RX10 ∈ lw_good ∧ Cond.code yX10_oneMinute cX10_oneMinute 5 none ∈ lw_good := by decide +kernel
theorem k_X10_oneMinute {p : Program} {l : Launch} {e : Env} {R : Room} {s : State} {m : MethodId} {args : Array Value} {below : List Frame} {meth : Method} {c : Code} {H : Heap} {locs : List Loc} {cells slots : Nat} {Q : State → Prop} {cc : ByteArray} {nL pc idx : Nat} {ls : Array Slot} {rest : List Value} {own : String} {G : Gm} {A : Nat → Prop} {H0 : Heap} {w : MW} {w' : MW} (X : CX own cc nL G p s m args c) (h : CH G (mw G w) A H0 H locs) (hA : ∀ q, H0.size ≤ q → A q) (hf : f_X10_oneMinute w = some w') (hlk : Cond.methodLink own idx yX10_oneMinute ∈ lw_good) (hd : decode cc pc = .ok (.invokevirtual idx, 3)) (hsz : ls.size = nL) (hR : 8 ≤ R.frames ∧ 185 ≤ R.locals) (hrest : (rest.map fun v => v.category).sum ≤ 8) (hk : cells ≤ R.cells ∧ slots ≤ R.slots) (k : ∀ (H : Heap) (locs : List Loc), CH G (mw G (w')) A H0 H locs → W p l e R s m args below meth c H locs cells slots Q (F0 m (pc + 3) ls (rest))) : W p l e R s m args below meth c H locs cells slots Q (F0 m pc ls (.ref (gq G 0) :: rest)) :=
  fin_v (n := 0) (runV (As := []) X.1 0 (t_X10_oneMinute l G w w' hf _) rfl rfl hlk m_X10_oneMinute (by decide +kernel) ⟨hR.1, hR.2⟩ ⟨blindM, va_recv X.2.1 h.1 (ci := 9) (q0 := 0) rfl rfl, preM X.2 h⟩ rfl hsz hrest hd hk) h hA (fun _ H locs h => k H locs h)
def f_X10_minute_l20_body (kself : (Int32 → Int32 → MW → Option (Int32 × MW))) (x1 : Int32) (x2 : Int32) (w : MW) : Option (Int32 × MW) :=
 if x1 ≤ x2 then
 (chk (inb ((11344 : Int32)) 11360) (
 some (w 1 ((11344 : Int32)).toNatClampNeg, w)))
 else
 ((f_X10_oneMinute w).bind fun y3 =>
 kself x1 (x2 + (1 : Int32)) y3)
def f_X10_minute_l20 : Nat → Int32 → Int32 → MW → Option (Int32 × MW)
  | 0, _, _, _ => none
  | n + 1, x1, x2, w => f_X10_minute_l20_body (f_X10_minute_l20 n) x1 x2 w
def f_X10_minute (x1 : Int32) (w : MW) : Option (Int32 × MW) :=
 (f_X10_in x1 ((1 : Int32)) ((60 : Int32))).bind fun y4 =>
 if y4 = 0 then
 (some ((-2 : Int32), mst w 0 0 ((0 : Int32))))
 else
 (f_X10_minute_l20 FU x1 ((0 : Int32)) (mst w 0 0 ((0 : Int32))))
set_option maxHeartbeats 4000000 in
set_option maxRecDepth 100000 in
theorem t_X10_minute (l : Launch) (G : Gm) (w0 : MW) (x1 : Int32) (r : Int32) (w' : MW) (hf : f_X10_minute x1 w0 = some (r, w')) : MetI l yX10_minute cX10_minute 3 (some .int) 8 185 G (mw G w0) [.ref (gq G 0), .int x1] r (fun _ => mw G (w')) 0 := by
  intro sz
  refine ent (own := RX10) (As := [.ref (gq G 0), .int x1]) (by decide +kernel) rfl (Nat.le_of_ble_eq_true rfl) (fun _ _ h => h.1) ?_
  intro p e s m args below meth c ls B hr hlocks hv hl
  obtain ⟨-, hsz, hP, hKK, hD⟩ := hv
  subst hsz
  have X : CX RX10 cX10_minute 3 G p s m args c := ⟨B, hKK⟩
  obtain ⟨hx, hb, hml, hown, hts⟩ := id B
  have hA : ∀ q : Nat, s.heap.size ≤ q → va_A (mw G w0) s.heap.size q := fun q z => Or.inr z
  have h : CH G (mw G w0) (va_A (mw G w0) s.heap.size) s.heap s.heap [] := ⟨hP, hD.self, va_S.rf⟩
  have L20 : ∀ (n20 : Nat) (x1 : Int32) (x2 : Int32) (w : MW) (H : Heap) (locs : List Loc) (ls : Array Slot), f_X10_minute_l20 n20 x1 x2 w = some (r, w') → CH G (mw G w) (va_A (mw G w0) s.heap.size) s.heap H locs → lv_has ls 3 [(0, .ref (gq G 0)), (1, .int x1), (2, .int x2)] → W p l e { frames := 8, cells := 0, slots := 4096 * 0, locals := 185 } s m args below meth c H locs 0 (4096 * 0) (MQ below (QI G (mw G w0) s.heap.size r (fun _ => mw G (w'))) args s 0 (4096 * 0) (va_A (mw G w0) s.heap.size)) (F0 m 20 ls []) := by
    intro n20
    induction n20 with
    | zero =>
      intro x1 x2 w H locs ls hf h hl
      cases (show (none : Option (Int32 × MW)) = some _ from hf)
    | succ n20 ih20 =>
      intro x1 x2 w H locs ls hf h hl
      have hf : f_X10_minute_l20_body (f_X10_minute_l20 n20) x1 x2 w = _ := hf
      unfold f_X10_minute_l20_body at hf
      refine lv_iload_n hx hb dX10_minute_20 rfl (lv_at hl 2 rfl) ?_
      refine lv_iload_n hx hb dX10_minute_21 rfl (lv_at hl 1 rfl) ?_
      refine lv_icmp_ge (tgt := 35) hx hb dX10_minute_22 (by decide) (fun c1 => ?_) (fun c1 => ?_)
      · have hf := if_t c1 hf
        refine lv_aload_n hx hb dX10_minute_35 rfl (lv_at hl 0 rfl) ?_
        refine GM_0_1 X h k_X10_7 dX10_minute_36 ?_
        refine lv_sipush (v := 11344) hx hb dX10_minute_39 (by decide) ?_
        obtain ⟨c2, hf⟩ := chk_some hf
        refine LM_1 X h c2 dX10_minute_42 ?_
        exact e0_i (Wf := mw G) X.1 hr hlocks hf h dX10_minute_43
      · have hf := if_f c1 hf
        refine lv_aload_n hx hb dX10_minute_25 rfl (lv_at hl 0 rfl) ?_
        obtain ⟨y3, ey3, hf⟩ := bnd_some hf
        refine k_X10_oneMinute X h hA ey3 k_X10_187 dX10_minute_26 hl.1 ⟨(Nat.le_of_ble_eq_true rfl), (Nat.le_of_ble_eq_true rfl)⟩ (Nat.le_of_ble_eq_true rfl) ⟨Nat.zero_le _, Nat.zero_le _⟩ (fun H locs h => ?_)
        refine lv_iinc (v := x2 + (1 : Int32)) (lv' := [(2, .int (x2 + (1 : Int32))), (0, .ref (gq G 0)), (1, .int x1)]) hx hb dX10_minute_29 hl (k := 2) rfl (by rfl) (by decide) rfl (fun ls hl => ?_)
        refine lv_goto (tgt := 20) hx hb dX10_minute_32 (by decide) ?_
        exact ih20 _ _ _ _ _ _ hf h (lv_sub hl [1, 2, 0] rfl)
  obtain ⟨w, rfl⟩ : ∃ z, z = w0 := ⟨_, rfl⟩
  have hl : lv_has ls 3 [(0, .ref (gq G 0)), (1, .int x1)] := hl
  unfold f_X10_minute at hf
  refine lv_aload_n hx hb dX10_minute_0 rfl (lv_at hl 0 rfl) ?_
  refine lv_iconst (v := 0) hx hb dX10_minute_1 (by decide) ?_
  refine PM_0_0 X h k_X10_53 dX10_minute_2 (fun H locs h => ?_)
  refine lv_iload_n hx hb dX10_minute_5 rfl (lv_at hl 1 rfl) ?_
  refine lv_iconst (v := 1) hx hb dX10_minute_6 (by decide) ?_
  refine lv_bipush (v := 60) hx hb dX10_minute_7 (by decide) ?_
  obtain ⟨y4, ey4, hf⟩ := bnd_some hf
  refine k_X10_in X.1 ey4 k_X10_71 dX10_minute_9 hl.1 ⟨(Nat.le_of_ble_eq_true rfl), (Nat.le_of_ble_eq_true rfl)⟩ (Nat.le_of_ble_eq_true rfl) ⟨Nat.zero_le _, Nat.zero_le _⟩ ?_
  refine lv_if_ne (tgt := 18) hx hb dX10_minute_12 (by decide) (fun c5 => ?_) (fun c5 => ?_)
  · have hf := if_f c5 hf
    refine lv_iconst (v := 0) hx hb dX10_minute_18 (by decide) ?_
    refine lv_istore_n (lv' := [(2, .int ((0 : Int32))), (0, .ref (gq G 0)), (1, .int x1)]) hx hb dX10_minute_19 rfl hl (by decide) rfl (fun ls hl => ?_)
    exact L20 FU _ _ _ _ _ _ hf h (lv_sub hl [1, 2, 0] rfl)
  · have hf := if_t c5 hf
    refine lv_bipush (v := (-2)) hx hb dX10_minute_15 (by decide) ?_
    exact e0_i (Wf := mw G) X.1 hr hlocks hf h dX10_minute_17
theorem m_X10_minute : Cond.instanceMethod yX10_minute ∈ lw_good ∧ Cond.selects RX10 yX10_minute yX10_minute ∈ lw_good ∧ Cond.initialized RX10 ∈ lw_good ∧ Cond.code yX10_minute cX10_minute 3 (some .int) ∈ lw_good := by decide +kernel
theorem k_X10_minute {p : Program} {l : Launch} {e : Env} {R : Room} {s : State} {m : MethodId} {args : Array Value} {below : List Frame} {meth : Method} {c : Code} {H : Heap} {locs : List Loc} {cells slots : Nat} {Q : State → Prop} {cc : ByteArray} {nL pc idx : Nat} {ls : Array Slot} {rest : List Value} {own : String} {G : Gm} {A : Nat → Prop} {H0 : Heap} {w : MW} {x1 : Int32} {y : Int32 × MW} (X : CX own cc nL G p s m args c) (h : CH G (mw G w) A H0 H locs) (hA : ∀ q, H0.size ≤ q → A q) (hf : f_X10_minute x1 w = some y) (hlk : Cond.methodLink own idx yX10_minute ∈ lw_good) (hd : decode cc pc = .ok (.invokevirtual idx, 3)) (hsz : ls.size = nL) (hR : 9 ≤ R.frames ∧ 207 ≤ R.locals) (hrest : (rest.map fun v => v.category).sum ≤ 8) (hk : cells ≤ R.cells ∧ slots ≤ R.slots) (k : ∀ (H : Heap) (locs : List Loc), CH G (mw G y.2) A H0 H locs → W p l e R s m args below meth c H locs cells slots Q (F0 m (pc + 3) ls (.int y.1 :: rest))) : W p l e R s m args below meth c H locs cells slots Q (F0 m pc ls (.int x1 :: .ref (gq G 0) :: rest)) :=
  fin_i (n := 0) (runV (As := [.int x1]) X.1 1 (t_X10_minute l G w x1 y.1 y.2 hf _) rfl rfl hlk m_X10_minute (by decide +kernel) ⟨hR.1, hR.2⟩ ⟨blindM, va_recv X.2.1 h.1 (ci := 9) (q0 := 0) rfl rfl, preM X.2 h⟩ rfl hsz hrest hd hk) h hA (fun _ H locs h => k H locs h)
def f_X10_left (x1 : Int32) (w : MW) : Option (Int32 × MW) :=
 (f_X10_isPlace x1).bind fun y1 =>
 if y1 = 0 then
 (some ((-1 : Int32), mst w 0 0 ((0 : Int32))))
 else
 ((f_X10_isThere x1 (mst w 0 0 ((0 : Int32)))).bind fun y3 =>
 if y3 = 0 then
 ((f_X10_found ((1 : Int32)) (mst w 0 0 ((0 : Int32)))).bind fun y5 =>
 some (y5.1, y5.2))
 else
 ((f_X10_leftOf x1 (mst w 0 0 ((0 : Int32)))).bind fun y6 =>
 some (y6, mst w 0 0 ((0 : Int32)))))
set_option maxHeartbeats 4000000 in
set_option maxRecDepth 100000 in
theorem t_X10_left (l : Launch) (G : Gm) (w0 : MW) (x1 : Int32) (r : Int32) (w' : MW) (hf : f_X10_left x1 w0 = some (r, w')) : MetI l yX10_left cX10_left 2 (some .int) 2 45 G (mw G w0) [.ref (gq G 0), .int x1] r (fun _ => mw G (w')) 0 := by
  intro sz
  refine ent (own := RX10) (As := [.ref (gq G 0), .int x1]) (by decide +kernel) rfl (Nat.le_of_ble_eq_true rfl) (fun _ _ h => h.1) ?_
  intro p e s m args below meth c ls B hr hlocks hv hl
  obtain ⟨-, hsz, hP, hKK, hD⟩ := hv
  subst hsz
  have X : CX RX10 cX10_left 2 G p s m args c := ⟨B, hKK⟩
  obtain ⟨hx, hb, hml, hown, hts⟩ := id B
  have hA : ∀ q : Nat, s.heap.size ≤ q → va_A (mw G w0) s.heap.size q := fun q z => Or.inr z
  have h : CH G (mw G w0) (va_A (mw G w0) s.heap.size) s.heap s.heap [] := ⟨hP, hD.self, va_S.rf⟩
  obtain ⟨w, rfl⟩ : ∃ z, z = w0 := ⟨_, rfl⟩
  have hl : lv_has ls 2 [(0, .ref (gq G 0)), (1, .int x1)] := hl
  unfold f_X10_left at hf
  refine lv_aload_n hx hb dX10_left_0 rfl (lv_at hl 0 rfl) ?_
  refine lv_iconst (v := 0) hx hb dX10_left_1 (by decide) ?_
  refine PM_0_0 X h k_X10_53 dX10_left_2 (fun H locs h => ?_)
  refine lv_iload_n hx hb dX10_left_5 rfl (lv_at hl 1 rfl) ?_
  obtain ⟨y1, ey1, hf⟩ := bnd_some hf
  refine k_X10_isPlace X.1 ey1 k_X10_106 dX10_left_6 hl.1 ⟨(Nat.le_of_ble_eq_true rfl), (Nat.le_of_ble_eq_true rfl)⟩ (Nat.le_of_ble_eq_true rfl) ⟨Nat.zero_le _, Nat.zero_le _⟩ ?_
  refine lv_if_ne (tgt := 14) hx hb dX10_left_9 (by decide) (fun c2 => ?_) (fun c2 => ?_)
  · have hf := if_f c2 hf
    refine lv_aload_n hx hb dX10_left_14 rfl (lv_at hl 0 rfl) ?_
    refine lv_iload_n hx hb dX10_left_15 rfl (lv_at hl 1 rfl) ?_
    obtain ⟨y3, ey3, hf⟩ := bnd_some hf
    refine k_X10_isThere X h ey3 k_X10_110 dX10_left_16 hl.1 ⟨(Nat.le_of_ble_eq_true rfl), (Nat.le_of_ble_eq_true rfl)⟩ (Nat.le_of_ble_eq_true rfl) ⟨Nat.zero_le _, Nat.zero_le _⟩ ?_
    refine lv_if_eq (tgt := 30) hx hb dX10_left_19 (by decide) (fun c4 => ?_) (fun c4 => ?_)
    · have hf := if_t c4 hf
      refine lv_aload_n hx hb dX10_left_30 rfl (lv_at hl 0 rfl) ?_
      refine lv_iconst (v := 1) hx hb dX10_left_31 (by decide) ?_
      obtain ⟨y5, ey5, hf⟩ := bnd_some hf
      refine k_X10_found X h hA ey5 k_X10_117 dX10_left_32 hl.1 ⟨(Nat.le_of_ble_eq_true rfl), (Nat.le_of_ble_eq_true rfl)⟩ (Nat.le_of_ble_eq_true rfl) ⟨Nat.zero_le _, Nat.zero_le _⟩ (fun H locs h => ?_)
      exact e0_i (Wf := mw G) X.1 hr hlocks hf h dX10_left_35
    · have hf := if_f c4 hf
      refine lv_aload_n hx hb dX10_left_22 rfl (lv_at hl 0 rfl) ?_
      refine lv_iload_n hx hb dX10_left_23 rfl (lv_at hl 1 rfl) ?_
      obtain ⟨y6, ey6, hf⟩ := bnd_some hf
      refine k_X10_leftOf X h ey6 k_X10_190 dX10_left_24 hl.1 ⟨(Nat.le_of_ble_eq_true rfl), (Nat.le_of_ble_eq_true rfl)⟩ (Nat.le_of_ble_eq_true rfl) ⟨Nat.zero_le _, Nat.zero_le _⟩ ?_
      refine lv_goto (tgt := 35) hx hb dX10_left_27 (by decide) ?_
      exact e0_i (Wf := mw G) X.1 hr hlocks hf h dX10_left_35
  · have hf := if_t c2 hf
    refine lv_iconst (v := (-1)) hx hb dX10_left_12 (by decide) ?_
    exact e0_i (Wf := mw G) X.1 hr hlocks hf h dX10_left_13
theorem m_X10_left : Cond.instanceMethod yX10_left ∈ lw_good ∧ Cond.selects RX10 yX10_left yX10_left ∈ lw_good ∧ Cond.initialized RX10 ∈ lw_good ∧ Cond.code yX10_left cX10_left 2 (some .int) ∈ lw_good := by decide +kernel
theorem k_X10_left {p : Program} {l : Launch} {e : Env} {R : Room} {s : State} {m : MethodId} {args : Array Value} {below : List Frame} {meth : Method} {c : Code} {H : Heap} {locs : List Loc} {cells slots : Nat} {Q : State → Prop} {cc : ByteArray} {nL pc idx : Nat} {ls : Array Slot} {rest : List Value} {own : String} {G : Gm} {A : Nat → Prop} {H0 : Heap} {w : MW} {x1 : Int32} {y : Int32 × MW} (X : CX own cc nL G p s m args c) (h : CH G (mw G w) A H0 H locs) (hA : ∀ q, H0.size ≤ q → A q) (hf : f_X10_left x1 w = some y) (hlk : Cond.methodLink own idx yX10_left ∈ lw_good) (hd : decode cc pc = .ok (.invokevirtual idx, 3)) (hsz : ls.size = nL) (hR : 3 ≤ R.frames ∧ 66 ≤ R.locals) (hrest : (rest.map fun v => v.category).sum ≤ 8) (hk : cells ≤ R.cells ∧ slots ≤ R.slots) (k : ∀ (H : Heap) (locs : List Loc), CH G (mw G y.2) A H0 H locs → W p l e R s m args below meth c H locs cells slots Q (F0 m (pc + 3) ls (.int y.1 :: rest))) : W p l e R s m args below meth c H locs cells slots Q (F0 m pc ls (.int x1 :: .ref (gq G 0) :: rest)) :=
  fin_i (n := 0) (runV (As := [.int x1]) X.1 1 (t_X10_left l G w x1 y.1 y.2 hf _) rfl rfl hlk m_X10_left (by decide +kernel) ⟨hR.1, hR.2⟩ ⟨blindM, va_recv X.2.1 h.1 (ci := 9) (q0 := 0) rfl rfl, preM X.2 h⟩ rfl hsz hrest hd hk) h hA (fun _ H locs h => k H locs h)
def f_X10_stop (x1 : Int32) (w : MW) : Option (Int32 × MW) :=
 (f_X10_isPlace x1).bind fun y1 =>
 if y1 = 0 then
 (some ((-1 : Int32), mst w 0 0 ((0 : Int32))))
 else
 ((f_X10_isThere x1 (mst w 0 0 ((0 : Int32)))).bind fun y3 =>
 if y3 = 0 then
 ((f_X10_found ((1 : Int32)) (mst w 0 0 ((0 : Int32)))).bind fun y12 =>
 some (y12.1, y12.2))
 else
 ((f_X10_touch x1 (mst w 0 0 ((0 : Int32)))).bind fun y5 =>
 (f_X10_of x1 ((26 : Int32)) y5).bind fun y6 =>
 if y6 = 0 then
 (some ((-3 : Int32), y5))
 else
 ((f_X10_leftOf x1 y5).bind fun y8 =>
 (f_X10_ends x1 y5).bind fun y9 =>
 (f_X10_of x1 ((39 : Int32)) y9).bind fun y10 =>
 (f_X10_let x1 ((39 : Int32)) (y10 + ((1 : Int32))) y9).bind fun y11 =>
 some (y8, y11))))
set_option maxHeartbeats 4000000 in
set_option maxRecDepth 100000 in
theorem t_X10_stop (l : Launch) (G : Gm) (w0 : MW) (x1 : Int32) (r : Int32) (w' : MW) (hf : f_X10_stop x1 w0 = some (r, w')) : MetI l yX10_stop cX10_stop 3 (some .int) 3 66 G (mw G w0) [.ref (gq G 0), .int x1] r (fun _ => mw G (w')) 0 := by
  intro sz
  refine ent (own := RX10) (As := [.ref (gq G 0), .int x1]) (by decide +kernel) rfl (Nat.le_of_ble_eq_true rfl) (fun _ _ h => h.1) ?_
  intro p e s m args below meth c ls B hr hlocks hv hl
  obtain ⟨-, hsz, hP, hKK, hD⟩ := hv
  subst hsz
  have X : CX RX10 cX10_stop 3 G p s m args c := ⟨B, hKK⟩
  obtain ⟨hx, hb, hml, hown, hts⟩ := id B
  have hA : ∀ q : Nat, s.heap.size ≤ q → va_A (mw G w0) s.heap.size q := fun q z => Or.inr z
  have h : CH G (mw G w0) (va_A (mw G w0) s.heap.size) s.heap s.heap [] := ⟨hP, hD.self, va_S.rf⟩
  obtain ⟨w, rfl⟩ : ∃ z, z = w0 := ⟨_, rfl⟩
  have hl : lv_has ls 3 [(0, .ref (gq G 0)), (1, .int x1)] := hl
  unfold f_X10_stop at hf
  refine lv_aload_n hx hb dX10_stop_0 rfl (lv_at hl 0 rfl) ?_
  refine lv_iconst (v := 0) hx hb dX10_stop_1 (by decide) ?_
  refine PM_0_0 X h k_X10_53 dX10_stop_2 (fun H locs h => ?_)
  refine lv_iload_n hx hb dX10_stop_5 rfl (lv_at hl 1 rfl) ?_
  obtain ⟨y1, ey1, hf⟩ := bnd_some hf
  refine k_X10_isPlace X.1 ey1 k_X10_106 dX10_stop_6 hl.1 ⟨(Nat.le_of_ble_eq_true rfl), (Nat.le_of_ble_eq_true rfl)⟩ (Nat.le_of_ble_eq_true rfl) ⟨Nat.zero_le _, Nat.zero_le _⟩ ?_
  refine lv_if_ne (tgt := 14) hx hb dX10_stop_9 (by decide) (fun c2 => ?_) (fun c2 => ?_)
  · have hf := if_f c2 hf
    refine lv_aload_n hx hb dX10_stop_14 rfl (lv_at hl 0 rfl) ?_
    refine lv_iload_n hx hb dX10_stop_15 rfl (lv_at hl 1 rfl) ?_
    obtain ⟨y3, ey3, hf⟩ := bnd_some hf
    refine k_X10_isThere X h ey3 k_X10_110 dX10_stop_16 hl.1 ⟨(Nat.le_of_ble_eq_true rfl), (Nat.le_of_ble_eq_true rfl)⟩ (Nat.le_of_ble_eq_true rfl) ⟨Nat.zero_le _, Nat.zero_le _⟩ ?_
    refine lv_if_ne (tgt := 28) hx hb dX10_stop_19 (by decide) (fun c4 => ?_) (fun c4 => ?_)
    · have hf := if_f c4 hf
      refine lv_aload_n hx hb dX10_stop_28 rfl (lv_at hl 0 rfl) ?_
      refine lv_iload_n hx hb dX10_stop_29 rfl (lv_at hl 1 rfl) ?_
      obtain ⟨y5, ey5, hf⟩ := bnd_some hf
      refine k_X10_touch X h hA ey5 k_X10_145 dX10_stop_30 hl.1 ⟨(Nat.le_of_ble_eq_true rfl), (Nat.le_of_ble_eq_true rfl)⟩ (Nat.le_of_ble_eq_true rfl) ⟨Nat.zero_le _, Nat.zero_le _⟩ (fun H locs h => ?_)
      refine lv_aload_n hx hb dX10_stop_33 rfl (lv_at hl 0 rfl) ?_
      refine lv_iload_n hx hb dX10_stop_34 rfl (lv_at hl 1 rfl) ?_
      refine lv_bipush (v := 26) hx hb dX10_stop_35 (by decide) ?_
      obtain ⟨y6, ey6, hf⟩ := bnd_some hf
      refine k_X10_of X h ey6 k_X10_75 dX10_stop_37 hl.1 ⟨(Nat.le_of_ble_eq_true rfl), (Nat.le_of_ble_eq_true rfl)⟩ (Nat.le_of_ble_eq_true rfl) ⟨Nat.zero_le _, Nat.zero_le _⟩ ?_
      refine lv_if_ne (tgt := 46) hx hb dX10_stop_40 (by decide) (fun c7 => ?_) (fun c7 => ?_)
      · have hf := if_f c7 hf
        refine lv_aload_n hx hb dX10_stop_46 rfl (lv_at hl 0 rfl) ?_
        refine lv_iload_n hx hb dX10_stop_47 rfl (lv_at hl 1 rfl) ?_
        obtain ⟨y8, ey8, hf⟩ := bnd_some hf
        refine k_X10_leftOf X h ey8 k_X10_190 dX10_stop_48 hl.1 ⟨(Nat.le_of_ble_eq_true rfl), (Nat.le_of_ble_eq_true rfl)⟩ (Nat.le_of_ble_eq_true rfl) ⟨Nat.zero_le _, Nat.zero_le _⟩ ?_
        refine lv_istore_n (lv' := [(2, .int y8), (0, .ref (gq G 0)), (1, .int x1)]) hx hb dX10_stop_51 rfl hl (by decide) rfl (fun ls hl => ?_)
        refine lv_aload_n hx hb dX10_stop_52 rfl (lv_at hl 1 rfl) ?_
        refine lv_iload_n hx hb dX10_stop_53 rfl (lv_at hl 2 rfl) ?_
        obtain ⟨y9, ey9, hf⟩ := bnd_some hf
        refine k_X10_ends X h hA ey9 k_X10_172 dX10_stop_54 hl.1 ⟨(Nat.le_of_ble_eq_true rfl), (Nat.le_of_ble_eq_true rfl)⟩ (Nat.le_of_ble_eq_true rfl) ⟨Nat.zero_le _, Nat.zero_le _⟩ (fun H locs h => ?_)
        refine lv_aload_n hx hb dX10_stop_57 rfl (lv_at hl 1 rfl) ?_
        refine lv_iload_n hx hb dX10_stop_58 rfl (lv_at hl 2 rfl) ?_
        refine lv_bipush (v := 39) hx hb dX10_stop_59 (by decide) ?_
        refine lv_aload_n hx hb dX10_stop_61 rfl (lv_at hl 1 rfl) ?_
        refine lv_iload_n hx hb dX10_stop_62 rfl (lv_at hl 2 rfl) ?_
        refine lv_bipush (v := 39) hx hb dX10_stop_63 (by decide) ?_
        obtain ⟨y10, ey10, hf⟩ := bnd_some hf
        refine k_X10_of X h ey10 k_X10_75 dX10_stop_65 hl.1 ⟨(Nat.le_of_ble_eq_true rfl), (Nat.le_of_ble_eq_true rfl)⟩ (Nat.le_of_ble_eq_true rfl) ⟨Nat.zero_le _, Nat.zero_le _⟩ ?_
        refine lv_iconst (v := 1) hx hb dX10_stop_68 (by decide) ?_
        refine lv_iadd hx hb dX10_stop_69 ?_
        obtain ⟨y11, ey11, hf⟩ := bnd_some hf
        refine k_X10_let X h hA ey11 k_X10_113 dX10_stop_70 hl.1 ⟨(Nat.le_of_ble_eq_true rfl), (Nat.le_of_ble_eq_true rfl)⟩ (Nat.le_of_ble_eq_true rfl) ⟨Nat.zero_le _, Nat.zero_le _⟩ (fun H locs h => ?_)
        refine lv_iload_n hx hb dX10_stop_73 rfl (lv_at hl 0 rfl) ?_
        exact e0_i (Wf := mw G) X.1 hr hlocks hf h dX10_stop_74
      · have hf := if_t c7 hf
        refine lv_bipush (v := (-3)) hx hb dX10_stop_43 (by decide) ?_
        exact e0_i (Wf := mw G) X.1 hr hlocks hf h dX10_stop_45
    · have hf := if_t c4 hf
      refine lv_aload_n hx hb dX10_stop_22 rfl (lv_at hl 0 rfl) ?_
      refine lv_iconst (v := 1) hx hb dX10_stop_23 (by decide) ?_
      obtain ⟨y12, ey12, hf⟩ := bnd_some hf
      refine k_X10_found X h hA ey12 k_X10_117 dX10_stop_24 hl.1 ⟨(Nat.le_of_ble_eq_true rfl), (Nat.le_of_ble_eq_true rfl)⟩ (Nat.le_of_ble_eq_true rfl) ⟨Nat.zero_le _, Nat.zero_le _⟩ (fun H locs h => ?_)
      exact e0_i (Wf := mw G) X.1 hr hlocks hf h dX10_stop_27
  · have hf := if_t c2 hf
    refine lv_iconst (v := (-1)) hx hb dX10_stop_12 (by decide) ?_
    exact e0_i (Wf := mw G) X.1 hr hlocks hf h dX10_stop_13
theorem m_X10_stop : Cond.instanceMethod yX10_stop ∈ lw_good ∧ Cond.selects RX10 yX10_stop yX10_stop ∈ lw_good ∧ Cond.initialized RX10 ∈ lw_good ∧ Cond.code yX10_stop cX10_stop 3 (some .int) ∈ lw_good := by decide +kernel
theorem k_X10_stop {p : Program} {l : Launch} {e : Env} {R : Room} {s : State} {m : MethodId} {args : Array Value} {below : List Frame} {meth : Method} {c : Code} {H : Heap} {locs : List Loc} {cells slots : Nat} {Q : State → Prop} {cc : ByteArray} {nL pc idx : Nat} {ls : Array Slot} {rest : List Value} {own : String} {G : Gm} {A : Nat → Prop} {H0 : Heap} {w : MW} {x1 : Int32} {y : Int32 × MW} (X : CX own cc nL G p s m args c) (h : CH G (mw G w) A H0 H locs) (hA : ∀ q, H0.size ≤ q → A q) (hf : f_X10_stop x1 w = some y) (hlk : Cond.methodLink own idx yX10_stop ∈ lw_good) (hd : decode cc pc = .ok (.invokevirtual idx, 3)) (hsz : ls.size = nL) (hR : 4 ≤ R.frames ∧ 88 ≤ R.locals) (hrest : (rest.map fun v => v.category).sum ≤ 8) (hk : cells ≤ R.cells ∧ slots ≤ R.slots) (k : ∀ (H : Heap) (locs : List Loc), CH G (mw G y.2) A H0 H locs → W p l e R s m args below meth c H locs cells slots Q (F0 m (pc + 3) ls (.int y.1 :: rest))) : W p l e R s m args below meth c H locs cells slots Q (F0 m pc ls (.int x1 :: .ref (gq G 0) :: rest)) :=
  fin_i (n := 0) (runV (As := [.int x1]) X.1 1 (t_X10_stop l G w x1 y.1 y.2 hf _) rfl rfl hlk m_X10_stop (by decide +kernel) ⟨hR.1, hR.2⟩ ⟨blindM, va_recv X.2.1 h.1 (ci := 9) (q0 := 0) rfl rfl, preM X.2 h⟩ rfl hsz hrest hd hk) h hA (fun _ H locs h => k H locs h)
def f_X10_breaks_b64 (xs1 : Int32) (xs2 : Int32) (xs3 : Int32) (w : MW) : Option (Int32 × MW) :=
 (f_X10_let xs1 xs2 xs3 w).bind fun y1 =>
 some ((1 : Int32), y1)
def f_X10_breaks (x1 : Int32) (x2 : Int32) (w : MW) : Option (Int32 × MW) :=
 (f_X10_isPlace x1).bind fun y2 =>
 if y2 = 0 then
 (some ((-1 : Int32), mst w 0 0 ((0 : Int32))))
 else
 ((f_X10_in x2 ((0 : Int32)) ((1000 : Int32))).bind fun y4 =>
 if y4 = 0 then
 (some ((-2 : Int32), mst w 0 0 ((0 : Int32))))
 else
 ((f_X10_isThere x1 (mst w 0 0 ((0 : Int32)))).bind fun y6 =>
 if y6 = 0 then
 ((f_X10_found ((1 : Int32)) (mst w 0 0 ((0 : Int32)))).bind fun y10 =>
 some (y10.1, y10.2))
 else
 (if x2 = 0 then
 (f_X10_breaks_b64 x1 ((31 : Int32)) ((0 : Int32)) (mst w 0 0 ((0 : Int32))))
 else
 (chk (inb ((11344 : Int32)) 11360) (
 f_X10_breaks_b64 x1 ((31 : Int32)) (((mst w 0 0 ((0 : Int32))) 1 ((11344 : Int32)).toNatClampNeg) + x2) (mst w 0 0 ((0 : Int32))))))))
set_option maxHeartbeats 4000000 in
set_option maxRecDepth 100000 in
theorem t_X10_breaks (l : Launch) (G : Gm) (w0 : MW) (x1 : Int32) (x2 : Int32) (r : Int32) (w' : MW) (hf : f_X10_breaks x1 x2 w0 = some (r, w')) : MetI l yX10_breaks cX10_breaks 3 (some .int) 2 45 G (mw G w0) [.ref (gq G 0), .int x1, .int x2] r (fun _ => mw G (w')) 0 := by
  intro sz
  refine ent (own := RX10) (As := [.ref (gq G 0), .int x1, .int x2]) (by decide +kernel) rfl (Nat.le_of_ble_eq_true rfl) (fun _ _ h => h.1) ?_
  intro p e s m args below meth c ls B hr hlocks hv hl
  obtain ⟨-, hsz, hP, hKK, hD⟩ := hv
  subst hsz
  have X : CX RX10 cX10_breaks 3 G p s m args c := ⟨B, hKK⟩
  obtain ⟨hx, hb, hml, hown, hts⟩ := id B
  have hA : ∀ q : Nat, s.heap.size ≤ q → va_A (mw G w0) s.heap.size q := fun q z => Or.inr z
  have h : CH G (mw G w0) (va_A (mw G w0) s.heap.size) s.heap s.heap [] := ⟨hP, hD.self, va_S.rf⟩
  have J64 : ∀ (xs1 : Int32) (xs2 : Int32) (xs3 : Int32) (w : MW) (H : Heap) (locs : List Loc) (ls : Array Slot), f_X10_breaks_b64 xs1 xs2 xs3 w = some (r, w') → CH G (mw G w) (va_A (mw G w0) s.heap.size) s.heap H locs → lv_has ls 3 [] → W p l e { frames := 2, cells := 0, slots := 4096 * 0, locals := 45 } s m args below meth c H locs 0 (4096 * 0) (MQ below (QI G (mw G w0) s.heap.size r (fun _ => mw G (w'))) args s 0 (4096 * 0) (va_A (mw G w0) s.heap.size)) (F0 m 64 ls [.int xs3, .int xs2, .int xs1, .ref (gq G 0)]) := by
    intro xs1 xs2 xs3 w H locs ls hf h hl
    unfold f_X10_breaks_b64 at hf
    obtain ⟨y1, ey1, hf⟩ := bnd_some hf
    refine k_X10_let X h hA ey1 k_X10_113 dX10_breaks_64 hl.1 ⟨(Nat.le_of_ble_eq_true rfl), (Nat.le_of_ble_eq_true rfl)⟩ (Nat.le_of_ble_eq_true rfl) ⟨Nat.zero_le _, Nat.zero_le _⟩ (fun H locs h => ?_)
    refine lv_iconst (v := 1) hx hb dX10_breaks_67 (by decide) ?_
    exact e0_i (Wf := mw G) X.1 hr hlocks hf h dX10_breaks_68
  obtain ⟨w, rfl⟩ : ∃ z, z = w0 := ⟨_, rfl⟩
  have hl : lv_has ls 3 [(0, .ref (gq G 0)), (1, .int x1), (2, .int x2)] := hl
  unfold f_X10_breaks at hf
  refine lv_aload_n hx hb dX10_breaks_0 rfl (lv_at hl 0 rfl) ?_
  refine lv_iconst (v := 0) hx hb dX10_breaks_1 (by decide) ?_
  refine PM_0_0 X h k_X10_53 dX10_breaks_2 (fun H locs h => ?_)
  refine lv_iload_n hx hb dX10_breaks_5 rfl (lv_at hl 1 rfl) ?_
  obtain ⟨y2, ey2, hf⟩ := bnd_some hf
  refine k_X10_isPlace X.1 ey2 k_X10_106 dX10_breaks_6 hl.1 ⟨(Nat.le_of_ble_eq_true rfl), (Nat.le_of_ble_eq_true rfl)⟩ (Nat.le_of_ble_eq_true rfl) ⟨Nat.zero_le _, Nat.zero_le _⟩ ?_
  refine lv_if_ne (tgt := 14) hx hb dX10_breaks_9 (by decide) (fun c3 => ?_) (fun c3 => ?_)
  · have hf := if_f c3 hf
    refine lv_iload_n hx hb dX10_breaks_14 rfl (lv_at hl 2 rfl) ?_
    refine lv_iconst (v := 0) hx hb dX10_breaks_15 (by decide) ?_
    refine lv_sipush (v := 1000) hx hb dX10_breaks_16 (by decide) ?_
    obtain ⟨y4, ey4, hf⟩ := bnd_some hf
    refine k_X10_in X.1 ey4 k_X10_71 dX10_breaks_19 hl.1 ⟨(Nat.le_of_ble_eq_true rfl), (Nat.le_of_ble_eq_true rfl)⟩ (Nat.le_of_ble_eq_true rfl) ⟨Nat.zero_le _, Nat.zero_le _⟩ ?_
    refine lv_if_ne (tgt := 28) hx hb dX10_breaks_22 (by decide) (fun c5 => ?_) (fun c5 => ?_)
    · have hf := if_f c5 hf
      refine lv_aload_n hx hb dX10_breaks_28 rfl (lv_at hl 0 rfl) ?_
      refine lv_iload_n hx hb dX10_breaks_29 rfl (lv_at hl 1 rfl) ?_
      obtain ⟨y6, ey6, hf⟩ := bnd_some hf
      refine k_X10_isThere X h ey6 k_X10_110 dX10_breaks_30 hl.1 ⟨(Nat.le_of_ble_eq_true rfl), (Nat.le_of_ble_eq_true rfl)⟩ (Nat.le_of_ble_eq_true rfl) ⟨Nat.zero_le _, Nat.zero_le _⟩ ?_
      refine lv_if_ne (tgt := 42) hx hb dX10_breaks_33 (by decide) (fun c7 => ?_) (fun c7 => ?_)
      · have hf := if_f c7 hf
        refine lv_aload_n hx hb dX10_breaks_42 rfl (lv_at hl 0 rfl) ?_
        refine lv_iload_n hx hb dX10_breaks_43 rfl (lv_at hl 1 rfl) ?_
        refine lv_bipush (v := 31) hx hb dX10_breaks_44 (by decide) ?_
        refine lv_iload_n hx hb dX10_breaks_46 rfl (lv_at hl 2 rfl) ?_
        refine lv_if_ne (tgt := 54) hx hb dX10_breaks_47 (by decide) (fun c8 => ?_) (fun c8 => ?_)
        · have hf := if_f c8 hf
          refine lv_aload_n hx hb dX10_breaks_54 rfl (lv_at hl 0 rfl) ?_
          refine GM_0_1 X h k_X10_7 dX10_breaks_55 ?_
          refine lv_sipush (v := 11344) hx hb dX10_breaks_58 (by decide) ?_
          obtain ⟨c9, hf⟩ := chk_some hf
          refine LM_1 X h c9 dX10_breaks_61 ?_
          refine lv_iload_n hx hb dX10_breaks_62 rfl (lv_at hl 2 rfl) ?_
          refine lv_iadd hx hb dX10_breaks_63 ?_
          exact J64 _ _ _ _ _ _ _ hf h (lv_sub hl [] rfl)
        · have hf := if_t c8 hf
          refine lv_iconst (v := 0) hx hb dX10_breaks_50 (by decide) ?_
          refine lv_goto (tgt := 64) hx hb dX10_breaks_51 (by decide) ?_
          exact J64 _ _ _ _ _ _ _ hf h (lv_sub hl [] rfl)
      · have hf := if_t c7 hf
        refine lv_aload_n hx hb dX10_breaks_36 rfl (lv_at hl 0 rfl) ?_
        refine lv_iconst (v := 1) hx hb dX10_breaks_37 (by decide) ?_
        obtain ⟨y10, ey10, hf⟩ := bnd_some hf
        refine k_X10_found X h hA ey10 k_X10_117 dX10_breaks_38 hl.1 ⟨(Nat.le_of_ble_eq_true rfl), (Nat.le_of_ble_eq_true rfl)⟩ (Nat.le_of_ble_eq_true rfl) ⟨Nat.zero_le _, Nat.zero_le _⟩ (fun H locs h => ?_)
        exact e0_i (Wf := mw G) X.1 hr hlocks hf h dX10_breaks_41
    · have hf := if_t c5 hf
      refine lv_bipush (v := (-2)) hx hb dX10_breaks_25 (by decide) ?_
      exact e0_i (Wf := mw G) X.1 hr hlocks hf h dX10_breaks_27
  · have hf := if_t c3 hf
    refine lv_iconst (v := (-1)) hx hb dX10_breaks_12 (by decide) ?_
    exact e0_i (Wf := mw G) X.1 hr hlocks hf h dX10_breaks_13
theorem m_X10_breaks : Cond.instanceMethod yX10_breaks ∈ lw_good ∧ Cond.selects RX10 yX10_breaks yX10_breaks ∈ lw_good ∧ Cond.initialized RX10 ∈ lw_good ∧ Cond.code yX10_breaks cX10_breaks 3 (some .int) ∈ lw_good := by decide +kernel
theorem k_X10_breaks {p : Program} {l : Launch} {e : Env} {R : Room} {s : State} {m : MethodId} {args : Array Value} {below : List Frame} {meth : Method} {c : Code} {H : Heap} {locs : List Loc} {cells slots : Nat} {Q : State → Prop} {cc : ByteArray} {nL pc idx : Nat} {ls : Array Slot} {rest : List Value} {own : String} {G : Gm} {A : Nat → Prop} {H0 : Heap} {w : MW} {x1 : Int32} {x2 : Int32} {y : Int32 × MW} (X : CX own cc nL G p s m args c) (h : CH G (mw G w) A H0 H locs) (hA : ∀ q, H0.size ≤ q → A q) (hf : f_X10_breaks x1 x2 w = some y) (hlk : Cond.methodLink own idx yX10_breaks ∈ lw_good) (hd : decode cc pc = .ok (.invokevirtual idx, 3)) (hsz : ls.size = nL) (hR : 3 ≤ R.frames ∧ 67 ≤ R.locals) (hrest : (rest.map fun v => v.category).sum ≤ 8) (hk : cells ≤ R.cells ∧ slots ≤ R.slots) (k : ∀ (H : Heap) (locs : List Loc), CH G (mw G y.2) A H0 H locs → W p l e R s m args below meth c H locs cells slots Q (F0 m (pc + 3) ls (.int y.1 :: rest))) : W p l e R s m args below meth c H locs cells slots Q (F0 m pc ls (.int x2 :: .int x1 :: .ref (gq G 0) :: rest)) :=
  fin_i (n := 0) (runV (As := [.int x1, .int x2]) X.1 2 (t_X10_breaks l G w x1 x2 y.1 y.2 hf _) rfl rfl hlk m_X10_breaks (by decide +kernel) ⟨hR.1, hR.2⟩ ⟨blindM, va_recv X.2.1 h.1 (ci := 9) (q0 := 0) rfl rfl, preM X.2 h⟩ rfl hsz hrest hd hk) h hA (fun _ H locs h => k H locs h)
def f_X10_mend (x1 : Int32) (w : MW) : Option (Int32 × MW) :=
 (f_X10_isPlace x1).bind fun y1 =>
 if y1 = 0 then
 (some ((-1 : Int32), mst w 0 0 ((0 : Int32))))
 else
 ((f_X10_isThere x1 (mst w 0 0 ((0 : Int32)))).bind fun y3 =>
 if y3 = 0 then
 ((f_X10_found ((1 : Int32)) (mst w 0 0 ((0 : Int32)))).bind fun y10 =>
 some (y10.1, y10.2))
 else
 ((f_X10_touch x1 (mst w 0 0 ((0 : Int32)))).bind fun y5 =>
 (f_X10_of x1 ((101 : Int32)) y5).bind fun y6 =>
 if y6 = 0 then
 (some ((0 : Int32), y5))
 else
 ((f_X10_let x1 ((101 : Int32)) ((0 : Int32)) y5).bind fun y8 =>
 (f_X10_let x1 ((4 : Int32)) ((1 : Int32)) y8).bind fun y9 =>
 some ((1 : Int32), y9))))
set_option maxHeartbeats 4000000 in
set_option maxRecDepth 100000 in
theorem t_X10_mend (l : Launch) (G : Gm) (w0 : MW) (x1 : Int32) (r : Int32) (w' : MW) (hf : f_X10_mend x1 w0 = some (r, w')) : MetI l yX10_mend cX10_mend 2 (some .int) 2 45 G (mw G w0) [.ref (gq G 0), .int x1] r (fun _ => mw G (w')) 0 := by
  intro sz
  refine ent (own := RX10) (As := [.ref (gq G 0), .int x1]) (by decide +kernel) rfl (Nat.le_of_ble_eq_true rfl) (fun _ _ h => h.1) ?_
  intro p e s m args below meth c ls B hr hlocks hv hl
  obtain ⟨-, hsz, hP, hKK, hD⟩ := hv
  subst hsz
  have X : CX RX10 cX10_mend 2 G p s m args c := ⟨B, hKK⟩
  obtain ⟨hx, hb, hml, hown, hts⟩ := id B
  have hA : ∀ q : Nat, s.heap.size ≤ q → va_A (mw G w0) s.heap.size q := fun q z => Or.inr z
  have h : CH G (mw G w0) (va_A (mw G w0) s.heap.size) s.heap s.heap [] := ⟨hP, hD.self, va_S.rf⟩
  obtain ⟨w, rfl⟩ : ∃ z, z = w0 := ⟨_, rfl⟩
  have hl : lv_has ls 2 [(0, .ref (gq G 0)), (1, .int x1)] := hl
  unfold f_X10_mend at hf
  refine lv_aload_n hx hb dX10_mend_0 rfl (lv_at hl 0 rfl) ?_
  refine lv_iconst (v := 0) hx hb dX10_mend_1 (by decide) ?_
  refine PM_0_0 X h k_X10_53 dX10_mend_2 (fun H locs h => ?_)
  refine lv_iload_n hx hb dX10_mend_5 rfl (lv_at hl 1 rfl) ?_
  obtain ⟨y1, ey1, hf⟩ := bnd_some hf
  refine k_X10_isPlace X.1 ey1 k_X10_106 dX10_mend_6 hl.1 ⟨(Nat.le_of_ble_eq_true rfl), (Nat.le_of_ble_eq_true rfl)⟩ (Nat.le_of_ble_eq_true rfl) ⟨Nat.zero_le _, Nat.zero_le _⟩ ?_
  refine lv_if_ne (tgt := 14) hx hb dX10_mend_9 (by decide) (fun c2 => ?_) (fun c2 => ?_)
  · have hf := if_f c2 hf
    refine lv_aload_n hx hb dX10_mend_14 rfl (lv_at hl 0 rfl) ?_
    refine lv_iload_n hx hb dX10_mend_15 rfl (lv_at hl 1 rfl) ?_
    obtain ⟨y3, ey3, hf⟩ := bnd_some hf
    refine k_X10_isThere X h ey3 k_X10_110 dX10_mend_16 hl.1 ⟨(Nat.le_of_ble_eq_true rfl), (Nat.le_of_ble_eq_true rfl)⟩ (Nat.le_of_ble_eq_true rfl) ⟨Nat.zero_le _, Nat.zero_le _⟩ ?_
    refine lv_if_ne (tgt := 28) hx hb dX10_mend_19 (by decide) (fun c4 => ?_) (fun c4 => ?_)
    · have hf := if_f c4 hf
      refine lv_aload_n hx hb dX10_mend_28 rfl (lv_at hl 0 rfl) ?_
      refine lv_iload_n hx hb dX10_mend_29 rfl (lv_at hl 1 rfl) ?_
      obtain ⟨y5, ey5, hf⟩ := bnd_some hf
      refine k_X10_touch X h hA ey5 k_X10_145 dX10_mend_30 hl.1 ⟨(Nat.le_of_ble_eq_true rfl), (Nat.le_of_ble_eq_true rfl)⟩ (Nat.le_of_ble_eq_true rfl) ⟨Nat.zero_le _, Nat.zero_le _⟩ (fun H locs h => ?_)
      refine lv_aload_n hx hb dX10_mend_33 rfl (lv_at hl 0 rfl) ?_
      refine lv_iload_n hx hb dX10_mend_34 rfl (lv_at hl 1 rfl) ?_
      refine lv_bipush (v := 101) hx hb dX10_mend_35 (by decide) ?_
      obtain ⟨y6, ey6, hf⟩ := bnd_some hf
      refine k_X10_of X h ey6 k_X10_75 dX10_mend_37 hl.1 ⟨(Nat.le_of_ble_eq_true rfl), (Nat.le_of_ble_eq_true rfl)⟩ (Nat.le_of_ble_eq_true rfl) ⟨Nat.zero_le _, Nat.zero_le _⟩ ?_
      refine lv_if_ne (tgt := 45) hx hb dX10_mend_40 (by decide) (fun c7 => ?_) (fun c7 => ?_)
      · have hf := if_f c7 hf
        refine lv_aload_n hx hb dX10_mend_45 rfl (lv_at hl 0 rfl) ?_
        refine lv_iload_n hx hb dX10_mend_46 rfl (lv_at hl 1 rfl) ?_
        refine lv_bipush (v := 101) hx hb dX10_mend_47 (by decide) ?_
        refine lv_iconst (v := 0) hx hb dX10_mend_49 (by decide) ?_
        obtain ⟨y8, ey8, hf⟩ := bnd_some hf
        refine k_X10_let X h hA ey8 k_X10_113 dX10_mend_50 hl.1 ⟨(Nat.le_of_ble_eq_true rfl), (Nat.le_of_ble_eq_true rfl)⟩ (Nat.le_of_ble_eq_true rfl) ⟨Nat.zero_le _, Nat.zero_le _⟩ (fun H locs h => ?_)
        refine lv_aload_n hx hb dX10_mend_53 rfl (lv_at hl 0 rfl) ?_
        refine lv_iload_n hx hb dX10_mend_54 rfl (lv_at hl 1 rfl) ?_
        refine lv_iconst (v := 4) hx hb dX10_mend_55 (by decide) ?_
        refine lv_iconst (v := 1) hx hb dX10_mend_56 (by decide) ?_
        obtain ⟨y9, ey9, hf⟩ := bnd_some hf
        refine k_X10_let X h hA ey9 k_X10_113 dX10_mend_57 hl.1 ⟨(Nat.le_of_ble_eq_true rfl), (Nat.le_of_ble_eq_true rfl)⟩ (Nat.le_of_ble_eq_true rfl) ⟨Nat.zero_le _, Nat.zero_le _⟩ (fun H locs h => ?_)
        refine lv_iconst (v := 1) hx hb dX10_mend_60 (by decide) ?_
        exact e0_i (Wf := mw G) X.1 hr hlocks hf h dX10_mend_61
      · have hf := if_t c7 hf
        refine lv_iconst (v := 0) hx hb dX10_mend_43 (by decide) ?_
        exact e0_i (Wf := mw G) X.1 hr hlocks hf h dX10_mend_44
    · have hf := if_t c4 hf
      refine lv_aload_n hx hb dX10_mend_22 rfl (lv_at hl 0 rfl) ?_
      refine lv_iconst (v := 1) hx hb dX10_mend_23 (by decide) ?_
      obtain ⟨y10, ey10, hf⟩ := bnd_some hf
      refine k_X10_found X h hA ey10 k_X10_117 dX10_mend_24 hl.1 ⟨(Nat.le_of_ble_eq_true rfl), (Nat.le_of_ble_eq_true rfl)⟩ (Nat.le_of_ble_eq_true rfl) ⟨Nat.zero_le _, Nat.zero_le _⟩ (fun H locs h => ?_)
      exact e0_i (Wf := mw G) X.1 hr hlocks hf h dX10_mend_27
  · have hf := if_t c2 hf
    refine lv_iconst (v := (-1)) hx hb dX10_mend_12 (by decide) ?_
    exact e0_i (Wf := mw G) X.1 hr hlocks hf h dX10_mend_13
theorem m_X10_mend : Cond.instanceMethod yX10_mend ∈ lw_good ∧ Cond.selects RX10 yX10_mend yX10_mend ∈ lw_good ∧ Cond.initialized RX10 ∈ lw_good ∧ Cond.code yX10_mend cX10_mend 2 (some .int) ∈ lw_good := by decide +kernel
theorem k_X10_mend {p : Program} {l : Launch} {e : Env} {R : Room} {s : State} {m : MethodId} {args : Array Value} {below : List Frame} {meth : Method} {c : Code} {H : Heap} {locs : List Loc} {cells slots : Nat} {Q : State → Prop} {cc : ByteArray} {nL pc idx : Nat} {ls : Array Slot} {rest : List Value} {own : String} {G : Gm} {A : Nat → Prop} {H0 : Heap} {w : MW} {x1 : Int32} {y : Int32 × MW} (X : CX own cc nL G p s m args c) (h : CH G (mw G w) A H0 H locs) (hA : ∀ q, H0.size ≤ q → A q) (hf : f_X10_mend x1 w = some y) (hlk : Cond.methodLink own idx yX10_mend ∈ lw_good) (hd : decode cc pc = .ok (.invokevirtual idx, 3)) (hsz : ls.size = nL) (hR : 3 ≤ R.frames ∧ 66 ≤ R.locals) (hrest : (rest.map fun v => v.category).sum ≤ 8) (hk : cells ≤ R.cells ∧ slots ≤ R.slots) (k : ∀ (H : Heap) (locs : List Loc), CH G (mw G y.2) A H0 H locs → W p l e R s m args below meth c H locs cells slots Q (F0 m (pc + 3) ls (.int y.1 :: rest))) : W p l e R s m args below meth c H locs cells slots Q (F0 m pc ls (.int x1 :: .ref (gq G 0) :: rest)) :=
  fin_i (n := 0) (runV (As := [.int x1]) X.1 1 (t_X10_mend l G w x1 y.1 y.2 hf _) rfl rfl hlk m_X10_mend (by decide +kernel) ⟨hR.1, hR.2⟩ ⟨blindM, va_recv X.2.1 h.1 (ci := 9) (q0 := 0) rfl rfl, preM X.2 h⟩ rfl hsz hrest hd hk) h hA (fun _ H locs h => k H locs h)
def f_X10_bound (x1 : Int32) (x2 : Int32) (x3 : Int32) (w : MW) : Option (Int32 × MW) :=
 (f_X10_in x1 ((0 : Int32)) ((10000 : Int32))).bind fun y1 =>
 if y1 = 0 then
 (some ((-2 : Int32), mst w 0 0 ((0 : Int32))))
 else
 ((f_X10_in x2 ((0 : Int32)) ((10000 : Int32))).bind fun y3 =>
 if y3 = 0 then
 (some ((-2 : Int32), mst w 0 0 ((0 : Int32))))
 else
 ((f_X10_in x3 ((0 : Int32)) ((10000 : Int32))).bind fun y5 =>
 if y5 = 0 then
 (some ((-2 : Int32), mst w 0 0 ((0 : Int32))))
 else
 (chk (inb ((11356 : Int32)) 11360) (
 if ((mst w 0 0 ((0 : Int32))) 1 ((11356 : Int32)).toNatClampNeg) = ((1 : Int32)) then
 (some ((-3 : Int32), mst w 0 0 ((0 : Int32))))
 else
 ((f_X10_w ((11353 : Int32)) x1 (mst w 0 0 ((0 : Int32)))).bind fun y9 =>
 (f_X10_w ((11354 : Int32)) x2 y9).bind fun y10 =>
 (f_X10_w ((11355 : Int32)) x3 y10).bind fun y11 =>
 some ((1 : Int32), y11))))))
set_option maxHeartbeats 4000000 in
set_option maxRecDepth 100000 in
theorem t_X10_bound (l : Launch) (G : Gm) (w0 : MW) (x1 : Int32) (x2 : Int32) (x3 : Int32) (r : Int32) (w' : MW) (hf : f_X10_bound x1 x2 x3 w0 = some (r, w')) : MetI l yX10_bound cX10_bound 4 (some .int) 1 22 G (mw G w0) [.ref (gq G 0), .int x1, .int x2, .int x3] r (fun _ => mw G (w')) 0 := by
  intro sz
  refine ent (own := RX10) (As := [.ref (gq G 0), .int x1, .int x2, .int x3]) (by decide +kernel) rfl (Nat.le_of_ble_eq_true rfl) (fun _ _ h => h.1) ?_
  intro p e s m args below meth c ls B hr hlocks hv hl
  obtain ⟨-, hsz, hP, hKK, hD⟩ := hv
  subst hsz
  have X : CX RX10 cX10_bound 4 G p s m args c := ⟨B, hKK⟩
  obtain ⟨hx, hb, hml, hown, hts⟩ := id B
  have hA : ∀ q : Nat, s.heap.size ≤ q → va_A (mw G w0) s.heap.size q := fun q z => Or.inr z
  have h : CH G (mw G w0) (va_A (mw G w0) s.heap.size) s.heap s.heap [] := ⟨hP, hD.self, va_S.rf⟩
  obtain ⟨w, rfl⟩ : ∃ z, z = w0 := ⟨_, rfl⟩
  have hl : lv_has ls 4 [(0, .ref (gq G 0)), (1, .int x1), (2, .int x2), (3, .int x3)] := hl
  unfold f_X10_bound at hf
  refine lv_aload_n hx hb dX10_bound_0 rfl (lv_at hl 0 rfl) ?_
  refine lv_iconst (v := 0) hx hb dX10_bound_1 (by decide) ?_
  refine PM_0_0 X h k_X10_53 dX10_bound_2 (fun H locs h => ?_)
  refine lv_iload_n hx hb dX10_bound_5 rfl (lv_at hl 1 rfl) ?_
  refine lv_iconst (v := 0) hx hb dX10_bound_6 (by decide) ?_
  refine lv_sipush (v := 10000) hx hb dX10_bound_7 (by decide) ?_
  obtain ⟨y1, ey1, hf⟩ := bnd_some hf
  refine k_X10_in X.1 ey1 k_X10_71 dX10_bound_10 hl.1 ⟨(Nat.le_of_ble_eq_true rfl), (Nat.le_of_ble_eq_true rfl)⟩ (Nat.le_of_ble_eq_true rfl) ⟨Nat.zero_le _, Nat.zero_le _⟩ ?_
  refine lv_if_eq (tgt := 38) hx hb dX10_bound_13 (by decide) (fun c2 => ?_) (fun c2 => ?_)
  · have hf := if_t c2 hf
    refine lv_bipush (v := (-2)) hx hb dX10_bound_38 (by decide) ?_
    exact e0_i (Wf := mw G) X.1 hr hlocks hf h dX10_bound_40
  · have hf := if_f c2 hf
    refine lv_iload_n hx hb dX10_bound_16 rfl (lv_at hl 2 rfl) ?_
    refine lv_iconst (v := 0) hx hb dX10_bound_17 (by decide) ?_
    refine lv_sipush (v := 10000) hx hb dX10_bound_18 (by decide) ?_
    obtain ⟨y3, ey3, hf⟩ := bnd_some hf
    refine k_X10_in X.1 ey3 k_X10_71 dX10_bound_21 hl.1 ⟨(Nat.le_of_ble_eq_true rfl), (Nat.le_of_ble_eq_true rfl)⟩ (Nat.le_of_ble_eq_true rfl) ⟨Nat.zero_le _, Nat.zero_le _⟩ ?_
    refine lv_if_eq (tgt := 38) hx hb dX10_bound_24 (by decide) (fun c4 => ?_) (fun c4 => ?_)
    · have hf := if_t c4 hf
      refine lv_bipush (v := (-2)) hx hb dX10_bound_38 (by decide) ?_
      exact e0_i (Wf := mw G) X.1 hr hlocks hf h dX10_bound_40
    · have hf := if_f c4 hf
      refine lv_iload_n hx hb dX10_bound_27 rfl (lv_at hl 3 rfl) ?_
      refine lv_iconst (v := 0) hx hb dX10_bound_28 (by decide) ?_
      refine lv_sipush (v := 10000) hx hb dX10_bound_29 (by decide) ?_
      obtain ⟨y5, ey5, hf⟩ := bnd_some hf
      refine k_X10_in X.1 ey5 k_X10_71 dX10_bound_32 hl.1 ⟨(Nat.le_of_ble_eq_true rfl), (Nat.le_of_ble_eq_true rfl)⟩ (Nat.le_of_ble_eq_true rfl) ⟨Nat.zero_le _, Nat.zero_le _⟩ ?_
      refine lv_if_ne (tgt := 41) hx hb dX10_bound_35 (by decide) (fun c6 => ?_) (fun c6 => ?_)
      · have hf := if_f c6 hf
        refine lv_aload_n hx hb dX10_bound_41 rfl (lv_at hl 0 rfl) ?_
        refine GM_0_1 X h k_X10_7 dX10_bound_42 ?_
        refine lv_sipush (v := 11356) hx hb dX10_bound_45 (by decide) ?_
        obtain ⟨c7, hf⟩ := chk_some hf
        refine LM_1 X h c7 dX10_bound_48 ?_
        refine lv_iconst (v := 1) hx hb dX10_bound_49 (by decide) ?_
        refine lv_icmp_ne (tgt := 56) hx hb dX10_bound_50 (by decide) (fun c8 => ?_) (fun c8 => ?_)
        · have hf := if_f c8 hf
          refine lv_aload_n hx hb dX10_bound_56 rfl (lv_at hl 0 rfl) ?_
          refine lv_sipush (v := 11353) hx hb dX10_bound_57 (by decide) ?_
          refine lv_iload_n hx hb dX10_bound_60 rfl (lv_at hl 1 rfl) ?_
          obtain ⟨y9, ey9, hf⟩ := bnd_some hf
          refine k_X10_w X h hA ey9 k_X10_67 dX10_bound_61 hl.1 ⟨(Nat.le_of_ble_eq_true rfl), (Nat.le_of_ble_eq_true rfl)⟩ (Nat.le_of_ble_eq_true rfl) ⟨Nat.zero_le _, Nat.zero_le _⟩ (fun H locs h => ?_)
          refine lv_aload_n hx hb dX10_bound_64 rfl (lv_at hl 0 rfl) ?_
          refine lv_sipush (v := 11354) hx hb dX10_bound_65 (by decide) ?_
          refine lv_iload_n hx hb dX10_bound_68 rfl (lv_at hl 2 rfl) ?_
          obtain ⟨y10, ey10, hf⟩ := bnd_some hf
          refine k_X10_w X h hA ey10 k_X10_67 dX10_bound_69 hl.1 ⟨(Nat.le_of_ble_eq_true rfl), (Nat.le_of_ble_eq_true rfl)⟩ (Nat.le_of_ble_eq_true rfl) ⟨Nat.zero_le _, Nat.zero_le _⟩ (fun H locs h => ?_)
          refine lv_aload_n hx hb dX10_bound_72 rfl (lv_at hl 0 rfl) ?_
          refine lv_sipush (v := 11355) hx hb dX10_bound_73 (by decide) ?_
          refine lv_iload_n hx hb dX10_bound_76 rfl (lv_at hl 3 rfl) ?_
          obtain ⟨y11, ey11, hf⟩ := bnd_some hf
          refine k_X10_w X h hA ey11 k_X10_67 dX10_bound_77 hl.1 ⟨(Nat.le_of_ble_eq_true rfl), (Nat.le_of_ble_eq_true rfl)⟩ (Nat.le_of_ble_eq_true rfl) ⟨Nat.zero_le _, Nat.zero_le _⟩ (fun H locs h => ?_)
          refine lv_iconst (v := 1) hx hb dX10_bound_80 (by decide) ?_
          exact e0_i (Wf := mw G) X.1 hr hlocks hf h dX10_bound_81
        · have hf := if_t c8 hf
          refine lv_bipush (v := (-3)) hx hb dX10_bound_53 (by decide) ?_
          exact e0_i (Wf := mw G) X.1 hr hlocks hf h dX10_bound_55
      · have hf := if_t c6 hf
        refine lv_bipush (v := (-2)) hx hb dX10_bound_38 (by decide) ?_
        exact e0_i (Wf := mw G) X.1 hr hlocks hf h dX10_bound_40
theorem m_X10_bound : Cond.instanceMethod yX10_bound ∈ lw_good ∧ Cond.selects RX10 yX10_bound yX10_bound ∈ lw_good ∧ Cond.initialized RX10 ∈ lw_good ∧ Cond.code yX10_bound cX10_bound 4 (some .int) ∈ lw_good := by decide +kernel
theorem k_X10_bound {p : Program} {l : Launch} {e : Env} {R : Room} {s : State} {m : MethodId} {args : Array Value} {below : List Frame} {meth : Method} {c : Code} {H : Heap} {locs : List Loc} {cells slots : Nat} {Q : State → Prop} {cc : ByteArray} {nL pc idx : Nat} {ls : Array Slot} {rest : List Value} {own : String} {G : Gm} {A : Nat → Prop} {H0 : Heap} {w : MW} {x1 : Int32} {x2 : Int32} {x3 : Int32} {y : Int32 × MW} (X : CX own cc nL G p s m args c) (h : CH G (mw G w) A H0 H locs) (hA : ∀ q, H0.size ≤ q → A q) (hf : f_X10_bound x1 x2 x3 w = some y) (hlk : Cond.methodLink own idx yX10_bound ∈ lw_good) (hd : decode cc pc = .ok (.invokevirtual idx, 3)) (hsz : ls.size = nL) (hR : 2 ≤ R.frames ∧ 45 ≤ R.locals) (hrest : (rest.map fun v => v.category).sum ≤ 8) (hk : cells ≤ R.cells ∧ slots ≤ R.slots) (k : ∀ (H : Heap) (locs : List Loc), CH G (mw G y.2) A H0 H locs → W p l e R s m args below meth c H locs cells slots Q (F0 m (pc + 3) ls (.int y.1 :: rest))) : W p l e R s m args below meth c H locs cells slots Q (F0 m pc ls (.int x3 :: .int x2 :: .int x1 :: .ref (gq G 0) :: rest)) :=
  fin_i (n := 0) (runV (As := [.int x1, .int x2, .int x3]) X.1 3 (t_X10_bound l G w x1 x2 x3 y.1 y.2 hf _) rfl rfl hlk m_X10_bound (by decide +kernel) ⟨hR.1, hR.2⟩ ⟨blindM, va_recv X.2.1 h.1 (ci := 9) (q0 := 0) rfl rfl, preM X.2 h⟩ rfl hsz hrest hd hk) h hA (fun _ H locs h => k H locs h)
def f_X10_used (x1 : Int32) (w : MW) : Option (Int32 × MW) :=
 (f_X10_in x1 ((0 : Int32)) ((5 : Int32))).bind fun y1 =>
 if y1 = 0 then
 (some ((-2 : Int32), mst w 0 0 ((0 : Int32))))
 else
 (chk (inb (((11350 : Int32)) + x1) 11360) (
 some ((mst w 0 0 ((0 : Int32))) 1 (((11350 : Int32)) + x1).toNatClampNeg, mst w 0 0 ((0 : Int32)))))
set_option maxHeartbeats 4000000 in
set_option maxRecDepth 100000 in
theorem t_X10_used (l : Launch) (G : Gm) (w0 : MW) (x1 : Int32) (r : Int32) (w' : MW) (hf : f_X10_used x1 w0 = some (r, w')) : MetI l yX10_used cX10_used 2 (some .int) 1 22 G (mw G w0) [.ref (gq G 0), .int x1] r (fun _ => mw G (w')) 0 := by
  intro sz
  refine ent (own := RX10) (As := [.ref (gq G 0), .int x1]) (by decide +kernel) rfl (Nat.le_of_ble_eq_true rfl) (fun _ _ h => h.1) ?_
  intro p e s m args below meth c ls B hr hlocks hv hl
  obtain ⟨-, hsz, hP, hKK, hD⟩ := hv
  subst hsz
  have X : CX RX10 cX10_used 2 G p s m args c := ⟨B, hKK⟩
  obtain ⟨hx, hb, hml, hown, hts⟩ := id B
  have hA : ∀ q : Nat, s.heap.size ≤ q → va_A (mw G w0) s.heap.size q := fun q z => Or.inr z
  have h : CH G (mw G w0) (va_A (mw G w0) s.heap.size) s.heap s.heap [] := ⟨hP, hD.self, va_S.rf⟩
  obtain ⟨w, rfl⟩ : ∃ z, z = w0 := ⟨_, rfl⟩
  have hl : lv_has ls 2 [(0, .ref (gq G 0)), (1, .int x1)] := hl
  unfold f_X10_used at hf
  refine lv_aload_n hx hb dX10_used_0 rfl (lv_at hl 0 rfl) ?_
  refine lv_iconst (v := 0) hx hb dX10_used_1 (by decide) ?_
  refine PM_0_0 X h k_X10_53 dX10_used_2 (fun H locs h => ?_)
  refine lv_iload_n hx hb dX10_used_5 rfl (lv_at hl 1 rfl) ?_
  refine lv_iconst (v := 0) hx hb dX10_used_6 (by decide) ?_
  refine lv_iconst (v := 5) hx hb dX10_used_7 (by decide) ?_
  obtain ⟨y1, ey1, hf⟩ := bnd_some hf
  refine k_X10_in X.1 ey1 k_X10_71 dX10_used_8 hl.1 ⟨(Nat.le_of_ble_eq_true rfl), (Nat.le_of_ble_eq_true rfl)⟩ (Nat.le_of_ble_eq_true rfl) ⟨Nat.zero_le _, Nat.zero_le _⟩ ?_
  refine lv_if_eq (tgt := 27) hx hb dX10_used_11 (by decide) (fun c2 => ?_) (fun c2 => ?_)
  · have hf := if_t c2 hf
    refine lv_bipush (v := (-2)) hx hb dX10_used_27 (by decide) ?_
    exact e0_i (Wf := mw G) X.1 hr hlocks hf h dX10_used_29
  · have hf := if_f c2 hf
    refine lv_aload_n hx hb dX10_used_14 rfl (lv_at hl 0 rfl) ?_
    refine GM_0_1 X h k_X10_7 dX10_used_15 ?_
    refine lv_sipush (v := 11350) hx hb dX10_used_18 (by decide) ?_
    refine lv_iload_n hx hb dX10_used_21 rfl (lv_at hl 1 rfl) ?_
    refine lv_iadd hx hb dX10_used_22 ?_
    obtain ⟨c3, hf⟩ := chk_some hf
    refine LM_1 X h c3 dX10_used_23 ?_
    refine lv_goto (tgt := 29) hx hb dX10_used_24 (by decide) ?_
    exact e0_i (Wf := mw G) X.1 hr hlocks hf h dX10_used_29
theorem m_X10_used : Cond.instanceMethod yX10_used ∈ lw_good ∧ Cond.selects RX10 yX10_used yX10_used ∈ lw_good ∧ Cond.initialized RX10 ∈ lw_good ∧ Cond.code yX10_used cX10_used 2 (some .int) ∈ lw_good := by decide +kernel
theorem k_X10_used {p : Program} {l : Launch} {e : Env} {R : Room} {s : State} {m : MethodId} {args : Array Value} {below : List Frame} {meth : Method} {c : Code} {H : Heap} {locs : List Loc} {cells slots : Nat} {Q : State → Prop} {cc : ByteArray} {nL pc idx : Nat} {ls : Array Slot} {rest : List Value} {own : String} {G : Gm} {A : Nat → Prop} {H0 : Heap} {w : MW} {x1 : Int32} {y : Int32 × MW} (X : CX own cc nL G p s m args c) (h : CH G (mw G w) A H0 H locs) (hA : ∀ q, H0.size ≤ q → A q) (hf : f_X10_used x1 w = some y) (hlk : Cond.methodLink own idx yX10_used ∈ lw_good) (hd : decode cc pc = .ok (.invokevirtual idx, 3)) (hsz : ls.size = nL) (hR : 2 ≤ R.frames ∧ 43 ≤ R.locals) (hrest : (rest.map fun v => v.category).sum ≤ 8) (hk : cells ≤ R.cells ∧ slots ≤ R.slots) (k : ∀ (H : Heap) (locs : List Loc), CH G (mw G y.2) A H0 H locs → W p l e R s m args below meth c H locs cells slots Q (F0 m (pc + 3) ls (.int y.1 :: rest))) : W p l e R s m args below meth c H locs cells slots Q (F0 m pc ls (.int x1 :: .ref (gq G 0) :: rest)) :=
  fin_i (n := 0) (runV (As := [.int x1]) X.1 1 (t_X10_used l G w x1 y.1 y.2 hf _) rfl rfl hlk m_X10_used (by decide +kernel) ⟨hR.1, hR.2⟩ ⟨blindM, va_recv X.2.1 h.1 (ci := 9) (q0 := 0) rfl rfl, preM X.2 h⟩ rfl hsz hrest hd hk) h hA (fun _ H locs h => k H locs h)
def f_X10_book (x1 : Int32) (x2 : Int32) (w : MW) : Option (Int32 × MW) :=
 (f_X10_isPlace x1).bind fun y1 =>
 if y1 = 0 then
 (some ((-1 : Int32), mst w 0 0 ((0 : Int32))))
 else
 ((f_X10_in x2 ((0 : Int32)) ((8 : Int32))).bind fun y3 =>
 if y3 = 0 then
 (some ((-2 : Int32), mst w 0 0 ((0 : Int32))))
 else
 ((f_X10_isThere x1 (mst w 0 0 ((0 : Int32)))).bind fun y5 =>
 if y5 = 0 then
 ((f_X10_found ((1 : Int32)) (mst w 0 0 ((0 : Int32)))).bind fun y7 =>
 some (y7.1, y7.2))
 else
 ((f_X10_of x1 (((32 : Int32)) + x2) (mst w 0 0 ((0 : Int32)))).bind fun y8 =>
 some (y8, mst w 0 0 ((0 : Int32))))))
set_option maxHeartbeats 4000000 in
set_option maxRecDepth 100000 in
theorem t_X10_book (l : Launch) (G : Gm) (w0 : MW) (x1 : Int32) (x2 : Int32) (r : Int32) (w' : MW) (hf : f_X10_book x1 x2 w0 = some (r, w')) : MetI l yX10_book cX10_book 3 (some .int) 2 43 G (mw G w0) [.ref (gq G 0), .int x1, .int x2] r (fun _ => mw G (w')) 0 := by
  intro sz
  refine ent (own := RX10) (As := [.ref (gq G 0), .int x1, .int x2]) (by decide +kernel) rfl (Nat.le_of_ble_eq_true rfl) (fun _ _ h => h.1) ?_
  intro p e s m args below meth c ls B hr hlocks hv hl
  obtain ⟨-, hsz, hP, hKK, hD⟩ := hv
  subst hsz
  have X : CX RX10 cX10_book 3 G p s m args c := ⟨B, hKK⟩
  obtain ⟨hx, hb, hml, hown, hts⟩ := id B
  have hA : ∀ q : Nat, s.heap.size ≤ q → va_A (mw G w0) s.heap.size q := fun q z => Or.inr z
  have h : CH G (mw G w0) (va_A (mw G w0) s.heap.size) s.heap s.heap [] := ⟨hP, hD.self, va_S.rf⟩
  obtain ⟨w, rfl⟩ : ∃ z, z = w0 := ⟨_, rfl⟩
  have hl : lv_has ls 3 [(0, .ref (gq G 0)), (1, .int x1), (2, .int x2)] := hl
  unfold f_X10_book at hf
  refine lv_aload_n hx hb dX10_book_0 rfl (lv_at hl 0 rfl) ?_
  refine lv_iconst (v := 0) hx hb dX10_book_1 (by decide) ?_
  refine PM_0_0 X h k_X10_53 dX10_book_2 (fun H locs h => ?_)
  refine lv_iload_n hx hb dX10_book_5 rfl (lv_at hl 1 rfl) ?_
  obtain ⟨y1, ey1, hf⟩ := bnd_some hf
  refine k_X10_isPlace X.1 ey1 k_X10_106 dX10_book_6 hl.1 ⟨(Nat.le_of_ble_eq_true rfl), (Nat.le_of_ble_eq_true rfl)⟩ (Nat.le_of_ble_eq_true rfl) ⟨Nat.zero_le _, Nat.zero_le _⟩ ?_
  refine lv_if_ne (tgt := 14) hx hb dX10_book_9 (by decide) (fun c2 => ?_) (fun c2 => ?_)
  · have hf := if_f c2 hf
    refine lv_iload_n hx hb dX10_book_14 rfl (lv_at hl 2 rfl) ?_
    refine lv_iconst (v := 0) hx hb dX10_book_15 (by decide) ?_
    refine lv_bipush (v := 8) hx hb dX10_book_16 (by decide) ?_
    obtain ⟨y3, ey3, hf⟩ := bnd_some hf
    refine k_X10_in X.1 ey3 k_X10_71 dX10_book_18 hl.1 ⟨(Nat.le_of_ble_eq_true rfl), (Nat.le_of_ble_eq_true rfl)⟩ (Nat.le_of_ble_eq_true rfl) ⟨Nat.zero_le _, Nat.zero_le _⟩ ?_
    refine lv_if_ne (tgt := 27) hx hb dX10_book_21 (by decide) (fun c4 => ?_) (fun c4 => ?_)
    · have hf := if_f c4 hf
      refine lv_aload_n hx hb dX10_book_27 rfl (lv_at hl 0 rfl) ?_
      refine lv_iload_n hx hb dX10_book_28 rfl (lv_at hl 1 rfl) ?_
      obtain ⟨y5, ey5, hf⟩ := bnd_some hf
      refine k_X10_isThere X h ey5 k_X10_110 dX10_book_29 hl.1 ⟨(Nat.le_of_ble_eq_true rfl), (Nat.le_of_ble_eq_true rfl)⟩ (Nat.le_of_ble_eq_true rfl) ⟨Nat.zero_le _, Nat.zero_le _⟩ ?_
      refine lv_if_eq (tgt := 47) hx hb dX10_book_32 (by decide) (fun c6 => ?_) (fun c6 => ?_)
      · have hf := if_t c6 hf
        refine lv_aload_n hx hb dX10_book_47 rfl (lv_at hl 0 rfl) ?_
        refine lv_iconst (v := 1) hx hb dX10_book_48 (by decide) ?_
        obtain ⟨y7, ey7, hf⟩ := bnd_some hf
        refine k_X10_found X h hA ey7 k_X10_117 dX10_book_49 hl.1 ⟨(Nat.le_of_ble_eq_true rfl), (Nat.le_of_ble_eq_true rfl)⟩ (Nat.le_of_ble_eq_true rfl) ⟨Nat.zero_le _, Nat.zero_le _⟩ (fun H locs h => ?_)
        exact e0_i (Wf := mw G) X.1 hr hlocks hf h dX10_book_52
      · have hf := if_f c6 hf
        refine lv_aload_n hx hb dX10_book_35 rfl (lv_at hl 0 rfl) ?_
        refine lv_iload_n hx hb dX10_book_36 rfl (lv_at hl 1 rfl) ?_
        refine lv_bipush (v := 32) hx hb dX10_book_37 (by decide) ?_
        refine lv_iload_n hx hb dX10_book_39 rfl (lv_at hl 2 rfl) ?_
        refine lv_iadd hx hb dX10_book_40 ?_
        obtain ⟨y8, ey8, hf⟩ := bnd_some hf
        refine k_X10_of X h ey8 k_X10_75 dX10_book_41 hl.1 ⟨(Nat.le_of_ble_eq_true rfl), (Nat.le_of_ble_eq_true rfl)⟩ (Nat.le_of_ble_eq_true rfl) ⟨Nat.zero_le _, Nat.zero_le _⟩ ?_
        refine lv_goto (tgt := 52) hx hb dX10_book_44 (by decide) ?_
        exact e0_i (Wf := mw G) X.1 hr hlocks hf h dX10_book_52
    · have hf := if_t c4 hf
      refine lv_bipush (v := (-2)) hx hb dX10_book_24 (by decide) ?_
      exact e0_i (Wf := mw G) X.1 hr hlocks hf h dX10_book_26
  · have hf := if_t c2 hf
    refine lv_iconst (v := (-1)) hx hb dX10_book_12 (by decide) ?_
    exact e0_i (Wf := mw G) X.1 hr hlocks hf h dX10_book_13
theorem m_X10_book : Cond.instanceMethod yX10_book ∈ lw_good ∧ Cond.selects RX10 yX10_book yX10_book ∈ lw_good ∧ Cond.initialized RX10 ∈ lw_good ∧ Cond.code yX10_book cX10_book 3 (some .int) ∈ lw_good := by decide +kernel
theorem k_X10_book {p : Program} {l : Launch} {e : Env} {R : Room} {s : State} {m : MethodId} {args : Array Value} {below : List Frame} {meth : Method} {c : Code} {H : Heap} {locs : List Loc} {cells slots : Nat} {Q : State → Prop} {cc : ByteArray} {nL pc idx : Nat} {ls : Array Slot} {rest : List Value} {own : String} {G : Gm} {A : Nat → Prop} {H0 : Heap} {w : MW} {x1 : Int32} {x2 : Int32} {y : Int32 × MW} (X : CX own cc nL G p s m args c) (h : CH G (mw G w) A H0 H locs) (hA : ∀ q, H0.size ≤ q → A q) (hf : f_X10_book x1 x2 w = some y) (hlk : Cond.methodLink own idx yX10_book ∈ lw_good) (hd : decode cc pc = .ok (.invokevirtual idx, 3)) (hsz : ls.size = nL) (hR : 3 ≤ R.frames ∧ 65 ≤ R.locals) (hrest : (rest.map fun v => v.category).sum ≤ 8) (hk : cells ≤ R.cells ∧ slots ≤ R.slots) (k : ∀ (H : Heap) (locs : List Loc), CH G (mw G y.2) A H0 H locs → W p l e R s m args below meth c H locs cells slots Q (F0 m (pc + 3) ls (.int y.1 :: rest))) : W p l e R s m args below meth c H locs cells slots Q (F0 m pc ls (.int x2 :: .int x1 :: .ref (gq G 0) :: rest)) :=
  fin_i (n := 0) (runV (As := [.int x1, .int x2]) X.1 2 (t_X10_book l G w x1 x2 y.1 y.2 hf _) rfl rfl hlk m_X10_book (by decide +kernel) ⟨hR.1, hR.2⟩ ⟨blindM, va_recv X.2.1 h.1 (ci := 9) (q0 := 0) rfl rfl, preM X.2 h⟩ rfl hsz hrest hd hk) h hA (fun _ H locs h => k H locs h)
def f_X10_cost_l32_body (kself : (Int32 → Int32 → Int32 → Int32 → MW → Option (Int32 × MW))) (x1 : Int32) (x2 : Int32) (x3 : Int32) (x4 : Int32) (w : MW) : Option (Int32 × MW) :=
 if ((60 : Int32)) ≤ x4 then
 (if x3 = 0 then
 ((f_X10_found ((6 : Int32)) w).bind fun y6 =>
 some (y6.1, y6.2))
 else
 ((f_X10_isThere x1 w).bind fun y3 =>
 if y3 = 0 then
 (some ((0 : Int32), w))
 else
 ((f_X10_shareOf x2 ((60 : Int32)) x1 w).bind fun y5 =>
 some (y5, w))))
 else
 ((f_X10_of x4 ((32 : Int32)) w).bind fun y7 =>
 chk (inb x4 60) (
 chk (inb x4 60) (
 (some (x3 + ((mst w 12 x4.toNatClampNeg y7) 12 x4.toNatClampNeg))).bind fun z10 =>
 kself x1 x2 z10 (x4 + (1 : Int32)) (mst w 12 x4.toNatClampNeg y7))))
def f_X10_cost_l32 : Nat → Int32 → Int32 → Int32 → Int32 → MW → Option (Int32 × MW)
  | 0, _, _, _, _, _ => none
  | n + 1, x1, x2, x3, x4, w => f_X10_cost_l32_body (f_X10_cost_l32 n) x1 x2 x3 x4 w
def f_X10_cost (x1 : Int32) (x2 : Int32) (w : MW) : Option (Int32 × MW) :=
 (f_X10_isPlace x1).bind fun y11 =>
 if y11 = 0 then
 (some ((-1 : Int32), mst w 0 0 ((0 : Int32))))
 else
 ((f_X10_in x2 ((0 : Int32)) ((1000000 : Int32))).bind fun y13 =>
 if y13 = 0 then
 (some ((-2 : Int32), mst w 0 0 ((0 : Int32))))
 else
 (f_X10_cost_l32 FU x1 x2 ((0 : Int32)) ((0 : Int32)) (mst w 0 0 ((0 : Int32)))))
set_option maxHeartbeats 4000000 in
set_option maxRecDepth 100000 in
theorem t_X10_cost (l : Launch) (G : Gm) (w0 : MW) (x1 : Int32) (x2 : Int32) (r : Int32) (w' : MW) (hf : f_X10_cost x1 x2 w0 = some (r, w')) : MetI l yX10_cost cX10_cost 5 (some .int) 2 43 G (mw G w0) [.ref (gq G 0), .int x1, .int x2] r (fun _ => mw G (w')) 0 := by
  intro sz
  refine ent (own := RX10) (As := [.ref (gq G 0), .int x1, .int x2]) (by decide +kernel) rfl (Nat.le_of_ble_eq_true rfl) (fun _ _ h => h.1) ?_
  intro p e s m args below meth c ls B hr hlocks hv hl
  obtain ⟨-, hsz, hP, hKK, hD⟩ := hv
  subst hsz
  have X : CX RX10 cX10_cost 5 G p s m args c := ⟨B, hKK⟩
  obtain ⟨hx, hb, hml, hown, hts⟩ := id B
  have hA : ∀ q : Nat, s.heap.size ≤ q → va_A (mw G w0) s.heap.size q := fun q z => Or.inr z
  have h : CH G (mw G w0) (va_A (mw G w0) s.heap.size) s.heap s.heap [] := ⟨hP, hD.self, va_S.rf⟩
  have L32 : ∀ (n32 : Nat) (x1 : Int32) (x2 : Int32) (x3 : Int32) (x4 : Int32) (w : MW) (H : Heap) (locs : List Loc) (ls : Array Slot), f_X10_cost_l32 n32 x1 x2 x3 x4 w = some (r, w') → CH G (mw G w) (va_A (mw G w0) s.heap.size) s.heap H locs → lv_has ls 5 [(0, .ref (gq G 0)), (1, .int x1), (2, .int x2), (3, .int x3), (4, .int x4)] → W p l e { frames := 2, cells := 0, slots := 4096 * 0, locals := 43 } s m args below meth c H locs 0 (4096 * 0) (MQ below (QI G (mw G w0) s.heap.size r (fun _ => mw G (w'))) args s 0 (4096 * 0) (va_A (mw G w0) s.heap.size)) (F0 m 32 ls []) := by
    intro n32
    induction n32 with
    | zero =>
      intro x1 x2 x3 x4 w H locs ls hf h hl
      cases (show (none : Option (Int32 × MW)) = some _ from hf)
    | succ n32 ih32 =>
      intro x1 x2 x3 x4 w H locs ls hf h hl
      have hf : f_X10_cost_l32_body (f_X10_cost_l32 n32) x1 x2 x3 x4 w = _ := hf
      unfold f_X10_cost_l32_body at hf
      refine lv_iload hx hb dX10_cost_32 (lv_at hl 4 rfl) ?_
      refine lv_bipush (v := 60) hx hb dX10_cost_34 (by decide) ?_
      refine lv_icmp_ge (tgt := 70) hx hb dX10_cost_36 (by decide) (fun c1 => ?_) (fun c1 => ?_)
      · have hf := if_t c1 hf
        refine lv_iload_n hx hb dX10_cost_70 rfl (lv_at hl 3 rfl) ?_
        refine lv_if_ne (tgt := 81) hx hb dX10_cost_71 (by decide) (fun c2 => ?_) (fun c2 => ?_)
        · have hf := if_f c2 hf
          refine lv_aload_n hx hb dX10_cost_81 rfl (lv_at hl 0 rfl) ?_
          refine lv_iload_n hx hb dX10_cost_82 rfl (lv_at hl 1 rfl) ?_
          obtain ⟨y3, ey3, hf⟩ := bnd_some hf
          refine k_X10_isThere X h ey3 k_X10_110 dX10_cost_83 hl.1 ⟨(Nat.le_of_ble_eq_true rfl), (Nat.le_of_ble_eq_true rfl)⟩ (Nat.le_of_ble_eq_true rfl) ⟨Nat.zero_le _, Nat.zero_le _⟩ ?_
          refine lv_if_eq (tgt := 100) hx hb dX10_cost_86 (by decide) (fun c4 => ?_) (fun c4 => ?_)
          · have hf := if_t c4 hf
            refine lv_iconst (v := 0) hx hb dX10_cost_100 (by decide) ?_
            exact e0_i (Wf := mw G) X.1 hr hlocks hf h dX10_cost_101
          · have hf := if_f c4 hf
            refine lv_aload_n hx hb dX10_cost_89 rfl (lv_at hl 0 rfl) ?_
            refine lv_iload_n hx hb dX10_cost_90 rfl (lv_at hl 2 rfl) ?_
            refine lv_bipush (v := 60) hx hb dX10_cost_91 (by decide) ?_
            refine lv_iload_n hx hb dX10_cost_93 rfl (lv_at hl 1 rfl) ?_
            obtain ⟨y5, ey5, hf⟩ := bnd_some hf
            refine k_X10_shareOf X h ey5 k_X10_160 dX10_cost_94 hl.1 ⟨(Nat.le_of_ble_eq_true rfl), (Nat.le_of_ble_eq_true rfl)⟩ (Nat.le_of_ble_eq_true rfl) ⟨Nat.zero_le _, Nat.zero_le _⟩ ?_
            refine lv_goto (tgt := 101) hx hb dX10_cost_97 (by decide) ?_
            exact e0_i (Wf := mw G) X.1 hr hlocks hf h dX10_cost_101
        · have hf := if_t c2 hf
          refine lv_aload_n hx hb dX10_cost_74 rfl (lv_at hl 0 rfl) ?_
          refine lv_bipush (v := 6) hx hb dX10_cost_75 (by decide) ?_
          obtain ⟨y6, ey6, hf⟩ := bnd_some hf
          refine k_X10_found X h hA ey6 k_X10_117 dX10_cost_77 hl.1 ⟨(Nat.le_of_ble_eq_true rfl), (Nat.le_of_ble_eq_true rfl)⟩ (Nat.le_of_ble_eq_true rfl) ⟨Nat.zero_le _, Nat.zero_le _⟩ (fun H locs h => ?_)
          exact e0_i (Wf := mw G) X.1 hr hlocks hf h dX10_cost_80
      · have hf := if_f c1 hf
        refine lv_aload_n hx hb dX10_cost_39 rfl (lv_at hl 0 rfl) ?_
        refine GM_0_19 X h k_X10_44 dX10_cost_40 ?_
        refine lv_iload hx hb dX10_cost_43 (lv_at hl 4 rfl) ?_
        refine lv_aload_n hx hb dX10_cost_45 rfl (lv_at hl 0 rfl) ?_
        refine lv_iload hx hb dX10_cost_46 (lv_at hl 4 rfl) ?_
        refine lv_bipush (v := 32) hx hb dX10_cost_48 (by decide) ?_
        obtain ⟨y7, ey7, hf⟩ := bnd_some hf
        refine k_X10_of X h ey7 k_X10_75 dX10_cost_50 hl.1 ⟨(Nat.le_of_ble_eq_true rfl), (Nat.le_of_ble_eq_true rfl)⟩ (Nat.le_of_ble_eq_true rfl) ⟨Nat.zero_le _, Nat.zero_le _⟩ ?_
        obtain ⟨c8, hf⟩ := chk_some hf
        refine SM_12 X h c8 dX10_cost_53 (fun H locs h => ?_)
        refine lv_iload_n hx hb dX10_cost_54 rfl (lv_at hl 3 rfl) ?_
        refine lv_aload_n hx hb dX10_cost_55 rfl (lv_at hl 0 rfl) ?_
        refine GM_0_19 X h k_X10_44 dX10_cost_56 ?_
        refine lv_iload hx hb dX10_cost_59 (lv_at hl 4 rfl) ?_
        obtain ⟨c9, hf⟩ := chk_some hf
        refine LM_12 X h c9 dX10_cost_61 ?_
        refine lv_iadd hx hb dX10_cost_62 ?_
        obtain ⟨z10, ez10, hf⟩ := bnd_some hf
        refine nm_i (Option.some.inj ez10) ?_
        refine lv_istore_n (lv' := [(3, .int z10), (0, .ref (gq G 0)), (1, .int x1), (2, .int x2), (4, .int x4)]) hx hb dX10_cost_63 rfl hl (by decide) rfl (fun ls hl => ?_)
        refine lv_iinc (v := x4 + (1 : Int32)) (lv' := [(4, .int (x4 + (1 : Int32))), (3, .int z10), (0, .ref (gq G 0)), (1, .int x1), (2, .int x2)]) hx hb dX10_cost_64 hl (k := 4) rfl (by rfl) (by decide) rfl (fun ls hl => ?_)
        refine lv_goto (tgt := 32) hx hb dX10_cost_67 (by decide) ?_
        exact ih32 _ _ _ _ _ _ _ _ hf h (lv_sub hl [2, 3, 4, 1, 0] rfl)
  obtain ⟨w, rfl⟩ : ∃ z, z = w0 := ⟨_, rfl⟩
  have hl : lv_has ls 5 [(0, .ref (gq G 0)), (1, .int x1), (2, .int x2)] := hl
  unfold f_X10_cost at hf
  refine lv_aload_n hx hb dX10_cost_0 rfl (lv_at hl 0 rfl) ?_
  refine lv_iconst (v := 0) hx hb dX10_cost_1 (by decide) ?_
  refine PM_0_0 X h k_X10_53 dX10_cost_2 (fun H locs h => ?_)
  refine lv_iload_n hx hb dX10_cost_5 rfl (lv_at hl 1 rfl) ?_
  obtain ⟨y11, ey11, hf⟩ := bnd_some hf
  refine k_X10_isPlace X.1 ey11 k_X10_106 dX10_cost_6 hl.1 ⟨(Nat.le_of_ble_eq_true rfl), (Nat.le_of_ble_eq_true rfl)⟩ (Nat.le_of_ble_eq_true rfl) ⟨Nat.zero_le _, Nat.zero_le _⟩ ?_
  refine lv_if_ne (tgt := 14) hx hb dX10_cost_9 (by decide) (fun c12 => ?_) (fun c12 => ?_)
  · have hf := if_f c12 hf
    refine lv_iload_n hx hb dX10_cost_14 rfl (lv_at hl 2 rfl) ?_
    refine lv_iconst (v := 0) hx hb dX10_cost_15 (by decide) ?_
    refine lv_ldc (v := 1000000) hx hb hown (hts _ k_X10_193) dX10_cost_16 ?_
    obtain ⟨y13, ey13, hf⟩ := bnd_some hf
    refine k_X10_in X.1 ey13 k_X10_71 dX10_cost_18 hl.1 ⟨(Nat.le_of_ble_eq_true rfl), (Nat.le_of_ble_eq_true rfl)⟩ (Nat.le_of_ble_eq_true rfl) ⟨Nat.zero_le _, Nat.zero_le _⟩ ?_
    refine lv_if_ne (tgt := 27) hx hb dX10_cost_21 (by decide) (fun c14 => ?_) (fun c14 => ?_)
    · have hf := if_f c14 hf
      refine lv_iconst (v := 0) hx hb dX10_cost_27 (by decide) ?_
      refine lv_istore_n (lv' := [(3, .int ((0 : Int32))), (0, .ref (gq G 0)), (1, .int x1), (2, .int x2)]) hx hb dX10_cost_28 rfl hl (by decide) rfl (fun ls hl => ?_)
      refine lv_iconst (v := 0) hx hb dX10_cost_29 (by decide) ?_
      refine lv_istore (lv' := [(4, .int ((0 : Int32))), (3, .int ((0 : Int32))), (0, .ref (gq G 0)), (1, .int x1), (2, .int x2)]) hx hb dX10_cost_30 hl (by decide) rfl (fun ls hl => ?_)
      exact L32 FU _ _ _ _ _ _ _ _ hf h (lv_sub hl [2, 3, 4, 1, 0] rfl)
    · have hf := if_t c14 hf
      refine lv_bipush (v := (-2)) hx hb dX10_cost_24 (by decide) ?_
      exact e0_i (Wf := mw G) X.1 hr hlocks hf h dX10_cost_26
  · have hf := if_t c12 hf
    refine lv_iconst (v := (-1)) hx hb dX10_cost_12 (by decide) ?_
    exact e0_i (Wf := mw G) X.1 hr hlocks hf h dX10_cost_13
theorem m_X10_cost : Cond.instanceMethod yX10_cost ∈ lw_good ∧ Cond.selects RX10 yX10_cost yX10_cost ∈ lw_good ∧ Cond.initialized RX10 ∈ lw_good ∧ Cond.code yX10_cost cX10_cost 5 (some .int) ∈ lw_good := by decide +kernel
theorem k_X10_cost {p : Program} {l : Launch} {e : Env} {R : Room} {s : State} {m : MethodId} {args : Array Value} {below : List Frame} {meth : Method} {c : Code} {H : Heap} {locs : List Loc} {cells slots : Nat} {Q : State → Prop} {cc : ByteArray} {nL pc idx : Nat} {ls : Array Slot} {rest : List Value} {own : String} {G : Gm} {A : Nat → Prop} {H0 : Heap} {w : MW} {x1 : Int32} {x2 : Int32} {y : Int32 × MW} (X : CX own cc nL G p s m args c) (h : CH G (mw G w) A H0 H locs) (hA : ∀ q, H0.size ≤ q → A q) (hf : f_X10_cost x1 x2 w = some y) (hlk : Cond.methodLink own idx yX10_cost ∈ lw_good) (hd : decode cc pc = .ok (.invokevirtual idx, 3)) (hsz : ls.size = nL) (hR : 3 ≤ R.frames ∧ 67 ≤ R.locals) (hrest : (rest.map fun v => v.category).sum ≤ 8) (hk : cells ≤ R.cells ∧ slots ≤ R.slots) (k : ∀ (H : Heap) (locs : List Loc), CH G (mw G y.2) A H0 H locs → W p l e R s m args below meth c H locs cells slots Q (F0 m (pc + 3) ls (.int y.1 :: rest))) : W p l e R s m args below meth c H locs cells slots Q (F0 m pc ls (.int x2 :: .int x1 :: .ref (gq G 0) :: rest)) :=
  fin_i (n := 0) (runV (As := [.int x1, .int x2]) X.1 2 (t_X10_cost l G w x1 x2 y.1 y.2 hf _) rfl rfl hlk m_X10_cost (by decide +kernel) ⟨hR.1, hR.2⟩ ⟨blindM, va_recv X.2.1 h.1 (ci := 9) (q0 := 0) rfl rfl, preM X.2 h⟩ rfl hsz hrest hd hk) h hA (fun _ H locs h => k H locs h)
def f_X10_count_l97_body (kself : (Int32 → Int32 → Int32 → Int32 → Int32 → Int32 → MW → Option (Int32 × MW))) (x1 : Int32) (x2 : Int32) (x3 : Int32) (x4 : Int32) (x5 : Int32) (x6 : Int32) (w : MW) : Option (Int32 × MW) :=
 if ((12 : Int32)) ≤ x6 then
 (if x1 = (0 : Int32) then
 (chk (inb ((11344 : Int32)) 11360) (
 some (w 1 ((11344 : Int32)).toNatClampNeg, w)))
 else
 (if x1 = (1 : Int32) then
 (some (x2, w))
 else
 (if x1 = (2 : Int32) then
 (some (x4, w))
 else
 (if x1 = (3 : Int32) then
 (chk (inb ((11345 : Int32)) 11360) (
 some (w 1 ((11345 : Int32)).toNatClampNeg, w)))
 else
 (if x1 = (4 : Int32) then
 (some (w 0 7, w))
 else
 (if x1 = (5 : Int32) then
 (some (x3, w))
 else
 (if x1 = (6 : Int32) then
 (some (x5, w))
 else
 (if x1 = (7 : Int32) then
 (chk (inb ((((11346 : Int32)) + x1) - ((7 : Int32))) 11360) (
 some (w 1 ((((11346 : Int32)) + x1) - ((7 : Int32))).toNatClampNeg, w)))
 else
 (if x1 = (8 : Int32) then
 (chk (inb ((((11346 : Int32)) + x1) - ((7 : Int32))) 11360) (
 some (w 1 ((((11346 : Int32)) + x1) - ((7 : Int32))).toNatClampNeg, w)))
 else
 (if x1 = (9 : Int32) then
 (chk (inb ((((11346 : Int32)) + x1) - ((7 : Int32))) 11360) (
 some (w 1 ((((11346 : Int32)) + x1) - ((7 : Int32))).toNatClampNeg, w)))
 else
 (if x1 = (10 : Int32) then
 (chk (inb ((((11346 : Int32)) + x1) - ((7 : Int32))) 11360) (
 some (w 1 ((((11346 : Int32)) + x1) - ((7 : Int32))).toNatClampNeg, w)))
 else
 (if x1 = (11 : Int32) then
 (chk (inb ((11344 : Int32)) 11360) (
 if (w 1 ((11344 : Int32)).toNatClampNeg) = 0 then
 (some ((0 : Int32), w))
 else
 (chk (inb ((11344 : Int32)) 11360) (
 some ((w 1 ((11344 : Int32)).toNatClampNeg) - (w 0 6), w)))))
 else
 (if x1 = (12 : Int32) then
 (some (w 0 8, w))
 else
 (some ((-2 : Int32), w)))))))))))))))
 else
 (chk (inb (((8720 : Int32)) + (((2 : Int32)) * x6)) 11360) (
 chk (inb ((((8720 : Int32)) + (((2 : Int32)) * x6)) + ((1 : Int32))) 11360) (
 (some (x5 + ((w 1 (((8720 : Int32)) + (((2 : Int32)) * x6)).toNatClampNeg) * (w 1 ((((8720 : Int32)) + (((2 : Int32)) * x6)) + ((1 : Int32))).toNatClampNeg)))).bind fun z26 =>
 kself x1 x2 x3 x4 z26 (x6 + (1 : Int32)) w)))
def f_X10_count_l97 : Nat → Int32 → Int32 → Int32 → Int32 → Int32 → Int32 → MW → Option (Int32 × MW)
  | 0, _, _, _, _, _, _, _ => none
  | n + 1, x1, x2, x3, x4, x5, x6, w => f_X10_count_l97_body (f_X10_count_l97 n) x1 x2 x3 x4 x5 x6 w
def f_X10_count_l59_body (kself : (Int32 → Int32 → Int32 → Int32 → Int32 → MW → Option (Int32 × MW))) (x1 : Int32) (x2 : Int32) (x3 : Int32) (x4 : Int32) (x5 : Int32) (w : MW) : Option (Int32 × MW) :=
 if ((40 : Int32)) ≤ x5 then
 (f_X10_count_l97 FU x1 x2 x3 x4 ((0 : Int32)) ((0 : Int32)) w)
 else
 (chk (inb (((6240 : Int32)) + (((62 : Int32)) * x5)) 11360) (
 (some (x4 + (w 1 (((6240 : Int32)) + (((62 : Int32)) * x5)).toNatClampNeg))).bind fun z29 =>
 kself x1 x2 x3 z29 (x5 + (1 : Int32)) w))
def f_X10_count_l59 : Nat → Int32 → Int32 → Int32 → Int32 → Int32 → MW → Option (Int32 × MW)
  | 0, _, _, _, _, _, _ => none
  | n + 1, x1, x2, x3, x4, x5, w => f_X10_count_l59_body (f_X10_count_l59 n) x1 x2 x3 x4 x5 w
def f_X10_count_b34 (k12 : (Int32 → Int32 → Int32 → Int32 → MW → Option (Int32 × MW))) (x1 : Int32) (x3 : Int32) (x4 : Int32) (xs0 : Int32) (xs1 : Int32) (w : MW) : Option (Int32 × MW) :=
 (f_X10_of x4 ((26 : Int32)) w).bind fun y30 =>
 k12 x1 (xs0 + xs1) (x3 + y30) (x4 + (1 : Int32)) w
def f_X10_count_l12_body (kself : (Int32 → Int32 → Int32 → Int32 → MW → Option (Int32 × MW))) (x1 : Int32) (x2 : Int32) (x3 : Int32) (x4 : Int32) (w : MW) : Option (Int32 × MW) :=
 if ((60 : Int32)) ≤ x4 then
 (f_X10_count_l59 FU x1 x2 x3 ((0 : Int32)) ((0 : Int32)) w)
 else
 ((f_X10_isThere x4 w).bind fun y32 =>
 if y32 = 0 then
 (f_X10_count_b34 kself x1 x3 x4 x2 ((0 : Int32)) w)
 else
 (f_X10_count_b34 kself x1 x3 x4 x2 ((1 : Int32)) w))
def f_X10_count_l12 : Nat → Int32 → Int32 → Int32 → Int32 → MW → Option (Int32 × MW)
  | 0, _, _, _, _, _ => none
  | n + 1, x1, x2, x3, x4, w => f_X10_count_l12_body (f_X10_count_l12 n) x1 x2 x3 x4 w
def f_X10_count (x1 : Int32) (w : MW) : Option (Int32 × MW) :=
 f_X10_count_l12 FU x1 ((0 : Int32)) ((0 : Int32)) ((0 : Int32)) (mst w 0 0 ((0 : Int32)))
set_option maxHeartbeats 4000000 in
set_option maxRecDepth 100000 in
theorem t_X10_count (l : Launch) (G : Gm) (w0 : MW) (x1 : Int32) (r : Int32) (w' : MW) (hf : f_X10_count x1 w0 = some (r, w')) : MetI l yX10_count cX10_count 7 (some .int) 2 43 G (mw G w0) [.ref (gq G 0), .int x1] r (fun _ => mw G (w')) 0 := by
  intro sz
  refine ent (own := RX10) (As := [.ref (gq G 0), .int x1]) (by decide +kernel) rfl (Nat.le_of_ble_eq_true rfl) (fun _ _ h => h.1) ?_
  intro p e s m args below meth c ls B hr hlocks hv hl
  obtain ⟨-, hsz, hP, hKK, hD⟩ := hv
  subst hsz
  have X : CX RX10 cX10_count 7 G p s m args c := ⟨B, hKK⟩
  obtain ⟨hx, hb, hml, hown, hts⟩ := id B
  have hA : ∀ q : Nat, s.heap.size ≤ q → va_A (mw G w0) s.heap.size q := fun q z => Or.inr z
  have h : CH G (mw G w0) (va_A (mw G w0) s.heap.size) s.heap s.heap [] := ⟨hP, hD.self, va_S.rf⟩
  have L97 : ∀ (n97 : Nat) (x1 : Int32) (x2 : Int32) (x3 : Int32) (x4 : Int32) (x5 : Int32) (x6 : Int32) (w : MW) (H : Heap) (locs : List Loc) (ls : Array Slot), f_X10_count_l97 n97 x1 x2 x3 x4 x5 x6 w = some (r, w') → CH G (mw G w) (va_A (mw G w0) s.heap.size) s.heap H locs → lv_has ls 7 [(0, .ref (gq G 0)), (1, .int x1), (2, .int x2), (3, .int x3), (4, .int x4), (5, .int x5), (6, .int x6)] → W p l e { frames := 2, cells := 0, slots := 4096 * 0, locals := 43 } s m args below meth c H locs 0 (4096 * 0) (MQ below (QI G (mw G w0) s.heap.size r (fun _ => mw G (w'))) args s 0 (4096 * 0) (va_A (mw G w0) s.heap.size)) (F0 m 97 ls []) := by
    intro n97
    induction n97 with
    | zero =>
      intro x1 x2 x3 x4 x5 x6 w H locs ls hf h hl
      cases (show (none : Option (Int32 × MW)) = some _ from hf)
    | succ n97 ih97 =>
      intro x1 x2 x3 x4 x5 x6 w H locs ls hf h hl
      have hf : f_X10_count_l97_body (f_X10_count_l97 n97) x1 x2 x3 x4 x5 x6 w = _ := hf
      unfold f_X10_count_l97_body at hf
      refine lv_iload hx hb dX10_count_97 (lv_at hl 6 rfl) ?_
      refine lv_bipush (v := 12) hx hb dX10_count_99 (by decide) ?_
      refine lv_icmp_ge (tgt := 144) hx hb dX10_count_101 (by decide) (fun c1 => ?_) (fun c1 => ?_)
      · have hf := if_t c1 hf
        refine lv_iload_n hx hb dX10_count_144 rfl (lv_at hl 1 rfl) ?_
        by_cases c2 : x1 = (0 : Int32)
        · have hf := if_t c2 hf
          refine lv_tableIn (tgt := 212) hx hb dX10_count_145 (by rw [c2]; decide) (by rw [c2]; decide) (by rw [c2]; rfl) (by decide) ?_
          refine lv_aload_n hx hb dX10_count_212 rfl (lv_at hl 0 rfl) ?_
          refine GM_0_1 X h k_X10_7 dX10_count_213 ?_
          refine lv_sipush (v := 11344) hx hb dX10_count_216 (by decide) ?_
          obtain ⟨c3, hf⟩ := chk_some hf
          refine LM_1 X h c3 dX10_count_219 ?_
          exact e0_i (Wf := mw G) X.1 hr hlocks hf h dX10_count_220
        · have hf := if_f c2 hf
          have nc2 := lv_neT (a := 0) c2 (by decide)
          by_cases c4 : x1 = (1 : Int32)
          · have hf := if_t c4 hf
            refine lv_tableIn (tgt := 221) hx hb dX10_count_145 (by rw [c4]; decide) (by rw [c4]; decide) (by rw [c4]; rfl) (by decide) ?_
            refine lv_iload_n hx hb dX10_count_221 rfl (lv_at hl 2 rfl) ?_
            exact e0_i (Wf := mw G) X.1 hr hlocks hf h dX10_count_222
          · have hf := if_f c4 hf
            have nc4 := lv_neT (a := 1) c4 (by decide)
            by_cases c5 : x1 = (2 : Int32)
            · have hf := if_t c5 hf
              refine lv_tableIn (tgt := 223) hx hb dX10_count_145 (by rw [c5]; decide) (by rw [c5]; decide) (by rw [c5]; rfl) (by decide) ?_
              refine lv_iload hx hb dX10_count_223 (lv_at hl 4 rfl) ?_
              exact e0_i (Wf := mw G) X.1 hr hlocks hf h dX10_count_225
            · have hf := if_f c5 hf
              have nc5 := lv_neT (a := 2) c5 (by decide)
              by_cases c6 : x1 = (3 : Int32)
              · have hf := if_t c6 hf
                refine lv_tableIn (tgt := 226) hx hb dX10_count_145 (by rw [c6]; decide) (by rw [c6]; decide) (by rw [c6]; rfl) (by decide) ?_
                refine lv_aload_n hx hb dX10_count_226 rfl (lv_at hl 0 rfl) ?_
                refine GM_0_1 X h k_X10_7 dX10_count_227 ?_
                refine lv_sipush (v := 11345) hx hb dX10_count_230 (by decide) ?_
                obtain ⟨c7, hf⟩ := chk_some hf
                refine LM_1 X h c7 dX10_count_233 ?_
                exact e0_i (Wf := mw G) X.1 hr hlocks hf h dX10_count_234
              · have hf := if_f c6 hf
                have nc6 := lv_neT (a := 3) c6 (by decide)
                by_cases c8 : x1 = (4 : Int32)
                · have hf := if_t c8 hf
                  refine lv_tableIn (tgt := 235) hx hb dX10_count_145 (by rw [c8]; decide) (by rw [c8]; decide) (by rw [c8]; rfl) (by decide) ?_
                  refine lv_aload_n hx hb dX10_count_235 rfl (lv_at hl 0 rfl) ?_
                  refine GM_0_7 X h k_X10_154 dX10_count_236 ?_
                  exact e0_i (Wf := mw G) X.1 hr hlocks hf h dX10_count_239
                · have hf := if_f c8 hf
                  have nc8 := lv_neT (a := 4) c8 (by decide)
                  by_cases c9 : x1 = (5 : Int32)
                  · have hf := if_t c9 hf
                    refine lv_tableIn (tgt := 240) hx hb dX10_count_145 (by rw [c9]; decide) (by rw [c9]; decide) (by rw [c9]; rfl) (by decide) ?_
                    refine lv_iload_n hx hb dX10_count_240 rfl (lv_at hl 3 rfl) ?_
                    exact e0_i (Wf := mw G) X.1 hr hlocks hf h dX10_count_241
                  · have hf := if_f c9 hf
                    have nc9 := lv_neT (a := 5) c9 (by decide)
                    by_cases c10 : x1 = (6 : Int32)
                    · have hf := if_t c10 hf
                      refine lv_tableIn (tgt := 242) hx hb dX10_count_145 (by rw [c10]; decide) (by rw [c10]; decide) (by rw [c10]; rfl) (by decide) ?_
                      refine lv_iload hx hb dX10_count_242 (lv_at hl 5 rfl) ?_
                      exact e0_i (Wf := mw G) X.1 hr hlocks hf h dX10_count_244
                    · have hf := if_f c10 hf
                      have nc10 := lv_neT (a := 6) c10 (by decide)
                      by_cases c11 : x1 = (7 : Int32)
                      · have hf := if_t c11 hf
                        refine lv_tableIn (tgt := 245) hx hb dX10_count_145 (by rw [c11]; decide) (by rw [c11]; decide) (by rw [c11]; rfl) (by decide) ?_
                        refine lv_aload_n hx hb dX10_count_245 rfl (lv_at hl 0 rfl) ?_
                        refine GM_0_1 X h k_X10_7 dX10_count_246 ?_
                        refine lv_sipush (v := 11346) hx hb dX10_count_249 (by decide) ?_
                        refine lv_iload_n hx hb dX10_count_252 rfl (lv_at hl 1 rfl) ?_
                        refine lv_iadd hx hb dX10_count_253 ?_
                        refine lv_bipush (v := 7) hx hb dX10_count_254 (by decide) ?_
                        refine lv_isub hx hb dX10_count_256 ?_
                        obtain ⟨c12, hf⟩ := chk_some hf
                        refine LM_1 X h c12 dX10_count_257 ?_
                        exact e0_i (Wf := mw G) X.1 hr hlocks hf h dX10_count_258
                      · have hf := if_f c11 hf
                        have nc11 := lv_neT (a := 7) c11 (by decide)
                        by_cases c13 : x1 = (8 : Int32)
                        · have hf := if_t c13 hf
                          refine lv_tableIn (tgt := 245) hx hb dX10_count_145 (by rw [c13]; decide) (by rw [c13]; decide) (by rw [c13]; rfl) (by decide) ?_
                          refine lv_aload_n hx hb dX10_count_245 rfl (lv_at hl 0 rfl) ?_
                          refine GM_0_1 X h k_X10_7 dX10_count_246 ?_
                          refine lv_sipush (v := 11346) hx hb dX10_count_249 (by decide) ?_
                          refine lv_iload_n hx hb dX10_count_252 rfl (lv_at hl 1 rfl) ?_
                          refine lv_iadd hx hb dX10_count_253 ?_
                          refine lv_bipush (v := 7) hx hb dX10_count_254 (by decide) ?_
                          refine lv_isub hx hb dX10_count_256 ?_
                          obtain ⟨c14, hf⟩ := chk_some hf
                          refine LM_1 X h c14 dX10_count_257 ?_
                          exact e0_i (Wf := mw G) X.1 hr hlocks hf h dX10_count_258
                        · have hf := if_f c13 hf
                          have nc13 := lv_neT (a := 8) c13 (by decide)
                          by_cases c15 : x1 = (9 : Int32)
                          · have hf := if_t c15 hf
                            refine lv_tableIn (tgt := 245) hx hb dX10_count_145 (by rw [c15]; decide) (by rw [c15]; decide) (by rw [c15]; rfl) (by decide) ?_
                            refine lv_aload_n hx hb dX10_count_245 rfl (lv_at hl 0 rfl) ?_
                            refine GM_0_1 X h k_X10_7 dX10_count_246 ?_
                            refine lv_sipush (v := 11346) hx hb dX10_count_249 (by decide) ?_
                            refine lv_iload_n hx hb dX10_count_252 rfl (lv_at hl 1 rfl) ?_
                            refine lv_iadd hx hb dX10_count_253 ?_
                            refine lv_bipush (v := 7) hx hb dX10_count_254 (by decide) ?_
                            refine lv_isub hx hb dX10_count_256 ?_
                            obtain ⟨c16, hf⟩ := chk_some hf
                            refine LM_1 X h c16 dX10_count_257 ?_
                            exact e0_i (Wf := mw G) X.1 hr hlocks hf h dX10_count_258
                          · have hf := if_f c15 hf
                            have nc15 := lv_neT (a := 9) c15 (by decide)
                            by_cases c17 : x1 = (10 : Int32)
                            · have hf := if_t c17 hf
                              refine lv_tableIn (tgt := 245) hx hb dX10_count_145 (by rw [c17]; decide) (by rw [c17]; decide) (by rw [c17]; rfl) (by decide) ?_
                              refine lv_aload_n hx hb dX10_count_245 rfl (lv_at hl 0 rfl) ?_
                              refine GM_0_1 X h k_X10_7 dX10_count_246 ?_
                              refine lv_sipush (v := 11346) hx hb dX10_count_249 (by decide) ?_
                              refine lv_iload_n hx hb dX10_count_252 rfl (lv_at hl 1 rfl) ?_
                              refine lv_iadd hx hb dX10_count_253 ?_
                              refine lv_bipush (v := 7) hx hb dX10_count_254 (by decide) ?_
                              refine lv_isub hx hb dX10_count_256 ?_
                              obtain ⟨c18, hf⟩ := chk_some hf
                              refine LM_1 X h c18 dX10_count_257 ?_
                              exact e0_i (Wf := mw G) X.1 hr hlocks hf h dX10_count_258
                            · have hf := if_f c17 hf
                              have nc17 := lv_neT (a := 10) c17 (by decide)
                              by_cases c19 : x1 = (11 : Int32)
                              · have hf := if_t c19 hf
                                refine lv_tableIn (tgt := 259) hx hb dX10_count_145 (by rw [c19]; decide) (by rw [c19]; decide) (by rw [c19]; rfl) (by decide) ?_
                                refine lv_aload_n hx hb dX10_count_259 rfl (lv_at hl 0 rfl) ?_
                                refine GM_0_1 X h k_X10_7 dX10_count_260 ?_
                                refine lv_sipush (v := 11344) hx hb dX10_count_263 (by decide) ?_
                                obtain ⟨c20, hf⟩ := chk_some hf
                                refine LM_1 X h c20 dX10_count_266 ?_
                                refine lv_if_ne (tgt := 274) hx hb dX10_count_267 (by decide) (fun c21 => ?_) (fun c21 => ?_)
                                · have hf := if_f c21 hf
                                  refine lv_aload_n hx hb dX10_count_274 rfl (lv_at hl 0 rfl) ?_
                                  refine GM_0_1 X h k_X10_7 dX10_count_275 ?_
                                  refine lv_sipush (v := 11344) hx hb dX10_count_278 (by decide) ?_
                                  obtain ⟨c22, hf⟩ := chk_some hf
                                  refine LM_1 X h c22 dX10_count_281 ?_
                                  refine lv_aload_n hx hb dX10_count_282 rfl (lv_at hl 0 rfl) ?_
                                  refine GM_0_6 X h k_X10_178 dX10_count_283 ?_
                                  refine lv_isub hx hb dX10_count_286 ?_
                                  exact e0_i (Wf := mw G) X.1 hr hlocks hf h dX10_count_287
                                · have hf := if_t c21 hf
                                  refine lv_iconst (v := 0) hx hb dX10_count_270 (by decide) ?_
                                  refine lv_goto (tgt := 287) hx hb dX10_count_271 (by decide) ?_
                                  exact e0_i (Wf := mw G) X.1 hr hlocks hf h dX10_count_287
                              · have hf := if_f c19 hf
                                have nc19 := lv_neT (a := 11) c19 (by decide)
                                by_cases c23 : x1 = (12 : Int32)
                                · have hf := if_t c23 hf
                                  refine lv_tableIn (tgt := 288) hx hb dX10_count_145 (by rw [c23]; decide) (by rw [c23]; decide) (by rw [c23]; rfl) (by decide) ?_
                                  refine lv_aload_n hx hb dX10_count_288 rfl (lv_at hl 0 rfl) ?_
                                  refine GM_0_8 X h k_X10_64 dX10_count_289 ?_
                                  exact e0_i (Wf := mw G) X.1 hr hlocks hf h dX10_count_292
                                · have hf := if_f c23 hf
                                  have nc23 := lv_neT (a := 12) c23 (by decide)
                                  refine lv_tableOut (tgt := 293) hx hb dX10_count_145 (by omega) (by decide) ?_
                                  refine lv_bipush (v := (-2)) hx hb dX10_count_293 (by decide) ?_
                                  exact e0_i (Wf := mw G) X.1 hr hlocks hf h dX10_count_295
      · have hf := if_f c1 hf
        refine lv_iload hx hb dX10_count_104 (lv_at hl 5 rfl) ?_
        refine lv_aload_n hx hb dX10_count_106 rfl (lv_at hl 0 rfl) ?_
        refine GM_0_1 X h k_X10_7 dX10_count_107 ?_
        refine lv_sipush (v := 8720) hx hb dX10_count_110 (by decide) ?_
        refine lv_iconst (v := 2) hx hb dX10_count_113 (by decide) ?_
        refine lv_iload hx hb dX10_count_114 (lv_at hl 6 rfl) ?_
        refine lv_imul hx hb dX10_count_116 ?_
        refine lv_iadd hx hb dX10_count_117 ?_
        obtain ⟨c24, hf⟩ := chk_some hf
        refine LM_1 X h c24 dX10_count_118 ?_
        refine lv_aload_n hx hb dX10_count_119 rfl (lv_at hl 0 rfl) ?_
        refine GM_0_1 X h k_X10_7 dX10_count_120 ?_
        refine lv_sipush (v := 8720) hx hb dX10_count_123 (by decide) ?_
        refine lv_iconst (v := 2) hx hb dX10_count_126 (by decide) ?_
        refine lv_iload hx hb dX10_count_127 (lv_at hl 6 rfl) ?_
        refine lv_imul hx hb dX10_count_129 ?_
        refine lv_iadd hx hb dX10_count_130 ?_
        refine lv_iconst (v := 1) hx hb dX10_count_131 (by decide) ?_
        refine lv_iadd hx hb dX10_count_132 ?_
        obtain ⟨c25, hf⟩ := chk_some hf
        refine LM_1 X h c25 dX10_count_133 ?_
        refine lv_imul hx hb dX10_count_134 ?_
        refine lv_iadd hx hb dX10_count_135 ?_
        obtain ⟨z26, ez26, hf⟩ := bnd_some hf
        refine nm_i (Option.some.inj ez26) ?_
        refine lv_istore (lv' := [(5, .int z26), (0, .ref (gq G 0)), (1, .int x1), (2, .int x2), (3, .int x3), (4, .int x4), (6, .int x6)]) hx hb dX10_count_136 hl (by decide) rfl (fun ls hl => ?_)
        refine lv_iinc (v := x6 + (1 : Int32)) (lv' := [(6, .int (x6 + (1 : Int32))), (5, .int z26), (0, .ref (gq G 0)), (1, .int x1), (2, .int x2), (3, .int x3), (4, .int x4)]) hx hb dX10_count_138 hl (k := 6) rfl (by rfl) (by decide) rfl (fun ls hl => ?_)
        refine lv_goto (tgt := 97) hx hb dX10_count_141 (by decide) ?_
        exact ih97 _ _ _ _ _ _ _ _ _ _ hf h (lv_sub hl [2, 3, 4, 5, 6, 1, 0] rfl)
  have L59 : ∀ (n59 : Nat) (x1 : Int32) (x2 : Int32) (x3 : Int32) (x4 : Int32) (x5 : Int32) (w : MW) (H : Heap) (locs : List Loc) (ls : Array Slot), f_X10_count_l59 n59 x1 x2 x3 x4 x5 w = some (r, w') → CH G (mw G w) (va_A (mw G w0) s.heap.size) s.heap H locs → lv_has ls 7 [(0, .ref (gq G 0)), (1, .int x1), (2, .int x2), (3, .int x3), (4, .int x4), (5, .int x5)] → W p l e { frames := 2, cells := 0, slots := 4096 * 0, locals := 43 } s m args below meth c H locs 0 (4096 * 0) (MQ below (QI G (mw G w0) s.heap.size r (fun _ => mw G (w'))) args s 0 (4096 * 0) (va_A (mw G w0) s.heap.size)) (F0 m 59 ls []) := by
    intro n59
    induction n59 with
    | zero =>
      intro x1 x2 x3 x4 x5 w H locs ls hf h hl
      cases (show (none : Option (Int32 × MW)) = some _ from hf)
    | succ n59 ih59 =>
      intro x1 x2 x3 x4 x5 w H locs ls hf h hl
      have hf : f_X10_count_l59_body (f_X10_count_l59 n59) x1 x2 x3 x4 x5 w = _ := hf
      unfold f_X10_count_l59_body at hf
      refine lv_iload hx hb dX10_count_59 (lv_at hl 5 rfl) ?_
      refine lv_bipush (v := 40) hx hb dX10_count_61 (by decide) ?_
      refine lv_icmp_ge (tgt := 91) hx hb dX10_count_63 (by decide) (fun c27 => ?_) (fun c27 => ?_)
      · have hf := if_t c27 hf
        refine lv_iconst (v := 0) hx hb dX10_count_91 (by decide) ?_
        refine lv_istore (lv' := [(5, .int ((0 : Int32))), (0, .ref (gq G 0)), (1, .int x1), (2, .int x2), (3, .int x3), (4, .int x4)]) hx hb dX10_count_92 hl (by decide) rfl (fun ls hl => ?_)
        refine lv_iconst (v := 0) hx hb dX10_count_94 (by decide) ?_
        refine lv_istore (lv' := [(6, .int ((0 : Int32))), (5, .int ((0 : Int32))), (0, .ref (gq G 0)), (1, .int x1), (2, .int x2), (3, .int x3), (4, .int x4)]) hx hb dX10_count_95 hl (by decide) rfl (fun ls hl => ?_)
        exact L97 FU _ _ _ _ _ _ _ _ _ _ hf h (lv_sub hl [2, 3, 4, 5, 6, 1, 0] rfl)
      · have hf := if_f c27 hf
        refine lv_iload hx hb dX10_count_66 (lv_at hl 4 rfl) ?_
        refine lv_aload_n hx hb dX10_count_68 rfl (lv_at hl 0 rfl) ?_
        refine GM_0_1 X h k_X10_7 dX10_count_69 ?_
        refine lv_sipush (v := 6240) hx hb dX10_count_72 (by decide) ?_
        refine lv_bipush (v := 62) hx hb dX10_count_75 (by decide) ?_
        refine lv_iload hx hb dX10_count_77 (lv_at hl 5 rfl) ?_
        refine lv_imul hx hb dX10_count_79 ?_
        refine lv_iadd hx hb dX10_count_80 ?_
        obtain ⟨c28, hf⟩ := chk_some hf
        refine LM_1 X h c28 dX10_count_81 ?_
        refine lv_iadd hx hb dX10_count_82 ?_
        obtain ⟨z29, ez29, hf⟩ := bnd_some hf
        refine nm_i (Option.some.inj ez29) ?_
        refine lv_istore (lv' := [(4, .int z29), (0, .ref (gq G 0)), (1, .int x1), (2, .int x2), (3, .int x3), (5, .int x5)]) hx hb dX10_count_83 hl (by decide) rfl (fun ls hl => ?_)
        refine lv_iinc (v := x5 + (1 : Int32)) (lv' := [(5, .int (x5 + (1 : Int32))), (4, .int z29), (0, .ref (gq G 0)), (1, .int x1), (2, .int x2), (3, .int x3)]) hx hb dX10_count_85 hl (k := 5) rfl (by rfl) (by decide) rfl (fun ls hl => ?_)
        refine lv_goto (tgt := 59) hx hb dX10_count_88 (by decide) ?_
        exact ih59 _ _ _ _ _ _ _ _ _ hf h (lv_sub hl [2, 3, 4, 5, 1, 0] rfl)
  have L12 : ∀ (n12 : Nat) (x1 : Int32) (x2 : Int32) (x3 : Int32) (x4 : Int32) (w : MW) (H : Heap) (locs : List Loc) (ls : Array Slot), f_X10_count_l12 n12 x1 x2 x3 x4 w = some (r, w') → CH G (mw G w) (va_A (mw G w0) s.heap.size) s.heap H locs → lv_has ls 7 [(0, .ref (gq G 0)), (1, .int x1), (2, .int x2), (3, .int x3), (4, .int x4)] → W p l e { frames := 2, cells := 0, slots := 4096 * 0, locals := 43 } s m args below meth c H locs 0 (4096 * 0) (MQ below (QI G (mw G w0) s.heap.size r (fun _ => mw G (w'))) args s 0 (4096 * 0) (va_A (mw G w0) s.heap.size)) (F0 m 12 ls []) := by
    intro n12
    induction n12 with
    | zero =>
      intro x1 x2 x3 x4 w H locs ls hf h hl
      cases (show (none : Option (Int32 × MW)) = some _ from hf)
    | succ n12 ih12 =>
      have J34 : ∀ (x1 : Int32) (x3 : Int32) (x4 : Int32) (xs0 : Int32) (xs1 : Int32) (w : MW) (H : Heap) (locs : List Loc) (ls : Array Slot), f_X10_count_b34 (f_X10_count_l12 n12) x1 x3 x4 xs0 xs1 w = some (r, w') → CH G (mw G w) (va_A (mw G w0) s.heap.size) s.heap H locs → lv_has ls 7 [(0, .ref (gq G 0)), (1, .int x1), (3, .int x3), (4, .int x4)] → W p l e { frames := 2, cells := 0, slots := 4096 * 0, locals := 43 } s m args below meth c H locs 0 (4096 * 0) (MQ below (QI G (mw G w0) s.heap.size r (fun _ => mw G (w'))) args s 0 (4096 * 0) (va_A (mw G w0) s.heap.size)) (F0 m 34 ls [.int xs1, .int xs0]) := by
        intro x1 x3 x4 xs0 xs1 w H locs ls hf h hl
        unfold f_X10_count_b34 at hf
        refine lv_iadd hx hb dX10_count_34 ?_
        refine lv_istore_n (lv' := [(2, .int (xs0 + xs1)), (0, .ref (gq G 0)), (1, .int x1), (3, .int x3), (4, .int x4)]) hx hb dX10_count_35 rfl hl (by decide) rfl (fun ls hl => ?_)
        refine lv_iload_n hx hb dX10_count_36 rfl (lv_at hl 3 rfl) ?_
        refine lv_aload_n hx hb dX10_count_37 rfl (lv_at hl 1 rfl) ?_
        refine lv_iload hx hb dX10_count_38 (lv_at hl 4 rfl) ?_
        refine lv_bipush (v := 26) hx hb dX10_count_40 (by decide) ?_
        obtain ⟨y30, ey30, hf⟩ := bnd_some hf
        refine k_X10_of X h ey30 k_X10_75 dX10_count_42 hl.1 ⟨(Nat.le_of_ble_eq_true rfl), (Nat.le_of_ble_eq_true rfl)⟩ (Nat.le_of_ble_eq_true rfl) ⟨Nat.zero_le _, Nat.zero_le _⟩ ?_
        refine lv_iadd hx hb dX10_count_45 ?_
        refine lv_istore_n (lv' := [(3, .int (x3 + y30)), (2, .int (xs0 + xs1)), (0, .ref (gq G 0)), (1, .int x1), (4, .int x4)]) hx hb dX10_count_46 rfl hl (by decide) rfl (fun ls hl => ?_)
        refine lv_iinc (v := x4 + (1 : Int32)) (lv' := [(4, .int (x4 + (1 : Int32))), (3, .int (x3 + y30)), (2, .int (xs0 + xs1)), (0, .ref (gq G 0)), (1, .int x1)]) hx hb dX10_count_47 hl (k := 4) rfl (by rfl) (by decide) rfl (fun ls hl => ?_)
        refine lv_goto (tgt := 12) hx hb dX10_count_50 (by decide) ?_
        exact ih12 _ _ _ _ _ _ _ _ hf h (lv_sub hl [3, 4, 2, 1, 0] rfl)
      intro x1 x2 x3 x4 w H locs ls hf h hl
      have hf : f_X10_count_l12_body (f_X10_count_l12 n12) x1 x2 x3 x4 w = _ := hf
      unfold f_X10_count_l12_body at hf
      refine lv_iload hx hb dX10_count_12 (lv_at hl 4 rfl) ?_
      refine lv_bipush (v := 60) hx hb dX10_count_14 (by decide) ?_
      refine lv_icmp_ge (tgt := 53) hx hb dX10_count_16 (by decide) (fun c31 => ?_) (fun c31 => ?_)
      · have hf := if_t c31 hf
        refine lv_iconst (v := 0) hx hb dX10_count_53 (by decide) ?_
        refine lv_istore (lv' := [(4, .int ((0 : Int32))), (0, .ref (gq G 0)), (1, .int x1), (2, .int x2), (3, .int x3)]) hx hb dX10_count_54 hl (by decide) rfl (fun ls hl => ?_)
        refine lv_iconst (v := 0) hx hb dX10_count_56 (by decide) ?_
        refine lv_istore (lv' := [(5, .int ((0 : Int32))), (4, .int ((0 : Int32))), (0, .ref (gq G 0)), (1, .int x1), (2, .int x2), (3, .int x3)]) hx hb dX10_count_57 hl (by decide) rfl (fun ls hl => ?_)
        exact L59 FU _ _ _ _ _ _ _ _ _ hf h (lv_sub hl [2, 3, 4, 5, 1, 0] rfl)
      · have hf := if_f c31 hf
        refine lv_iload_n hx hb dX10_count_19 rfl (lv_at hl 2 rfl) ?_
        refine lv_aload_n hx hb dX10_count_20 rfl (lv_at hl 0 rfl) ?_
        refine lv_iload hx hb dX10_count_21 (lv_at hl 4 rfl) ?_
        obtain ⟨y32, ey32, hf⟩ := bnd_some hf
        refine k_X10_isThere X h ey32 k_X10_110 dX10_count_23 hl.1 ⟨(Nat.le_of_ble_eq_true rfl), (Nat.le_of_ble_eq_true rfl)⟩ (Nat.le_of_ble_eq_true rfl) ⟨Nat.zero_le _, Nat.zero_le _⟩ ?_
        refine lv_if_eq (tgt := 33) hx hb dX10_count_26 (by decide) (fun c33 => ?_) (fun c33 => ?_)
        · have hf := if_t c33 hf
          refine lv_iconst (v := 0) hx hb dX10_count_33 (by decide) ?_
          exact J34 _ _ _ _ _ _ _ _ _ hf h (lv_sub hl [0, 1, 3, 4] rfl)
        · have hf := if_f c33 hf
          refine lv_iconst (v := 1) hx hb dX10_count_29 (by decide) ?_
          refine lv_goto (tgt := 34) hx hb dX10_count_30 (by decide) ?_
          exact J34 _ _ _ _ _ _ _ _ _ hf h (lv_sub hl [0, 1, 3, 4] rfl)
  obtain ⟨w, rfl⟩ : ∃ z, z = w0 := ⟨_, rfl⟩
  have hl : lv_has ls 7 [(0, .ref (gq G 0)), (1, .int x1)] := hl
  unfold f_X10_count at hf
  refine lv_aload_n hx hb dX10_count_0 rfl (lv_at hl 0 rfl) ?_
  refine lv_iconst (v := 0) hx hb dX10_count_1 (by decide) ?_
  refine PM_0_0 X h k_X10_53 dX10_count_2 (fun H locs h => ?_)
  refine lv_iconst (v := 0) hx hb dX10_count_5 (by decide) ?_
  refine lv_istore_n (lv' := [(2, .int ((0 : Int32))), (0, .ref (gq G 0)), (1, .int x1)]) hx hb dX10_count_6 rfl hl (by decide) rfl (fun ls hl => ?_)
  refine lv_iconst (v := 0) hx hb dX10_count_7 (by decide) ?_
  refine lv_istore_n (lv' := [(3, .int ((0 : Int32))), (2, .int ((0 : Int32))), (0, .ref (gq G 0)), (1, .int x1)]) hx hb dX10_count_8 rfl hl (by decide) rfl (fun ls hl => ?_)
  refine lv_iconst (v := 0) hx hb dX10_count_9 (by decide) ?_
  refine lv_istore (lv' := [(4, .int ((0 : Int32))), (3, .int ((0 : Int32))), (2, .int ((0 : Int32))), (0, .ref (gq G 0)), (1, .int x1)]) hx hb dX10_count_10 hl (by decide) rfl (fun ls hl => ?_)
  exact L12 FU _ _ _ _ _ _ _ _ hf h (lv_sub hl [3, 4, 2, 1, 0] rfl)
theorem m_X10_count : Cond.instanceMethod yX10_count ∈ lw_good ∧ Cond.selects RX10 yX10_count yX10_count ∈ lw_good ∧ Cond.initialized RX10 ∈ lw_good ∧ Cond.code yX10_count cX10_count 7 (some .int) ∈ lw_good := by decide +kernel
theorem k_X10_count {p : Program} {l : Launch} {e : Env} {R : Room} {s : State} {m : MethodId} {args : Array Value} {below : List Frame} {meth : Method} {c : Code} {H : Heap} {locs : List Loc} {cells slots : Nat} {Q : State → Prop} {cc : ByteArray} {nL pc idx : Nat} {ls : Array Slot} {rest : List Value} {own : String} {G : Gm} {A : Nat → Prop} {H0 : Heap} {w : MW} {x1 : Int32} {y : Int32 × MW} (X : CX own cc nL G p s m args c) (h : CH G (mw G w) A H0 H locs) (hA : ∀ q, H0.size ≤ q → A q) (hf : f_X10_count x1 w = some y) (hlk : Cond.methodLink own idx yX10_count ∈ lw_good) (hd : decode cc pc = .ok (.invokevirtual idx, 3)) (hsz : ls.size = nL) (hR : 3 ≤ R.frames ∧ 69 ≤ R.locals) (hrest : (rest.map fun v => v.category).sum ≤ 8) (hk : cells ≤ R.cells ∧ slots ≤ R.slots) (k : ∀ (H : Heap) (locs : List Loc), CH G (mw G y.2) A H0 H locs → W p l e R s m args below meth c H locs cells slots Q (F0 m (pc + 3) ls (.int y.1 :: rest))) : W p l e R s m args below meth c H locs cells slots Q (F0 m pc ls (.int x1 :: .ref (gq G 0) :: rest)) :=
  fin_i (n := 0) (runV (As := [.int x1]) X.1 1 (t_X10_count l G w x1 y.1 y.2 hf _) rfl rfl hlk m_X10_count (by decide +kernel) ⟨hR.1, hR.2⟩ ⟨blindM, va_recv X.2.1 h.1 (ci := 9) (q0 := 0) rfl rfl, preM X.2 h⟩ rfl hsz hrest hd hk) h hA (fun _ H locs h => k H locs h)
def f_X10_back_l70_body (kself : (Int32 → MW → Option (Int32 × MW))) (x2 : Int32) (w : MW) : Option (Int32 × MW) :=
 if (w 0 4) ≤ x2 then
 (chk (inb ((11344 : Int32)) 11360) (
 some (w 1 ((11344 : Int32)).toNatClampNeg, w)))
 else
 (chk (inb (((mst w 0 4 ((w 0 4) - ((1 : Int32)))) 0 4) &&& ((524287 : Int32))) 524288) (
 chk (inb (((mst w 0 4 ((w 0 4) - ((1 : Int32)))) 0 4) &&& ((524287 : Int32))) 524288) (
 chk (inb ((mst w 0 4 ((w 0 4) - ((1 : Int32)))) 2 (((mst w 0 4 ((w 0 4) - ((1 : Int32)))) 0 4) &&& ((524287 : Int32))).toNatClampNeg) 11360) (
 (some (mst (mst w 0 4 ((w 0 4) - ((1 : Int32)))) 1 ((mst w 0 4 ((w 0 4) - ((1 : Int32)))) 2 (((mst w 0 4 ((w 0 4) - ((1 : Int32)))) 0 4) &&& ((524287 : Int32))).toNatClampNeg).toNatClampNeg ((mst w 0 4 ((w 0 4) - ((1 : Int32)))) 3 (((mst w 0 4 ((w 0 4) - ((1 : Int32)))) 0 4) &&& ((524287 : Int32))).toNatClampNeg))).bind fun w6 =>
 kself x2 w6))))
def f_X10_back_l70 : Nat → Int32 → MW → Option (Int32 × MW)
  | 0, _, _ => none
  | n + 1, x2, w => f_X10_back_l70_body (f_X10_back_l70 n) x2 w
def f_X10_back (x1 : Int32) (w : MW) : Option (Int32 × MW) :=
 (f_X10_in x1 ((1 : Int32)) ((300 : Int32))).bind fun y7 =>
 if y7 = 0 then
 (some ((-2 : Int32), mst w 0 0 ((0 : Int32))))
 else
 (chk (inb ((11344 : Int32)) 11360) (
 if ((mst w 0 0 ((0 : Int32))) 1 ((11344 : Int32)).toNatClampNeg) = 0 then
 (some ((-3 : Int32), mst w 0 0 ((0 : Int32))))
 else
 (chk (inb ((11344 : Int32)) 11360) (
 if x1 ≤ (((mst w 0 0 ((0 : Int32))) 1 ((11344 : Int32)).toNatClampNeg) - ((mst w 0 0 ((0 : Int32))) 0 6)) then
 (chk (inb ((11344 : Int32)) 11360) (
 chk (inb ((((mst w 0 0 ((0 : Int32))) 1 ((11344 : Int32)).toNatClampNeg) - x1) - (((mst w 0 0 ((0 : Int32))) 1 ((11344 : Int32)).toNatClampNeg) - x1) / ((301 : Int32)) * ((301 : Int32))) 301) (
 (some ((mst w 0 0 ((0 : Int32))) 4 ((((mst w 0 0 ((0 : Int32))) 1 ((11344 : Int32)).toNatClampNeg) - x1) - (((mst w 0 0 ((0 : Int32))) 1 ((11344 : Int32)).toNatClampNeg) - x1) / ((301 : Int32)) * ((301 : Int32))).toNatClampNeg)).bind fun z15 =>
 f_X10_back_l70 FU z15 (mst w 0 0 ((0 : Int32))))))
 else
 (some ((-3 : Int32), mst w 0 0 ((0 : Int32))))))))
set_option maxHeartbeats 4000000 in
set_option maxRecDepth 100000 in
theorem t_X10_back (l : Launch) (G : Gm) (w0 : MW) (x1 : Int32) (r : Int32) (w' : MW) (hf : f_X10_back x1 w0 = some (r, w')) : MetI l yX10_back cX10_back 3 (some .int) 1 22 G (mw G w0) [.ref (gq G 0), .int x1] r (fun _ => mw G (w')) 0 := by
  intro sz
  refine ent (own := RX10) (As := [.ref (gq G 0), .int x1]) (by decide +kernel) rfl (Nat.le_of_ble_eq_true rfl) (fun _ _ h => h.1) ?_
  intro p e s m args below meth c ls B hr hlocks hv hl
  obtain ⟨-, hsz, hP, hKK, hD⟩ := hv
  subst hsz
  have X : CX RX10 cX10_back 3 G p s m args c := ⟨B, hKK⟩
  obtain ⟨hx, hb, hml, hown, hts⟩ := id B
  have hA : ∀ q : Nat, s.heap.size ≤ q → va_A (mw G w0) s.heap.size q := fun q z => Or.inr z
  have h : CH G (mw G w0) (va_A (mw G w0) s.heap.size) s.heap s.heap [] := ⟨hP, hD.self, va_S.rf⟩
  have L70 : ∀ (n70 : Nat) (x2 : Int32) (w : MW) (H : Heap) (locs : List Loc) (ls : Array Slot), f_X10_back_l70 n70 x2 w = some (r, w') → CH G (mw G w) (va_A (mw G w0) s.heap.size) s.heap H locs → lv_has ls 3 [(0, .ref (gq G 0)), (2, .int x2)] → W p l e { frames := 1, cells := 0, slots := 4096 * 0, locals := 22 } s m args below meth c H locs 0 (4096 * 0) (MQ below (QI G (mw G w0) s.heap.size r (fun _ => mw G (w'))) args s 0 (4096 * 0) (va_A (mw G w0) s.heap.size)) (F0 m 70 ls []) := by
    intro n70
    induction n70 with
    | zero =>
      intro x2 w H locs ls hf h hl
      cases (show (none : Option (Int32 × MW)) = some _ from hf)
    | succ n70 ih70 =>
      intro x2 w H locs ls hf h hl
      have hf : f_X10_back_l70_body (f_X10_back_l70 n70) x2 w = _ := hf
      unfold f_X10_back_l70_body at hf
      refine lv_aload_n hx hb dX10_back_70 rfl (lv_at hl 0 rfl) ?_
      refine GM_0_4 X h k_X10_57 dX10_back_71 ?_
      refine lv_iload_n hx hb dX10_back_74 rfl (lv_at hl 1 rfl) ?_
      refine lv_icmp_le (tgt := 120) hx hb dX10_back_75 (by decide) (fun c1 => ?_) (fun c1 => ?_)
      · have hf := if_t c1 hf
        refine lv_aload_n hx hb dX10_back_120 rfl (lv_at hl 0 rfl) ?_
        refine GM_0_1 X h k_X10_7 dX10_back_121 ?_
        refine lv_sipush (v := 11344) hx hb dX10_back_124 (by decide) ?_
        obtain ⟨c2, hf⟩ := chk_some hf
        refine LM_1 X h c2 dX10_back_127 ?_
        exact e0_i (Wf := mw G) X.1 hr hlocks hf h dX10_back_128
      · have hf := if_f c1 hf
        refine lv_aload_n hx hb dX10_back_78 rfl (lv_at hl 0 rfl) ?_
        refine lv_dup hx hb dX10_back_79 rfl ?_
        refine GM_0_4 X h k_X10_57 dX10_back_80 ?_
        refine lv_iconst (v := 1) hx hb dX10_back_83 (by decide) ?_
        refine lv_isub hx hb dX10_back_84 ?_
        refine PM_0_4 X h k_X10_57 dX10_back_85 (fun H locs h => ?_)
        refine lv_aload_n hx hb dX10_back_88 rfl (lv_at hl 0 rfl) ?_
        refine GM_0_1 X h k_X10_7 dX10_back_89 ?_
        refine lv_aload_n hx hb dX10_back_92 rfl (lv_at hl 0 rfl) ?_
        refine GM_0_2 X h k_X10_14 dX10_back_93 ?_
        refine lv_aload_n hx hb dX10_back_96 rfl (lv_at hl 0 rfl) ?_
        refine GM_0_4 X h k_X10_57 dX10_back_97 ?_
        refine lv_ldc (v := 524287) hx hb hown (hts _ k_X10_60) dX10_back_100 ?_
        refine lv_iand hx hb dX10_back_102 ?_
        obtain ⟨c3, hf⟩ := chk_some hf
        refine LM_2 X h c3 dX10_back_103 ?_
        refine lv_aload_n hx hb dX10_back_104 rfl (lv_at hl 0 rfl) ?_
        refine GM_0_3 X h k_X10_17 dX10_back_105 ?_
        refine lv_aload_n hx hb dX10_back_108 rfl (lv_at hl 0 rfl) ?_
        refine GM_0_4 X h k_X10_57 dX10_back_109 ?_
        refine lv_ldc (v := 524287) hx hb hown (hts _ k_X10_60) dX10_back_112 ?_
        refine lv_iand hx hb dX10_back_114 ?_
        obtain ⟨c4, hf⟩ := chk_some hf
        refine LM_3 X h c4 dX10_back_115 ?_
        obtain ⟨c5, hf⟩ := chk_some hf
        refine SM_1 X h c5 dX10_back_116 (fun H locs h => ?_)
        obtain ⟨w6, ew6, hf⟩ := bnd_some hf
        have h := (Option.some.inj ew6) ▸ h
        refine lv_goto (tgt := 70) hx hb dX10_back_117 (by decide) ?_
        exact ih70 _ _ _ _ _ hf h (lv_sub hl [0, 1] rfl)
  obtain ⟨w, rfl⟩ : ∃ z, z = w0 := ⟨_, rfl⟩
  have hl : lv_has ls 3 [(0, .ref (gq G 0)), (1, .int x1)] := hl
  unfold f_X10_back at hf
  refine lv_aload_n hx hb dX10_back_0 rfl (lv_at hl 0 rfl) ?_
  refine lv_iconst (v := 0) hx hb dX10_back_1 (by decide) ?_
  refine PM_0_0 X h k_X10_53 dX10_back_2 (fun H locs h => ?_)
  refine lv_iload_n hx hb dX10_back_5 rfl (lv_at hl 1 rfl) ?_
  refine lv_iconst (v := 1) hx hb dX10_back_6 (by decide) ?_
  refine lv_sipush (v := 300) hx hb dX10_back_7 (by decide) ?_
  obtain ⟨y7, ey7, hf⟩ := bnd_some hf
  refine k_X10_in X.1 ey7 k_X10_71 dX10_back_10 hl.1 ⟨(Nat.le_of_ble_eq_true rfl), (Nat.le_of_ble_eq_true rfl)⟩ (Nat.le_of_ble_eq_true rfl) ⟨Nat.zero_le _, Nat.zero_le _⟩ ?_
  refine lv_if_ne (tgt := 19) hx hb dX10_back_13 (by decide) (fun c8 => ?_) (fun c8 => ?_)
  · have hf := if_f c8 hf
    refine lv_aload_n hx hb dX10_back_19 rfl (lv_at hl 0 rfl) ?_
    refine GM_0_1 X h k_X10_7 dX10_back_20 ?_
    refine lv_sipush (v := 11344) hx hb dX10_back_23 (by decide) ?_
    obtain ⟨c9, hf⟩ := chk_some hf
    refine LM_1 X h c9 dX10_back_26 ?_
    refine lv_if_eq (tgt := 47) hx hb dX10_back_27 (by decide) (fun c10 => ?_) (fun c10 => ?_)
    · have hf := if_t c10 hf
      refine lv_bipush (v := (-3)) hx hb dX10_back_47 (by decide) ?_
      exact e0_i (Wf := mw G) X.1 hr hlocks hf h dX10_back_49
    · have hf := if_f c10 hf
      refine lv_iload_n hx hb dX10_back_30 rfl (lv_at hl 1 rfl) ?_
      refine lv_aload_n hx hb dX10_back_31 rfl (lv_at hl 0 rfl) ?_
      refine GM_0_1 X h k_X10_7 dX10_back_32 ?_
      refine lv_sipush (v := 11344) hx hb dX10_back_35 (by decide) ?_
      obtain ⟨c11, hf⟩ := chk_some hf
      refine LM_1 X h c11 dX10_back_38 ?_
      refine lv_aload_n hx hb dX10_back_39 rfl (lv_at hl 0 rfl) ?_
      refine GM_0_6 X h k_X10_178 dX10_back_40 ?_
      refine lv_isub hx hb dX10_back_43 ?_
      refine lv_icmp_le (tgt := 50) hx hb dX10_back_44 (by decide) (fun c12 => ?_) (fun c12 => ?_)
      · have hf := if_t c12 hf
        refine lv_aload_n hx hb dX10_back_50 rfl (lv_at hl 0 rfl) ?_
        refine GM_0_5 X h k_X10_20 dX10_back_51 ?_
        refine lv_aload_n hx hb dX10_back_54 rfl (lv_at hl 0 rfl) ?_
        refine GM_0_1 X h k_X10_7 dX10_back_55 ?_
        refine lv_sipush (v := 11344) hx hb dX10_back_58 (by decide) ?_
        obtain ⟨c13, hf⟩ := chk_some hf
        refine LM_1 X h c13 dX10_back_61 ?_
        refine lv_iload_n hx hb dX10_back_62 rfl (lv_at hl 1 rfl) ?_
        refine lv_isub hx hb dX10_back_63 ?_
        refine lv_sipush (v := 301) hx hb dX10_back_64 (by decide) ?_
        refine lv_irem hx hb dX10_back_67 (by decide) ?_
        obtain ⟨c14, hf⟩ := chk_some hf
        refine LM_4 X h c14 dX10_back_68 ?_
        obtain ⟨z15, ez15, hf⟩ := bnd_some hf
        refine nm_i (Option.some.inj ez15) ?_
        refine lv_istore_n (lv' := [(2, .int z15), (0, .ref (gq G 0)), (1, .int x1)]) hx hb dX10_back_69 rfl hl (by decide) rfl (fun ls hl => ?_)
        exact L70 FU _ _ _ _ _ hf h (lv_sub hl [1, 0] rfl)
      · have hf := if_f c12 hf
        refine lv_bipush (v := (-3)) hx hb dX10_back_47 (by decide) ?_
        exact e0_i (Wf := mw G) X.1 hr hlocks hf h dX10_back_49
  · have hf := if_t c8 hf
    refine lv_bipush (v := (-2)) hx hb dX10_back_16 (by decide) ?_
    exact e0_i (Wf := mw G) X.1 hr hlocks hf h dX10_back_18
theorem m_X10_back : Cond.instanceMethod yX10_back ∈ lw_good ∧ Cond.selects RX10 yX10_back yX10_back ∈ lw_good ∧ Cond.initialized RX10 ∈ lw_good ∧ Cond.code yX10_back cX10_back 3 (some .int) ∈ lw_good := by decide +kernel
theorem k_X10_back {p : Program} {l : Launch} {e : Env} {R : Room} {s : State} {m : MethodId} {args : Array Value} {below : List Frame} {meth : Method} {c : Code} {H : Heap} {locs : List Loc} {cells slots : Nat} {Q : State → Prop} {cc : ByteArray} {nL pc idx : Nat} {ls : Array Slot} {rest : List Value} {own : String} {G : Gm} {A : Nat → Prop} {H0 : Heap} {w : MW} {x1 : Int32} {y : Int32 × MW} (X : CX own cc nL G p s m args c) (h : CH G (mw G w) A H0 H locs) (hA : ∀ q, H0.size ≤ q → A q) (hf : f_X10_back x1 w = some y) (hlk : Cond.methodLink own idx yX10_back ∈ lw_good) (hd : decode cc pc = .ok (.invokevirtual idx, 3)) (hsz : ls.size = nL) (hR : 2 ≤ R.frames ∧ 44 ≤ R.locals) (hrest : (rest.map fun v => v.category).sum ≤ 8) (hk : cells ≤ R.cells ∧ slots ≤ R.slots) (k : ∀ (H : Heap) (locs : List Loc), CH G (mw G y.2) A H0 H locs → W p l e R s m args below meth c H locs cells slots Q (F0 m (pc + 3) ls (.int y.1 :: rest))) : W p l e R s m args below meth c H locs cells slots Q (F0 m pc ls (.int x1 :: .ref (gq G 0) :: rest)) :=
  fin_i (n := 0) (runV (As := [.int x1]) X.1 1 (t_X10_back l G w x1 y.1 y.2 hf _) rfl rfl hlk m_X10_back (by decide +kernel) ⟨hR.1, hR.2⟩ ⟨blindM, va_recv X.2.1 h.1 (ci := 9) (q0 := 0) rfl rfl, preM X.2 h⟩ rfl hsz hrest hd hk) h hA (fun _ H locs h => k H locs h)
