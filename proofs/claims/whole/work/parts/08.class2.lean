def f_X9_isTube (x0 : Int32) : Option Int32 :=
 (f_X9_within x0 ((0 : Int32)) ((11 : Int32))).bind fun y1 =>
 chk (y1 = 0 ∨ y1 = 1) (
 some y1)
set_option maxHeartbeats 4000000 in
set_option maxRecDepth 100000 in
theorem t_X9_isTube (l : Launch) (x0 : Int32) (r : Int32) (hf : f_X9_isTube x0 = some r) : MetP l yX9_isTube cX9_isTube 1 (some .boolean) 1 22 [.int x0] (.int r) := by
  refine ent (own := RX9) (As := [.int x0]) (by decide +kernel) rfl (Nat.le_of_ble_eq_true rfl) (fun _ _ h => h.1) ?_
  intro p e s m args below meth c ls B hr hlocks hv hl
  obtain ⟨hx, hb, hml, hown, hts⟩ := id B
  have hl : lv_has ls 1 [(0, .int x0)] := hl
  unfold f_X9_isTube at hf
  refine lv_iload_n hx hb dX9_isTube_0 rfl (lv_at hl 0 rfl) ?_
  refine lv_iconst (v := 0) hx hb dX9_isTube_1 (by decide) ?_
  refine lv_bipush (v := 11) hx hb dX9_isTube_2 (by decide) ?_
  obtain ⟨y1, ey1, hf⟩ := bnd_some hf
  refine k_X9_within B ey1 k_X9_92 dX9_isTube_4 hl.1 ⟨(Nat.le_of_ble_eq_true rfl), (Nat.le_of_ble_eq_true rfl)⟩ (Nat.le_of_ble_eq_true rfl) ⟨Nat.zero_le _, Nat.zero_le _⟩ ?_
  obtain ⟨c2, hf⟩ := chk_some hf
  cases hf
  exact rr_z B hr hlocks c2 dX9_isTube_7
theorem m_X9_isTube : Cond.static yX9_isTube ∈ lw_good ∧ Cond.initialized yX9_isTube.cls ∈ lw_good ∧ Cond.code yX9_isTube cX9_isTube 1 (some .boolean) ∈ lw_good := by decide +kernel
theorem k_X9_isTube {p : Program} {l : Launch} {e : Env} {R : Room} {s : State} {m : MethodId} {args : Array Value} {below : List Frame} {meth : Method} {c : Code} {H : Heap} {locs : List Loc} {cells slots : Nat} {Q : State → Prop} {cc : ByteArray} {nL pc idx : Nat} {ls : Array Slot} {rest : List Value} {own : String} {x0 : Int32} {r : Int32} (B : CB own cc nL p s m args c) (hf : f_X9_isTube x0 = some r) (hlk : Cond.methodLink own idx yX9_isTube ∈ lw_good) (hd : decode cc pc = .ok (.invokestatic idx, 3)) (hsz : ls.size = nL) (hR : 2 ≤ R.frames ∧ 42 ≤ R.locals) (hrest : (rest.map fun v => v.category).sum ≤ 8) (hk : cells ≤ R.cells ∧ slots ≤ R.slots) (k : W p l e R s m args below meth c H locs cells slots Q (F0 m (pc + 3) ls (.int r :: rest))) : W p l e R s m args below meth c H locs cells slots Q (F0 m pc ls (.int x0 :: rest)) :=
  fin_r (runS (As := [.int x0]) B 1 (t_X9_isTube l x0 r hf) rfl rfl hlk m_X9_isTube (by decide +kernel) ⟨hR.1, hR.2⟩ ⟨blindP, preP⟩ rfl hsz hrest hd hk) k
theorem kn_X9_isTube {p : Program} {l : Launch} {e : Env} {R : Room} {s : State} {m : MethodId} {args : Array Value} {below : List Frame} {meth : Method} {c : Code} {H : Heap} {locs : List Loc} {cells slots : Nat} {Q : State → Prop} {cc : ByteArray} {nL pc idx : Nat} {ls : Array Slot} {rest : List Value} {own : String} {x0 : Int32} {r : Int32} (B : CB own cc nL p s m args c) (hf : f_X9_isTube x0 = some r) (hlk : va_Nw (.methodLinkNest own idx yX9_isTube RX9) s) (hd : decode cc pc = .ok (.invokestatic idx, 3)) (hsz : ls.size = nL) (hR : 2 ≤ R.frames ∧ 42 ≤ R.locals) (hrest : (rest.map fun v => v.category).sum ≤ 8) (hk : cells ≤ R.cells ∧ slots ≤ R.slots) (k : W p l e R s m args below meth c H locs cells slots Q (F0 m (pc + 3) ls (.int r :: rest))) : W p l e R s m args below meth c H locs cells slots Q (F0 m pc ls (.int x0 :: rest)) :=
  fin_r (runSN (As := [.int x0]) B 1 (t_X9_isTube l x0 r hf) rfl rfl hlk m_X9_isTube (by decide +kernel) ⟨hR.1, hR.2⟩ ⟨blindP, preP⟩ rfl hsz hrest hd hk) k
def f_X6_anotherHas_b31 (k2 : (Int32 → Int32 → Int32 → CW → Option Int32)) (x1 : Int32) (x2 : Int32) (x3 : Int32) (w : CW) : Option Int32 :=
 k2 x1 x2 (x3 + (1 : Int32)) w
def f_X6_anotherHas_l2_body (kself : (Int32 → Int32 → Int32 → CW → Option Int32)) (x1 : Int32) (x2 : Int32) (x3 : Int32) (w : CW) : Option Int32 :=
 if ((12 : Int32)) ≤ x3 then
 (some ((0 : Int32)))
 else
 (if x3 = x1 then
 (f_X6_anotherHas_b31 kself x1 x2 x3 w)
 else
 ((f_X1_get (((8420 : Int32)) + x3) w).bind fun y3 =>
 if y3 = x2 then
 (some ((1 : Int32)))
 else
 (f_X6_anotherHas_b31 kself x1 x2 x3 w)))
def f_X6_anotherHas_l2 : Nat → Int32 → Int32 → Int32 → CW → Option Int32
  | 0, _, _, _, _ => none
  | n + 1, x1, x2, x3, w => f_X6_anotherHas_l2_body (f_X6_anotherHas_l2 n) x1 x2 x3 w
def f_X6_anotherHas (x1 : Int32) (x2 : Int32) (w : CW) : Option Int32 :=
 f_X6_anotherHas_l2 FU x1 x2 ((0 : Int32)) w
set_option maxHeartbeats 4000000 in
set_option maxRecDepth 100000 in
theorem t_X6_anotherHas (l : Launch) (G : Gm) (la : Nat) (w : CW) (x1 : Int32) (x2 : Int32) (r : Int32) (hf : f_X6_anotherHas x1 x2 w = some r) : MetR l yX6_anotherHas cX6_anotherHas 4 (some .boolean) 1 21 G (cw G la w) [.ref (gq G 2), .int x1, .int x2] (.int r) := by
  refine ent (own := RX6) (As := [.ref (gq G 2), .int x1, .int x2]) (by decide +kernel) rfl (Nat.le_of_ble_eq_true rfl) (fun _ _ h => h.1) ?_
  intro p e s m args below meth c ls B hr hlocks hv hl
  obtain ⟨-, hP, hKK, hD⟩ := hv
  have X : CX RX6 cX6_anotherHas 4 G p s m args c := ⟨B, hKK⟩
  obtain ⟨hx, hb, hml, hown, hts⟩ := id B
  have h : CH G (cw G la w) (fun _ => True) s.heap s.heap [] := ⟨hP, hD, va_S.rf⟩
  have L2 : ∀ (n2 : Nat) (x1 : Int32) (x2 : Int32) (x3 : Int32) (ls : Array Slot), f_X6_anotherHas_l2 n2 x1 x2 x3 w = some r → lv_has ls 4 [(0, .ref (gq G 2)), (1, .int x1), (2, .int x2), (3, .int x3)] → W p l e { frames := 1, cells := 0, slots := 0, locals := 21 } s m args below meth c s.heap [] 0 0 (MQ below (QcV (.int r)) args s 0 0 (fun _ => False)) (F0 m 2 ls []) := by
    intro n2
    induction n2 with
    | zero =>
      intro x1 x2 x3 ls hf hl
      cases (show (none : Option Int32) = some _ from hf)
    | succ n2 ih2 =>
      have J31 : ∀ (x1 : Int32) (x2 : Int32) (x3 : Int32) (ls : Array Slot), f_X6_anotherHas_b31 (f_X6_anotherHas_l2 n2) x1 x2 x3 w = some r → lv_has ls 4 [(0, .ref (gq G 2)), (1, .int x1), (2, .int x2), (3, .int x3)] → W p l e { frames := 1, cells := 0, slots := 0, locals := 21 } s m args below meth c s.heap [] 0 0 (MQ below (QcV (.int r)) args s 0 0 (fun _ => False)) (F0 m 31 ls []) := by
        intro x1 x2 x3 ls hf hl
        unfold f_X6_anotherHas_b31 at hf
        refine lv_iinc (v := x3 + (1 : Int32)) (lv' := [(3, .int (x3 + (1 : Int32))), (0, .ref (gq G 2)), (1, .int x1), (2, .int x2)]) hx hb dX6_anotherHas_31 hl (k := 3) rfl (by rfl) (by decide) rfl (fun ls hl => ?_)
        refine lv_goto (tgt := 2) hx hb dX6_anotherHas_34 (by decide) ?_
        exact ih2 _ _ _ _ hf (lv_sub hl [1, 2, 3, 0] rfl)
      intro x1 x2 x3 ls hf hl
      have hf : f_X6_anotherHas_l2_body (f_X6_anotherHas_l2 n2) x1 x2 x3 w = _ := hf
      unfold f_X6_anotherHas_l2_body at hf
      refine lv_iload_n hx hb dX6_anotherHas_2 rfl (lv_at hl 3 rfl) ?_
      refine lv_bipush (v := 12) hx hb dX6_anotherHas_3 (by decide) ?_
      refine lv_icmp_ge (tgt := 37) hx hb dX6_anotherHas_5 (by decide) (fun c1 => ?_) (fun c1 => ?_)
      · have hf := if_t c1 hf
        refine lv_iconst (v := 0) hx hb dX6_anotherHas_37 (by decide) ?_
        cases hf
        exact rr_z X.1 hr hlocks (Or.inl rfl) dX6_anotherHas_38
      · have hf := if_f c1 hf
        refine lv_iload_n hx hb dX6_anotherHas_8 rfl (lv_at hl 3 rfl) ?_
        refine lv_iload_n hx hb dX6_anotherHas_9 rfl (lv_at hl 1 rfl) ?_
        refine lv_icmp_eq (tgt := 31) hx hb dX6_anotherHas_10 (by decide) (fun c2 => ?_) (fun c2 => ?_)
        · have hf := if_t c2 hf
          exact J31 _ _ _ _ hf (lv_sub hl [0, 1, 2, 3] rfl)
        · have hf := if_f c2 hf
          refine lv_aload_n hx hb dX6_anotherHas_13 rfl (lv_at hl 0 rfl) ?_
          refine GC_2_0 X h k_X6_29 dX6_anotherHas_14 ?_
          refine lv_sipush (v := 8420) hx hb dX6_anotherHas_17 (by decide) ?_
          refine lv_iload_n hx hb dX6_anotherHas_20 rfl (lv_at hl 3 rfl) ?_
          refine lv_iadd hx hb dX6_anotherHas_21 ?_
          obtain ⟨y3, ey3, hf⟩ := bnd_some hf
          refine k_X1_get X h ey3 k_X6_41 dX6_anotherHas_22 hl.1 ⟨(Nat.le_of_ble_eq_true rfl), (Nat.le_of_ble_eq_true rfl)⟩ (Nat.le_of_ble_eq_true rfl) ⟨Nat.zero_le _, Nat.zero_le _⟩ ?_
          refine lv_iload_n hx hb dX6_anotherHas_25 rfl (lv_at hl 2 rfl) ?_
          refine lv_icmp_ne (tgt := 31) hx hb dX6_anotherHas_26 (by decide) (fun c4 => ?_) (fun c4 => ?_)
          · have hf := if_f c4 hf
            exact J31 _ _ _ _ hf (lv_sub hl [0, 1, 2, 3] rfl)
          · have hf := if_t c4 hf
            refine lv_iconst (v := 1) hx hb dX6_anotherHas_29 (by decide) ?_
            cases hf
            exact rr_z X.1 hr hlocks (Or.inr rfl) dX6_anotherHas_30
  have hl : lv_has ls 4 [(0, .ref (gq G 2)), (1, .int x1), (2, .int x2)] := hl
  unfold f_X6_anotherHas at hf
  refine lv_iconst (v := 0) hx hb dX6_anotherHas_0 (by decide) ?_
  refine lv_istore_n (lv' := [(3, .int ((0 : Int32))), (0, .ref (gq G 2)), (1, .int x1), (2, .int x2)]) hx hb dX6_anotherHas_1 rfl hl (by decide) rfl (fun ls hl => ?_)
  exact L2 FU _ _ _ _ hf (lv_sub hl [1, 2, 3, 0] rfl)
theorem m_X6_anotherHas : Cond.instanceMethod yX6_anotherHas ∈ lw_good ∧ Cond.selects RX6 yX6_anotherHas yX6_anotherHas ∈ lw_good ∧ Cond.initialized RX6 ∈ lw_good ∧ Cond.code yX6_anotherHas cX6_anotherHas 4 (some .boolean) ∈ lw_good := by decide +kernel
theorem k_X6_anotherHas {p : Program} {l : Launch} {e : Env} {R : Room} {s : State} {m : MethodId} {args : Array Value} {below : List Frame} {meth : Method} {c : Code} {H : Heap} {locs : List Loc} {cells slots : Nat} {Q : State → Prop} {cc : ByteArray} {nL pc idx : Nat} {ls : Array Slot} {rest : List Value} {own : String} {G : Gm} {A : Nat → Prop} {H0 : Heap} {la : Nat} {w : CW} {x1 : Int32} {x2 : Int32} {r : Int32} (X : CX own cc nL G p s m args c) (h : CH G (cw G la w) A H0 H locs) (hf : f_X6_anotherHas x1 x2 w = some r) (hlk : Cond.methodLink own idx yX6_anotherHas ∈ lw_good) (hd : decode cc pc = .ok (.invokevirtual idx, 3)) (hsz : ls.size = nL) (hR : 2 ≤ R.frames ∧ 44 ≤ R.locals) (hrest : (rest.map fun v => v.category).sum ≤ 8) (hk : cells ≤ R.cells ∧ slots ≤ R.slots) (k : W p l e R s m args below meth c H locs cells slots Q (F0 m (pc + 3) ls (.int r :: rest))) : W p l e R s m args below meth c H locs cells slots Q (F0 m pc ls (.int x2 :: .int x1 :: .ref (gq G 2) :: rest)) :=
  fin_r (runV (As := [.int x1, .int x2]) X.1 2 (t_X6_anotherHas l G la w x1 x2 r hf) rfl rfl hlk m_X6_anotherHas (by decide +kernel) ⟨hR.1, hR.2⟩ ⟨blindR, va_recv X.2.1 h.1 (ci := 5) (q0 := 2) rfl rfl, preR X.2 h⟩ rfl hsz hrest hd hk) k
def f_X6_hasCredit_l2_body (kself : (Int32 → CW → Option Int32)) (x1 : Int32) (w : CW) : Option Int32 :=
 if ((60 : Int32)) ≤ x1 then
 (some ((0 : Int32)))
 else
 ((f_X6_creditOf x1 w).bind fun y2 =>
 if y2 ≤ 0 then
 (kself (x1 + (1 : Int32)) w)
 else
 (some ((1 : Int32))))
def f_X6_hasCredit_l2 : Nat → Int32 → CW → Option Int32
  | 0, _, _ => none
  | n + 1, x1, w => f_X6_hasCredit_l2_body (f_X6_hasCredit_l2 n) x1 w
def f_X6_hasCredit (w : CW) : Option Int32 :=
 f_X6_hasCredit_l2 FU ((0 : Int32)) w
set_option maxHeartbeats 4000000 in
set_option maxRecDepth 100000 in
theorem t_X6_hasCredit (l : Launch) (G : Gm) (la : Nat) (w : CW) (r : Int32) (hf : f_X6_hasCredit w = some r) : MetR l yX6_hasCredit cX6_hasCredit 2 (some .boolean) 2 44 G (cw G la w) [.ref (gq G 2)] (.int r) := by
  refine ent (own := RX6) (As := [.ref (gq G 2)]) (by decide +kernel) rfl (Nat.le_of_ble_eq_true rfl) (fun _ _ h => h.1) ?_
  intro p e s m args below meth c ls B hr hlocks hv hl
  obtain ⟨-, hP, hKK, hD⟩ := hv
  have X : CX RX6 cX6_hasCredit 2 G p s m args c := ⟨B, hKK⟩
  obtain ⟨hx, hb, hml, hown, hts⟩ := id B
  have h : CH G (cw G la w) (fun _ => True) s.heap s.heap [] := ⟨hP, hD, va_S.rf⟩
  have L2 : ∀ (n2 : Nat) (x1 : Int32) (ls : Array Slot), f_X6_hasCredit_l2 n2 x1 w = some r → lv_has ls 2 [(0, .ref (gq G 2)), (1, .int x1)] → W p l e { frames := 2, cells := 0, slots := 0, locals := 44 } s m args below meth c s.heap [] 0 0 (MQ below (QcV (.int r)) args s 0 0 (fun _ => False)) (F0 m 2 ls []) := by
    intro n2
    induction n2 with
    | zero =>
      intro x1 ls hf hl
      cases (show (none : Option Int32) = some _ from hf)
    | succ n2 ih2 =>
      intro x1 ls hf hl
      have hf : f_X6_hasCredit_l2_body (f_X6_hasCredit_l2 n2) x1 w = _ := hf
      unfold f_X6_hasCredit_l2_body at hf
      refine lv_iload_n hx hb dX6_hasCredit_2 rfl (lv_at hl 1 rfl) ?_
      refine lv_bipush (v := 60) hx hb dX6_hasCredit_3 (by decide) ?_
      refine lv_icmp_ge (tgt := 24) hx hb dX6_hasCredit_5 (by decide) (fun c1 => ?_) (fun c1 => ?_)
      · have hf := if_t c1 hf
        refine lv_iconst (v := 0) hx hb dX6_hasCredit_24 (by decide) ?_
        cases hf
        exact rr_z X.1 hr hlocks (Or.inl rfl) dX6_hasCredit_25
      · have hf := if_f c1 hf
        refine lv_aload_n hx hb dX6_hasCredit_8 rfl (lv_at hl 0 rfl) ?_
        refine lv_iload_n hx hb dX6_hasCredit_9 rfl (lv_at hl 1 rfl) ?_
        obtain ⟨y2, ey2, hf⟩ := bnd_some hf
        refine k_X6_creditOf X h ey2 k_X6_47 dX6_hasCredit_10 hl.1 ⟨(Nat.le_of_ble_eq_true rfl), (Nat.le_of_ble_eq_true rfl)⟩ (Nat.le_of_ble_eq_true rfl) ⟨Nat.zero_le _, Nat.zero_le _⟩ ?_
        refine lv_if_le (tgt := 18) hx hb dX6_hasCredit_13 (by decide) (fun c3 => ?_) (fun c3 => ?_)
        · have hf := if_t c3 hf
          refine lv_iinc (v := x1 + (1 : Int32)) (lv' := [(1, .int (x1 + (1 : Int32))), (0, .ref (gq G 2))]) hx hb dX6_hasCredit_18 hl (k := 1) rfl (by rfl) (by decide) rfl (fun ls hl => ?_)
          refine lv_goto (tgt := 2) hx hb dX6_hasCredit_21 (by decide) ?_
          exact ih2 _ _ hf (lv_sub hl [1, 0] rfl)
        · have hf := if_f c3 hf
          refine lv_iconst (v := 1) hx hb dX6_hasCredit_16 (by decide) ?_
          cases hf
          exact rr_z X.1 hr hlocks (Or.inr rfl) dX6_hasCredit_17
  have hl : lv_has ls 2 [(0, .ref (gq G 2))] := hl
  unfold f_X6_hasCredit at hf
  refine lv_iconst (v := 0) hx hb dX6_hasCredit_0 (by decide) ?_
  refine lv_istore_n (lv' := [(1, .int ((0 : Int32))), (0, .ref (gq G 2))]) hx hb dX6_hasCredit_1 rfl hl (by decide) rfl (fun ls hl => ?_)
  exact L2 FU _ _ hf (lv_sub hl [1, 0] rfl)
theorem m_X6_hasCredit : Cond.instanceMethod yX6_hasCredit ∈ lw_good ∧ Cond.selects RX6 yX6_hasCredit yX6_hasCredit ∈ lw_good ∧ Cond.initialized RX6 ∈ lw_good ∧ Cond.code yX6_hasCredit cX6_hasCredit 2 (some .boolean) ∈ lw_good := by decide +kernel
theorem k_X6_hasCredit {p : Program} {l : Launch} {e : Env} {R : Room} {s : State} {m : MethodId} {args : Array Value} {below : List Frame} {meth : Method} {c : Code} {H : Heap} {locs : List Loc} {cells slots : Nat} {Q : State → Prop} {cc : ByteArray} {nL pc idx : Nat} {ls : Array Slot} {rest : List Value} {own : String} {G : Gm} {A : Nat → Prop} {H0 : Heap} {la : Nat} {w : CW} {r : Int32} (X : CX own cc nL G p s m args c) (h : CH G (cw G la w) A H0 H locs) (hf : f_X6_hasCredit w = some r) (hlk : Cond.methodLink own idx yX6_hasCredit ∈ lw_good) (hd : decode cc pc = .ok (.invokevirtual idx, 3)) (hsz : ls.size = nL) (hR : 3 ≤ R.frames ∧ 65 ≤ R.locals) (hrest : (rest.map fun v => v.category).sum ≤ 8) (hk : cells ≤ R.cells ∧ slots ≤ R.slots) (k : W p l e R s m args below meth c H locs cells slots Q (F0 m (pc + 3) ls (.int r :: rest))) : W p l e R s m args below meth c H locs cells slots Q (F0 m pc ls (.ref (gq G 2) :: rest)) :=
  fin_r (runV (As := []) X.1 0 (t_X6_hasCredit l G la w r hf) rfl rfl hlk m_X6_hasCredit (by decide +kernel) ⟨hR.1, hR.2⟩ ⟨blindR, va_recv X.2.1 h.1 (ci := 5) (q0 := 2) rfl rfl, preR X.2 h⟩ rfl hsz hrest hd hk) k
def f_X9_tube (x1 : Int32) (x2 : Int32) (x3 : Int32) (w : CW) : Option ((Int32 × CW) × Nat) :=
 (f_X9_isTube x1).bind fun y1 =>
 if y1 = 0 then
 (some (((-1 : Int32), w), 0))
 else
 ((f_X9_within x2 ((1 : Int32)) ((5000 : Int32))).bind fun y3 =>
 if y3 = 0 then
 (some (((-2 : Int32), w), 0))
 else
 ((f_X9_within x3 ((0 : Int32)) ((1000 : Int32))).bind fun y5 =>
 if y5 = 0 then
 (some (((-2 : Int32), w), 0))
 else
 ((f_X6_anotherHas x1 x2 w).bind fun y7 =>
 if y7 = 0 then
 ((f_X6_hasCredit w).bind fun y9 =>
 if y9 = 0 then
 (bnc (f_X1_set (((8420 : Int32)) + x1) x2 w) fun y11 =>
 bnc (f_X1_set (((8432 : Int32)) + x1) x3 y11) fun y12 =>
 some (((1 : Int32), y12), 0))
 else
 (some (((-3 : Int32), w), 0)))
 else
 (some (((-3 : Int32), w), 0)))))
set_option maxHeartbeats 4000000 in
set_option maxRecDepth 100000 in
theorem t_X9_tube (l : Launch) (G : Gm) (la0 : Nat) (w0 : CW) (x1 : Int32) (x2 : Int32) (x3 : Int32) (r : Int32) (w' : CW) (N : Nat) (hf : f_X9_tube x1 x2 x3 w0 = some ((r, w'), N)) : MetI l yX9_tube cX9_tube 4 (some .int) 4 113 G (cw G la0 w0) [.ref (gq G 0), .int x1, .int x2, .int x3] r (fun u => cw G u w') N := by
  intro sz
  refine ent (own := RX9) (As := [.ref (gq G 0), .int x1, .int x2, .int x3]) (by decide +kernel) rfl (Nat.le_of_ble_eq_true rfl) (fun _ _ h => h.1) ?_
  intro p e s m args below meth c ls B hr hlocks hv hl
  obtain ⟨-, hsz, hP, hKK, hD⟩ := hv
  subst hsz
  have X : CX RX9 cX9_tube 4 G p s m args c := ⟨B, hKK⟩
  obtain ⟨hx, hb, hml, hown, hts⟩ := id B
  have hA : ∀ q : Nat, s.heap.size ≤ q → va_A (cw G la0 w0) s.heap.size q := fun q z => Or.inr z
  have h : CH G (cw G la0 w0) (va_A (cw G la0 w0) s.heap.size) s.heap s.heap [] := ⟨hP, hD.self, va_S.rf⟩
  have hc : 0 + N = N := Nat.zero_add N
  obtain ⟨la, rfl⟩ : ∃ z, z = la0 := ⟨_, rfl⟩
  obtain ⟨w, rfl⟩ : ∃ z, z = w0 := ⟨_, rfl⟩
  have hl : lv_has ls 4 [(0, .ref (gq G 0)), (1, .int x1), (2, .int x2), (3, .int x3)] := hl
  unfold f_X9_tube at hf
  refine wid0 ?_
  refine lv_iload_n hx hb dX9_tube_0 rfl (lv_at hl 1 rfl) ?_
  obtain ⟨y1, ey1, hf⟩ := bnd_some hf
  refine k_X9_isTube X.1 ey1 k_X9_181 dX9_tube_1 hl.1 ⟨(Nat.le_of_ble_eq_true rfl), (Nat.le_of_ble_eq_true rfl)⟩ (Nat.le_of_ble_eq_true rfl) (rmm0 hc) ?_
  refine lv_if_ne (tgt := 9) hx hb dX9_tube_4 (by decide) (fun c2 => ?_) (fun c2 => ?_)
  · have hf := if_f c2 hf
    refine lv_iload_n hx hb dX9_tube_9 rfl (lv_at hl 2 rfl) ?_
    refine lv_iconst (v := 1) hx hb dX9_tube_10 (by decide) ?_
    refine lv_sipush (v := 5000) hx hb dX9_tube_11 (by decide) ?_
    obtain ⟨y3, ey3, hf⟩ := bnd_some hf
    refine k_X9_within X.1 ey3 k_X9_92 dX9_tube_14 hl.1 ⟨(Nat.le_of_ble_eq_true rfl), (Nat.le_of_ble_eq_true rfl)⟩ (Nat.le_of_ble_eq_true rfl) (rmm0 hc) ?_
    refine lv_if_eq (tgt := 31) hx hb dX9_tube_17 (by decide) (fun c4 => ?_) (fun c4 => ?_)
    · have hf := if_t c4 hf
      refine lv_bipush (v := (-2)) hx hb dX9_tube_31 (by decide) ?_
      exact e1_i X.1 hr hlocks hf h hc dX9_tube_33
    · have hf := if_f c4 hf
      refine lv_iload_n hx hb dX9_tube_20 rfl (lv_at hl 3 rfl) ?_
      refine lv_iconst (v := 0) hx hb dX9_tube_21 (by decide) ?_
      refine lv_sipush (v := 1000) hx hb dX9_tube_22 (by decide) ?_
      obtain ⟨y5, ey5, hf⟩ := bnd_some hf
      refine k_X9_within X.1 ey5 k_X9_92 dX9_tube_25 hl.1 ⟨(Nat.le_of_ble_eq_true rfl), (Nat.le_of_ble_eq_true rfl)⟩ (Nat.le_of_ble_eq_true rfl) (rmm0 hc) ?_
      refine lv_if_ne (tgt := 34) hx hb dX9_tube_28 (by decide) (fun c6 => ?_) (fun c6 => ?_)
      · have hf := if_f c6 hf
        refine lv_aload_n hx hb dX9_tube_34 rfl (lv_at hl 0 rfl) ?_
        refine GC_0_1 X h k_X9_21 dX9_tube_35 ?_
        refine lv_iload_n hx hb dX9_tube_38 rfl (lv_at hl 1 rfl) ?_
        refine lv_iload_n hx hb dX9_tube_39 rfl (lv_at hl 2 rfl) ?_
        obtain ⟨y7, ey7, hf⟩ := bnd_some hf
        refine k_X6_anotherHas X h ey7 k_X9_184 dX9_tube_40 hl.1 ⟨(Nat.le_of_ble_eq_true rfl), (Nat.le_of_ble_eq_true rfl)⟩ (Nat.le_of_ble_eq_true rfl) (rmm0 hc) ?_
        refine lv_if_ne (tgt := 56) hx hb dX9_tube_43 (by decide) (fun c8 => ?_) (fun c8 => ?_)
        · have hf := if_f c8 hf
          refine lv_bipush (v := (-3)) hx hb dX9_tube_56 (by decide) ?_
          exact e1_i X.1 hr hlocks hf h hc dX9_tube_58
        · have hf := if_t c8 hf
          refine lv_aload_n hx hb dX9_tube_46 rfl (lv_at hl 0 rfl) ?_
          refine GC_0_1 X h k_X9_21 dX9_tube_47 ?_
          obtain ⟨y9, ey9, hf⟩ := bnd_some hf
          refine k_X6_hasCredit X h ey9 k_X9_187 dX9_tube_50 hl.1 ⟨(Nat.le_of_ble_eq_true rfl), (Nat.le_of_ble_eq_true rfl)⟩ (Nat.le_of_ble_eq_true rfl) (rmm0 hc) ?_
          refine lv_if_eq (tgt := 59) hx hb dX9_tube_53 (by decide) (fun c10 => ?_) (fun c10 => ?_)
          · have hf := if_t c10 hf
            refine lv_aload_n hx hb dX9_tube_59 rfl (lv_at hl 0 rfl) ?_
            refine GC_0_0 X h k_X9_12 dX9_tube_60 ?_
            refine lv_sipush (v := 8420) hx hb dX9_tube_63 (by decide) ?_
            refine lv_iload_n hx hb dX9_tube_66 rfl (lv_at hl 1 rfl) ?_
            refine lv_iadd hx hb dX9_tube_67 ?_
            refine lv_iload_n hx hb dX9_tube_68 rfl (lv_at hl 2 rfl) ?_
            obtain ⟨y11, ny11, my11, ey11, hf, jy11⟩ := bnc_some hf
            refine k_X1_set X h hA ey11 k_X9_84 dX9_tube_69 hl.1 ⟨(Nat.le_of_ble_eq_true rfl), (Nat.le_of_ble_eq_true rfl)⟩ (Nat.le_of_ble_eq_true rfl) (rmm1 hc jy11) (fun la H locs h => ?_)
            have hc := rmm2 hc jy11
            refine lv_aload_n hx hb dX9_tube_72 rfl (lv_at hl 0 rfl) ?_
            refine GC_0_0 X h k_X9_12 dX9_tube_73 ?_
            refine lv_sipush (v := 8432) hx hb dX9_tube_76 (by decide) ?_
            refine lv_iload_n hx hb dX9_tube_79 rfl (lv_at hl 1 rfl) ?_
            refine lv_iadd hx hb dX9_tube_80 ?_
            refine lv_iload_n hx hb dX9_tube_81 rfl (lv_at hl 3 rfl) ?_
            obtain ⟨y12, ny12, my12, ey12, hf, jy12⟩ := bnc_some hf
            refine k_X1_set X h hA ey12 k_X9_84 dX9_tube_82 hl.1 ⟨(Nat.le_of_ble_eq_true rfl), (Nat.le_of_ble_eq_true rfl)⟩ (Nat.le_of_ble_eq_true rfl) (rmm1 hc jy12) (fun la H locs h => ?_)
            have hc := rmm2 hc jy12
            refine lv_iconst (v := 1) hx hb dX9_tube_85 (by decide) ?_
            exact e1_i X.1 hr hlocks hf h hc dX9_tube_86
          · have hf := if_f c10 hf
            refine lv_bipush (v := (-3)) hx hb dX9_tube_56 (by decide) ?_
            exact e1_i X.1 hr hlocks hf h hc dX9_tube_58
      · have hf := if_t c6 hf
        refine lv_bipush (v := (-2)) hx hb dX9_tube_31 (by decide) ?_
        exact e1_i X.1 hr hlocks hf h hc dX9_tube_33
  · have hf := if_t c2 hf
    refine lv_iconst (v := (-1)) hx hb dX9_tube_7 (by decide) ?_
    exact e1_i X.1 hr hlocks hf h hc dX9_tube_8
theorem m_X9_tube : Cond.instanceMethod yX9_tube ∈ lw_good ∧ Cond.selects RX9 yX9_tube yX9_tube ∈ lw_good ∧ Cond.initialized RX9 ∈ lw_good ∧ Cond.code yX9_tube cX9_tube 4 (some .int) ∈ lw_good := by decide +kernel
theorem k_X9_tube {p : Program} {l : Launch} {e : Env} {R : Room} {s : State} {m : MethodId} {args : Array Value} {below : List Frame} {meth : Method} {c : Code} {H : Heap} {locs : List Loc} {cells : Nat} {Q : State → Prop} {cc : ByteArray} {nL pc idx : Nat} {ls : Array Slot} {rest : List Value} {own : String} {G : Gm} {A : Nat → Prop} {H0 : Heap} {la : Nat} {w : CW} {x1 : Int32} {x2 : Int32} {x3 : Int32} {y : Int32 × CW} {n : Nat} (X : CX own cc nL G p s m args c) (h : CH G (cw G la w) A H0 H locs) (hA : ∀ q, H0.size ≤ q → A q) (hf : f_X9_tube x1 x2 x3 w = some (y, n)) (hlk : Cond.methodLink own idx yX9_tube ∈ lw_good) (hd : decode cc pc = .ok (.invokevirtual idx, 3)) (hsz : ls.size = nL) (hR : 5 ≤ R.frames ∧ 136 ≤ R.locals) (hrest : (rest.map fun v => v.category).sum ≤ 8) (hk : cells + n ≤ R.cells ∧ 4096 * cells + 4096 * n ≤ R.slots) (k : ∀ (la : Nat) (H : Heap) (locs : List Loc), CH G (cw G la y.2) A H0 H locs → W p l e R s m args below meth c H locs (cells + n) (4096 * (cells + n)) Q (F0 m (pc + 3) ls (.int y.1 :: rest))) : W p l e R s m args below meth c H locs cells (4096 * cells) Q (F0 m pc ls (.int x3 :: .int x2 :: .int x1 :: .ref (gq G 0) :: rest)) :=
  fin_i (n := n) (runV (As := [.int x1, .int x2, .int x3]) X.1 3 (t_X9_tube l G la w x1 x2 x3 y.1 y.2 n hf _) rfl rfl hlk m_X9_tube (by decide +kernel) ⟨hR.1, hR.2⟩ ⟨blindM, va_recv X.2.1 h.1 (ci := 8) (q0 := 0) rfl rfl, preM X.2 h⟩ rfl hsz hrest hd hk) h hA (fun la H locs h => by rw [← Nat.mul_add]; exact k la H locs h)
def f_X1_add (x1 : Int32) (x2 : Int32) (w : CW) : Option (CW × Nat) :=
 (f_X1_get x1 w).bind fun y1 =>
 bnc (f_X1_set x1 (y1 + x2) w) fun y2 =>
 some (y2, 0)
set_option maxHeartbeats 4000000 in
set_option maxRecDepth 100000 in
theorem t_X1_add (l : Launch) (G : Gm) (la0 : Nat) (w0 : CW) (x1 : Int32) (x2 : Int32) (w' : CW) (N : Nat) (hf : f_X1_add x1 x2 w0 = some (w', N)) : MetV l yX1_add cX1_add 3 4 113 G (cw G la0 w0) [.ref (gq G 1), .int x1, .int x2] (fun u => cw G u w') N := by
  intro sz
  refine ent (own := RX1) (As := [.ref (gq G 1), .int x1, .int x2]) (by decide +kernel) rfl (Nat.le_of_ble_eq_true rfl) (fun _ _ h => h.1) ?_
  intro p e s m args below meth c ls B hr hlocks hv hl
  obtain ⟨-, hsz, hP, hKK, hD⟩ := hv
  subst hsz
  have X : CX RX1 cX1_add 3 G p s m args c := ⟨B, hKK⟩
  obtain ⟨hx, hb, hml, hown, hts⟩ := id B
  have hA : ∀ q : Nat, s.heap.size ≤ q → va_A (cw G la0 w0) s.heap.size q := fun q z => Or.inr z
  have h : CH G (cw G la0 w0) (va_A (cw G la0 w0) s.heap.size) s.heap s.heap [] := ⟨hP, hD.self, va_S.rf⟩
  have hc : 0 + N = N := Nat.zero_add N
  obtain ⟨la, rfl⟩ : ∃ z, z = la0 := ⟨_, rfl⟩
  obtain ⟨w, rfl⟩ : ∃ z, z = w0 := ⟨_, rfl⟩
  have hl : lv_has ls 3 [(0, .ref (gq G 1)), (1, .int x1), (2, .int x2)] := hl
  unfold f_X1_add at hf
  refine wid0 ?_
  refine lv_aload_n hx hb dX1_add_0 rfl (lv_at hl 0 rfl) ?_
  refine lv_iload_n hx hb dX1_add_1 rfl (lv_at hl 1 rfl) ?_
  refine lv_aload_n hx hb dX1_add_2 rfl (lv_at hl 0 rfl) ?_
  refine lv_iload_n hx hb dX1_add_3 rfl (lv_at hl 1 rfl) ?_
  obtain ⟨y1, ey1, hf⟩ := bnd_some hf
  refine k_X1_get X h ey1 k_X1_37 dX1_add_4 hl.1 ⟨(Nat.le_of_ble_eq_true rfl), (Nat.le_of_ble_eq_true rfl)⟩ (Nat.le_of_ble_eq_true rfl) (rmm0 hc) ?_
  refine lv_iload_n hx hb dX1_add_7 rfl (lv_at hl 2 rfl) ?_
  refine lv_iadd hx hb dX1_add_8 ?_
  obtain ⟨y2, ny2, my2, ey2, hf, jy2⟩ := bnc_some hf
  refine k_X1_set X h hA ey2 k_X1_41 dX1_add_9 hl.1 ⟨(Nat.le_of_ble_eq_true rfl), (Nat.le_of_ble_eq_true rfl)⟩ (Nat.le_of_ble_eq_true rfl) (rmm1 hc jy2) (fun la H locs h => ?_)
  have hc := rmm2 hc jy2
  exact e1_v X.1 hr hlocks hf h hc dX1_add_12
theorem m_X1_add : Cond.instanceMethod yX1_add ∈ lw_good ∧ Cond.selects RX1 yX1_add yX1_add ∈ lw_good ∧ Cond.initialized RX1 ∈ lw_good ∧ Cond.code yX1_add cX1_add 3 none ∈ lw_good := by decide +kernel
theorem k_X1_add {p : Program} {l : Launch} {e : Env} {R : Room} {s : State} {m : MethodId} {args : Array Value} {below : List Frame} {meth : Method} {c : Code} {H : Heap} {locs : List Loc} {cells : Nat} {Q : State → Prop} {cc : ByteArray} {nL pc idx : Nat} {ls : Array Slot} {rest : List Value} {own : String} {G : Gm} {A : Nat → Prop} {H0 : Heap} {la : Nat} {w : CW} {x1 : Int32} {x2 : Int32} {w' : CW} {n : Nat} (X : CX own cc nL G p s m args c) (h : CH G (cw G la w) A H0 H locs) (hA : ∀ q, H0.size ≤ q → A q) (hf : f_X1_add x1 x2 w = some (w', n)) (hlk : Cond.methodLink own idx yX1_add ∈ lw_good) (hd : decode cc pc = .ok (.invokevirtual idx, 3)) (hsz : ls.size = nL) (hR : 5 ≤ R.frames ∧ 135 ≤ R.locals) (hrest : (rest.map fun v => v.category).sum ≤ 8) (hk : cells + n ≤ R.cells ∧ 4096 * cells + 4096 * n ≤ R.slots) (k : ∀ (la : Nat) (H : Heap) (locs : List Loc), CH G (cw G la (w')) A H0 H locs → W p l e R s m args below meth c H locs (cells + n) (4096 * (cells + n)) Q (F0 m (pc + 3) ls (rest))) : W p l e R s m args below meth c H locs cells (4096 * cells) Q (F0 m pc ls (.int x2 :: .int x1 :: .ref (gq G 1) :: rest)) :=
  fin_v (n := n) (runV (As := [.int x1, .int x2]) X.1 2 (t_X1_add l G la w x1 x2 w' n hf _) rfl rfl hlk m_X1_add (by decide +kernel) ⟨hR.1, hR.2⟩ ⟨blindM, va_recv X.2.1 h.1 (ci := 1) (q0 := 1) rfl rfl, preM X.2 h⟩ rfl hsz hrest hd hk) h hA (fun la H locs h => by rw [← Nat.mul_add]; exact k la H locs h)
def f_X9_grow (x1 : Int32) (x2 : Int32) (x3 : Int32) (w : CW) : Option (CW × Nat) :=
 bnc (f_X1_add ((x1 * ((78 : Int32))) + x2) x3 w) fun y1 =>
 some (y1, 0)
set_option maxHeartbeats 4000000 in
set_option maxRecDepth 100000 in
theorem t_X9_grow (l : Launch) (G : Gm) (la0 : Nat) (w0 : CW) (x1 : Int32) (x2 : Int32) (x3 : Int32) (w' : CW) (N : Nat) (hf : f_X9_grow x1 x2 x3 w0 = some (w', N)) : MetV l yX9_grow cX9_grow 4 5 135 G (cw G la0 w0) [.ref (gq G 0), .int x1, .int x2, .int x3] (fun u => cw G u w') N := by
  intro sz
  refine ent (own := RX9) (As := [.ref (gq G 0), .int x1, .int x2, .int x3]) (by decide +kernel) rfl (Nat.le_of_ble_eq_true rfl) (fun _ _ h => h.1) ?_
  intro p e s m args below meth c ls B hr hlocks hv hl
  obtain ⟨-, hsz, hP, hKK, hD⟩ := hv
  subst hsz
  have X : CX RX9 cX9_grow 4 G p s m args c := ⟨B, hKK⟩
  obtain ⟨hx, hb, hml, hown, hts⟩ := id B
  have hA : ∀ q : Nat, s.heap.size ≤ q → va_A (cw G la0 w0) s.heap.size q := fun q z => Or.inr z
  have h : CH G (cw G la0 w0) (va_A (cw G la0 w0) s.heap.size) s.heap s.heap [] := ⟨hP, hD.self, va_S.rf⟩
  have hc : 0 + N = N := Nat.zero_add N
  obtain ⟨la, rfl⟩ : ∃ z, z = la0 := ⟨_, rfl⟩
  obtain ⟨w, rfl⟩ : ∃ z, z = w0 := ⟨_, rfl⟩
  have hl : lv_has ls 4 [(0, .ref (gq G 0)), (1, .int x1), (2, .int x2), (3, .int x3)] := hl
  unfold f_X9_grow at hf
  refine wid0 ?_
  refine lv_aload_n hx hb dX9_grow_0 rfl (lv_at hl 0 rfl) ?_
  refine GC_0_0 X h k_X9_12 dX9_grow_1 ?_
  refine lv_iload_n hx hb dX9_grow_4 rfl (lv_at hl 1 rfl) ?_
  refine lv_bipush (v := 78) hx hb dX9_grow_5 (by decide) ?_
  refine lv_imul hx hb dX9_grow_7 ?_
  refine lv_iload_n hx hb dX9_grow_8 rfl (lv_at hl 2 rfl) ?_
  refine lv_iadd hx hb dX9_grow_9 ?_
  refine lv_iload_n hx hb dX9_grow_10 rfl (lv_at hl 3 rfl) ?_
  obtain ⟨y1, ny1, my1, ey1, hf, jy1⟩ := bnc_some hf
  refine k_X1_add X h hA ey1 k_X9_193 dX9_grow_11 hl.1 ⟨(Nat.le_of_ble_eq_true rfl), (Nat.le_of_ble_eq_true rfl)⟩ (Nat.le_of_ble_eq_true rfl) (rmm1 hc jy1) (fun la H locs h => ?_)
  have hc := rmm2 hc jy1
  exact e1_v X.1 hr hlocks hf h hc dX9_grow_14
theorem m_X9_grow : Cond.instanceMethod yX9_grow ∈ lw_good ∧ Cond.selects RX9 yX9_grow yX9_grow ∈ lw_good ∧ Cond.initialized RX9 ∈ lw_good ∧ Cond.code yX9_grow cX9_grow 4 none ∈ lw_good := by decide +kernel
theorem k_X9_grow {p : Program} {l : Launch} {e : Env} {R : Room} {s : State} {m : MethodId} {args : Array Value} {below : List Frame} {meth : Method} {c : Code} {H : Heap} {locs : List Loc} {cells : Nat} {Q : State → Prop} {cc : ByteArray} {nL pc idx : Nat} {ls : Array Slot} {rest : List Value} {own : String} {G : Gm} {A : Nat → Prop} {H0 : Heap} {la : Nat} {w : CW} {x1 : Int32} {x2 : Int32} {x3 : Int32} {w' : CW} {n : Nat} (X : CX own cc nL G p s m args c) (h : CH G (cw G la w) A H0 H locs) (hA : ∀ q, H0.size ≤ q → A q) (hf : f_X9_grow x1 x2 x3 w = some (w', n)) (hlk : Cond.methodLink own idx yX9_grow ∈ lw_good) (hd : decode cc pc = .ok (.invokevirtual idx, 3)) (hsz : ls.size = nL) (hR : 6 ≤ R.frames ∧ 158 ≤ R.locals) (hrest : (rest.map fun v => v.category).sum ≤ 8) (hk : cells + n ≤ R.cells ∧ 4096 * cells + 4096 * n ≤ R.slots) (k : ∀ (la : Nat) (H : Heap) (locs : List Loc), CH G (cw G la (w')) A H0 H locs → W p l e R s m args below meth c H locs (cells + n) (4096 * (cells + n)) Q (F0 m (pc + 3) ls (rest))) : W p l e R s m args below meth c H locs cells (4096 * cells) Q (F0 m pc ls (.int x3 :: .int x2 :: .int x1 :: .ref (gq G 0) :: rest)) :=
  fin_v (n := n) (runV (As := [.int x1, .int x2, .int x3]) X.1 3 (t_X9_grow l G la w x1 x2 x3 w' n hf _) rfl rfl hlk m_X9_grow (by decide +kernel) ⟨hR.1, hR.2⟩ ⟨blindM, va_recv X.2.1 h.1 (ci := 8) (q0 := 0) rfl rfl, preM X.2 h⟩ rfl hsz hrest hd hk) h hA (fun la H locs h => by rw [← Nat.mul_add]; exact k la H locs h)
def f_X9_coin (x1 : Int32) (x2 : Int32) (x3 : Int32) (w : CW) : Option ((Int32 × CW) × Nat) :=
 (f_X9_isPlace x1).bind fun y1 =>
 if y1 = 0 then
 (some (((-1 : Int32), w), 0))
 else
 ((f_X9_isTube x2).bind fun y3 =>
 if y3 = 0 then
 (some (((-1 : Int32), w), 0))
 else
 ((f_X9_within x3 ((1 : Int32)) ((50 : Int32))).bind fun y5 =>
 if y5 = 0 then
 (some (((-2 : Int32), w), 0))
 else
 ((f_X1_get (((8420 : Int32)) + x2) w).bind fun y7 =>
 if y7 = 0 then
 (some (((-3 : Int32), w), 0))
 else
 ((f_X9_hasMachine x1 w).bind fun y9 =>
 if y9 = 0 then
 ((f_X9_found ((1 : Int32)) w).bind fun y17 =>
 some ((y17.1, y17.2), 0))
 else
 ((f_X1_get (((8432 : Int32)) + x2) w).bind fun y11 =>
 if (y11 + x3) ≤ ((1000 : Int32)) then
 (bnc (f_X1_set (((8432 : Int32)) + x2) (y11 + x3) w) fun y13 =>
 bnc (f_X9_grow x1 (((36 : Int32)) + x2) x3 y13) fun y14 =>
 bnc (f_X1_add ((8552 : Int32)) (x3 * y7) y14) fun y15 =>
 (f_X6_creditOf x1 y15).bind fun y16 =>
 some ((y16, y15), 0))
 else
 (some (((-4 : Int32), w), 0)))))))
set_option maxHeartbeats 4000000 in
set_option maxRecDepth 100000 in
theorem t_X9_coin (l : Launch) (G : Gm) (la0 : Nat) (w0 : CW) (x1 : Int32) (x2 : Int32) (x3 : Int32) (r : Int32) (w' : CW) (N : Nat) (hf : f_X9_coin x1 x2 x3 w0 = some ((r, w'), N)) : MetI l yX9_coin cX9_coin 6 (some .int) 6 158 G (cw G la0 w0) [.ref (gq G 0), .int x1, .int x2, .int x3] r (fun u => cw G u w') N := by
  intro sz
  refine ent (own := RX9) (As := [.ref (gq G 0), .int x1, .int x2, .int x3]) (by decide +kernel) rfl (Nat.le_of_ble_eq_true rfl) (fun _ _ h => h.1) ?_
  intro p e s m args below meth c ls B hr hlocks hv hl
  obtain ⟨-, hsz, hP, hKK, hD⟩ := hv
  subst hsz
  have X : CX RX9 cX9_coin 6 G p s m args c := ⟨B, hKK⟩
  obtain ⟨hx, hb, hml, hown, hts⟩ := id B
  have hA : ∀ q : Nat, s.heap.size ≤ q → va_A (cw G la0 w0) s.heap.size q := fun q z => Or.inr z
  have h : CH G (cw G la0 w0) (va_A (cw G la0 w0) s.heap.size) s.heap s.heap [] := ⟨hP, hD.self, va_S.rf⟩
  have hc : 0 + N = N := Nat.zero_add N
  obtain ⟨la, rfl⟩ : ∃ z, z = la0 := ⟨_, rfl⟩
  obtain ⟨w, rfl⟩ : ∃ z, z = w0 := ⟨_, rfl⟩
  have hl : lv_has ls 6 [(0, .ref (gq G 0)), (1, .int x1), (2, .int x2), (3, .int x3)] := hl
  unfold f_X9_coin at hf
  refine wid0 ?_
  refine lv_iload_n hx hb dX9_coin_0 rfl (lv_at hl 1 rfl) ?_
  obtain ⟨y1, ey1, hf⟩ := bnd_some hf
  refine k_X9_isPlace X.1 ey1 k_X9_88 dX9_coin_1 hl.1 ⟨(Nat.le_of_ble_eq_true rfl), (Nat.le_of_ble_eq_true rfl)⟩ (Nat.le_of_ble_eq_true rfl) (rmm0 hc) ?_
  refine lv_if_eq (tgt := 14) hx hb dX9_coin_4 (by decide) (fun c2 => ?_) (fun c2 => ?_)
  · have hf := if_t c2 hf
    refine lv_iconst (v := (-1)) hx hb dX9_coin_14 (by decide) ?_
    exact e1_i X.1 hr hlocks hf h hc dX9_coin_15
  · have hf := if_f c2 hf
    refine lv_iload_n hx hb dX9_coin_7 rfl (lv_at hl 2 rfl) ?_
    obtain ⟨y3, ey3, hf⟩ := bnd_some hf
    refine k_X9_isTube X.1 ey3 k_X9_181 dX9_coin_8 hl.1 ⟨(Nat.le_of_ble_eq_true rfl), (Nat.le_of_ble_eq_true rfl)⟩ (Nat.le_of_ble_eq_true rfl) (rmm0 hc) ?_
    refine lv_if_ne (tgt := 16) hx hb dX9_coin_11 (by decide) (fun c4 => ?_) (fun c4 => ?_)
    · have hf := if_f c4 hf
      refine lv_iload_n hx hb dX9_coin_16 rfl (lv_at hl 3 rfl) ?_
      refine lv_iconst (v := 1) hx hb dX9_coin_17 (by decide) ?_
      refine lv_bipush (v := 50) hx hb dX9_coin_18 (by decide) ?_
      obtain ⟨y5, ey5, hf⟩ := bnd_some hf
      refine k_X9_within X.1 ey5 k_X9_92 dX9_coin_20 hl.1 ⟨(Nat.le_of_ble_eq_true rfl), (Nat.le_of_ble_eq_true rfl)⟩ (Nat.le_of_ble_eq_true rfl) (rmm0 hc) ?_
      refine lv_if_ne (tgt := 29) hx hb dX9_coin_23 (by decide) (fun c6 => ?_) (fun c6 => ?_)
      · have hf := if_f c6 hf
        refine lv_aload_n hx hb dX9_coin_29 rfl (lv_at hl 0 rfl) ?_
        refine GC_0_0 X h k_X9_12 dX9_coin_30 ?_
        refine lv_sipush (v := 8420) hx hb dX9_coin_33 (by decide) ?_
        refine lv_iload_n hx hb dX9_coin_36 rfl (lv_at hl 2 rfl) ?_
        refine lv_iadd hx hb dX9_coin_37 ?_
        obtain ⟨y7, ey7, hf⟩ := bnd_some hf
        refine k_X1_get X h ey7 k_X9_175 dX9_coin_38 hl.1 ⟨(Nat.le_of_ble_eq_true rfl), (Nat.le_of_ble_eq_true rfl)⟩ (Nat.le_of_ble_eq_true rfl) (rmm0 hc) ?_
        refine lv_istore (lv' := [(4, .int y7), (0, .ref (gq G 0)), (1, .int x1), (2, .int x2), (3, .int x3)]) hx hb dX9_coin_41 hl (by decide) rfl (fun ls hl => ?_)
        refine lv_iload hx hb dX9_coin_43 (lv_at hl 0 rfl) ?_
        refine lv_if_ne (tgt := 51) hx hb dX9_coin_45 (by decide) (fun c8 => ?_) (fun c8 => ?_)
        · have hf := if_f c8 hf
          refine lv_aload_n hx hb dX9_coin_51 rfl (lv_at hl 1 rfl) ?_
          refine lv_iload_n hx hb dX9_coin_52 rfl (lv_at hl 2 rfl) ?_
          obtain ⟨y9, ey9, hf⟩ := bnd_some hf
          refine k_X9_hasMachine X h ey9 k_X9_96 dX9_coin_53 hl.1 ⟨(Nat.le_of_ble_eq_true rfl), (Nat.le_of_ble_eq_true rfl)⟩ (Nat.le_of_ble_eq_true rfl) (rmm0 hc) ?_
          refine lv_if_ne (tgt := 65) hx hb dX9_coin_56 (by decide) (fun c10 => ?_) (fun c10 => ?_)
          · have hf := if_f c10 hf
            refine lv_aload_n hx hb dX9_coin_65 rfl (lv_at hl 1 rfl) ?_
            refine GC_0_0 X h k_X9_12 dX9_coin_66 ?_
            refine lv_sipush (v := 8432) hx hb dX9_coin_69 (by decide) ?_
            refine lv_iload_n hx hb dX9_coin_72 rfl (lv_at hl 3 rfl) ?_
            refine lv_iadd hx hb dX9_coin_73 ?_
            obtain ⟨y11, ey11, hf⟩ := bnd_some hf
            refine k_X1_get X h ey11 k_X9_175 dX9_coin_74 hl.1 ⟨(Nat.le_of_ble_eq_true rfl), (Nat.le_of_ble_eq_true rfl)⟩ (Nat.le_of_ble_eq_true rfl) (rmm0 hc) ?_
            refine lv_iload_n hx hb dX9_coin_77 rfl (lv_at hl 4 rfl) ?_
            refine lv_iadd hx hb dX9_coin_78 ?_
            refine lv_istore (lv' := [(5, .int (y11 + x3)), (4, .int y7), (0, .ref (gq G 0)), (1, .int x1), (2, .int x2), (3, .int x3)]) hx hb dX9_coin_79 hl (by decide) rfl (fun ls hl => ?_)
            refine lv_iload hx hb dX9_coin_81 (lv_at hl 0 rfl) ?_
            refine lv_sipush (v := 1000) hx hb dX9_coin_83 (by decide) ?_
            refine lv_icmp_le (tgt := 92) hx hb dX9_coin_86 (by decide) (fun c12 => ?_) (fun c12 => ?_)
            · have hf := if_t c12 hf
              refine lv_aload_n hx hb dX9_coin_92 rfl (lv_at hl 2 rfl) ?_
              refine GC_0_0 X h k_X9_12 dX9_coin_93 ?_
              refine lv_sipush (v := 8432) hx hb dX9_coin_96 (by decide) ?_
              refine lv_iload_n hx hb dX9_coin_99 rfl (lv_at hl 4 rfl) ?_
              refine lv_iadd hx hb dX9_coin_100 ?_
              refine lv_iload hx hb dX9_coin_101 (lv_at hl 0 rfl) ?_
              obtain ⟨y13, ny13, my13, ey13, hf, jy13⟩ := bnc_some hf
              refine k_X1_set X h hA ey13 k_X9_84 dX9_coin_103 hl.1 ⟨(Nat.le_of_ble_eq_true rfl), (Nat.le_of_ble_eq_true rfl)⟩ (Nat.le_of_ble_eq_true rfl) (rmm1 hc jy13) (fun la H locs h => ?_)
              have hc := rmm2 hc jy13
              refine lv_aload_n hx hb dX9_coin_106 rfl (lv_at hl 2 rfl) ?_
              refine lv_iload_n hx hb dX9_coin_107 rfl (lv_at hl 3 rfl) ?_
              refine lv_bipush (v := 36) hx hb dX9_coin_108 (by decide) ?_
              refine lv_iload_n hx hb dX9_coin_110 rfl (lv_at hl 4 rfl) ?_
              refine lv_iadd hx hb dX9_coin_111 ?_
              refine lv_iload_n hx hb dX9_coin_112 rfl (lv_at hl 5 rfl) ?_
              obtain ⟨y14, ny14, my14, ey14, hf, jy14⟩ := bnc_some hf
              refine k_X9_grow X h hA ey14 k_X9_190 dX9_coin_113 hl.1 ⟨(Nat.le_of_ble_eq_true rfl), (Nat.le_of_ble_eq_true rfl)⟩ (Nat.le_of_ble_eq_true rfl) (rmm1 hc jy14) (fun la H locs h => ?_)
              have hc := rmm2 hc jy14
              refine lv_aload_n hx hb dX9_coin_116 rfl (lv_at hl 2 rfl) ?_
              refine GC_0_0 X h k_X9_12 dX9_coin_117 ?_
              refine lv_sipush (v := 8552) hx hb dX9_coin_120 (by decide) ?_
              refine lv_iload_n hx hb dX9_coin_123 rfl (lv_at hl 5 rfl) ?_
              refine lv_iload hx hb dX9_coin_124 (lv_at hl 1 rfl) ?_
              refine lv_imul hx hb dX9_coin_126 ?_
              obtain ⟨y15, ny15, my15, ey15, hf, jy15⟩ := bnc_some hf
              refine k_X1_add X h hA ey15 k_X9_193 dX9_coin_127 hl.1 ⟨(Nat.le_of_ble_eq_true rfl), (Nat.le_of_ble_eq_true rfl)⟩ (Nat.le_of_ble_eq_true rfl) (rmm1 hc jy15) (fun la H locs h => ?_)
              have hc := rmm2 hc jy15
              refine lv_aload_n hx hb dX9_coin_130 rfl (lv_at hl 2 rfl) ?_
              refine GC_0_1 X h k_X9_21 dX9_coin_131 ?_
              refine lv_iload_n hx hb dX9_coin_134 rfl (lv_at hl 3 rfl) ?_
              obtain ⟨y16, ey16, hf⟩ := bnd_some hf
              refine k_X6_creditOf X h ey16 k_X9_117 dX9_coin_135 hl.1 ⟨(Nat.le_of_ble_eq_true rfl), (Nat.le_of_ble_eq_true rfl)⟩ (Nat.le_of_ble_eq_true rfl) (rmm0 hc) ?_
              exact e1_i X.1 hr hlocks hf h hc dX9_coin_138
            · have hf := if_f c12 hf
              refine lv_bipush (v := (-4)) hx hb dX9_coin_89 (by decide) ?_
              exact e1_i X.1 hr hlocks hf h hc dX9_coin_91
          · have hf := if_t c10 hf
            refine lv_aload_n hx hb dX9_coin_59 rfl (lv_at hl 1 rfl) ?_
            refine lv_iconst (v := 1) hx hb dX9_coin_60 (by decide) ?_
            obtain ⟨y17, ey17, hf⟩ := bnd_some hf
            refine k_X9_found X h hA ey17 k_X9_103 dX9_coin_61 hl.1 ⟨(Nat.le_of_ble_eq_true rfl), (Nat.le_of_ble_eq_true rfl)⟩ (Nat.le_of_ble_eq_true rfl) (rmm0 hc) (fun H locs h => ?_)
            exact e1_i X.1 hr hlocks hf h hc dX9_coin_64
        · have hf := if_t c8 hf
          refine lv_bipush (v := (-3)) hx hb dX9_coin_48 (by decide) ?_
          exact e1_i X.1 hr hlocks hf h hc dX9_coin_50
      · have hf := if_t c6 hf
        refine lv_bipush (v := (-2)) hx hb dX9_coin_26 (by decide) ?_
        exact e1_i X.1 hr hlocks hf h hc dX9_coin_28
    · have hf := if_t c4 hf
      refine lv_iconst (v := (-1)) hx hb dX9_coin_14 (by decide) ?_
      exact e1_i X.1 hr hlocks hf h hc dX9_coin_15
theorem m_X9_coin : Cond.instanceMethod yX9_coin ∈ lw_good ∧ Cond.selects RX9 yX9_coin yX9_coin ∈ lw_good ∧ Cond.initialized RX9 ∈ lw_good ∧ Cond.code yX9_coin cX9_coin 6 (some .int) ∈ lw_good := by decide +kernel
theorem k_X9_coin {p : Program} {l : Launch} {e : Env} {R : Room} {s : State} {m : MethodId} {args : Array Value} {below : List Frame} {meth : Method} {c : Code} {H : Heap} {locs : List Loc} {cells : Nat} {Q : State → Prop} {cc : ByteArray} {nL pc idx : Nat} {ls : Array Slot} {rest : List Value} {own : String} {G : Gm} {A : Nat → Prop} {H0 : Heap} {la : Nat} {w : CW} {x1 : Int32} {x2 : Int32} {x3 : Int32} {y : Int32 × CW} {n : Nat} (X : CX own cc nL G p s m args c) (h : CH G (cw G la w) A H0 H locs) (hA : ∀ q, H0.size ≤ q → A q) (hf : f_X9_coin x1 x2 x3 w = some (y, n)) (hlk : Cond.methodLink own idx yX9_coin ∈ lw_good) (hd : decode cc pc = .ok (.invokevirtual idx, 3)) (hsz : ls.size = nL) (hR : 7 ≤ R.frames ∧ 183 ≤ R.locals) (hrest : (rest.map fun v => v.category).sum ≤ 8) (hk : cells + n ≤ R.cells ∧ 4096 * cells + 4096 * n ≤ R.slots) (k : ∀ (la : Nat) (H : Heap) (locs : List Loc), CH G (cw G la y.2) A H0 H locs → W p l e R s m args below meth c H locs (cells + n) (4096 * (cells + n)) Q (F0 m (pc + 3) ls (.int y.1 :: rest))) : W p l e R s m args below meth c H locs cells (4096 * cells) Q (F0 m pc ls (.int x3 :: .int x2 :: .int x1 :: .ref (gq G 0) :: rest)) :=
  fin_i (n := n) (runV (As := [.int x1, .int x2, .int x3]) X.1 3 (t_X9_coin l G la w x1 x2 x3 y.1 y.2 n hf _) rfl rfl hlk m_X9_coin (by decide +kernel) ⟨hR.1, hR.2⟩ ⟨blindM, va_recv X.2.1 h.1 (ci := 8) (q0 := 0) rfl rfl, preM X.2 h⟩ rfl hsz hrest hd hk) h hA (fun la H locs h => by rw [← Nat.mul_add]; exact k la H locs h)
def f_X9_enter (x1 : Int32) (w : CW) : Option CW :=
 (f_X9_isPlace x1).bind fun y1 =>
 if y1 = 0 then
 (some w)
 else
 (chk (inb x1 60) (
 (f_X9_read x1 ((8 : Int32)) w).bind fun y4 =>
 chk (inb x1 60) (
 some (cs w 5 x1.toNatClampNeg ((w.1 5 x1.toNatClampNeg) + (((1 : Int32)) + y4))))))
set_option maxHeartbeats 4000000 in
set_option maxRecDepth 100000 in
theorem t_X9_enter (l : Launch) (G : Gm) (la : Nat) (w0 : CW) (x1 : Int32) (w' : CW) (hf : f_X9_enter x1 w0 = some w') : MetV l yX9_enter cX9_enter 2 2 43 G (cw G la w0) [.ref (gq G 0), .int x1] (fun _ => cw G la (w')) 0 := by
  intro sz
  refine ent (own := RX9) (As := [.ref (gq G 0), .int x1]) (by decide +kernel) rfl (Nat.le_of_ble_eq_true rfl) (fun _ _ h => h.1) ?_
  intro p e s m args below meth c ls B hr hlocks hv hl
  obtain ⟨-, hsz, hP, hKK, hD⟩ := hv
  subst hsz
  have X : CX RX9 cX9_enter 2 G p s m args c := ⟨B, hKK⟩
  obtain ⟨hx, hb, hml, hown, hts⟩ := id B
  have hA : ∀ q : Nat, s.heap.size ≤ q → va_A (cw G la w0) s.heap.size q := fun q z => Or.inr z
  have h : CH G (cw G la w0) (va_A (cw G la w0) s.heap.size) s.heap s.heap [] := ⟨hP, hD.self, va_S.rf⟩
  obtain ⟨w, rfl⟩ : ∃ z, z = w0 := ⟨_, rfl⟩
  have hl : lv_has ls 2 [(0, .ref (gq G 0)), (1, .int x1)] := hl
  unfold f_X9_enter at hf
  refine lv_iload_n hx hb dX9_enter_0 rfl (lv_at hl 1 rfl) ?_
  obtain ⟨y1, ey1, hf⟩ := bnd_some hf
  refine k_X9_isPlace X.1 ey1 k_X9_88 dX9_enter_1 hl.1 ⟨(Nat.le_of_ble_eq_true rfl), (Nat.le_of_ble_eq_true rfl)⟩ (Nat.le_of_ble_eq_true rfl) ⟨Nat.zero_le _, Nat.zero_le _⟩ ?_
  refine lv_if_eq (tgt := 25) hx hb dX9_enter_4 (by decide) (fun c2 => ?_) (fun c2 => ?_)
  · have hf := if_t c2 hf
    exact e0_v (Wf := cw G la) X.1 hr hlocks hf h dX9_enter_25
  · have hf := if_f c2 hf
    refine lv_aload_n hx hb dX9_enter_7 rfl (lv_at hl 0 rfl) ?_
    refine GC_0_4 X h k_X9_55 dX9_enter_8 ?_
    refine lv_iload_n hx hb dX9_enter_11 rfl (lv_at hl 1 rfl) ?_
    refine lv_dup2_11 hx hb dX9_enter_12 rfl rfl ?_
    obtain ⟨c3, hf⟩ := chk_some hf
    refine LC_5 X h c3 dX9_enter_13 ?_
    refine lv_iconst (v := 1) hx hb dX9_enter_14 (by decide) ?_
    refine lv_aload_n hx hb dX9_enter_15 rfl (lv_at hl 0 rfl) ?_
    refine lv_iload_n hx hb dX9_enter_16 rfl (lv_at hl 1 rfl) ?_
    refine lv_bipush (v := 8) hx hb dX9_enter_17 (by decide) ?_
    obtain ⟨y4, ey4, hf⟩ := bnd_some hf
    refine k_X9_read X h ey4 k_X9_110 dX9_enter_19 hl.1 ⟨(Nat.le_of_ble_eq_true rfl), (Nat.le_of_ble_eq_true rfl)⟩ (Nat.le_of_ble_eq_true rfl) ⟨Nat.zero_le _, Nat.zero_le _⟩ ?_
    refine lv_iadd hx hb dX9_enter_22 ?_
    refine lv_iadd hx hb dX9_enter_23 ?_
    obtain ⟨c5, hf⟩ := chk_some hf
    refine SC_5 X h c5 dX9_enter_24 (fun H locs h => ?_)
    exact e0_v (Wf := cw G la) X.1 hr hlocks hf h dX9_enter_25
theorem m_X9_enter : Cond.instanceMethod yX9_enter ∈ lw_good ∧ Cond.selects RX9 yX9_enter yX9_enter ∈ lw_good ∧ Cond.initialized RX9 ∈ lw_good ∧ Cond.code yX9_enter cX9_enter 2 none ∈ lw_good := by decide +kernel
theorem k_X9_enter {p : Program} {l : Launch} {e : Env} {R : Room} {s : State} {m : MethodId} {args : Array Value} {below : List Frame} {meth : Method} {c : Code} {H : Heap} {locs : List Loc} {cells slots : Nat} {Q : State → Prop} {cc : ByteArray} {nL pc idx : Nat} {ls : Array Slot} {rest : List Value} {own : String} {G : Gm} {A : Nat → Prop} {H0 : Heap} {la : Nat} {w : CW} {x1 : Int32} {w' : CW} (X : CX own cc nL G p s m args c) (h : CH G (cw G la w) A H0 H locs) (hA : ∀ q, H0.size ≤ q → A q) (hf : f_X9_enter x1 w = some w') (hlk : Cond.methodLink own idx yX9_enter ∈ lw_good) (hd : decode cc pc = .ok (.invokevirtual idx, 3)) (hsz : ls.size = nL) (hR : 3 ≤ R.frames ∧ 64 ≤ R.locals) (hrest : (rest.map fun v => v.category).sum ≤ 8) (hk : cells ≤ R.cells ∧ slots ≤ R.slots) (k : ∀ (H : Heap) (locs : List Loc), CH G (cw G la (w')) A H0 H locs → W p l e R s m args below meth c H locs cells slots Q (F0 m (pc + 3) ls (rest))) : W p l e R s m args below meth c H locs cells slots Q (F0 m pc ls (.int x1 :: .ref (gq G 0) :: rest)) :=
  fin_v (n := 0) (runV (As := [.int x1]) X.1 1 (t_X9_enter l G la w x1 w' hf _) rfl rfl hlk m_X9_enter (by decide +kernel) ⟨hR.1, hR.2⟩ ⟨blindM, va_recv X.2.1 h.1 (ci := 8) (q0 := 0) rfl rfl, preM X.2 h⟩ rfl hsz hrest hd hk) h hA (fun _ H locs h => k H locs h)
def f_X6_sortByValue_b68 (k2 : (Int32 → CW → Option CW)) (x1 : Int32) (x2 : Int32) (w : CW) : Option CW :=
 chk (inb x2 12) (
 k2 (x1 + (1 : Int32)) (cs w 14 x2.toNatClampNeg x1))
def f_X6_sortByValue_l10_body (k2 : (Int32 → CW → Option CW)) (kself : (Int32 → Int32 → CW → Option CW)) (x1 : Int32) (x2 : Int32) (w : CW) : Option CW :=
 if x2 ≤ 0 then
 (f_X6_sortByValue_b68 k2 x1 x2 w)
 else
 (chk (inb (x2 - ((1 : Int32))) 12) (
 (f_X1_get (((8420 : Int32)) + (w.1 14 (x2 - ((1 : Int32))).toNatClampNeg)) w).bind fun y4 =>
 (f_X1_get (((8420 : Int32)) + x1) w).bind fun y5 =>
 if y4 ≤ y5 then
 (f_X6_sortByValue_b68 k2 x1 x2 w)
 else
 (chk (inb (x2 - ((1 : Int32))) 12) (
 chk (inb x2 12) (
 kself x1 (x2 + (-1 : Int32)) (cs w 14 x2.toNatClampNeg (w.1 14 (x2 - ((1 : Int32))).toNatClampNeg)))))))
def f_X6_sortByValue_l10 (k2 : (Int32 → CW → Option CW)) : Nat → Int32 → Int32 → CW → Option CW
  | 0, _, _, _ => none
  | n + 1, x1, x2, w => f_X6_sortByValue_l10_body k2 (f_X6_sortByValue_l10 k2 n) x1 x2 w
def f_X6_sortByValue_l2_body (kself : (Int32 → CW → Option CW)) (x1 : Int32) (w : CW) : Option CW :=
 if ((12 : Int32)) ≤ x1 then
 (some w)
 else
 (f_X6_sortByValue_l10 kself FU x1 x1 w)
def f_X6_sortByValue_l2 : Nat → Int32 → CW → Option CW
  | 0, _, _ => none
  | n + 1, x1, w => f_X6_sortByValue_l2_body (f_X6_sortByValue_l2 n) x1 w
def f_X6_sortByValue (w : CW) : Option CW :=
 f_X6_sortByValue_l2 FU ((0 : Int32)) w
set_option maxHeartbeats 4000000 in
set_option maxRecDepth 100000 in
theorem t_X6_sortByValue (l : Launch) (G : Gm) (la : Nat) (w0 : CW) (w' : CW) (hf : f_X6_sortByValue w0 = some w') : MetV l yX6_sortByValue cX6_sortByValue 3 1 21 G (cw G la w0) [.ref (gq G 2)] (fun _ => cw G la (w')) 0 := by
  intro sz
  refine ent (own := RX6) (As := [.ref (gq G 2)]) (by decide +kernel) rfl (Nat.le_of_ble_eq_true rfl) (fun _ _ h => h.1) ?_
  intro p e s m args below meth c ls B hr hlocks hv hl
  obtain ⟨-, hsz, hP, hKK, hD⟩ := hv
  subst hsz
  have X : CX RX6 cX6_sortByValue 3 G p s m args c := ⟨B, hKK⟩
  obtain ⟨hx, hb, hml, hown, hts⟩ := id B
  have hA : ∀ q : Nat, s.heap.size ≤ q → va_A (cw G la w0) s.heap.size q := fun q z => Or.inr z
  have h : CH G (cw G la w0) (va_A (cw G la w0) s.heap.size) s.heap s.heap [] := ⟨hP, hD.self, va_S.rf⟩
  have L2 : ∀ (n2 : Nat) (x1 : Int32) (w : CW) (H : Heap) (locs : List Loc) (ls : Array Slot), f_X6_sortByValue_l2 n2 x1 w = some w' → CH G (cw G la w) (va_A (cw G la w0) s.heap.size) s.heap H locs → lv_has ls 3 [(0, .ref (gq G 2)), (1, .int x1)] → W p l e { frames := 1, cells := 0, slots := 4096 * 0, locals := 21 } s m args below meth c H locs 0 (4096 * 0) (MQ below (QV G (cw G la w0) s.heap.size (fun _ => cw G la (w'))) args s 0 (4096 * 0) (va_A (cw G la w0) s.heap.size)) (F0 m 2 ls []) := by
    intro n2
    induction n2 with
    | zero =>
      intro x1 w H locs ls hf h hl
      cases (show (none : Option CW) = some _ from hf)
    | succ n2 ih2 =>
      have J68 : ∀ (x1 : Int32) (x2 : Int32) (w : CW) (H : Heap) (locs : List Loc) (ls : Array Slot), f_X6_sortByValue_b68 (f_X6_sortByValue_l2 n2) x1 x2 w = some w' → CH G (cw G la w) (va_A (cw G la w0) s.heap.size) s.heap H locs → lv_has ls 3 [(0, .ref (gq G 2)), (1, .int x1), (2, .int x2)] → W p l e { frames := 1, cells := 0, slots := 4096 * 0, locals := 21 } s m args below meth c H locs 0 (4096 * 0) (MQ below (QV G (cw G la w0) s.heap.size (fun _ => cw G la (w'))) args s 0 (4096 * 0) (va_A (cw G la w0) s.heap.size)) (F0 m 68 ls []) := by
        intro x1 x2 w H locs ls hf h hl
        unfold f_X6_sortByValue_b68 at hf
        refine lv_aload_n hx hb dX6_sortByValue_68 rfl (lv_at hl 0 rfl) ?_
        refine GC_2_1 X h k_X6_9 dX6_sortByValue_69 ?_
        refine lv_iload_n hx hb dX6_sortByValue_72 rfl (lv_at hl 2 rfl) ?_
        refine lv_iload_n hx hb dX6_sortByValue_73 rfl (lv_at hl 1 rfl) ?_
        obtain ⟨c1, hf⟩ := chk_some hf
        refine SC_14 X h c1 dX6_sortByValue_74 (fun H locs h => ?_)
        refine lv_iinc (v := x1 + (1 : Int32)) (lv' := [(1, .int (x1 + (1 : Int32))), (0, .ref (gq G 2)), (2, .int x2)]) hx hb dX6_sortByValue_75 hl (k := 1) rfl (by rfl) (by decide) rfl (fun ls hl => ?_)
        refine lv_goto (tgt := 2) hx hb dX6_sortByValue_78 (by decide) ?_
        exact ih2 _ _ _ _ _ hf h (lv_sub hl [1, 0] rfl)
      have L10 : ∀ (n10 : Nat) (x1 : Int32) (x2 : Int32) (w : CW) (H : Heap) (locs : List Loc) (ls : Array Slot), f_X6_sortByValue_l10 (f_X6_sortByValue_l2 n2) n10 x1 x2 w = some w' → CH G (cw G la w) (va_A (cw G la w0) s.heap.size) s.heap H locs → lv_has ls 3 [(0, .ref (gq G 2)), (1, .int x1), (2, .int x2)] → W p l e { frames := 1, cells := 0, slots := 4096 * 0, locals := 21 } s m args below meth c H locs 0 (4096 * 0) (MQ below (QV G (cw G la w0) s.heap.size (fun _ => cw G la (w'))) args s 0 (4096 * 0) (va_A (cw G la w0) s.heap.size)) (F0 m 10 ls []) := by
        intro n10
        induction n10 with
        | zero =>
          intro x1 x2 w H locs ls hf h hl
          cases (show (none : Option CW) = some _ from hf)
        | succ n10 ih10 =>
          intro x1 x2 w H locs ls hf h hl
          have hf : f_X6_sortByValue_l10_body (f_X6_sortByValue_l2 n2) (f_X6_sortByValue_l10 (f_X6_sortByValue_l2 n2) n10) x1 x2 w = _ := hf
          unfold f_X6_sortByValue_l10_body at hf
          refine lv_iload_n hx hb dX6_sortByValue_10 rfl (lv_at hl 2 rfl) ?_
          refine lv_if_le (tgt := 68) hx hb dX6_sortByValue_11 (by decide) (fun c2 => ?_) (fun c2 => ?_)
          · have hf := if_t c2 hf
            exact J68 _ _ _ _ _ _ hf h (lv_sub hl [0, 1, 2] rfl)
          · have hf := if_f c2 hf
            refine lv_aload_n hx hb dX6_sortByValue_14 rfl (lv_at hl 0 rfl) ?_
            refine GC_2_0 X h k_X6_29 dX6_sortByValue_15 ?_
            refine lv_sipush (v := 8420) hx hb dX6_sortByValue_18 (by decide) ?_
            refine lv_aload_n hx hb dX6_sortByValue_21 rfl (lv_at hl 0 rfl) ?_
            refine GC_2_1 X h k_X6_9 dX6_sortByValue_22 ?_
            refine lv_iload_n hx hb dX6_sortByValue_25 rfl (lv_at hl 2 rfl) ?_
            refine lv_iconst (v := 1) hx hb dX6_sortByValue_26 (by decide) ?_
            refine lv_isub hx hb dX6_sortByValue_27 ?_
            obtain ⟨c3, hf⟩ := chk_some hf
            refine LC_14 X h c3 dX6_sortByValue_28 ?_
            refine lv_iadd hx hb dX6_sortByValue_29 ?_
            obtain ⟨y4, ey4, hf⟩ := bnd_some hf
            refine k_X1_get X h ey4 k_X6_41 dX6_sortByValue_30 hl.1 ⟨(Nat.le_of_ble_eq_true rfl), (Nat.le_of_ble_eq_true rfl)⟩ (Nat.le_of_ble_eq_true rfl) ⟨Nat.zero_le _, Nat.zero_le _⟩ ?_
            refine lv_aload_n hx hb dX6_sortByValue_33 rfl (lv_at hl 0 rfl) ?_
            refine GC_2_0 X h k_X6_29 dX6_sortByValue_34 ?_
            refine lv_sipush (v := 8420) hx hb dX6_sortByValue_37 (by decide) ?_
            refine lv_iload_n hx hb dX6_sortByValue_40 rfl (lv_at hl 1 rfl) ?_
            refine lv_iadd hx hb dX6_sortByValue_41 ?_
            obtain ⟨y5, ey5, hf⟩ := bnd_some hf
            refine k_X1_get X h ey5 k_X6_41 dX6_sortByValue_42 hl.1 ⟨(Nat.le_of_ble_eq_true rfl), (Nat.le_of_ble_eq_true rfl)⟩ (Nat.le_of_ble_eq_true rfl) ⟨Nat.zero_le _, Nat.zero_le _⟩ ?_
            refine lv_icmp_le (tgt := 68) hx hb dX6_sortByValue_45 (by decide) (fun c6 => ?_) (fun c6 => ?_)
            · have hf := if_t c6 hf
              exact J68 _ _ _ _ _ _ hf h (lv_sub hl [0, 1, 2] rfl)
            · have hf := if_f c6 hf
              refine lv_aload_n hx hb dX6_sortByValue_48 rfl (lv_at hl 0 rfl) ?_
              refine GC_2_1 X h k_X6_9 dX6_sortByValue_49 ?_
              refine lv_iload_n hx hb dX6_sortByValue_52 rfl (lv_at hl 2 rfl) ?_
              refine lv_aload_n hx hb dX6_sortByValue_53 rfl (lv_at hl 0 rfl) ?_
              refine GC_2_1 X h k_X6_9 dX6_sortByValue_54 ?_
              refine lv_iload_n hx hb dX6_sortByValue_57 rfl (lv_at hl 2 rfl) ?_
              refine lv_iconst (v := 1) hx hb dX6_sortByValue_58 (by decide) ?_
              refine lv_isub hx hb dX6_sortByValue_59 ?_
              obtain ⟨c7, hf⟩ := chk_some hf
              refine LC_14 X h c7 dX6_sortByValue_60 ?_
              obtain ⟨c8, hf⟩ := chk_some hf
              refine SC_14 X h c8 dX6_sortByValue_61 (fun H locs h => ?_)
              refine lv_iinc (v := x2 + (-1 : Int32)) (lv' := [(2, .int (x2 + (-1 : Int32))), (0, .ref (gq G 2)), (1, .int x1)]) hx hb dX6_sortByValue_62 hl (k := 2) rfl (by rfl) (by decide) rfl (fun ls hl => ?_)
              refine lv_goto (tgt := 10) hx hb dX6_sortByValue_65 (by decide) ?_
              exact ih10 _ _ _ _ _ _ hf h (lv_sub hl [1, 2, 0] rfl)
      intro x1 w H locs ls hf h hl
      have hf : f_X6_sortByValue_l2_body (f_X6_sortByValue_l2 n2) x1 w = _ := hf
      unfold f_X6_sortByValue_l2_body at hf
      refine lv_iload_n hx hb dX6_sortByValue_2 rfl (lv_at hl 1 rfl) ?_
      refine lv_bipush (v := 12) hx hb dX6_sortByValue_3 (by decide) ?_
      refine lv_icmp_ge (tgt := 81) hx hb dX6_sortByValue_5 (by decide) (fun c9 => ?_) (fun c9 => ?_)
      · have hf := if_t c9 hf
        exact e0_v (Wf := cw G la) X.1 hr hlocks hf h dX6_sortByValue_81
      · have hf := if_f c9 hf
        refine lv_iload_n hx hb dX6_sortByValue_8 rfl (lv_at hl 1 rfl) ?_
        refine lv_istore_n (lv' := [(2, .int x1), (0, .ref (gq G 2)), (1, .int x1)]) hx hb dX6_sortByValue_9 rfl hl (by decide) rfl (fun ls hl => ?_)
        exact L10 FU _ _ _ _ _ _ hf h (lv_sub hl [1, 2, 0] rfl)
  obtain ⟨w, rfl⟩ : ∃ z, z = w0 := ⟨_, rfl⟩
  have hl : lv_has ls 3 [(0, .ref (gq G 2))] := hl
  unfold f_X6_sortByValue at hf
  refine lv_iconst (v := 0) hx hb dX6_sortByValue_0 (by decide) ?_
  refine lv_istore_n (lv' := [(1, .int ((0 : Int32))), (0, .ref (gq G 2))]) hx hb dX6_sortByValue_1 rfl hl (by decide) rfl (fun ls hl => ?_)
  exact L2 FU _ _ _ _ _ hf h (lv_sub hl [1, 0] rfl)
theorem m_X6_sortByValue : Cond.instanceMethod yX6_sortByValue ∈ lw_good ∧ Cond.selects RX6 yX6_sortByValue yX6_sortByValue ∈ lw_good ∧ Cond.initialized RX6 ∈ lw_good ∧ Cond.code yX6_sortByValue cX6_sortByValue 3 none ∈ lw_good := by decide +kernel
theorem k_X6_sortByValue {p : Program} {l : Launch} {e : Env} {R : Room} {s : State} {m : MethodId} {args : Array Value} {below : List Frame} {meth : Method} {c : Code} {H : Heap} {locs : List Loc} {cells slots : Nat} {Q : State → Prop} {cc : ByteArray} {nL pc idx : Nat} {ls : Array Slot} {rest : List Value} {own : String} {G : Gm} {A : Nat → Prop} {H0 : Heap} {la : Nat} {w : CW} {w' : CW} (X : CX own cc nL G p s m args c) (h : CH G (cw G la w) A H0 H locs) (hA : ∀ q, H0.size ≤ q → A q) (hf : f_X6_sortByValue w = some w') (hlk : Cond.methodLink own idx yX6_sortByValue ∈ lw_good) (hd : decode cc pc = .ok (.invokevirtual idx, 3)) (hsz : ls.size = nL) (hR : 2 ≤ R.frames ∧ 43 ≤ R.locals) (hrest : (rest.map fun v => v.category).sum ≤ 8) (hk : cells ≤ R.cells ∧ slots ≤ R.slots) (k : ∀ (H : Heap) (locs : List Loc), CH G (cw G la (w')) A H0 H locs → W p l e R s m args below meth c H locs cells slots Q (F0 m (pc + 3) ls (rest))) : W p l e R s m args below meth c H locs cells slots Q (F0 m pc ls (.ref (gq G 2) :: rest)) :=
  fin_v (n := 0) (runV (As := []) X.1 0 (t_X6_sortByValue l G la w w' hf _) rfl rfl hlk m_X6_sortByValue (by decide +kernel) ⟨hR.1, hR.2⟩ ⟨blindM, va_recv X.2.1 h.1 (ci := 5) (q0 := 2) rfl rfl, preM X.2 h⟩ rfl hsz hrest hd hk) h hA (fun _ H locs h => k H locs h)
def f_X6_countSpare_b62 (k2 : (Int32 → Int32 → CW → Option CW)) (k28 : (Int32 → Int32 → Int32 → CW → Option CW)) (x1 : Int32) (x2 : Int32) (x3 : Int32) (xs1 : Int32) (xs2 : Int32) (xs3 : Int32) (w : CW) : Option CW :=
 chk (inb xs1 12) (
 k28 x1 x2 (x3 + (1 : Int32)) (cs w 15 xs1.toNatClampNeg (xs2 - xs3)))
def f_X6_countSpare_l28_body (k2 : (Int32 → Int32 → CW → Option CW)) (kself : (Int32 → Int32 → Int32 → CW → Option CW)) (x1 : Int32) (x2 : Int32) (x3 : Int32) (w : CW) : Option CW :=
 if ((60 : Int32)) ≤ x3 then
 (k2 x1 (x2 + (1 : Int32)) w)
 else
 (chk (inb x2 12) (
 if x3 = x1 then
 (f_X6_countSpare_b62 k2 kself x1 x2 x3 x2 (w.1 15 x2.toNatClampNeg) ((0 : Int32)) w)
 else
 ((f_X6_creditCell x3 x2).bind fun y5 =>
 (f_X1_get y5 w).bind fun y6 =>
 f_X6_countSpare_b62 k2 kself x1 x2 x3 x2 (w.1 15 x2.toNatClampNeg) y6 w)))
def f_X6_countSpare_l28 (k2 : (Int32 → Int32 → CW → Option CW)) : Nat → Int32 → Int32 → Int32 → CW → Option CW
  | 0, _, _, _, _ => none
  | n + 1, x1, x2, x3, w => f_X6_countSpare_l28_body k2 (f_X6_countSpare_l28 k2 n) x1 x2 x3 w
def f_X6_countSpare_l2_body (kself : (Int32 → Int32 → CW → Option CW)) (x1 : Int32) (x2 : Int32) (w : CW) : Option CW :=
 if ((12 : Int32)) ≤ x2 then
 (some w)
 else
 ((f_X1_get (((8432 : Int32)) + x2) w).bind fun y8 =>
 chk (inb x2 12) (
 f_X6_countSpare_l28 kself FU x1 x2 ((0 : Int32)) (cs w 15 x2.toNatClampNeg y8)))
def f_X6_countSpare_l2 : Nat → Int32 → Int32 → CW → Option CW
  | 0, _, _, _ => none
  | n + 1, x1, x2, w => f_X6_countSpare_l2_body (f_X6_countSpare_l2 n) x1 x2 w
def f_X6_countSpare (x1 : Int32) (w : CW) : Option CW :=
 f_X6_countSpare_l2 FU x1 ((0 : Int32)) w
set_option maxHeartbeats 4000000 in
set_option maxRecDepth 100000 in
theorem t_X6_countSpare (l : Launch) (G : Gm) (la : Nat) (w0 : CW) (x1 : Int32) (w' : CW) (hf : f_X6_countSpare x1 w0 = some w') : MetV l yX6_countSpare cX6_countSpare 4 1 21 G (cw G la w0) [.ref (gq G 2), .int x1] (fun _ => cw G la (w')) 0 := by
  intro sz
  refine ent (own := RX6) (As := [.ref (gq G 2), .int x1]) (by decide +kernel) rfl (Nat.le_of_ble_eq_true rfl) (fun _ _ h => h.1) ?_
  intro p e s m args below meth c ls B hr hlocks hv hl
  obtain ⟨-, hsz, hP, hKK, hD⟩ := hv
  subst hsz
  have X : CX RX6 cX6_countSpare 4 G p s m args c := ⟨B, hKK⟩
  obtain ⟨hx, hb, hml, hown, hts⟩ := id B
  have hA : ∀ q : Nat, s.heap.size ≤ q → va_A (cw G la w0) s.heap.size q := fun q z => Or.inr z
  have h : CH G (cw G la w0) (va_A (cw G la w0) s.heap.size) s.heap s.heap [] := ⟨hP, hD.self, va_S.rf⟩
  have L2 : ∀ (n2 : Nat) (x1 : Int32) (x2 : Int32) (w : CW) (H : Heap) (locs : List Loc) (ls : Array Slot), f_X6_countSpare_l2 n2 x1 x2 w = some w' → CH G (cw G la w) (va_A (cw G la w0) s.heap.size) s.heap H locs → lv_has ls 4 [(0, .ref (gq G 2)), (1, .int x1), (2, .int x2)] → W p l e { frames := 1, cells := 0, slots := 4096 * 0, locals := 21 } s m args below meth c H locs 0 (4096 * 0) (MQ below (QV G (cw G la w0) s.heap.size (fun _ => cw G la (w'))) args s 0 (4096 * 0) (va_A (cw G la w0) s.heap.size)) (F0 m 2 ls []) := by
    intro n2
    induction n2 with
    | zero =>
      intro x1 x2 w H locs ls hf h hl
      cases (show (none : Option CW) = some _ from hf)
    | succ n2 ih2 =>
      have L28 : ∀ (n28 : Nat) (x1 : Int32) (x2 : Int32) (x3 : Int32) (w : CW) (H : Heap) (locs : List Loc) (ls : Array Slot), f_X6_countSpare_l28 (f_X6_countSpare_l2 n2) n28 x1 x2 x3 w = some w' → CH G (cw G la w) (va_A (cw G la w0) s.heap.size) s.heap H locs → lv_has ls 4 [(0, .ref (gq G 2)), (1, .int x1), (2, .int x2), (3, .int x3)] → W p l e { frames := 1, cells := 0, slots := 4096 * 0, locals := 21 } s m args below meth c H locs 0 (4096 * 0) (MQ below (QV G (cw G la w0) s.heap.size (fun _ => cw G la (w'))) args s 0 (4096 * 0) (va_A (cw G la w0) s.heap.size)) (F0 m 28 ls []) := by
        intro n28
        induction n28 with
        | zero =>
          intro x1 x2 x3 w H locs ls hf h hl
          cases (show (none : Option CW) = some _ from hf)
        | succ n28 ih28 =>
          have J62 : ∀ (x1 : Int32) (x2 : Int32) (x3 : Int32) (xs1 : Int32) (xs2 : Int32) (xs3 : Int32) (w : CW) (H : Heap) (locs : List Loc) (ls : Array Slot), f_X6_countSpare_b62 (f_X6_countSpare_l2 n2) (f_X6_countSpare_l28 (f_X6_countSpare_l2 n2) n28) x1 x2 x3 xs1 xs2 xs3 w = some w' → CH G (cw G la w) (va_A (cw G la w0) s.heap.size) s.heap H locs → lv_has ls 4 [(0, .ref (gq G 2)), (1, .int x1), (2, .int x2), (3, .int x3)] → W p l e { frames := 1, cells := 0, slots := 4096 * 0, locals := 21 } s m args below meth c H locs 0 (4096 * 0) (MQ below (QV G (cw G la w0) s.heap.size (fun _ => cw G la (w'))) args s 0 (4096 * 0) (va_A (cw G la w0) s.heap.size)) (F0 m 62 ls [.int xs3, .int xs2, .int xs1, .ref (gq G 15)]) := by
            intro x1 x2 x3 xs1 xs2 xs3 w H locs ls hf h hl
            unfold f_X6_countSpare_b62 at hf
            refine lv_isub hx hb dX6_countSpare_62 ?_
            obtain ⟨c1, hf⟩ := chk_some hf
            refine SC_15 X h c1 dX6_countSpare_63 (fun H locs h => ?_)
            refine lv_iinc (v := x3 + (1 : Int32)) (lv' := [(3, .int (x3 + (1 : Int32))), (0, .ref (gq G 2)), (1, .int x1), (2, .int x2)]) hx hb dX6_countSpare_64 hl (k := 3) rfl (by rfl) (by decide) rfl (fun ls hl => ?_)
            refine lv_goto (tgt := 28) hx hb dX6_countSpare_67 (by decide) ?_
            exact ih28 _ _ _ _ _ _ _ hf h (lv_sub hl [1, 2, 3, 0] rfl)
          intro x1 x2 x3 w H locs ls hf h hl
          have hf : f_X6_countSpare_l28_body (f_X6_countSpare_l2 n2) (f_X6_countSpare_l28 (f_X6_countSpare_l2 n2) n28) x1 x2 x3 w = _ := hf
          unfold f_X6_countSpare_l28_body at hf
          refine lv_iload_n hx hb dX6_countSpare_28 rfl (lv_at hl 3 rfl) ?_
          refine lv_bipush (v := 60) hx hb dX6_countSpare_29 (by decide) ?_
          refine lv_icmp_ge (tgt := 70) hx hb dX6_countSpare_31 (by decide) (fun c2 => ?_) (fun c2 => ?_)
          · have hf := if_t c2 hf
            refine lv_iinc (v := x2 + (1 : Int32)) (lv' := [(2, .int (x2 + (1 : Int32))), (0, .ref (gq G 2)), (1, .int x1), (3, .int x3)]) hx hb dX6_countSpare_70 hl (k := 2) rfl (by rfl) (by decide) rfl (fun ls hl => ?_)
            refine lv_goto (tgt := 2) hx hb dX6_countSpare_73 (by decide) ?_
            exact ih2 _ _ _ _ _ _ hf h (lv_sub hl [1, 2, 0] rfl)
          · have hf := if_f c2 hf
            refine lv_aload_n hx hb dX6_countSpare_34 rfl (lv_at hl 0 rfl) ?_
            refine GC_2_2 X h k_X6_15 dX6_countSpare_35 ?_
            refine lv_iload_n hx hb dX6_countSpare_38 rfl (lv_at hl 2 rfl) ?_
            refine lv_dup2_11 hx hb dX6_countSpare_39 rfl rfl ?_
            obtain ⟨c3, hf⟩ := chk_some hf
            refine LC_15 X h c3 dX6_countSpare_40 ?_
            refine lv_iload_n hx hb dX6_countSpare_41 rfl (lv_at hl 3 rfl) ?_
            refine lv_iload_n hx hb dX6_countSpare_42 rfl (lv_at hl 1 rfl) ?_
            refine lv_icmp_ne (tgt := 50) hx hb dX6_countSpare_43 (by decide) (fun c4 => ?_) (fun c4 => ?_)
            · have hf := if_f c4 hf
              refine lv_aload_n hx hb dX6_countSpare_50 rfl (lv_at hl 0 rfl) ?_
              refine GC_2_0 X h k_X6_29 dX6_countSpare_51 ?_
              refine lv_iload_n hx hb dX6_countSpare_54 rfl (lv_at hl 3 rfl) ?_
              refine lv_iload_n hx hb dX6_countSpare_55 rfl (lv_at hl 2 rfl) ?_
              obtain ⟨y5, ey5, hf⟩ := bnd_some hf
              refine k_X6_creditCell X.1 ey5 k_X6_37 dX6_countSpare_56 hl.1 ⟨(Nat.le_of_ble_eq_true rfl), (Nat.le_of_ble_eq_true rfl)⟩ (Nat.le_of_ble_eq_true rfl) ⟨Nat.zero_le _, Nat.zero_le _⟩ ?_
              obtain ⟨y6, ey6, hf⟩ := bnd_some hf
              refine k_X1_get X h ey6 k_X6_41 dX6_countSpare_59 hl.1 ⟨(Nat.le_of_ble_eq_true rfl), (Nat.le_of_ble_eq_true rfl)⟩ (Nat.le_of_ble_eq_true rfl) ⟨Nat.zero_le _, Nat.zero_le _⟩ ?_
              exact J62 _ _ _ _ _ _ _ _ _ _ hf h (lv_sub hl [0, 1, 2, 3] rfl)
            · have hf := if_t c4 hf
              refine lv_iconst (v := 0) hx hb dX6_countSpare_46 (by decide) ?_
              refine lv_goto (tgt := 62) hx hb dX6_countSpare_47 (by decide) ?_
              exact J62 _ _ _ _ _ _ _ _ _ _ hf h (lv_sub hl [0, 1, 2, 3] rfl)
      intro x1 x2 w H locs ls hf h hl
      have hf : f_X6_countSpare_l2_body (f_X6_countSpare_l2 n2) x1 x2 w = _ := hf
      unfold f_X6_countSpare_l2_body at hf
      refine lv_iload_n hx hb dX6_countSpare_2 rfl (lv_at hl 2 rfl) ?_
      refine lv_bipush (v := 12) hx hb dX6_countSpare_3 (by decide) ?_
      refine lv_icmp_ge (tgt := 76) hx hb dX6_countSpare_5 (by decide) (fun c7 => ?_) (fun c7 => ?_)
      · have hf := if_t c7 hf
        exact e0_v (Wf := cw G la) X.1 hr hlocks hf h dX6_countSpare_76
      · have hf := if_f c7 hf
        refine lv_aload_n hx hb dX6_countSpare_8 rfl (lv_at hl 0 rfl) ?_
        refine GC_2_2 X h k_X6_15 dX6_countSpare_9 ?_
        refine lv_iload_n hx hb dX6_countSpare_12 rfl (lv_at hl 2 rfl) ?_
        refine lv_aload_n hx hb dX6_countSpare_13 rfl (lv_at hl 0 rfl) ?_
        refine GC_2_0 X h k_X6_29 dX6_countSpare_14 ?_
        refine lv_sipush (v := 8432) hx hb dX6_countSpare_17 (by decide) ?_
        refine lv_iload_n hx hb dX6_countSpare_20 rfl (lv_at hl 2 rfl) ?_
        refine lv_iadd hx hb dX6_countSpare_21 ?_
        obtain ⟨y8, ey8, hf⟩ := bnd_some hf
        refine k_X1_get X h ey8 k_X6_41 dX6_countSpare_22 hl.1 ⟨(Nat.le_of_ble_eq_true rfl), (Nat.le_of_ble_eq_true rfl)⟩ (Nat.le_of_ble_eq_true rfl) ⟨Nat.zero_le _, Nat.zero_le _⟩ ?_
        obtain ⟨c9, hf⟩ := chk_some hf
        refine SC_15 X h c9 dX6_countSpare_25 (fun H locs h => ?_)
        refine lv_iconst (v := 0) hx hb dX6_countSpare_26 (by decide) ?_
        refine lv_istore_n (lv' := [(3, .int ((0 : Int32))), (0, .ref (gq G 2)), (1, .int x1), (2, .int x2)]) hx hb dX6_countSpare_27 rfl hl (by decide) rfl (fun ls hl => ?_)
        exact L28 FU _ _ _ _ _ _ _ hf h (lv_sub hl [1, 2, 3, 0] rfl)
  obtain ⟨w, rfl⟩ : ∃ z, z = w0 := ⟨_, rfl⟩
  have hl : lv_has ls 4 [(0, .ref (gq G 2)), (1, .int x1)] := hl
  unfold f_X6_countSpare at hf
  refine lv_iconst (v := 0) hx hb dX6_countSpare_0 (by decide) ?_
  refine lv_istore_n (lv' := [(2, .int ((0 : Int32))), (0, .ref (gq G 2)), (1, .int x1)]) hx hb dX6_countSpare_1 rfl hl (by decide) rfl (fun ls hl => ?_)
  exact L2 FU _ _ _ _ _ _ hf h (lv_sub hl [1, 2, 0] rfl)
theorem m_X6_countSpare : Cond.instanceMethod yX6_countSpare ∈ lw_good ∧ Cond.selects RX6 yX6_countSpare yX6_countSpare ∈ lw_good ∧ Cond.initialized RX6 ∈ lw_good ∧ Cond.code yX6_countSpare cX6_countSpare 4 none ∈ lw_good := by decide +kernel
theorem k_X6_countSpare {p : Program} {l : Launch} {e : Env} {R : Room} {s : State} {m : MethodId} {args : Array Value} {below : List Frame} {meth : Method} {c : Code} {H : Heap} {locs : List Loc} {cells slots : Nat} {Q : State → Prop} {cc : ByteArray} {nL pc idx : Nat} {ls : Array Slot} {rest : List Value} {own : String} {G : Gm} {A : Nat → Prop} {H0 : Heap} {la : Nat} {w : CW} {x1 : Int32} {w' : CW} (X : CX own cc nL G p s m args c) (h : CH G (cw G la w) A H0 H locs) (hA : ∀ q, H0.size ≤ q → A q) (hf : f_X6_countSpare x1 w = some w') (hlk : Cond.methodLink own idx yX6_countSpare ∈ lw_good) (hd : decode cc pc = .ok (.invokevirtual idx, 3)) (hsz : ls.size = nL) (hR : 2 ≤ R.frames ∧ 44 ≤ R.locals) (hrest : (rest.map fun v => v.category).sum ≤ 8) (hk : cells ≤ R.cells ∧ slots ≤ R.slots) (k : ∀ (H : Heap) (locs : List Loc), CH G (cw G la (w')) A H0 H locs → W p l e R s m args below meth c H locs cells slots Q (F0 m (pc + 3) ls (rest))) : W p l e R s m args below meth c H locs cells slots Q (F0 m pc ls (.int x1 :: .ref (gq G 2) :: rest)) :=
  fin_v (n := 0) (runV (As := [.int x1]) X.1 1 (t_X6_countSpare l G la w x1 w' hf _) rfl rfl hlk m_X6_countSpare (by decide +kernel) ⟨hR.1, hR.2⟩ ⟨blindM, va_recv X.2.1 h.1 (ci := 5) (q0 := 2) rfl rfl, preM X.2 h⟩ rfl hsz hrest hd hk) h hA (fun _ H locs h => k H locs h)
def f_X6_mostOf (x0 : Int32) (x1 : Int32) (x2 : Int32) : Option Int32 :=
 if 0 < x0 then
 (chk (¬ x0 = 0) (
 some (if ((0 : Int32)) < (if (x2 / x0) < x1 then (x2 / x0) else x1) then (if (x2 / x0) < x1 then (x2 / x0) else x1) else ((0 : Int32)))))
 else
 (some ((0 : Int32)))
set_option maxHeartbeats 4000000 in
set_option maxRecDepth 100000 in
theorem t_X6_mostOf (l : Launch) (x0 : Int32) (x1 : Int32) (x2 : Int32) (r : Int32) (hf : f_X6_mostOf x0 x1 x2 = some r) : MetP l yX6_mostOf cX6_mostOf 3 (some .int) 1 21 [.int x0, .int x1, .int x2] (.int r) := by
  refine ent (own := RX6) (As := [.int x0, .int x1, .int x2]) (by decide +kernel) rfl (Nat.le_of_ble_eq_true rfl) (fun _ _ h => h.1) ?_
  intro p e s m args below meth c ls B hr hlocks hv hl
  obtain ⟨hx, hb, hml, hown, hts⟩ := id B
  have hl : lv_has ls 3 [(0, .int x0), (1, .int x1), (2, .int x2)] := hl
  unfold f_X6_mostOf at hf
  refine lv_iload_n hx hb dX6_mostOf_0 rfl (lv_at hl 0 rfl) ?_
  refine lv_if_gt (tgt := 8) hx hb dX6_mostOf_1 (by decide) (fun c1 => ?_) (fun c1 => ?_)
  · have hf := if_t c1 hf
    refine lv_iconst (v := 0) hx hb dX6_mostOf_8 (by decide) ?_
    refine lv_iload_n hx hb dX6_mostOf_9 rfl (lv_at hl 1 rfl) ?_
    refine lv_iload_n hx hb dX6_mostOf_10 rfl (lv_at hl 2 rfl) ?_
    refine lv_iload_n hx hb dX6_mostOf_11 rfl (lv_at hl 0 rfl) ?_
    obtain ⟨c2, hf⟩ := chk_some hf
    refine lv_idiv hx hb dX6_mostOf_12 c2 ?_
    refine m_min B hl.1 k_X6_95 mn_w ⟨(Nat.le_of_ble_eq_true rfl), (Nat.le_of_ble_eq_true rfl)⟩ ⟨Nat.zero_le _, Nat.zero_le _⟩ dX6_mostOf_13 ?_
    refine m_max B hl.1 k_X6_100 mx_w ⟨(Nat.le_of_ble_eq_true rfl), (Nat.le_of_ble_eq_true rfl)⟩ ⟨Nat.zero_le _, Nat.zero_le _⟩ dX6_mostOf_16 ?_
    cases hf
    exact rr_i B hr hlocks dX6_mostOf_19
  · have hf := if_f c1 hf
    refine lv_iconst (v := 0) hx hb dX6_mostOf_4 (by decide) ?_
    refine lv_goto (tgt := 19) hx hb dX6_mostOf_5 (by decide) ?_
    cases hf
    exact rr_i B hr hlocks dX6_mostOf_19
theorem m_X6_mostOf : Cond.static yX6_mostOf ∈ lw_good ∧ Cond.initialized yX6_mostOf.cls ∈ lw_good ∧ Cond.code yX6_mostOf cX6_mostOf 3 (some .int) ∈ lw_good := by decide +kernel
theorem k_X6_mostOf {p : Program} {l : Launch} {e : Env} {R : Room} {s : State} {m : MethodId} {args : Array Value} {below : List Frame} {meth : Method} {c : Code} {H : Heap} {locs : List Loc} {cells slots : Nat} {Q : State → Prop} {cc : ByteArray} {nL pc idx : Nat} {ls : Array Slot} {rest : List Value} {own : String} {x0 : Int32} {x1 : Int32} {x2 : Int32} {r : Int32} (B : CB own cc nL p s m args c) (hf : f_X6_mostOf x0 x1 x2 = some r) (hlk : Cond.methodLink own idx yX6_mostOf ∈ lw_good) (hd : decode cc pc = .ok (.invokestatic idx, 3)) (hsz : ls.size = nL) (hR : 2 ≤ R.frames ∧ 43 ≤ R.locals) (hrest : (rest.map fun v => v.category).sum ≤ 8) (hk : cells ≤ R.cells ∧ slots ≤ R.slots) (k : W p l e R s m args below meth c H locs cells slots Q (F0 m (pc + 3) ls (.int r :: rest))) : W p l e R s m args below meth c H locs cells slots Q (F0 m pc ls (.int x2 :: .int x1 :: .int x0 :: rest)) :=
  fin_r (runS (As := [.int x0, .int x1, .int x2]) B 3 (t_X6_mostOf l x0 x1 x2 r hf) rfl rfl hlk m_X6_mostOf (by decide +kernel) ⟨hR.1, hR.2⟩ ⟨blindP, preP⟩ rfl hsz hrest hd hk) k
def f_X6_addTube_l42_body (k11 : (Nat → Int32 → Int32 → Int32 → Int32 → CW → Option CW)) (kself : (Nat → Int32 → Int32 → Int32 → Int32 → Int32 → Int32 → Int32 → CW → Option CW)) (x0 : Nat) (x1 : Int32) (x3 : Int32) (x4 : Int32) (x5 : Int32) (x6 : Int32) (x7 : Int32) (x8 : Int32) (w : CW) : Option CW :=
 if x8 < x7 then
 (k11 x0 x1 x3 (x4 - x6) (x5 * ((2 : Int32))) w)
 else
 (chk (inb x8 501) (
 chk (25 ≤ x0 ∧ x0 < 38) (
 chk (inb (x8 - x7) 501) (
 chk (25 ≤ x0 ∧ x0 < 38) (
 chk (inb x8 501) (
 chk (25 ≤ x0 ∧ x0 < 38) (
 (some (cs w x0 x8.toNatClampNeg (if ((w.1 x0 (x8 - x7).toNatClampNeg) + x6) < (w.1 x0 x8.toNatClampNeg) then ((w.1 x0 (x8 - x7).toNatClampNeg) + x6) else (w.1 x0 x8.toNatClampNeg)))).bind fun w8 =>
 kself x0 x1 x3 x4 x5 x6 x7 (x8 + (-1 : Int32)) w8)))))))
def f_X6_addTube_l42 (k11 : (Nat → Int32 → Int32 → Int32 → Int32 → CW → Option CW)) : Nat → Nat → Int32 → Int32 → Int32 → Int32 → Int32 → Int32 → Int32 → CW → Option CW
  | 0, _, _, _, _, _, _, _, _, _ => none
  | n + 1, x0, x1, x3, x4, x5, x6, x7, x8, w => f_X6_addTube_l42_body k11 (f_X6_addTube_l42 k11 n) x0 x1 x3 x4 x5 x6 x7 x8 w
def f_X6_addTube_l11_body (kself : (Nat → Int32 → Int32 → Int32 → Int32 → CW → Option CW)) (x0 : Nat) (x1 : Int32) (x3 : Int32) (x4 : Int32) (x5 : Int32) (w : CW) : Option CW :=
 if x4 ≤ 0 then
 (some w)
 else
 (if ((500 : Int32)) < x5 then
 (some w)
 else
 (f_X6_addTube_l42 kself FU x0 x1 x3 x4 x5 (if x4 < x5 then x4 else x5) ((if x4 < x5 then x4 else x5) * x1) x3 w))
def f_X6_addTube_l11 : Nat → Nat → Int32 → Int32 → Int32 → Int32 → CW → Option CW
  | 0, _, _, _, _, _, _ => none
  | n + 1, x0, x1, x3, x4, x5, w => f_X6_addTube_l11_body (f_X6_addTube_l11 n) x0 x1 x3 x4 x5 w
def f_X6_addTube (x0 : Nat) (x1 : Int32) (x2 : Int32) (x3 : Int32) (w : CW) : Option CW :=
 (f_X6_mostOf x1 x2 x3).bind fun y11 =>
 f_X6_addTube_l11 FU x0 x1 x3 y11 ((1 : Int32)) w
set_option maxHeartbeats 4000000 in
set_option maxRecDepth 100000 in
theorem t_X6_addTube (l : Launch) (G : Gm) (la : Nat) (w0 : CW) (x0 : Nat) (x1 : Int32) (x2 : Int32) (x3 : Int32) (hj0 : 25 ≤ x0 ∧ x0 < 38) (w' : CW) (hf : f_X6_addTube x0 x1 x2 x3 w0 = some w') : MetV l yX6_addTube cX6_addTube 9 2 43 G (cw G la w0) [.ref (gq G x0), .int x1, .int x2, .int x3] (fun _ => cw G la (w')) 0 := by
  intro sz
  refine ent (own := RX6) (As := [.ref (gq G x0), .int x1, .int x2, .int x3]) (by decide +kernel) rfl (Nat.le_of_ble_eq_true rfl) (fun _ _ h => h.1) ?_
  intro p e s m args below meth c ls B hr hlocks hv hl
  obtain ⟨-, hsz, hP, hKK, hD⟩ := hv
  subst hsz
  have X : CX RX6 cX6_addTube 9 G p s m args c := ⟨B, hKK⟩
  obtain ⟨hx, hb, hml, hown, hts⟩ := id B
  have hA : ∀ q : Nat, s.heap.size ≤ q → va_A (cw G la w0) s.heap.size q := fun q z => Or.inr z
  have h : CH G (cw G la w0) (va_A (cw G la w0) s.heap.size) s.heap s.heap [] := ⟨hP, hD.self, va_S.rf⟩
  have L11 : ∀ (n11 : Nat) (x0 : Nat) (x1 : Int32) (x3 : Int32) (x4 : Int32) (x5 : Int32) (w : CW) (H : Heap) (locs : List Loc) (ls : Array Slot), f_X6_addTube_l11 n11 x0 x1 x3 x4 x5 w = some w' → CH G (cw G la w) (va_A (cw G la w0) s.heap.size) s.heap H locs → lv_has ls 9 [(0, .ref (gq G x0)), (1, .int x1), (3, .int x3), (4, .int x4), (5, .int x5)] → W p l e { frames := 2, cells := 0, slots := 4096 * 0, locals := 43 } s m args below meth c H locs 0 (4096 * 0) (MQ below (QV G (cw G la w0) s.heap.size (fun _ => cw G la (w'))) args s 0 (4096 * 0) (va_A (cw G la w0) s.heap.size)) (F0 m 11 ls []) := by
    intro n11
    induction n11 with
    | zero =>
      intro x0 x1 x3 x4 x5 w H locs ls hf h hl
      cases (show (none : Option CW) = some _ from hf)
    | succ n11 ih11 =>
      have L42 : ∀ (n42 : Nat) (x0 : Nat) (x1 : Int32) (x3 : Int32) (x4 : Int32) (x5 : Int32) (x6 : Int32) (x7 : Int32) (x8 : Int32) (w : CW) (H : Heap) (locs : List Loc) (ls : Array Slot), f_X6_addTube_l42 (f_X6_addTube_l11 n11) n42 x0 x1 x3 x4 x5 x6 x7 x8 w = some w' → CH G (cw G la w) (va_A (cw G la w0) s.heap.size) s.heap H locs → lv_has ls 9 [(0, .ref (gq G x0)), (1, .int x1), (3, .int x3), (4, .int x4), (5, .int x5), (6, .int x6), (7, .int x7), (8, .int x8)] → W p l e { frames := 2, cells := 0, slots := 4096 * 0, locals := 43 } s m args below meth c H locs 0 (4096 * 0) (MQ below (QV G (cw G la w0) s.heap.size (fun _ => cw G la (w'))) args s 0 (4096 * 0) (va_A (cw G la w0) s.heap.size)) (F0 m 42 ls []) := by
        intro n42
        induction n42 with
        | zero =>
          intro x0 x1 x3 x4 x5 x6 x7 x8 w H locs ls hf h hl
          cases (show (none : Option CW) = some _ from hf)
        | succ n42 ih42 =>
          intro x0 x1 x3 x4 x5 x6 x7 x8 w H locs ls hf h hl
          have hf : f_X6_addTube_l42_body (f_X6_addTube_l11 n11) (f_X6_addTube_l42 (f_X6_addTube_l11 n11) n42) x0 x1 x3 x4 x5 x6 x7 x8 w = _ := hf
          unfold f_X6_addTube_l42_body at hf
          refine lv_iload hx hb dX6_addTube_42 (lv_at hl 7 rfl) ?_
          refine lv_iload hx hb dX6_addTube_44 (lv_at hl 6 rfl) ?_
          refine lv_icmp_lt (tgt := 76) hx hb dX6_addTube_46 (by decide) (fun c1 => ?_) (fun c1 => ?_)
          · have hf := if_t c1 hf
            refine lv_iload hx hb dX6_addTube_76 (lv_at hl 3 rfl) ?_
            refine lv_iload hx hb dX6_addTube_78 (lv_at hl 5 rfl) ?_
            refine lv_isub hx hb dX6_addTube_80 ?_
            refine lv_istore (lv' := [(4, .int (x4 - x6)), (0, .ref (gq G x0)), (1, .int x1), (3, .int x3), (5, .int x5), (6, .int x6), (7, .int x7), (8, .int x8)]) hx hb dX6_addTube_81 hl (by decide) rfl (fun ls hl => ?_)
            refine lv_iload hx hb dX6_addTube_83 (lv_at hl 4 rfl) ?_
            refine lv_iconst (v := 2) hx hb dX6_addTube_85 (by decide) ?_
            refine lv_imul hx hb dX6_addTube_86 ?_
            refine lv_istore (lv' := [(5, .int (x5 * ((2 : Int32)))), (4, .int (x4 - x6)), (0, .ref (gq G x0)), (1, .int x1), (3, .int x3), (6, .int x6), (7, .int x7), (8, .int x8)]) hx hb dX6_addTube_87 hl (by decide) rfl (fun ls hl => ?_)
            refine lv_goto (tgt := 11) hx hb dX6_addTube_89 (by decide) ?_
            exact ih11 _ _ _ _ _ _ _ _ _ hf h (lv_sub hl [2, 3, 4, 1, 0] rfl)
          · have hf := if_f c1 hf
            refine lv_aload_n hx hb dX6_addTube_49 rfl (lv_at hl 0 rfl) ?_
            refine lv_iload hx hb dX6_addTube_50 (lv_at hl 7 rfl) ?_
            refine lv_aload_n hx hb dX6_addTube_52 rfl (lv_at hl 0 rfl) ?_
            refine lv_iload hx hb dX6_addTube_53 (lv_at hl 7 rfl) ?_
            obtain ⟨c2, hf⟩ := chk_some hf
            obtain ⟨c3, hf⟩ := chk_some hf
            refine LC_row X h c3 c2 dX6_addTube_55 ?_
            refine lv_aload_n hx hb dX6_addTube_56 rfl (lv_at hl 0 rfl) ?_
            refine lv_iload hx hb dX6_addTube_57 (lv_at hl 7 rfl) ?_
            refine lv_iload hx hb dX6_addTube_59 (lv_at hl 6 rfl) ?_
            refine lv_isub hx hb dX6_addTube_61 ?_
            obtain ⟨c4, hf⟩ := chk_some hf
            obtain ⟨c5, hf⟩ := chk_some hf
            refine LC_row X h c5 c4 dX6_addTube_62 ?_
            refine lv_iload hx hb dX6_addTube_63 (lv_at hl 5 rfl) ?_
            refine lv_iadd hx hb dX6_addTube_65 ?_
            refine m_min X.1 hl.1 k_X6_95 mn_w ⟨(Nat.le_of_ble_eq_true rfl), (Nat.le_of_ble_eq_true rfl)⟩ ⟨Nat.zero_le _, Nat.zero_le _⟩ dX6_addTube_66 ?_
            obtain ⟨c6, hf⟩ := chk_some hf
            obtain ⟨c7, hf⟩ := chk_some hf
            refine SC_row X h c7 c6 dX6_addTube_69 (fun H locs h => ?_)
            obtain ⟨w8, ew8, hf⟩ := bnd_some hf
            have h := (Option.some.inj ew8) ▸ h
            refine lv_iinc (v := x8 + (-1 : Int32)) (lv' := [(8, .int (x8 + (-1 : Int32))), (0, .ref (gq G x0)), (1, .int x1), (3, .int x3), (4, .int x4), (5, .int x5), (6, .int x6), (7, .int x7)]) hx hb dX6_addTube_70 hl (k := 7) rfl (by rfl) (by decide) rfl (fun ls hl => ?_)
            refine lv_goto (tgt := 42) hx hb dX6_addTube_73 (by decide) ?_
            exact ih42 _ _ _ _ _ _ _ _ _ _ _ _ hf h (lv_sub hl [1, 2, 3, 4, 5, 6, 7, 0] rfl)
      intro x0 x1 x3 x4 x5 w H locs ls hf h hl
      have hf : f_X6_addTube_l11_body (f_X6_addTube_l11 n11) x0 x1 x3 x4 x5 w = _ := hf
      unfold f_X6_addTube_l11_body at hf
      refine lv_iload hx hb dX6_addTube_11 (lv_at hl 3 rfl) ?_
      refine lv_if_le (tgt := 92) hx hb dX6_addTube_13 (by decide) (fun c9 => ?_) (fun c9 => ?_)
      · have hf := if_t c9 hf
        exact e0_v (Wf := cw G la) X.1 hr hlocks hf h dX6_addTube_92
      · have hf := if_f c9 hf
        refine lv_iload hx hb dX6_addTube_16 (lv_at hl 4 rfl) ?_
        refine lv_sipush (v := 500) hx hb dX6_addTube_18 (by decide) ?_
        refine lv_icmp_gt (tgt := 92) hx hb dX6_addTube_21 (by decide) (fun c10 => ?_) (fun c10 => ?_)
        · have hf := if_t c10 hf
          exact e0_v (Wf := cw G la) X.1 hr hlocks hf h dX6_addTube_92
        · have hf := if_f c10 hf
          refine lv_iload hx hb dX6_addTube_24 (lv_at hl 4 rfl) ?_
          refine lv_iload hx hb dX6_addTube_26 (lv_at hl 3 rfl) ?_
          refine m_min X.1 hl.1 k_X6_95 mn_w ⟨(Nat.le_of_ble_eq_true rfl), (Nat.le_of_ble_eq_true rfl)⟩ ⟨Nat.zero_le _, Nat.zero_le _⟩ dX6_addTube_28 ?_
          refine lv_istore (lv' := [(6, .int (if x4 < x5 then x4 else x5)), (0, .ref (gq G x0)), (1, .int x1), (3, .int x3), (4, .int x4), (5, .int x5)]) hx hb dX6_addTube_31 hl (by decide) rfl (fun ls hl => ?_)
          refine lv_iload hx hb dX6_addTube_33 (lv_at hl 0 rfl) ?_
          refine lv_iload_n hx hb dX6_addTube_35 rfl (lv_at hl 2 rfl) ?_
          refine lv_imul hx hb dX6_addTube_36 ?_
          refine lv_istore (lv' := [(7, .int ((if x4 < x5 then x4 else x5) * x1)), (6, .int (if x4 < x5 then x4 else x5)), (0, .ref (gq G x0)), (1, .int x1), (3, .int x3), (4, .int x4), (5, .int x5)]) hx hb dX6_addTube_37 hl (by decide) rfl (fun ls hl => ?_)
          refine lv_iload_n hx hb dX6_addTube_39 rfl (lv_at hl 4 rfl) ?_
          refine lv_istore (lv' := [(8, .int x3), (7, .int ((if x4 < x5 then x4 else x5) * x1)), (6, .int (if x4 < x5 then x4 else x5)), (0, .ref (gq G x0)), (1, .int x1), (3, .int x3), (4, .int x4), (5, .int x5)]) hx hb dX6_addTube_40 hl (by decide) rfl (fun ls hl => ?_)
          exact L42 FU _ _ _ _ _ _ _ _ _ _ _ _ hf h (lv_sub hl [3, 4, 5, 6, 7, 2, 1, 0] rfl)
  obtain ⟨w, rfl⟩ : ∃ z, z = w0 := ⟨_, rfl⟩
  have hl : lv_has ls 9 [(0, .ref (gq G x0)), (1, .int x1), (2, .int x2), (3, .int x3)] := hl
  unfold f_X6_addTube at hf
  refine lv_iload_n hx hb dX6_addTube_0 rfl (lv_at hl 1 rfl) ?_
  refine lv_iload_n hx hb dX6_addTube_1 rfl (lv_at hl 2 rfl) ?_
  refine lv_iload_n hx hb dX6_addTube_2 rfl (lv_at hl 3 rfl) ?_
  obtain ⟨y11, ey11, hf⟩ := bnd_some hf
  refine k_X6_mostOf X.1 ey11 k_X6_91 dX6_addTube_3 hl.1 ⟨(Nat.le_of_ble_eq_true rfl), (Nat.le_of_ble_eq_true rfl)⟩ (Nat.le_of_ble_eq_true rfl) ⟨Nat.zero_le _, Nat.zero_le _⟩ ?_
  refine lv_istore (lv' := [(4, .int y11), (0, .ref (gq G x0)), (1, .int x1), (2, .int x2), (3, .int x3)]) hx hb dX6_addTube_6 hl (by decide) rfl (fun ls hl => ?_)
  refine lv_iconst (v := 1) hx hb dX6_addTube_8 (by decide) ?_
  refine lv_istore (lv' := [(5, .int ((1 : Int32))), (4, .int y11), (0, .ref (gq G x0)), (1, .int x1), (2, .int x2), (3, .int x3)]) hx hb dX6_addTube_9 hl (by decide) rfl (fun ls hl => ?_)
  exact L11 FU _ _ _ _ _ _ _ _ _ hf h (lv_sub hl [2, 3, 5, 1, 0] rfl)
theorem m_X6_addTube : Cond.static yX6_addTube ∈ lw_good ∧ Cond.initialized yX6_addTube.cls ∈ lw_good ∧ Cond.code yX6_addTube cX6_addTube 9 none ∈ lw_good := by decide +kernel
theorem k_X6_addTube {p : Program} {l : Launch} {e : Env} {R : Room} {s : State} {m : MethodId} {args : Array Value} {below : List Frame} {meth : Method} {c : Code} {H : Heap} {locs : List Loc} {cells slots : Nat} {Q : State → Prop} {cc : ByteArray} {nL pc idx : Nat} {ls : Array Slot} {rest : List Value} {own : String} {G : Gm} {A : Nat → Prop} {H0 : Heap} {la : Nat} {w : CW} {x0 : Nat} {x1 : Int32} {x2 : Int32} {x3 : Int32} {w' : CW} (X : CX own cc nL G p s m args c) (h : CH G (cw G la w) A H0 H locs) (hA : ∀ q, H0.size ≤ q → A q) (hj0 : 25 ≤ x0 ∧ x0 < 38) (hf : f_X6_addTube x0 x1 x2 x3 w = some w') (hlk : Cond.methodLink own idx yX6_addTube ∈ lw_good) (hd : decode cc pc = .ok (.invokestatic idx, 3)) (hsz : ls.size = nL) (hR : 3 ≤ R.frames ∧ 71 ≤ R.locals) (hrest : (rest.map fun v => v.category).sum ≤ 8) (hk : cells ≤ R.cells ∧ slots ≤ R.slots) (k : ∀ (H : Heap) (locs : List Loc), CH G (cw G la (w')) A H0 H locs → W p l e R s m args below meth c H locs cells slots Q (F0 m (pc + 3) ls (rest))) : W p l e R s m args below meth c H locs cells slots Q (F0 m pc ls (.int x3 :: .int x2 :: .int x1 :: .ref (gq G x0) :: rest)) :=
  fin_v (n := 0) (runS (As := [.ref (gq G x0), .int x1, .int x2, .int x3]) X.1 4 (t_X6_addTube l G la w x0 x1 x2 x3 hj0 w' hf _) rfl rfl hlk m_X6_addTube (by decide +kernel) ⟨hR.1, hR.2⟩ ⟨blindM, preM X.2 h⟩ rfl hsz hrest hd hk) h hA (fun _ H locs h => k H locs h)
def f_X6_pickCoins_b90 (k5 : (Int32 → Int32 → CW → Option CW)) (x2 : Int32) (x3 : Int32) (x4 : Int32) (x5 : Int32) (x6 : Int32) (w : CW) : Option CW :=
 chk (inb x4 12) (
 k5 (x2 - (x6 * x5)) (x3 + (-1 : Int32)) (cs w 16 x4.toNatClampNeg x6))
def f_X6_pickCoins_l49_body (k5 : (Int32 → Int32 → CW → Option CW)) (kself : (Int32 → Int32 → Int32 → Int32 → Int32 → CW → Option CW)) (x2 : Int32) (x3 : Int32) (x4 : Int32) (x5 : Int32) (x6 : Int32) (w : CW) : Option CW :=
 if x6 ≤ 0 then
 (f_X6_pickCoins_b90 k5 x2 x3 x4 x5 x6 w)
 else
 (chk (inb (x3 - ((1 : Int32))) 13) (
 chk (inb (x2 - (x6 * x5)) 501) (
 chk (inb x3 13) (
 chk (inb x2 501) (
 if ((w.1 (25 + (x3 - ((1 : Int32))).toNatClampNeg) (x2 - (x6 * x5)).toNatClampNeg) + x6) = (w.1 (25 + x3.toNatClampNeg) x2.toNatClampNeg) then
 (f_X6_pickCoins_b90 k5 x2 x3 x4 x5 x6 w)
 else
 (kself x2 x3 x4 x5 (x6 + (-1 : Int32)) w))))))
def f_X6_pickCoins_l49 (k5 : (Int32 → Int32 → CW → Option CW)) : Nat → Int32 → Int32 → Int32 → Int32 → Int32 → CW → Option CW
  | 0, _, _, _, _, _, _ => none
  | n + 1, x2, x3, x4, x5, x6, w => f_X6_pickCoins_l49_body k5 (f_X6_pickCoins_l49 k5 n) x2 x3 x4 x5 x6 w
def f_X6_pickCoins_l5_body (kself : (Int32 → Int32 → CW → Option CW)) (x2 : Int32) (x3 : Int32) (w : CW) : Option CW :=
 if x3 ≤ 0 then
 (some w)
 else
 (chk (inb (x3 - ((1 : Int32))) 12) (
 (f_X1_get (((8420 : Int32)) + (w.1 14 (x3 - ((1 : Int32))).toNatClampNeg)) w).bind fun y10 =>
 chk (inb (w.1 14 (x3 - ((1 : Int32))).toNatClampNeg) 12) (
 (f_X6_mostOf y10 (w.1 15 (w.1 14 (x3 - ((1 : Int32))).toNatClampNeg).toNatClampNeg) x2).bind fun y12 =>
 f_X6_pickCoins_l49 kself FU x2 x3 (w.1 14 (x3 - ((1 : Int32))).toNatClampNeg) y10 y12 w)))
def f_X6_pickCoins_l5 : Nat → Int32 → Int32 → CW → Option CW
  | 0, _, _, _ => none
  | n + 1, x2, x3, w => f_X6_pickCoins_l5_body (f_X6_pickCoins_l5 n) x2 x3 w
def f_X6_pickCoins (x1 : Int32) (w : CW) : Option CW :=
 f_X6_pickCoins_l5 FU x1 ((12 : Int32)) w
set_option maxHeartbeats 4000000 in
set_option maxRecDepth 100000 in
theorem t_X6_pickCoins (l : Launch) (G : Gm) (la : Nat) (w0 : CW) (x1 : Int32) (w' : CW) (hf : f_X6_pickCoins x1 w0 = some w') : MetV l yX6_pickCoins cX6_pickCoins 7 2 43 G (cw G la w0) [.ref (gq G 2), .int x1] (fun _ => cw G la (w')) 0 := by
  intro sz
  refine ent (own := RX6) (As := [.ref (gq G 2), .int x1]) (by decide +kernel) rfl (Nat.le_of_ble_eq_true rfl) (fun _ _ h => h.1) ?_
  intro p e s m args below meth c ls B hr hlocks hv hl
  obtain ⟨-, hsz, hP, hKK, hD⟩ := hv
  subst hsz
  have X : CX RX6 cX6_pickCoins 7 G p s m args c := ⟨B, hKK⟩
  obtain ⟨hx, hb, hml, hown, hts⟩ := id B
  have hA : ∀ q : Nat, s.heap.size ≤ q → va_A (cw G la w0) s.heap.size q := fun q z => Or.inr z
  have h : CH G (cw G la w0) (va_A (cw G la w0) s.heap.size) s.heap s.heap [] := ⟨hP, hD.self, va_S.rf⟩
  have L5 : ∀ (n5 : Nat) (x2 : Int32) (x3 : Int32) (w : CW) (H : Heap) (locs : List Loc) (ls : Array Slot), f_X6_pickCoins_l5 n5 x2 x3 w = some w' → CH G (cw G la w) (va_A (cw G la w0) s.heap.size) s.heap H locs → lv_has ls 7 [(0, .ref (gq G 2)), (2, .int x2), (3, .int x3)] → W p l e { frames := 2, cells := 0, slots := 4096 * 0, locals := 43 } s m args below meth c H locs 0 (4096 * 0) (MQ below (QV G (cw G la w0) s.heap.size (fun _ => cw G la (w'))) args s 0 (4096 * 0) (va_A (cw G la w0) s.heap.size)) (F0 m 5 ls []) := by
    intro n5
    induction n5 with
    | zero =>
      intro x2 x3 w H locs ls hf h hl
      cases (show (none : Option CW) = some _ from hf)
    | succ n5 ih5 =>
      have J90 : ∀ (x2 : Int32) (x3 : Int32) (x4 : Int32) (x5 : Int32) (x6 : Int32) (w : CW) (H : Heap) (locs : List Loc) (ls : Array Slot), f_X6_pickCoins_b90 (f_X6_pickCoins_l5 n5) x2 x3 x4 x5 x6 w = some w' → CH G (cw G la w) (va_A (cw G la w0) s.heap.size) s.heap H locs → lv_has ls 7 [(0, .ref (gq G 2)), (2, .int x2), (3, .int x3), (4, .int x4), (5, .int x5), (6, .int x6)] → W p l e { frames := 2, cells := 0, slots := 4096 * 0, locals := 43 } s m args below meth c H locs 0 (4096 * 0) (MQ below (QV G (cw G la w0) s.heap.size (fun _ => cw G la (w'))) args s 0 (4096 * 0) (va_A (cw G la w0) s.heap.size)) (F0 m 90 ls []) := by
        intro x2 x3 x4 x5 x6 w H locs ls hf h hl
        unfold f_X6_pickCoins_b90 at hf
        refine lv_aload_n hx hb dX6_pickCoins_90 rfl (lv_at hl 0 rfl) ?_
        refine GC_2_3 X h k_X6_18 dX6_pickCoins_91 ?_
        refine lv_iload hx hb dX6_pickCoins_94 (lv_at hl 3 rfl) ?_
        refine lv_iload hx hb dX6_pickCoins_96 (lv_at hl 5 rfl) ?_
        obtain ⟨c1, hf⟩ := chk_some hf
        refine SC_16 X h c1 dX6_pickCoins_98 (fun H locs h => ?_)
        refine lv_iload_n hx hb dX6_pickCoins_99 rfl (lv_at hl 1 rfl) ?_
        refine lv_iload hx hb dX6_pickCoins_100 (lv_at hl 5 rfl) ?_
        refine lv_iload hx hb dX6_pickCoins_102 (lv_at hl 4 rfl) ?_
        refine lv_imul hx hb dX6_pickCoins_104 ?_
        refine lv_isub hx hb dX6_pickCoins_105 ?_
        refine lv_istore_n (lv' := [(2, .int (x2 - (x6 * x5))), (0, .ref (gq G 2)), (3, .int x3), (4, .int x4), (5, .int x5), (6, .int x6)]) hx hb dX6_pickCoins_106 rfl hl (by decide) rfl (fun ls hl => ?_)
        refine lv_iinc (v := x3 + (-1 : Int32)) (lv' := [(3, .int (x3 + (-1 : Int32))), (2, .int (x2 - (x6 * x5))), (0, .ref (gq G 2)), (4, .int x4), (5, .int x5), (6, .int x6)]) hx hb dX6_pickCoins_107 hl (k := 2) rfl (by rfl) (by decide) rfl (fun ls hl => ?_)
        refine lv_goto (tgt := 5) hx hb dX6_pickCoins_110 (by decide) ?_
        exact ih5 _ _ _ _ _ _ hf h (lv_sub hl [2, 1, 0] rfl)
      have L49 : ∀ (n49 : Nat) (x2 : Int32) (x3 : Int32) (x4 : Int32) (x5 : Int32) (x6 : Int32) (w : CW) (H : Heap) (locs : List Loc) (ls : Array Slot), f_X6_pickCoins_l49 (f_X6_pickCoins_l5 n5) n49 x2 x3 x4 x5 x6 w = some w' → CH G (cw G la w) (va_A (cw G la w0) s.heap.size) s.heap H locs → lv_has ls 7 [(0, .ref (gq G 2)), (2, .int x2), (3, .int x3), (4, .int x4), (5, .int x5), (6, .int x6)] → W p l e { frames := 2, cells := 0, slots := 4096 * 0, locals := 43 } s m args below meth c H locs 0 (4096 * 0) (MQ below (QV G (cw G la w0) s.heap.size (fun _ => cw G la (w'))) args s 0 (4096 * 0) (va_A (cw G la w0) s.heap.size)) (F0 m 49 ls []) := by
        intro n49
        induction n49 with
        | zero =>
          intro x2 x3 x4 x5 x6 w H locs ls hf h hl
          cases (show (none : Option CW) = some _ from hf)
        | succ n49 ih49 =>
          intro x2 x3 x4 x5 x6 w H locs ls hf h hl
          have hf : f_X6_pickCoins_l49_body (f_X6_pickCoins_l5 n5) (f_X6_pickCoins_l49 (f_X6_pickCoins_l5 n5) n49) x2 x3 x4 x5 x6 w = _ := hf
          unfold f_X6_pickCoins_l49_body at hf
          refine lv_iload hx hb dX6_pickCoins_49 (lv_at hl 5 rfl) ?_
          refine lv_if_le (tgt := 90) hx hb dX6_pickCoins_51 (by decide) (fun c2 => ?_) (fun c2 => ?_)
          · have hf := if_t c2 hf
            exact J90 _ _ _ _ _ _ _ _ _ hf h (lv_sub hl [0, 1, 2, 3, 4, 5] rfl)
          · have hf := if_f c2 hf
            refine lv_aload_n hx hb dX6_pickCoins_54 rfl (lv_at hl 0 rfl) ?_
            refine GC_2_5 X h k_X6_26 dX6_pickCoins_55 ?_
            refine lv_iload_n hx hb dX6_pickCoins_58 rfl (lv_at hl 2 rfl) ?_
            refine lv_iconst (v := 1) hx hb dX6_pickCoins_59 (by decide) ?_
            refine lv_isub hx hb dX6_pickCoins_60 ?_
            obtain ⟨c3, hf⟩ := chk_some hf
            have qc3 := inb_lt c3
            refine AW X h c3 dX6_pickCoins_61 ?_
            refine lv_iload_n hx hb dX6_pickCoins_62 rfl (lv_at hl 1 rfl) ?_
            refine lv_iload hx hb dX6_pickCoins_63 (lv_at hl 5 rfl) ?_
            refine lv_iload hx hb dX6_pickCoins_65 (lv_at hl 4 rfl) ?_
            refine lv_imul hx hb dX6_pickCoins_67 ?_
            refine lv_isub hx hb dX6_pickCoins_68 ?_
            obtain ⟨c4, hf⟩ := chk_some hf
            refine LC_row X h (by omega) c4 dX6_pickCoins_69 ?_
            refine lv_iload hx hb dX6_pickCoins_70 (lv_at hl 5 rfl) ?_
            refine lv_iadd hx hb dX6_pickCoins_72 ?_
            refine lv_aload_n hx hb dX6_pickCoins_73 rfl (lv_at hl 0 rfl) ?_
            refine GC_2_5 X h k_X6_26 dX6_pickCoins_74 ?_
            refine lv_iload_n hx hb dX6_pickCoins_77 rfl (lv_at hl 2 rfl) ?_
            obtain ⟨c5, hf⟩ := chk_some hf
            have qc5 := inb_lt c5
            refine AW X h c5 dX6_pickCoins_78 ?_
            refine lv_iload_n hx hb dX6_pickCoins_79 rfl (lv_at hl 1 rfl) ?_
            obtain ⟨c6, hf⟩ := chk_some hf
            refine LC_row X h (by omega) c6 dX6_pickCoins_80 ?_
            refine lv_icmp_eq (tgt := 90) hx hb dX6_pickCoins_81 (by decide) (fun c7 => ?_) (fun c7 => ?_)
            · have hf := if_t c7 hf
              exact J90 _ _ _ _ _ _ _ _ _ hf h (lv_sub hl [0, 1, 2, 3, 4, 5] rfl)
            · have hf := if_f c7 hf
              refine lv_iinc (v := x6 + (-1 : Int32)) (lv' := [(6, .int (x6 + (-1 : Int32))), (0, .ref (gq G 2)), (2, .int x2), (3, .int x3), (4, .int x4), (5, .int x5)]) hx hb dX6_pickCoins_84 hl (k := 5) rfl (by rfl) (by decide) rfl (fun ls hl => ?_)
              refine lv_goto (tgt := 49) hx hb dX6_pickCoins_87 (by decide) ?_
              exact ih49 _ _ _ _ _ _ _ _ _ hf h (lv_sub hl [1, 2, 3, 4, 5, 0] rfl)
      intro x2 x3 w H locs ls hf h hl
      have hf : f_X6_pickCoins_l5_body (f_X6_pickCoins_l5 n5) x2 x3 w = _ := hf
      unfold f_X6_pickCoins_l5_body at hf
      refine lv_iload_n hx hb dX6_pickCoins_5 rfl (lv_at hl 2 rfl) ?_
      refine lv_if_le (tgt := 113) hx hb dX6_pickCoins_6 (by decide) (fun c8 => ?_) (fun c8 => ?_)
      · have hf := if_t c8 hf
        exact e0_v (Wf := cw G la) X.1 hr hlocks hf h dX6_pickCoins_113
      · have hf := if_f c8 hf
        refine lv_aload_n hx hb dX6_pickCoins_9 rfl (lv_at hl 0 rfl) ?_
        refine GC_2_1 X h k_X6_9 dX6_pickCoins_10 ?_
        refine lv_iload_n hx hb dX6_pickCoins_13 rfl (lv_at hl 2 rfl) ?_
        refine lv_iconst (v := 1) hx hb dX6_pickCoins_14 (by decide) ?_
        refine lv_isub hx hb dX6_pickCoins_15 ?_
        obtain ⟨c9, hf⟩ := chk_some hf
        refine LC_14 X h c9 dX6_pickCoins_16 ?_
        refine lv_istore (lv' := [(4, .int (w.1 14 (x3 - ((1 : Int32))).toNatClampNeg)), (0, .ref (gq G 2)), (2, .int x2), (3, .int x3)]) hx hb dX6_pickCoins_17 hl (by decide) rfl (fun ls hl => ?_)
        refine lv_aload_n hx hb dX6_pickCoins_19 rfl (lv_at hl 1 rfl) ?_
        refine GC_2_0 X h k_X6_29 dX6_pickCoins_20 ?_
        refine lv_sipush (v := 8420) hx hb dX6_pickCoins_23 (by decide) ?_
        refine lv_iload hx hb dX6_pickCoins_26 (lv_at hl 0 rfl) ?_
        refine lv_iadd hx hb dX6_pickCoins_28 ?_
        obtain ⟨y10, ey10, hf⟩ := bnd_some hf
        refine k_X1_get X h ey10 k_X6_41 dX6_pickCoins_29 hl.1 ⟨(Nat.le_of_ble_eq_true rfl), (Nat.le_of_ble_eq_true rfl)⟩ (Nat.le_of_ble_eq_true rfl) ⟨Nat.zero_le _, Nat.zero_le _⟩ ?_
        refine lv_istore (lv' := [(5, .int y10), (4, .int (w.1 14 (x3 - ((1 : Int32))).toNatClampNeg)), (0, .ref (gq G 2)), (2, .int x2), (3, .int x3)]) hx hb dX6_pickCoins_32 hl (by decide) rfl (fun ls hl => ?_)
        refine lv_iload hx hb dX6_pickCoins_34 (lv_at hl 0 rfl) ?_
        refine lv_aload_n hx hb dX6_pickCoins_36 rfl (lv_at hl 2 rfl) ?_
        refine GC_2_2 X h k_X6_15 dX6_pickCoins_37 ?_
        refine lv_iload hx hb dX6_pickCoins_40 (lv_at hl 1 rfl) ?_
        obtain ⟨c11, hf⟩ := chk_some hf
        refine LC_15 X h c11 dX6_pickCoins_42 ?_
        refine lv_iload_n hx hb dX6_pickCoins_43 rfl (lv_at hl 3 rfl) ?_
        obtain ⟨y12, ey12, hf⟩ := bnd_some hf
        refine k_X6_mostOf X.1 ey12 k_X6_91 dX6_pickCoins_44 hl.1 ⟨(Nat.le_of_ble_eq_true rfl), (Nat.le_of_ble_eq_true rfl)⟩ (Nat.le_of_ble_eq_true rfl) ⟨Nat.zero_le _, Nat.zero_le _⟩ ?_
        refine lv_istore (lv' := [(6, .int y12), (5, .int y10), (4, .int (w.1 14 (x3 - ((1 : Int32))).toNatClampNeg)), (0, .ref (gq G 2)), (2, .int x2), (3, .int x3)]) hx hb dX6_pickCoins_47 hl (by decide) rfl (fun ls hl => ?_)
        exact L49 FU _ _ _ _ _ _ _ _ _ hf h (lv_sub hl [3, 4, 5, 2, 1, 0] rfl)
  obtain ⟨w, rfl⟩ : ∃ z, z = w0 := ⟨_, rfl⟩
  have hl : lv_has ls 7 [(0, .ref (gq G 2)), (1, .int x1)] := hl
  unfold f_X6_pickCoins at hf
  refine lv_iload_n hx hb dX6_pickCoins_0 rfl (lv_at hl 1 rfl) ?_
  refine lv_istore_n (lv' := [(2, .int x1), (0, .ref (gq G 2)), (1, .int x1)]) hx hb dX6_pickCoins_1 rfl hl (by decide) rfl (fun ls hl => ?_)
  refine lv_bipush (v := 12) hx hb dX6_pickCoins_2 (by decide) ?_
  refine lv_istore_n (lv' := [(3, .int ((12 : Int32))), (2, .int x1), (0, .ref (gq G 2)), (1, .int x1)]) hx hb dX6_pickCoins_4 rfl hl (by decide) rfl (fun ls hl => ?_)
  exact L5 FU _ _ _ _ _ _ hf h (lv_sub hl [2, 1, 0] rfl)
theorem m_X6_pickCoins : Cond.instanceMethod yX6_pickCoins ∈ lw_good ∧ Cond.selects RX6 yX6_pickCoins yX6_pickCoins ∈ lw_good ∧ Cond.initialized RX6 ∈ lw_good ∧ Cond.code yX6_pickCoins cX6_pickCoins 7 none ∈ lw_good := by decide +kernel
theorem k_X6_pickCoins {p : Program} {l : Launch} {e : Env} {R : Room} {s : State} {m : MethodId} {args : Array Value} {below : List Frame} {meth : Method} {c : Code} {H : Heap} {locs : List Loc} {cells slots : Nat} {Q : State → Prop} {cc : ByteArray} {nL pc idx : Nat} {ls : Array Slot} {rest : List Value} {own : String} {G : Gm} {A : Nat → Prop} {H0 : Heap} {la : Nat} {w : CW} {x1 : Int32} {w' : CW} (X : CX own cc nL G p s m args c) (h : CH G (cw G la w) A H0 H locs) (hA : ∀ q, H0.size ≤ q → A q) (hf : f_X6_pickCoins x1 w = some w') (hlk : Cond.methodLink own idx yX6_pickCoins ∈ lw_good) (hd : decode cc pc = .ok (.invokevirtual idx, 3)) (hsz : ls.size = nL) (hR : 3 ≤ R.frames ∧ 69 ≤ R.locals) (hrest : (rest.map fun v => v.category).sum ≤ 8) (hk : cells ≤ R.cells ∧ slots ≤ R.slots) (k : ∀ (H : Heap) (locs : List Loc), CH G (cw G la (w')) A H0 H locs → W p l e R s m args below meth c H locs cells slots Q (F0 m (pc + 3) ls (rest))) : W p l e R s m args below meth c H locs cells slots Q (F0 m pc ls (.int x1 :: .ref (gq G 2) :: rest)) :=
  fin_v (n := 0) (runV (As := [.int x1]) X.1 1 (t_X6_pickCoins l G la w x1 w' hf _) rfl rfl hlk m_X6_pickCoins (by decide +kernel) ⟨hR.1, hR.2⟩ ⟨blindM, va_recv X.2.1 h.1 (ci := 5) (q0 := 2) rfl rfl, preM X.2 h⟩ rfl hsz hrest hd hk) h hA (fun _ H locs h => k H locs h)
def f_X6_findChange_l44_body (kself : (Int32 → Int32 → CW → Option (Int32 × CW))) (x2 : Int32) (x3 : Int32) (w : CW) : Option (Int32 × CW) :=
 if ((12 : Int32)) ≤ x3 then
 (chk (inb ((12 : Int32)) 13) (
 chk (inb x2 501) (
 if (w.1 (25 + ((12 : Int32)).toNatClampNeg) x2.toNatClampNeg) < ((1000000 : Int32)) then
 ((f_X6_pickCoins x2 w).bind fun y5 =>
 some ((1 : Int32), y5))
 else
 (some ((0 : Int32), w)))))
 else
 (chk (inb x3 12) (
 chk (inb x3 13) (
 chk (inb (x3 + ((1 : Int32))) 13) (
 chk (cpok ((0 : Int32)) ((0 : Int32)) (x2 + ((1 : Int32))) 501 501) (
 (some (ca w (25 + (x3 + ((1 : Int32))).toNatClampNeg) (va_cpy (w.1 (25 + x3.toNatClampNeg)) (w.1 (25 + (x3 + ((1 : Int32))).toNatClampNeg)) ((0 : Int32)).toNatClampNeg ((0 : Int32)).toNatClampNeg (x2 + ((1 : Int32))).toNatClampNeg))).bind fun w10 =>
 chk (inb (x3 + ((1 : Int32))) 13) (
 (f_X1_get (((8420 : Int32)) + (w.1 14 x3.toNatClampNeg)) w10).bind fun y12 =>
 chk (inb (w.1 14 x3.toNatClampNeg) 12) (
 (f_X6_addTube (25 + (x3 + ((1 : Int32))).toNatClampNeg) y12 (w10.1 15 (w.1 14 x3.toNatClampNeg).toNatClampNeg) x2 w10).bind fun y14 =>
 kself x2 (x3 + (1 : Int32)) y14)))))))
def f_X6_findChange_l44 : Nat → Int32 → Int32 → CW → Option (Int32 × CW)
  | 0, _, _, _ => none
  | n + 1, x2, x3, w => f_X6_findChange_l44_body (f_X6_findChange_l44 n) x2 x3 w
def f_X6_findChange (x1 : Int32) (x2 : Int32) (w : CW) : Option (Int32 × CW) :=
 (f_X9_within x2 ((0 : Int32)) ((500 : Int32))).bind fun y15 =>
 if y15 = 0 then
 (some ((0 : Int32), w))
 else
 ((f_X6_sortByValue w).bind fun y17 =>
 (f_X6_countSpare x1 y17).bind fun y18 =>
 chk (inb ((0 : Int32)) 13) (
 (f_J7_fill_53178 (25 + ((0 : Int32)).toNatClampNeg) 501 ((1000000 : Int32)) y18).bind fun y20 =>
 chk (inb ((0 : Int32)) 13) (
 chk (inb ((0 : Int32)) 501) (
 f_X6_findChange_l44 FU x2 ((0 : Int32)) (cs y20 (25 + ((0 : Int32)).toNatClampNeg) ((0 : Int32)).toNatClampNeg ((0 : Int32)))))))
set_option maxHeartbeats 4000000 in
set_option maxRecDepth 100000 in
theorem t_X6_findChange (l : Launch) (G : Gm) (la : Nat) (w0 : CW) (x1 : Int32) (x2 : Int32) (r : Int32) (w' : CW) (hf : f_X6_findChange x1 x2 w0 = some (r, w')) : MetI l yX6_findChange cX6_findChange 5 (some .boolean) 3 71 G (cw G la w0) [.ref (gq G 2), .int x1, .int x2] r (fun _ => cw G la (w')) 0 := by
  intro sz
  refine ent (own := RX6) (As := [.ref (gq G 2), .int x1, .int x2]) (by decide +kernel) rfl (Nat.le_of_ble_eq_true rfl) (fun _ _ h => h.1) ?_
  intro p e s m args below meth c ls B hr hlocks hv hl
  obtain ⟨-, hsz, hP, hKK, hD⟩ := hv
  subst hsz
  have X : CX RX6 cX6_findChange 5 G p s m args c := ⟨B, hKK⟩
  obtain ⟨hx, hb, hml, hown, hts⟩ := id B
  have hA : ∀ q : Nat, s.heap.size ≤ q → va_A (cw G la w0) s.heap.size q := fun q z => Or.inr z
  have h : CH G (cw G la w0) (va_A (cw G la w0) s.heap.size) s.heap s.heap [] := ⟨hP, hD.self, va_S.rf⟩
  have L44 : ∀ (n44 : Nat) (x2 : Int32) (x3 : Int32) (w : CW) (H : Heap) (locs : List Loc) (ls : Array Slot), f_X6_findChange_l44 n44 x2 x3 w = some (r, w') → CH G (cw G la w) (va_A (cw G la w0) s.heap.size) s.heap H locs → lv_has ls 5 [(0, .ref (gq G 2)), (2, .int x2), (3, .int x3)] → W p l e { frames := 3, cells := 0, slots := 4096 * 0, locals := 71 } s m args below meth c H locs 0 (4096 * 0) (MQ below (QI G (cw G la w0) s.heap.size r (fun _ => cw G la (w'))) args s 0 (4096 * 0) (va_A (cw G la w0) s.heap.size)) (F0 m 44 ls []) := by
    intro n44
    induction n44 with
    | zero =>
      intro x2 x3 w H locs ls hf h hl
      cases (show (none : Option (Int32 × CW)) = some _ from hf)
    | succ n44 ih44 =>
      intro x2 x3 w H locs ls hf h hl
      have hf : f_X6_findChange_l44_body (f_X6_findChange_l44 n44) x2 x3 w = _ := hf
      unfold f_X6_findChange_l44_body at hf
      refine lv_iload_n hx hb dX6_findChange_44 rfl (lv_at hl 2 rfl) ?_
      refine lv_bipush (v := 12) hx hb dX6_findChange_45 (by decide) ?_
      refine lv_icmp_ge (tgt := 118) hx hb dX6_findChange_47 (by decide) (fun c1 => ?_) (fun c1 => ?_)
      · have hf := if_t c1 hf
        refine lv_aload_n hx hb dX6_findChange_118 rfl (lv_at hl 0 rfl) ?_
        refine GC_2_5 X h k_X6_26 dX6_findChange_119 ?_
        refine lv_bipush (v := 12) hx hb dX6_findChange_122 (by decide) ?_
        obtain ⟨c2, hf⟩ := chk_some hf
        have qc2 := inb_lt c2
        refine AW X h c2 dX6_findChange_124 ?_
        refine lv_iload_n hx hb dX6_findChange_125 rfl (lv_at hl 1 rfl) ?_
        obtain ⟨c3, hf⟩ := chk_some hf
        refine LC_row X h (by omega) c3 dX6_findChange_126 ?_
        refine lv_ldc (v := 1000000) hx hb hown (hts _ k_X6_71) dX6_findChange_127 ?_
        refine lv_icmp_lt (tgt := 134) hx hb dX6_findChange_129 (by decide) (fun c4 => ?_) (fun c4 => ?_)
        · have hf := if_t c4 hf
          refine lv_aload_n hx hb dX6_findChange_134 rfl (lv_at hl 0 rfl) ?_
          refine lv_iload_n hx hb dX6_findChange_135 rfl (lv_at hl 1 rfl) ?_
          obtain ⟨y5, ey5, hf⟩ := bnd_some hf
          refine k_X6_pickCoins X h hA ey5 k_X6_88 dX6_findChange_136 hl.1 ⟨(Nat.le_of_ble_eq_true rfl), (Nat.le_of_ble_eq_true rfl)⟩ (Nat.le_of_ble_eq_true rfl) ⟨Nat.zero_le _, Nat.zero_le _⟩ (fun H locs h => ?_)
          refine lv_iconst (v := 1) hx hb dX6_findChange_139 (by decide) ?_
          exact e0_z (Wf := cw G la) X.1 hr hlocks (Or.inr rfl) hf h dX6_findChange_140
        · have hf := if_f c4 hf
          refine lv_iconst (v := 0) hx hb dX6_findChange_132 (by decide) ?_
          exact e0_z (Wf := cw G la) X.1 hr hlocks (Or.inl rfl) hf h dX6_findChange_133
      · have hf := if_f c1 hf
        refine lv_aload_n hx hb dX6_findChange_50 rfl (lv_at hl 0 rfl) ?_
        refine GC_2_1 X h k_X6_9 dX6_findChange_51 ?_
        refine lv_iload_n hx hb dX6_findChange_54 rfl (lv_at hl 2 rfl) ?_
        obtain ⟨c6, hf⟩ := chk_some hf
        refine LC_14 X h c6 dX6_findChange_55 ?_
        refine lv_istore (lv' := [(4, .int (w.1 14 x3.toNatClampNeg)), (0, .ref (gq G 2)), (2, .int x2), (3, .int x3)]) hx hb dX6_findChange_56 hl (by decide) rfl (fun ls hl => ?_)
        refine lv_aload_n hx hb dX6_findChange_58 rfl (lv_at hl 1 rfl) ?_
        refine GC_2_5 X h k_X6_26 dX6_findChange_59 ?_
        refine lv_iload_n hx hb dX6_findChange_62 rfl (lv_at hl 3 rfl) ?_
        obtain ⟨c7, hf⟩ := chk_some hf
        have qc7 := inb_lt c7
        refine AW X h c7 dX6_findChange_63 ?_
        refine lv_iconst (v := 0) hx hb dX6_findChange_64 (by decide) ?_
        refine lv_aload_n hx hb dX6_findChange_65 rfl (lv_at hl 1 rfl) ?_
        refine GC_2_5 X h k_X6_26 dX6_findChange_66 ?_
        refine lv_iload_n hx hb dX6_findChange_69 rfl (lv_at hl 3 rfl) ?_
        refine lv_iconst (v := 1) hx hb dX6_findChange_70 (by decide) ?_
        refine lv_iadd hx hb dX6_findChange_71 ?_
        obtain ⟨c8, hf⟩ := chk_some hf
        have qc8 := inb_lt c8
        refine AW X h c8 dX6_findChange_72 ?_
        refine lv_iconst (v := 0) hx hb dX6_findChange_73 (by decide) ?_
        refine lv_iload_n hx hb dX6_findChange_74 rfl (lv_at hl 2 rfl) ?_
        refine lv_iconst (v := 1) hx hb dX6_findChange_75 (by decide) ?_
        refine lv_iadd hx hb dX6_findChange_76 ?_
        obtain ⟨c9, hf⟩ := chk_some hf
        refine CP_row X h (by omega) (by omega) c9 k_X6_78 dX6_findChange_77 hl.1 ⟨(Nat.le_of_ble_eq_true rfl), (Nat.le_of_ble_eq_true rfl)⟩ (fun H locs h => ?_)
        obtain ⟨w10, ew10, hf⟩ := bnd_some hf
        have h := (Option.some.inj ew10) ▸ h
        refine lv_aload_n hx hb dX6_findChange_80 rfl (lv_at hl 1 rfl) ?_
        refine GC_2_5 X h k_X6_26 dX6_findChange_81 ?_
        refine lv_iload_n hx hb dX6_findChange_84 rfl (lv_at hl 3 rfl) ?_
        refine lv_iconst (v := 1) hx hb dX6_findChange_85 (by decide) ?_
        refine lv_iadd hx hb dX6_findChange_86 ?_
        obtain ⟨c11, hf⟩ := chk_some hf
        have qc11 := inb_lt c11
        refine AW X h c11 dX6_findChange_87 ?_
        refine lv_aload_n hx hb dX6_findChange_88 rfl (lv_at hl 1 rfl) ?_
        refine GC_2_0 X h k_X6_29 dX6_findChange_89 ?_
        refine lv_sipush (v := 8420) hx hb dX6_findChange_92 (by decide) ?_
        refine lv_iload hx hb dX6_findChange_95 (lv_at hl 0 rfl) ?_
        refine lv_iadd hx hb dX6_findChange_97 ?_
        obtain ⟨y12, ey12, hf⟩ := bnd_some hf
        refine k_X1_get X h ey12 k_X6_41 dX6_findChange_98 hl.1 ⟨(Nat.le_of_ble_eq_true rfl), (Nat.le_of_ble_eq_true rfl)⟩ (Nat.le_of_ble_eq_true rfl) ⟨Nat.zero_le _, Nat.zero_le _⟩ ?_
        refine lv_aload_n hx hb dX6_findChange_101 rfl (lv_at hl 1 rfl) ?_
        refine GC_2_2 X h k_X6_15 dX6_findChange_102 ?_
        refine lv_iload hx hb dX6_findChange_105 (lv_at hl 0 rfl) ?_
        obtain ⟨c13, hf⟩ := chk_some hf
        refine LC_15 X h c13 dX6_findChange_107 ?_
        refine lv_iload_n hx hb dX6_findChange_108 rfl (lv_at hl 2 rfl) ?_
        obtain ⟨y14, ey14, hf⟩ := bnd_some hf
        refine k_X6_addTube X h hA (by omega) ey14 k_X6_84 dX6_findChange_109 hl.1 ⟨(Nat.le_of_ble_eq_true rfl), (Nat.le_of_ble_eq_true rfl)⟩ (Nat.le_of_ble_eq_true rfl) ⟨Nat.zero_le _, Nat.zero_le _⟩ (fun H locs h => ?_)
        refine lv_iinc (v := x3 + (1 : Int32)) (lv' := [(3, .int (x3 + (1 : Int32))), (4, .int (w.1 14 x3.toNatClampNeg)), (0, .ref (gq G 2)), (2, .int x2)]) hx hb dX6_findChange_112 hl (k := 3) rfl (by rfl) (by decide) rfl (fun ls hl => ?_)
        refine lv_goto (tgt := 44) hx hb dX6_findChange_115 (by decide) ?_
        exact ih44 _ _ _ _ _ _ hf h (lv_sub hl [2, 3, 0] rfl)
  obtain ⟨w, rfl⟩ : ∃ z, z = w0 := ⟨_, rfl⟩
  have hl : lv_has ls 5 [(0, .ref (gq G 2)), (1, .int x1), (2, .int x2)] := hl
  unfold f_X6_findChange at hf
  refine lv_iload_n hx hb dX6_findChange_0 rfl (lv_at hl 2 rfl) ?_
  refine lv_iconst (v := 0) hx hb dX6_findChange_1 (by decide) ?_
  refine lv_sipush (v := 500) hx hb dX6_findChange_2 (by decide) ?_
  obtain ⟨y15, ey15, hf⟩ := bnd_some hf
  refine kn_X9_within X.1 ey15 (X.2.2 _ (by decide +kernel)) dX6_findChange_5 hl.1 ⟨(Nat.le_of_ble_eq_true rfl), (Nat.le_of_ble_eq_true rfl)⟩ (Nat.le_of_ble_eq_true rfl) ⟨Nat.zero_le _, Nat.zero_le _⟩ ?_
  refine lv_if_ne (tgt := 13) hx hb dX6_findChange_8 (by decide) (fun c16 => ?_) (fun c16 => ?_)
  · have hf := if_f c16 hf
    refine lv_aload_n hx hb dX6_findChange_13 rfl (lv_at hl 0 rfl) ?_
    obtain ⟨y17, ey17, hf⟩ := bnd_some hf
    refine k_X6_sortByValue X h hA ey17 k_X6_64 dX6_findChange_14 hl.1 ⟨(Nat.le_of_ble_eq_true rfl), (Nat.le_of_ble_eq_true rfl)⟩ (Nat.le_of_ble_eq_true rfl) ⟨Nat.zero_le _, Nat.zero_le _⟩ (fun H locs h => ?_)
    refine lv_aload_n hx hb dX6_findChange_17 rfl (lv_at hl 0 rfl) ?_
    refine lv_iload_n hx hb dX6_findChange_18 rfl (lv_at hl 1 rfl) ?_
    obtain ⟨y18, ey18, hf⟩ := bnd_some hf
    refine k_X6_countSpare X h hA ey18 k_X6_67 dX6_findChange_19 hl.1 ⟨(Nat.le_of_ble_eq_true rfl), (Nat.le_of_ble_eq_true rfl)⟩ (Nat.le_of_ble_eq_true rfl) ⟨Nat.zero_le _, Nat.zero_le _⟩ (fun H locs h => ?_)
    refine lv_aload_n hx hb dX6_findChange_22 rfl (lv_at hl 0 rfl) ?_
    refine GC_2_5 X h k_X6_26 dX6_findChange_23 ?_
    refine lv_iconst (v := 0) hx hb dX6_findChange_26 (by decide) ?_
    obtain ⟨c19, hf⟩ := chk_some hf
    have qc19 := inb_lt c19
    refine AW X h c19 dX6_findChange_27 ?_
    refine lv_ldc (v := 1000000) hx hb hown (hts _ k_X6_71) dX6_findChange_28 ?_
    obtain ⟨y20, ey20, hf⟩ := bnd_some hf
    refine k_J7_fill_53178 X h hA (by unfold arrP; omega) ey20 k_X6_72 dX6_findChange_30 hl.1 ⟨(Nat.le_of_ble_eq_true rfl), (Nat.le_of_ble_eq_true rfl)⟩ (Nat.le_of_ble_eq_true rfl) ⟨Nat.zero_le _, Nat.zero_le _⟩ (fun H locs h => ?_)
    refine lv_aload_n hx hb dX6_findChange_33 rfl (lv_at hl 0 rfl) ?_
    refine GC_2_5 X h k_X6_26 dX6_findChange_34 ?_
    refine lv_iconst (v := 0) hx hb dX6_findChange_37 (by decide) ?_
    obtain ⟨c21, hf⟩ := chk_some hf
    have qc21 := inb_lt c21
    refine AW X h c21 dX6_findChange_38 ?_
    refine lv_iconst (v := 0) hx hb dX6_findChange_39 (by decide) ?_
    refine lv_iconst (v := 0) hx hb dX6_findChange_40 (by decide) ?_
    obtain ⟨c22, hf⟩ := chk_some hf
    refine SC_row X h (by omega) c22 dX6_findChange_41 (fun H locs h => ?_)
    refine lv_iconst (v := 0) hx hb dX6_findChange_42 (by decide) ?_
    refine lv_istore_n (lv' := [(3, .int ((0 : Int32))), (0, .ref (gq G 2)), (1, .int x1), (2, .int x2)]) hx hb dX6_findChange_43 rfl hl (by decide) rfl (fun ls hl => ?_)
    exact L44 FU _ _ _ _ _ _ hf h (lv_sub hl [1, 3, 0] rfl)
  · have hf := if_t c16 hf
    refine lv_iconst (v := 0) hx hb dX6_findChange_11 (by decide) ?_
    exact e0_z (Wf := cw G la) X.1 hr hlocks (Or.inl rfl) hf h dX6_findChange_12
theorem m_X6_findChange : Cond.instanceMethod yX6_findChange ∈ lw_good ∧ Cond.selects RX6 yX6_findChange yX6_findChange ∈ lw_good ∧ Cond.initialized RX6 ∈ lw_good ∧ Cond.code yX6_findChange cX6_findChange 5 (some .boolean) ∈ lw_good := by decide +kernel
theorem k_X6_findChange {p : Program} {l : Launch} {e : Env} {R : Room} {s : State} {m : MethodId} {args : Array Value} {below : List Frame} {meth : Method} {c : Code} {H : Heap} {locs : List Loc} {cells slots : Nat} {Q : State → Prop} {cc : ByteArray} {nL pc idx : Nat} {ls : Array Slot} {rest : List Value} {own : String} {G : Gm} {A : Nat → Prop} {H0 : Heap} {la : Nat} {w : CW} {x1 : Int32} {x2 : Int32} {y : Int32 × CW} (X : CX own cc nL G p s m args c) (h : CH G (cw G la w) A H0 H locs) (hA : ∀ q, H0.size ≤ q → A q) (hf : f_X6_findChange x1 x2 w = some y) (hlk : Cond.methodLink own idx yX6_findChange ∈ lw_good) (hd : decode cc pc = .ok (.invokevirtual idx, 3)) (hsz : ls.size = nL) (hR : 4 ≤ R.frames ∧ 95 ≤ R.locals) (hrest : (rest.map fun v => v.category).sum ≤ 8) (hk : cells ≤ R.cells ∧ slots ≤ R.slots) (k : ∀ (H : Heap) (locs : List Loc), CH G (cw G la y.2) A H0 H locs → W p l e R s m args below meth c H locs cells slots Q (F0 m (pc + 3) ls (.int y.1 :: rest))) : W p l e R s m args below meth c H locs cells slots Q (F0 m pc ls (.int x2 :: .int x1 :: .ref (gq G 2) :: rest)) :=
  fin_i (n := 0) (runV (As := [.int x1, .int x2]) X.1 2 (t_X6_findChange l G la w x1 x2 y.1 y.2 hf _) rfl rfl hlk m_X6_findChange (by decide +kernel) ⟨hR.1, hR.2⟩ ⟨blindM, va_recv X.2.1 h.1 (ci := 5) (q0 := 2) rfl rfl, preM X.2 h⟩ rfl hsz hrest hd hk) h hA (fun _ H locs h => k H locs h)
def f_X6_takeOff (x1 : Int32) (x2 : Int32) (w : CW) : Option (CW × Nat) :=
 bnc (f_X1_add (((8432 : Int32)) + x1) (-x2) w) fun y1 =>
 some (y1, 0)
set_option maxHeartbeats 4000000 in
set_option maxRecDepth 100000 in
theorem t_X6_takeOff (l : Launch) (G : Gm) (la0 : Nat) (w0 : CW) (x1 : Int32) (x2 : Int32) (w' : CW) (N : Nat) (hf : f_X6_takeOff x1 x2 w0 = some (w', N)) : MetV l yX6_takeOff cX6_takeOff 3 5 135 G (cw G la0 w0) [.ref (gq G 2), .int x1, .int x2] (fun u => cw G u w') N := by
  intro sz
  refine ent (own := RX6) (As := [.ref (gq G 2), .int x1, .int x2]) (by decide +kernel) rfl (Nat.le_of_ble_eq_true rfl) (fun _ _ h => h.1) ?_
  intro p e s m args below meth c ls B hr hlocks hv hl
  obtain ⟨-, hsz, hP, hKK, hD⟩ := hv
  subst hsz
  have X : CX RX6 cX6_takeOff 3 G p s m args c := ⟨B, hKK⟩
  obtain ⟨hx, hb, hml, hown, hts⟩ := id B
  have hA : ∀ q : Nat, s.heap.size ≤ q → va_A (cw G la0 w0) s.heap.size q := fun q z => Or.inr z
  have h : CH G (cw G la0 w0) (va_A (cw G la0 w0) s.heap.size) s.heap s.heap [] := ⟨hP, hD.self, va_S.rf⟩
  have hc : 0 + N = N := Nat.zero_add N
  obtain ⟨la, rfl⟩ : ∃ z, z = la0 := ⟨_, rfl⟩
  obtain ⟨w, rfl⟩ : ∃ z, z = w0 := ⟨_, rfl⟩
  have hl : lv_has ls 3 [(0, .ref (gq G 2)), (1, .int x1), (2, .int x2)] := hl
  unfold f_X6_takeOff at hf
  refine wid0 ?_
  refine lv_aload_n hx hb dX6_takeOff_0 rfl (lv_at hl 0 rfl) ?_
  refine GC_2_0 X h k_X6_29 dX6_takeOff_1 ?_
  refine lv_sipush (v := 8432) hx hb dX6_takeOff_4 (by decide) ?_
  refine lv_iload_n hx hb dX6_takeOff_7 rfl (lv_at hl 1 rfl) ?_
  refine lv_iadd hx hb dX6_takeOff_8 ?_
  refine lv_iload_n hx hb dX6_takeOff_9 rfl (lv_at hl 2 rfl) ?_
  refine lv_ineg hx hb dX6_takeOff_10 ?_
  obtain ⟨y1, ny1, my1, ey1, hf, jy1⟩ := bnc_some hf
  refine k_X1_add X h hA ey1 k_X6_57 dX6_takeOff_11 hl.1 ⟨(Nat.le_of_ble_eq_true rfl), (Nat.le_of_ble_eq_true rfl)⟩ (Nat.le_of_ble_eq_true rfl) (rmm1 hc jy1) (fun la H locs h => ?_)
  have hc := rmm2 hc jy1
  exact e1_v X.1 hr hlocks hf h hc dX6_takeOff_14
theorem m_X6_takeOff : Cond.instanceMethod yX6_takeOff ∈ lw_good ∧ Cond.selects RX6 yX6_takeOff yX6_takeOff ∈ lw_good ∧ Cond.initialized RX6 ∈ lw_good ∧ Cond.code yX6_takeOff cX6_takeOff 3 none ∈ lw_good := by decide +kernel
theorem k_X6_takeOff {p : Program} {l : Launch} {e : Env} {R : Room} {s : State} {m : MethodId} {args : Array Value} {below : List Frame} {meth : Method} {c : Code} {H : Heap} {locs : List Loc} {cells : Nat} {Q : State → Prop} {cc : ByteArray} {nL pc idx : Nat} {ls : Array Slot} {rest : List Value} {own : String} {G : Gm} {A : Nat → Prop} {H0 : Heap} {la : Nat} {w : CW} {x1 : Int32} {x2 : Int32} {w' : CW} {n : Nat} (X : CX own cc nL G p s m args c) (h : CH G (cw G la w) A H0 H locs) (hA : ∀ q, H0.size ≤ q → A q) (hf : f_X6_takeOff x1 x2 w = some (w', n)) (hlk : Cond.methodLink own idx yX6_takeOff ∈ lw_good) (hd : decode cc pc = .ok (.invokevirtual idx, 3)) (hsz : ls.size = nL) (hR : 6 ≤ R.frames ∧ 157 ≤ R.locals) (hrest : (rest.map fun v => v.category).sum ≤ 8) (hk : cells + n ≤ R.cells ∧ 4096 * cells + 4096 * n ≤ R.slots) (k : ∀ (la : Nat) (H : Heap) (locs : List Loc), CH G (cw G la (w')) A H0 H locs → W p l e R s m args below meth c H locs (cells + n) (4096 * (cells + n)) Q (F0 m (pc + 3) ls (rest))) : W p l e R s m args below meth c H locs cells (4096 * cells) Q (F0 m pc ls (.int x2 :: .int x1 :: .ref (gq G 2) :: rest)) :=
  fin_v (n := n) (runV (As := [.int x1, .int x2]) X.1 2 (t_X6_takeOff l G la w x1 x2 w' n hf _) rfl rfl hlk m_X6_takeOff (by decide +kernel) ⟨hR.1, hR.2⟩ ⟨blindM, va_recv X.2.1 h.1 (ci := 5) (q0 := 2) rfl rfl, preM X.2 h⟩ rfl hsz hrest hd hk) h hA (fun la H locs h => by rw [← Nat.mul_add]; exact k la H locs h)
def f_X6_giveBack_l8_body (kself : (Int32 → Int32 → Int32 → CW → Option ((Int32 × CW) × Nat))) (x1 : Int32) (x2 : Int32) (x3 : Int32) (w : CW) : Option ((Int32 × CW) × Nat) :=
 if ((12 : Int32)) ≤ x3 then
 (bnc (f_X1_add ((8553 : Int32)) x2 w) fun y2 =>
 some ((x2, y2), 0))
 else
 ((f_X6_creditCell x1 x3).bind fun y3 =>
 (f_X1_get y3 w).bind fun y4 =>
 bnc (f_X6_takeOff x3 y4 w) fun y5 =>
 (f_X6_creditCell x1 x3).bind fun y6 =>
 bnc (f_X1_set y6 ((0 : Int32)) y5) fun y7 =>
 kself x1 x2 (x3 + (1 : Int32)) y7)
def f_X6_giveBack_l8 : Nat → Int32 → Int32 → Int32 → CW → Option ((Int32 × CW) × Nat)
  | 0, _, _, _, _ => none
  | n + 1, x1, x2, x3, w => f_X6_giveBack_l8_body (f_X6_giveBack_l8 n) x1 x2 x3 w
def f_X6_giveBack (x1 : Int32) (w : CW) : Option ((Int32 × CW) × Nat) :=
 (f_X6_creditOf x1 w).bind fun y8 =>
 f_X6_giveBack_l8 FU x1 y8 ((0 : Int32)) w
set_option maxHeartbeats 4000000 in
set_option maxRecDepth 100000 in
theorem t_X6_giveBack (l : Launch) (G : Gm) (la0 : Nat) (w0 : CW) (x1 : Int32) (r : Int32) (w' : CW) (N : Nat) (hf : f_X6_giveBack x1 w0 = some ((r, w'), N)) : MetI l yX6_giveBack cX6_giveBack 4 (some .int) 6 157 G (cw G la0 w0) [.ref (gq G 2), .int x1] r (fun u => cw G u w') N := by
  intro sz
  refine ent (own := RX6) (As := [.ref (gq G 2), .int x1]) (by decide +kernel) rfl (Nat.le_of_ble_eq_true rfl) (fun _ _ h => h.1) ?_
  intro p e s m args below meth c ls B hr hlocks hv hl
  obtain ⟨-, hsz, hP, hKK, hD⟩ := hv
  subst hsz
  have X : CX RX6 cX6_giveBack 4 G p s m args c := ⟨B, hKK⟩
  obtain ⟨hx, hb, hml, hown, hts⟩ := id B
  have hA : ∀ q : Nat, s.heap.size ≤ q → va_A (cw G la0 w0) s.heap.size q := fun q z => Or.inr z
  have h : CH G (cw G la0 w0) (va_A (cw G la0 w0) s.heap.size) s.heap s.heap [] := ⟨hP, hD.self, va_S.rf⟩
  have hc : 0 + N = N := Nat.zero_add N
  have L8 : ∀ (n8 : Nat) (x1 : Int32) (x2 : Int32) (x3 : Int32) (w : CW) (la : Nat) (H : Heap) (locs : List Loc) (ls : Array Slot) (k n : Nat), f_X6_giveBack_l8 n8 x1 x2 x3 w = some ((r, w'), n) → CH G (cw G la w) (va_A (cw G la0 w0) s.heap.size) s.heap H locs → lv_has ls 4 [(0, .ref (gq G 2)), (1, .int x1), (2, .int x2), (3, .int x3)] → k + n = N → W p l e { frames := 6, cells := N, slots := 4096 * N, locals := 157 } s m args below meth c H locs k (4096 * k) (MQ below (QI G (cw G la0 w0) s.heap.size r (fun u => cw G u w')) args s N (4096 * N) (va_A (cw G la0 w0) s.heap.size)) (F0 m 8 ls []) := by
    intro n8
    induction n8 with
    | zero =>
      intro x1 x2 x3 w la H locs ls k n hf h hl hc
      cases (show (none : Option ((Int32 × CW) × Nat)) = some _ from hf)
    | succ n8 ih8 =>
      intro x1 x2 x3 w la H locs ls k n hf h hl hc
      have hf : f_X6_giveBack_l8_body (f_X6_giveBack_l8 n8) x1 x2 x3 w = _ := hf
      unfold f_X6_giveBack_l8_body at hf
      refine lv_iload_n hx hb dX6_giveBack_8 rfl (lv_at hl 3 rfl) ?_
      refine lv_bipush (v := 12) hx hb dX6_giveBack_9 (by decide) ?_
      refine lv_icmp_ge (tgt := 50) hx hb dX6_giveBack_11 (by decide) (fun c1 => ?_) (fun c1 => ?_)
      · have hf := if_t c1 hf
        refine lv_aload_n hx hb dX6_giveBack_50 rfl (lv_at hl 0 rfl) ?_
        refine GC_2_0 X h k_X6_29 dX6_giveBack_51 ?_
        refine lv_sipush (v := 8553) hx hb dX6_giveBack_54 (by decide) ?_
        refine lv_iload_n hx hb dX6_giveBack_57 rfl (lv_at hl 2 rfl) ?_
        obtain ⟨y2, ny2, my2, ey2, hf, jy2⟩ := bnc_some hf
        refine k_X1_add X h hA ey2 k_X6_57 dX6_giveBack_58 hl.1 ⟨(Nat.le_of_ble_eq_true rfl), (Nat.le_of_ble_eq_true rfl)⟩ (Nat.le_of_ble_eq_true rfl) (rmm1 hc jy2) (fun la H locs h => ?_)
        have hc := rmm2 hc jy2
        refine lv_iload_n hx hb dX6_giveBack_61 rfl (lv_at hl 2 rfl) ?_
        exact e1_i X.1 hr hlocks hf h hc dX6_giveBack_62
      · have hf := if_f c1 hf
        refine lv_aload_n hx hb dX6_giveBack_14 rfl (lv_at hl 0 rfl) ?_
        refine lv_iload_n hx hb dX6_giveBack_15 rfl (lv_at hl 3 rfl) ?_
        refine lv_aload_n hx hb dX6_giveBack_16 rfl (lv_at hl 0 rfl) ?_
        refine GC_2_0 X h k_X6_29 dX6_giveBack_17 ?_
        refine lv_iload_n hx hb dX6_giveBack_20 rfl (lv_at hl 1 rfl) ?_
        refine lv_iload_n hx hb dX6_giveBack_21 rfl (lv_at hl 3 rfl) ?_
        obtain ⟨y3, ey3, hf⟩ := bnd_some hf
        refine k_X6_creditCell X.1 ey3 k_X6_37 dX6_giveBack_22 hl.1 ⟨(Nat.le_of_ble_eq_true rfl), (Nat.le_of_ble_eq_true rfl)⟩ (Nat.le_of_ble_eq_true rfl) (rmm0 hc) ?_
        obtain ⟨y4, ey4, hf⟩ := bnd_some hf
        refine k_X1_get X h ey4 k_X6_41 dX6_giveBack_25 hl.1 ⟨(Nat.le_of_ble_eq_true rfl), (Nat.le_of_ble_eq_true rfl)⟩ (Nat.le_of_ble_eq_true rfl) (rmm0 hc) ?_
        obtain ⟨y5, ny5, my5, ey5, hf, jy5⟩ := bnc_some hf
        refine k_X6_takeOff X h hA ey5 k_X6_50 dX6_giveBack_28 hl.1 ⟨(Nat.le_of_ble_eq_true rfl), (Nat.le_of_ble_eq_true rfl)⟩ (Nat.le_of_ble_eq_true rfl) (rmm1 hc jy5) (fun la H locs h => ?_)
        have hc := rmm2 hc jy5
        refine lv_aload_n hx hb dX6_giveBack_31 rfl (lv_at hl 0 rfl) ?_
        refine GC_2_0 X h k_X6_29 dX6_giveBack_32 ?_
        refine lv_iload_n hx hb dX6_giveBack_35 rfl (lv_at hl 1 rfl) ?_
        refine lv_iload_n hx hb dX6_giveBack_36 rfl (lv_at hl 3 rfl) ?_
        obtain ⟨y6, ey6, hf⟩ := bnd_some hf
        refine k_X6_creditCell X.1 ey6 k_X6_37 dX6_giveBack_37 hl.1 ⟨(Nat.le_of_ble_eq_true rfl), (Nat.le_of_ble_eq_true rfl)⟩ (Nat.le_of_ble_eq_true rfl) (rmm0 hc) ?_
        refine lv_iconst (v := 0) hx hb dX6_giveBack_40 (by decide) ?_
        obtain ⟨y7, ny7, my7, ey7, hf, jy7⟩ := bnc_some hf
        refine k_X1_set X h hA ey7 k_X6_54 dX6_giveBack_41 hl.1 ⟨(Nat.le_of_ble_eq_true rfl), (Nat.le_of_ble_eq_true rfl)⟩ (Nat.le_of_ble_eq_true rfl) (rmm1 hc jy7) (fun la H locs h => ?_)
        have hc := rmm2 hc jy7
        refine lv_iinc (v := x3 + (1 : Int32)) (lv' := [(3, .int (x3 + (1 : Int32))), (0, .ref (gq G 2)), (1, .int x1), (2, .int x2)]) hx hb dX6_giveBack_44 hl (k := 3) rfl (by rfl) (by decide) rfl (fun ls hl => ?_)
        refine lv_goto (tgt := 8) hx hb dX6_giveBack_47 (by decide) ?_
        exact ih8 _ _ _ _ _ _ _ _ _ _ hf h (lv_sub hl [1, 2, 3, 0] rfl) hc
  obtain ⟨la, rfl⟩ : ∃ z, z = la0 := ⟨_, rfl⟩
  obtain ⟨w, rfl⟩ : ∃ z, z = w0 := ⟨_, rfl⟩
  have hl : lv_has ls 4 [(0, .ref (gq G 2)), (1, .int x1)] := hl
  unfold f_X6_giveBack at hf
  refine wid0 ?_
  refine lv_aload_n hx hb dX6_giveBack_0 rfl (lv_at hl 0 rfl) ?_
  refine lv_iload_n hx hb dX6_giveBack_1 rfl (lv_at hl 1 rfl) ?_
  obtain ⟨y8, ey8, hf⟩ := bnd_some hf
  refine k_X6_creditOf X h ey8 k_X6_47 dX6_giveBack_2 hl.1 ⟨(Nat.le_of_ble_eq_true rfl), (Nat.le_of_ble_eq_true rfl)⟩ (Nat.le_of_ble_eq_true rfl) (rmm0 hc) ?_
  refine lv_istore_n (lv' := [(2, .int y8), (0, .ref (gq G 2)), (1, .int x1)]) hx hb dX6_giveBack_5 rfl hl (by decide) rfl (fun ls hl => ?_)
  refine lv_iconst (v := 0) hx hb dX6_giveBack_6 (by decide) ?_
  refine lv_istore_n (lv' := [(3, .int ((0 : Int32))), (2, .int y8), (0, .ref (gq G 2)), (1, .int x1)]) hx hb dX6_giveBack_7 rfl hl (by decide) rfl (fun ls hl => ?_)
  exact L8 FU _ _ _ _ _ _ _ _ _ _ hf h (lv_sub hl [2, 3, 1, 0] rfl) hc
theorem m_X6_giveBack : Cond.instanceMethod yX6_giveBack ∈ lw_good ∧ Cond.selects RX6 yX6_giveBack yX6_giveBack ∈ lw_good ∧ Cond.initialized RX6 ∈ lw_good ∧ Cond.code yX6_giveBack cX6_giveBack 4 (some .int) ∈ lw_good := by decide +kernel
theorem k_X6_giveBack {p : Program} {l : Launch} {e : Env} {R : Room} {s : State} {m : MethodId} {args : Array Value} {below : List Frame} {meth : Method} {c : Code} {H : Heap} {locs : List Loc} {cells : Nat} {Q : State → Prop} {cc : ByteArray} {nL pc idx : Nat} {ls : Array Slot} {rest : List Value} {own : String} {G : Gm} {A : Nat → Prop} {H0 : Heap} {la : Nat} {w : CW} {x1 : Int32} {y : Int32 × CW} {n : Nat} (X : CX own cc nL G p s m args c) (h : CH G (cw G la w) A H0 H locs) (hA : ∀ q, H0.size ≤ q → A q) (hf : f_X6_giveBack x1 w = some (y, n)) (hlk : Cond.methodLink own idx yX6_giveBack ∈ lw_good) (hd : decode cc pc = .ok (.invokevirtual idx, 3)) (hsz : ls.size = nL) (hR : 7 ≤ R.frames ∧ 180 ≤ R.locals) (hrest : (rest.map fun v => v.category).sum ≤ 8) (hk : cells + n ≤ R.cells ∧ 4096 * cells + 4096 * n ≤ R.slots) (k : ∀ (la : Nat) (H : Heap) (locs : List Loc), CH G (cw G la y.2) A H0 H locs → W p l e R s m args below meth c H locs (cells + n) (4096 * (cells + n)) Q (F0 m (pc + 3) ls (.int y.1 :: rest))) : W p l e R s m args below meth c H locs cells (4096 * cells) Q (F0 m pc ls (.int x1 :: .ref (gq G 2) :: rest)) :=
  fin_i (n := n) (runV (As := [.int x1]) X.1 1 (t_X6_giveBack l G la w x1 y.1 y.2 n hf _) rfl rfl hlk m_X6_giveBack (by decide +kernel) ⟨hR.1, hR.2⟩ ⟨blindM, va_recv X.2.1 h.1 (ci := 5) (q0 := 2) rfl rfl, preM X.2 h⟩ rfl hsz hrest hd hk) h hA (fun la H locs h => by rw [← Nat.mul_add]; exact k la H locs h)
def f_X6_giveChange_l2_body (kself : (Int32 → Int32 → Int32 → CW → Option (CW × Nat))) (x1 : Int32) (x2 : Int32) (x3 : Int32) (w : CW) : Option (CW × Nat) :=
 if ((12 : Int32)) ≤ x3 then
 (bnc (f_X1_add ((8553 : Int32)) x2 w) fun y2 =>
 some (y2, 0))
 else
 ((f_X6_creditCell x1 x3).bind fun y3 =>
 bnc (f_X1_set y3 ((0 : Int32)) w) fun y4 =>
 chk (inb x3 12) (
 bnc (f_X6_takeOff x3 (y4.1 16 x3.toNatClampNeg) y4) fun y6 =>
 chk (inb x3 12) (
 chk (inb x3 12) (
 kself x1 x2 (x3 + (1 : Int32)) (cs y6 17 x3.toNatClampNeg (y6.1 16 x3.toNatClampNeg))))))
def f_X6_giveChange_l2 : Nat → Int32 → Int32 → Int32 → CW → Option (CW × Nat)
  | 0, _, _, _, _ => none
  | n + 1, x1, x2, x3, w => f_X6_giveChange_l2_body (f_X6_giveChange_l2 n) x1 x2 x3 w
def f_X6_giveChange (x1 : Int32) (x2 : Int32) (w : CW) : Option (CW × Nat) :=
 f_X6_giveChange_l2 FU x1 x2 ((0 : Int32)) w
set_option maxHeartbeats 4000000 in
set_option maxRecDepth 100000 in
theorem t_X6_giveChange (l : Launch) (G : Gm) (la0 : Nat) (w0 : CW) (x1 : Int32) (x2 : Int32) (w' : CW) (N : Nat) (hf : f_X6_giveChange x1 x2 w0 = some (w', N)) : MetV l yX6_giveChange cX6_giveChange 4 6 157 G (cw G la0 w0) [.ref (gq G 2), .int x1, .int x2] (fun u => cw G u w') N := by
  intro sz
  refine ent (own := RX6) (As := [.ref (gq G 2), .int x1, .int x2]) (by decide +kernel) rfl (Nat.le_of_ble_eq_true rfl) (fun _ _ h => h.1) ?_
  intro p e s m args below meth c ls B hr hlocks hv hl
  obtain ⟨-, hsz, hP, hKK, hD⟩ := hv
  subst hsz
  have X : CX RX6 cX6_giveChange 4 G p s m args c := ⟨B, hKK⟩
  obtain ⟨hx, hb, hml, hown, hts⟩ := id B
  have hA : ∀ q : Nat, s.heap.size ≤ q → va_A (cw G la0 w0) s.heap.size q := fun q z => Or.inr z
  have h : CH G (cw G la0 w0) (va_A (cw G la0 w0) s.heap.size) s.heap s.heap [] := ⟨hP, hD.self, va_S.rf⟩
  have hc : 0 + N = N := Nat.zero_add N
  have L2 : ∀ (n2 : Nat) (x1 : Int32) (x2 : Int32) (x3 : Int32) (w : CW) (la : Nat) (H : Heap) (locs : List Loc) (ls : Array Slot) (k n : Nat), f_X6_giveChange_l2 n2 x1 x2 x3 w = some (w', n) → CH G (cw G la w) (va_A (cw G la0 w0) s.heap.size) s.heap H locs → lv_has ls 4 [(0, .ref (gq G 2)), (1, .int x1), (2, .int x2), (3, .int x3)] → k + n = N → W p l e { frames := 6, cells := N, slots := 4096 * N, locals := 157 } s m args below meth c H locs k (4096 * k) (MQ below (QV G (cw G la0 w0) s.heap.size (fun u => cw G u w')) args s N (4096 * N) (va_A (cw G la0 w0) s.heap.size)) (F0 m 2 ls []) := by
    intro n2
    induction n2 with
    | zero =>
      intro x1 x2 x3 w la H locs ls k n hf h hl hc
      cases (show (none : Option (CW × Nat)) = some _ from hf)
    | succ n2 ih2 =>
      intro x1 x2 x3 w la H locs ls k n hf h hl hc
      have hf : f_X6_giveChange_l2_body (f_X6_giveChange_l2 n2) x1 x2 x3 w = _ := hf
      unfold f_X6_giveChange_l2_body at hf
      refine lv_iload_n hx hb dX6_giveChange_2 rfl (lv_at hl 3 rfl) ?_
      refine lv_bipush (v := 12) hx hb dX6_giveChange_3 (by decide) ?_
      refine lv_icmp_ge (tgt := 50) hx hb dX6_giveChange_5 (by decide) (fun c1 => ?_) (fun c1 => ?_)
      · have hf := if_t c1 hf
        refine lv_aload_n hx hb dX6_giveChange_50 rfl (lv_at hl 0 rfl) ?_
        refine GC_2_0 X h k_X6_29 dX6_giveChange_51 ?_
        refine lv_sipush (v := 8553) hx hb dX6_giveChange_54 (by decide) ?_
        refine lv_iload_n hx hb dX6_giveChange_57 rfl (lv_at hl 2 rfl) ?_
        obtain ⟨y2, ny2, my2, ey2, hf, jy2⟩ := bnc_some hf
        refine k_X1_add X h hA ey2 k_X6_57 dX6_giveChange_58 hl.1 ⟨(Nat.le_of_ble_eq_true rfl), (Nat.le_of_ble_eq_true rfl)⟩ (Nat.le_of_ble_eq_true rfl) (rmm1 hc jy2) (fun la H locs h => ?_)
        have hc := rmm2 hc jy2
        exact e1_v X.1 hr hlocks hf h hc dX6_giveChange_61
      · have hf := if_f c1 hf
        refine lv_aload_n hx hb dX6_giveChange_8 rfl (lv_at hl 0 rfl) ?_
        refine GC_2_0 X h k_X6_29 dX6_giveChange_9 ?_
        refine lv_iload_n hx hb dX6_giveChange_12 rfl (lv_at hl 1 rfl) ?_
        refine lv_iload_n hx hb dX6_giveChange_13 rfl (lv_at hl 3 rfl) ?_
        obtain ⟨y3, ey3, hf⟩ := bnd_some hf
        refine k_X6_creditCell X.1 ey3 k_X6_37 dX6_giveChange_14 hl.1 ⟨(Nat.le_of_ble_eq_true rfl), (Nat.le_of_ble_eq_true rfl)⟩ (Nat.le_of_ble_eq_true rfl) (rmm0 hc) ?_
        refine lv_iconst (v := 0) hx hb dX6_giveChange_17 (by decide) ?_
        obtain ⟨y4, ny4, my4, ey4, hf, jy4⟩ := bnc_some hf
        refine k_X1_set X h hA ey4 k_X6_54 dX6_giveChange_18 hl.1 ⟨(Nat.le_of_ble_eq_true rfl), (Nat.le_of_ble_eq_true rfl)⟩ (Nat.le_of_ble_eq_true rfl) (rmm1 hc jy4) (fun la H locs h => ?_)
        have hc := rmm2 hc jy4
        refine lv_aload_n hx hb dX6_giveChange_21 rfl (lv_at hl 0 rfl) ?_
        refine lv_iload_n hx hb dX6_giveChange_22 rfl (lv_at hl 3 rfl) ?_
        refine lv_aload_n hx hb dX6_giveChange_23 rfl (lv_at hl 0 rfl) ?_
        refine GC_2_3 X h k_X6_18 dX6_giveChange_24 ?_
        refine lv_iload_n hx hb dX6_giveChange_27 rfl (lv_at hl 3 rfl) ?_
        obtain ⟨c5, hf⟩ := chk_some hf
        refine LC_16 X h c5 dX6_giveChange_28 ?_
        obtain ⟨y6, ny6, my6, ey6, hf, jy6⟩ := bnc_some hf
        refine k_X6_takeOff X h hA ey6 k_X6_50 dX6_giveChange_29 hl.1 ⟨(Nat.le_of_ble_eq_true rfl), (Nat.le_of_ble_eq_true rfl)⟩ (Nat.le_of_ble_eq_true rfl) (rmm1 hc jy6) (fun la H locs h => ?_)
        have hc := rmm2 hc jy6
        refine lv_aload_n hx hb dX6_giveChange_32 rfl (lv_at hl 0 rfl) ?_
        refine GC_2_4 X h k_X6_21 dX6_giveChange_33 ?_
        refine lv_iload_n hx hb dX6_giveChange_36 rfl (lv_at hl 3 rfl) ?_
        refine lv_aload_n hx hb dX6_giveChange_37 rfl (lv_at hl 0 rfl) ?_
        refine GC_2_3 X h k_X6_18 dX6_giveChange_38 ?_
        refine lv_iload_n hx hb dX6_giveChange_41 rfl (lv_at hl 3 rfl) ?_
        obtain ⟨c7, hf⟩ := chk_some hf
        refine LC_16 X h c7 dX6_giveChange_42 ?_
        obtain ⟨c8, hf⟩ := chk_some hf
        refine SC_17 X h c8 dX6_giveChange_43 (fun H locs h => ?_)
        refine lv_iinc (v := x3 + (1 : Int32)) (lv' := [(3, .int (x3 + (1 : Int32))), (0, .ref (gq G 2)), (1, .int x1), (2, .int x2)]) hx hb dX6_giveChange_44 hl (k := 3) rfl (by rfl) (by decide) rfl (fun ls hl => ?_)
        refine lv_goto (tgt := 2) hx hb dX6_giveChange_47 (by decide) ?_
        exact ih2 _ _ _ _ _ _ _ _ _ _ hf h (lv_sub hl [1, 2, 3, 0] rfl) hc
  obtain ⟨la, rfl⟩ : ∃ z, z = la0 := ⟨_, rfl⟩
  obtain ⟨w, rfl⟩ : ∃ z, z = w0 := ⟨_, rfl⟩
  have hl : lv_has ls 4 [(0, .ref (gq G 2)), (1, .int x1), (2, .int x2)] := hl
  unfold f_X6_giveChange at hf
  refine wid0 ?_
  refine lv_iconst (v := 0) hx hb dX6_giveChange_0 (by decide) ?_
  refine lv_istore_n (lv' := [(3, .int ((0 : Int32))), (0, .ref (gq G 2)), (1, .int x1), (2, .int x2)]) hx hb dX6_giveChange_1 rfl hl (by decide) rfl (fun ls hl => ?_)
  exact L2 FU _ _ _ _ _ _ _ _ _ _ hf h (lv_sub hl [1, 2, 3, 0] rfl) hc
theorem m_X6_giveChange : Cond.instanceMethod yX6_giveChange ∈ lw_good ∧ Cond.selects RX6 yX6_giveChange yX6_giveChange ∈ lw_good ∧ Cond.initialized RX6 ∈ lw_good ∧ Cond.code yX6_giveChange cX6_giveChange 4 none ∈ lw_good := by decide +kernel
theorem k_X6_giveChange {p : Program} {l : Launch} {e : Env} {R : Room} {s : State} {m : MethodId} {args : Array Value} {below : List Frame} {meth : Method} {c : Code} {H : Heap} {locs : List Loc} {cells : Nat} {Q : State → Prop} {cc : ByteArray} {nL pc idx : Nat} {ls : Array Slot} {rest : List Value} {own : String} {G : Gm} {A : Nat → Prop} {H0 : Heap} {la : Nat} {w : CW} {x1 : Int32} {x2 : Int32} {w' : CW} {n : Nat} (X : CX own cc nL G p s m args c) (h : CH G (cw G la w) A H0 H locs) (hA : ∀ q, H0.size ≤ q → A q) (hf : f_X6_giveChange x1 x2 w = some (w', n)) (hlk : Cond.methodLink own idx yX6_giveChange ∈ lw_good) (hd : decode cc pc = .ok (.invokevirtual idx, 3)) (hsz : ls.size = nL) (hR : 7 ≤ R.frames ∧ 180 ≤ R.locals) (hrest : (rest.map fun v => v.category).sum ≤ 8) (hk : cells + n ≤ R.cells ∧ 4096 * cells + 4096 * n ≤ R.slots) (k : ∀ (la : Nat) (H : Heap) (locs : List Loc), CH G (cw G la (w')) A H0 H locs → W p l e R s m args below meth c H locs (cells + n) (4096 * (cells + n)) Q (F0 m (pc + 3) ls (rest))) : W p l e R s m args below meth c H locs cells (4096 * cells) Q (F0 m pc ls (.int x2 :: .int x1 :: .ref (gq G 2) :: rest)) :=
  fin_v (n := n) (runV (As := [.int x1, .int x2]) X.1 2 (t_X6_giveChange l G la w x1 x2 w' n hf _) rfl rfl hlk m_X6_giveChange (by decide +kernel) ⟨hR.1, hR.2⟩ ⟨blindM, va_recv X.2.1 h.1 (ci := 5) (q0 := 2) rfl rfl, preM X.2 h⟩ rfl hsz hrest hd hk) h hA (fun la H locs h => by rw [← Nat.mul_add]; exact k la H locs h)
def f_X9_payPrice (x1 : Int32) (w : CW) : Option ((Int32 × CW) × Nat) :=
 (f_X9_read x1 ((5 : Int32)) w).bind fun y1 =>
 if y1 = ((1 : Int32)) then
 (some (((-3 : Int32), w), 0))
 else
 ((f_X9_read x1 ((1 : Int32)) w).bind fun y3 =>
 (f_X6_creditOf x1 w).bind fun y4 =>
 if 0 ≤ (y4 - y3) then
 ((f_X6_findChange x1 (y4 - y3) w).bind fun y6 =>
 if y6.1 = 0 then
 (bnc (f_X6_giveBack x1 y6.2) fun y12 =>
 (f_X9_found ((9 : Int32)) y12.2).bind fun y13 =>
 some ((y13.1, y13.2), 0))
 else
 (bnc (f_X6_giveChange x1 (y4 - y3) y6.2) fun y8 =>
 bnc (f_X9_write x1 ((5 : Int32)) ((1 : Int32)) y8) fun y9 =>
 bnc (f_X9_grow x1 ((35 : Int32)) y3 y9) fun y10 =>
 bnc (f_X1_add ((8554 : Int32)) y3 y10) fun y11 =>
 some ((y4 - y3, y11), 0)))
 else
 ((f_X9_found ((8 : Int32)) w).bind fun y14 =>
 some ((y14.1, y14.2), 0)))
set_option maxHeartbeats 4000000 in
set_option maxRecDepth 100000 in
theorem t_X9_payPrice (l : Launch) (G : Gm) (la0 : Nat) (w0 : CW) (x1 : Int32) (r : Int32) (w' : CW) (N : Nat) (hf : f_X9_payPrice x1 w0 = some ((r, w'), N)) : MetI l yX9_payPrice cX9_payPrice 4 (some .int) 7 180 G (cw G la0 w0) [.ref (gq G 0), .int x1] r (fun u => cw G u w') N := by
  intro sz
  refine ent (own := RX9) (As := [.ref (gq G 0), .int x1]) (by decide +kernel) rfl (Nat.le_of_ble_eq_true rfl) (fun _ _ h => h.1) ?_
  intro p e s m args below meth c ls B hr hlocks hv hl
  obtain ⟨-, hsz, hP, hKK, hD⟩ := hv
  subst hsz
  have X : CX RX9 cX9_payPrice 4 G p s m args c := ⟨B, hKK⟩
  obtain ⟨hx, hb, hml, hown, hts⟩ := id B
  have hA : ∀ q : Nat, s.heap.size ≤ q → va_A (cw G la0 w0) s.heap.size q := fun q z => Or.inr z
  have h : CH G (cw G la0 w0) (va_A (cw G la0 w0) s.heap.size) s.heap s.heap [] := ⟨hP, hD.self, va_S.rf⟩
  have hc : 0 + N = N := Nat.zero_add N
  obtain ⟨la, rfl⟩ : ∃ z, z = la0 := ⟨_, rfl⟩
  obtain ⟨w, rfl⟩ : ∃ z, z = w0 := ⟨_, rfl⟩
  have hl : lv_has ls 4 [(0, .ref (gq G 0)), (1, .int x1)] := hl
  unfold f_X9_payPrice at hf
  refine wid0 ?_
  refine lv_aload_n hx hb dX9_payPrice_0 rfl (lv_at hl 0 rfl) ?_
  refine lv_iload_n hx hb dX9_payPrice_1 rfl (lv_at hl 1 rfl) ?_
  refine lv_iconst (v := 5) hx hb dX9_payPrice_2 (by decide) ?_
  obtain ⟨y1, ey1, hf⟩ := bnd_some hf
  refine k_X9_read X h ey1 k_X9_110 dX9_payPrice_3 hl.1 ⟨(Nat.le_of_ble_eq_true rfl), (Nat.le_of_ble_eq_true rfl)⟩ (Nat.le_of_ble_eq_true rfl) (rmm0 hc) ?_
  refine lv_iconst (v := 1) hx hb dX9_payPrice_6 (by decide) ?_
  refine lv_icmp_ne (tgt := 13) hx hb dX9_payPrice_7 (by decide) (fun c2 => ?_) (fun c2 => ?_)
  · have hf := if_f c2 hf
    refine lv_aload_n hx hb dX9_payPrice_13 rfl (lv_at hl 0 rfl) ?_
    refine lv_iload_n hx hb dX9_payPrice_14 rfl (lv_at hl 1 rfl) ?_
    refine lv_iconst (v := 1) hx hb dX9_payPrice_15 (by decide) ?_
    obtain ⟨y3, ey3, hf⟩ := bnd_some hf
    refine k_X9_read X h ey3 k_X9_110 dX9_payPrice_16 hl.1 ⟨(Nat.le_of_ble_eq_true rfl), (Nat.le_of_ble_eq_true rfl)⟩ (Nat.le_of_ble_eq_true rfl) (rmm0 hc) ?_
    refine lv_istore_n (lv' := [(2, .int y3), (0, .ref (gq G 0)), (1, .int x1)]) hx hb dX9_payPrice_19 rfl hl (by decide) rfl (fun ls hl => ?_)
    refine lv_aload_n hx hb dX9_payPrice_20 rfl (lv_at hl 1 rfl) ?_
    refine GC_0_1 X h k_X9_21 dX9_payPrice_21 ?_
    refine lv_iload_n hx hb dX9_payPrice_24 rfl (lv_at hl 2 rfl) ?_
    obtain ⟨y4, ey4, hf⟩ := bnd_some hf
    refine k_X6_creditOf X h ey4 k_X9_117 dX9_payPrice_25 hl.1 ⟨(Nat.le_of_ble_eq_true rfl), (Nat.le_of_ble_eq_true rfl)⟩ (Nat.le_of_ble_eq_true rfl) (rmm0 hc) ?_
    refine lv_iload_n hx hb dX9_payPrice_28 rfl (lv_at hl 0 rfl) ?_
    refine lv_isub hx hb dX9_payPrice_29 ?_
    refine lv_istore_n (lv' := [(3, .int (y4 - y3)), (2, .int y3), (0, .ref (gq G 0)), (1, .int x1)]) hx hb dX9_payPrice_30 rfl hl (by decide) rfl (fun ls hl => ?_)
    refine lv_iload_n hx hb dX9_payPrice_31 rfl (lv_at hl 0 rfl) ?_
    refine lv_if_ge (tgt := 42) hx hb dX9_payPrice_32 (by decide) (fun c5 => ?_) (fun c5 => ?_)
    · have hf := if_t c5 hf
      refine lv_aload_n hx hb dX9_payPrice_42 rfl (lv_at hl 2 rfl) ?_
      refine GC_0_1 X h k_X9_21 dX9_payPrice_43 ?_
      refine lv_iload_n hx hb dX9_payPrice_46 rfl (lv_at hl 3 rfl) ?_
      refine lv_iload_n hx hb dX9_payPrice_47 rfl (lv_at hl 0 rfl) ?_
      obtain ⟨y6, ey6, hf⟩ := bnd_some hf
      refine k_X6_findChange X h hA ey6 k_X9_206 dX9_payPrice_48 hl.1 ⟨(Nat.le_of_ble_eq_true rfl), (Nat.le_of_ble_eq_true rfl)⟩ (Nat.le_of_ble_eq_true rfl) (rmm0 hc) (fun H locs h => ?_)
      refine lv_if_ne (tgt := 70) hx hb dX9_payPrice_51 (by decide) (fun c7 => ?_) (fun c7 => ?_)
      · have hf := if_f c7 hf
        refine lv_aload_n hx hb dX9_payPrice_70 rfl (lv_at hl 2 rfl) ?_
        refine GC_0_1 X h k_X9_21 dX9_payPrice_71 ?_
        refine lv_iload_n hx hb dX9_payPrice_74 rfl (lv_at hl 3 rfl) ?_
        refine lv_iload_n hx hb dX9_payPrice_75 rfl (lv_at hl 0 rfl) ?_
        obtain ⟨y8, ny8, my8, ey8, hf, jy8⟩ := bnc_some hf
        refine k_X6_giveChange X h hA ey8 k_X9_212 dX9_payPrice_76 hl.1 ⟨(Nat.le_of_ble_eq_true rfl), (Nat.le_of_ble_eq_true rfl)⟩ (Nat.le_of_ble_eq_true rfl) (rmm1 hc jy8) (fun la H locs h => ?_)
        have hc := rmm2 hc jy8
        refine lv_aload_n hx hb dX9_payPrice_79 rfl (lv_at hl 2 rfl) ?_
        refine lv_iload_n hx hb dX9_payPrice_80 rfl (lv_at hl 3 rfl) ?_
        refine lv_iconst (v := 5) hx hb dX9_payPrice_81 (by decide) ?_
        refine lv_iconst (v := 1) hx hb dX9_payPrice_82 (by decide) ?_
        obtain ⟨y9, ny9, my9, ey9, hf, jy9⟩ := bnc_some hf
        refine k_X9_write X h hA ey9 k_X9_99 dX9_payPrice_83 hl.1 ⟨(Nat.le_of_ble_eq_true rfl), (Nat.le_of_ble_eq_true rfl)⟩ (Nat.le_of_ble_eq_true rfl) (rmm1 hc jy9) (fun la H locs h => ?_)
        have hc := rmm2 hc jy9
        refine lv_aload_n hx hb dX9_payPrice_86 rfl (lv_at hl 2 rfl) ?_
        refine lv_iload_n hx hb dX9_payPrice_87 rfl (lv_at hl 3 rfl) ?_
        refine lv_bipush (v := 35) hx hb dX9_payPrice_88 (by decide) ?_
        refine lv_iload_n hx hb dX9_payPrice_90 rfl (lv_at hl 1 rfl) ?_
        obtain ⟨y10, ny10, my10, ey10, hf, jy10⟩ := bnc_some hf
        refine k_X9_grow X h hA ey10 k_X9_190 dX9_payPrice_91 hl.1 ⟨(Nat.le_of_ble_eq_true rfl), (Nat.le_of_ble_eq_true rfl)⟩ (Nat.le_of_ble_eq_true rfl) (rmm1 hc jy10) (fun la H locs h => ?_)
        have hc := rmm2 hc jy10
        refine lv_aload_n hx hb dX9_payPrice_94 rfl (lv_at hl 2 rfl) ?_
        refine GC_0_0 X h k_X9_12 dX9_payPrice_95 ?_
        refine lv_sipush (v := 8554) hx hb dX9_payPrice_98 (by decide) ?_
        refine lv_iload_n hx hb dX9_payPrice_101 rfl (lv_at hl 1 rfl) ?_
        obtain ⟨y11, ny11, my11, ey11, hf, jy11⟩ := bnc_some hf
        refine k_X1_add X h hA ey11 k_X9_193 dX9_payPrice_102 hl.1 ⟨(Nat.le_of_ble_eq_true rfl), (Nat.le_of_ble_eq_true rfl)⟩ (Nat.le_of_ble_eq_true rfl) (rmm1 hc jy11) (fun la H locs h => ?_)
        have hc := rmm2 hc jy11
        refine lv_iload_n hx hb dX9_payPrice_105 rfl (lv_at hl 0 rfl) ?_
        exact e1_i X.1 hr hlocks hf h hc dX9_payPrice_106
      · have hf := if_t c7 hf
        refine lv_aload_n hx hb dX9_payPrice_54 rfl (lv_at hl 2 rfl) ?_
        refine GC_0_1 X h k_X9_21 dX9_payPrice_55 ?_
        refine lv_iload_n hx hb dX9_payPrice_58 rfl (lv_at hl 3 rfl) ?_
        obtain ⟨y12, ny12, my12, ey12, hf, jy12⟩ := bnc_some hf
        refine k_X6_giveBack X h hA ey12 k_X9_209 dX9_payPrice_59 hl.1 ⟨(Nat.le_of_ble_eq_true rfl), (Nat.le_of_ble_eq_true rfl)⟩ (Nat.le_of_ble_eq_true rfl) (rmm1 hc jy12) (fun la H locs h => ?_)
        have hc := rmm2 hc jy12
        refine lv_pop hx hb dX9_payPrice_62 rfl ?_
        refine lv_aload_n hx hb dX9_payPrice_63 rfl (lv_at hl 2 rfl) ?_
        refine lv_bipush (v := 9) hx hb dX9_payPrice_64 (by decide) ?_
        obtain ⟨y13, ey13, hf⟩ := bnd_some hf
        refine k_X9_found X h hA ey13 k_X9_103 dX9_payPrice_66 hl.1 ⟨(Nat.le_of_ble_eq_true rfl), (Nat.le_of_ble_eq_true rfl)⟩ (Nat.le_of_ble_eq_true rfl) (rmm0 hc) (fun H locs h => ?_)
        exact e1_i X.1 hr hlocks hf h hc dX9_payPrice_69
    · have hf := if_f c5 hf
      refine lv_aload_n hx hb dX9_payPrice_35 rfl (lv_at hl 2 rfl) ?_
      refine lv_bipush (v := 8) hx hb dX9_payPrice_36 (by decide) ?_
      obtain ⟨y14, ey14, hf⟩ := bnd_some hf
      refine k_X9_found X h hA ey14 k_X9_103 dX9_payPrice_38 hl.1 ⟨(Nat.le_of_ble_eq_true rfl), (Nat.le_of_ble_eq_true rfl)⟩ (Nat.le_of_ble_eq_true rfl) (rmm0 hc) (fun H locs h => ?_)
      exact e1_i X.1 hr hlocks hf h hc dX9_payPrice_41
  · have hf := if_t c2 hf
    refine lv_bipush (v := (-3)) hx hb dX9_payPrice_10 (by decide) ?_
    exact e1_i X.1 hr hlocks hf h hc dX9_payPrice_12
theorem m_X9_payPrice : Cond.instanceMethod yX9_payPrice ∈ lw_good ∧ Cond.selects RX9 yX9_payPrice yX9_payPrice ∈ lw_good ∧ Cond.initialized RX9 ∈ lw_good ∧ Cond.code yX9_payPrice cX9_payPrice 4 (some .int) ∈ lw_good := by decide +kernel
theorem k_X9_payPrice {p : Program} {l : Launch} {e : Env} {R : Room} {s : State} {m : MethodId} {args : Array Value} {below : List Frame} {meth : Method} {c : Code} {H : Heap} {locs : List Loc} {cells : Nat} {Q : State → Prop} {cc : ByteArray} {nL pc idx : Nat} {ls : Array Slot} {rest : List Value} {own : String} {G : Gm} {A : Nat → Prop} {H0 : Heap} {la : Nat} {w : CW} {x1 : Int32} {y : Int32 × CW} {n : Nat} (X : CX own cc nL G p s m args c) (h : CH G (cw G la w) A H0 H locs) (hA : ∀ q, H0.size ≤ q → A q) (hf : f_X9_payPrice x1 w = some (y, n)) (hlk : Cond.methodLink own idx yX9_payPrice ∈ lw_good) (hd : decode cc pc = .ok (.invokevirtual idx, 3)) (hsz : ls.size = nL) (hR : 8 ≤ R.frames ∧ 203 ≤ R.locals) (hrest : (rest.map fun v => v.category).sum ≤ 8) (hk : cells + n ≤ R.cells ∧ 4096 * cells + 4096 * n ≤ R.slots) (k : ∀ (la : Nat) (H : Heap) (locs : List Loc), CH G (cw G la y.2) A H0 H locs → W p l e R s m args below meth c H locs (cells + n) (4096 * (cells + n)) Q (F0 m (pc + 3) ls (.int y.1 :: rest))) : W p l e R s m args below meth c H locs cells (4096 * cells) Q (F0 m pc ls (.int x1 :: .ref (gq G 0) :: rest)) :=
  fin_i (n := n) (runV (As := [.int x1]) X.1 1 (t_X9_payPrice l G la w x1 y.1 y.2 n hf _) rfl rfl hlk m_X9_payPrice (by decide +kernel) ⟨hR.1, hR.2⟩ ⟨blindM, va_recv X.2.1 h.1 (ci := 8) (q0 := 0) rfl rfl, preM X.2 h⟩ rfl hsz hrest hd hk) h hA (fun la H locs h => by rw [← Nat.mul_add]; exact k la H locs h)
def f_X9_leave (x1 : Int32) (w : CW) : Option CW :=
 (f_X9_isPlace x1).bind fun y1 =>
 if y1 = 0 then
 (some w)
 else
 (chk (inb x1 60) (
 (f_X9_read x1 ((8 : Int32)) w).bind fun y4 =>
 chk (inb x1 60) (
 some (cs w 6 x1.toNatClampNeg ((w.1 6 x1.toNatClampNeg) + (((1 : Int32)) + y4))))))
set_option maxHeartbeats 4000000 in
set_option maxRecDepth 100000 in
theorem t_X9_leave (l : Launch) (G : Gm) (la : Nat) (w0 : CW) (x1 : Int32) (w' : CW) (hf : f_X9_leave x1 w0 = some w') : MetV l yX9_leave cX9_leave 2 2 43 G (cw G la w0) [.ref (gq G 0), .int x1] (fun _ => cw G la (w')) 0 := by
  intro sz
  refine ent (own := RX9) (As := [.ref (gq G 0), .int x1]) (by decide +kernel) rfl (Nat.le_of_ble_eq_true rfl) (fun _ _ h => h.1) ?_
  intro p e s m args below meth c ls B hr hlocks hv hl
  obtain ⟨-, hsz, hP, hKK, hD⟩ := hv
  subst hsz
  have X : CX RX9 cX9_leave 2 G p s m args c := ⟨B, hKK⟩
  obtain ⟨hx, hb, hml, hown, hts⟩ := id B
  have hA : ∀ q : Nat, s.heap.size ≤ q → va_A (cw G la w0) s.heap.size q := fun q z => Or.inr z
  have h : CH G (cw G la w0) (va_A (cw G la w0) s.heap.size) s.heap s.heap [] := ⟨hP, hD.self, va_S.rf⟩
  obtain ⟨w, rfl⟩ : ∃ z, z = w0 := ⟨_, rfl⟩
  have hl : lv_has ls 2 [(0, .ref (gq G 0)), (1, .int x1)] := hl
  unfold f_X9_leave at hf
  refine lv_iload_n hx hb dX9_leave_0 rfl (lv_at hl 1 rfl) ?_
  obtain ⟨y1, ey1, hf⟩ := bnd_some hf
  refine k_X9_isPlace X.1 ey1 k_X9_88 dX9_leave_1 hl.1 ⟨(Nat.le_of_ble_eq_true rfl), (Nat.le_of_ble_eq_true rfl)⟩ (Nat.le_of_ble_eq_true rfl) ⟨Nat.zero_le _, Nat.zero_le _⟩ ?_
  refine lv_if_eq (tgt := 25) hx hb dX9_leave_4 (by decide) (fun c2 => ?_) (fun c2 => ?_)
  · have hf := if_t c2 hf
    exact e0_v (Wf := cw G la) X.1 hr hlocks hf h dX9_leave_25
  · have hf := if_f c2 hf
    refine lv_aload_n hx hb dX9_leave_7 rfl (lv_at hl 0 rfl) ?_
    refine GC_0_5 X h k_X9_59 dX9_leave_8 ?_
    refine lv_iload_n hx hb dX9_leave_11 rfl (lv_at hl 1 rfl) ?_
    refine lv_dup2_11 hx hb dX9_leave_12 rfl rfl ?_
    obtain ⟨c3, hf⟩ := chk_some hf
    refine LC_6 X h c3 dX9_leave_13 ?_
    refine lv_iconst (v := 1) hx hb dX9_leave_14 (by decide) ?_
    refine lv_aload_n hx hb dX9_leave_15 rfl (lv_at hl 0 rfl) ?_
    refine lv_iload_n hx hb dX9_leave_16 rfl (lv_at hl 1 rfl) ?_
    refine lv_bipush (v := 8) hx hb dX9_leave_17 (by decide) ?_
    obtain ⟨y4, ey4, hf⟩ := bnd_some hf
    refine k_X9_read X h ey4 k_X9_110 dX9_leave_19 hl.1 ⟨(Nat.le_of_ble_eq_true rfl), (Nat.le_of_ble_eq_true rfl)⟩ (Nat.le_of_ble_eq_true rfl) ⟨Nat.zero_le _, Nat.zero_le _⟩ ?_
    refine lv_iadd hx hb dX9_leave_22 ?_
    refine lv_iadd hx hb dX9_leave_23 ?_
    obtain ⟨c5, hf⟩ := chk_some hf
    refine SC_6 X h c5 dX9_leave_24 (fun H locs h => ?_)
    exact e0_v (Wf := cw G la) X.1 hr hlocks hf h dX9_leave_25
theorem m_X9_leave : Cond.instanceMethod yX9_leave ∈ lw_good ∧ Cond.selects RX9 yX9_leave yX9_leave ∈ lw_good ∧ Cond.initialized RX9 ∈ lw_good ∧ Cond.code yX9_leave cX9_leave 2 none ∈ lw_good := by decide +kernel
theorem k_X9_leave {p : Program} {l : Launch} {e : Env} {R : Room} {s : State} {m : MethodId} {args : Array Value} {below : List Frame} {meth : Method} {c : Code} {H : Heap} {locs : List Loc} {cells slots : Nat} {Q : State → Prop} {cc : ByteArray} {nL pc idx : Nat} {ls : Array Slot} {rest : List Value} {own : String} {G : Gm} {A : Nat → Prop} {H0 : Heap} {la : Nat} {w : CW} {x1 : Int32} {w' : CW} (X : CX own cc nL G p s m args c) (h : CH G (cw G la w) A H0 H locs) (hA : ∀ q, H0.size ≤ q → A q) (hf : f_X9_leave x1 w = some w') (hlk : Cond.methodLink own idx yX9_leave ∈ lw_good) (hd : decode cc pc = .ok (.invokevirtual idx, 3)) (hsz : ls.size = nL) (hR : 3 ≤ R.frames ∧ 64 ≤ R.locals) (hrest : (rest.map fun v => v.category).sum ≤ 8) (hk : cells ≤ R.cells ∧ slots ≤ R.slots) (k : ∀ (H : Heap) (locs : List Loc), CH G (cw G la (w')) A H0 H locs → W p l e R s m args below meth c H locs cells slots Q (F0 m (pc + 3) ls (rest))) : W p l e R s m args below meth c H locs cells slots Q (F0 m pc ls (.int x1 :: .ref (gq G 0) :: rest)) :=
  fin_v (n := 0) (runV (As := [.int x1]) X.1 1 (t_X9_leave l G la w x1 w' hf _) rfl rfl hlk m_X9_leave (by decide +kernel) ⟨hR.1, hR.2⟩ ⟨blindM, va_recv X.2.1 h.1 (ci := 8) (q0 := 0) rfl rfl, preM X.2 h⟩ rfl hsz hrest hd hk) h hA (fun _ H locs h => k H locs h)
def f_X9_pay (x1 : Int32) (w : CW) : Option ((Int32 × CW) × Nat) :=
 (f_X9_isPlace x1).bind fun y1 =>
 if y1 = 0 then
 (some (((-1 : Int32), w), 0))
 else
 ((f_X9_hasMachine x1 w).bind fun y3 =>
 if y3 = 0 then
 ((f_X9_found ((1 : Int32)) w).bind fun y8 =>
 some ((y8.1, y8.2), 0))
 else
 ((f_X9_enter x1 w).bind fun y5 =>
 bnc (f_X9_payPrice x1 y5) fun y6 =>
 (f_X9_leave x1 y6.2).bind fun y7 =>
 some ((y6.1, y7), 0)))
set_option maxHeartbeats 4000000 in
set_option maxRecDepth 100000 in
theorem t_X9_pay (l : Launch) (G : Gm) (la0 : Nat) (w0 : CW) (x1 : Int32) (r : Int32) (w' : CW) (N : Nat) (hf : f_X9_pay x1 w0 = some ((r, w'), N)) : MetI l yX9_pay cX9_pay 3 (some .int) 8 203 G (cw G la0 w0) [.ref (gq G 0), .int x1] r (fun u => cw G u w') N := by
  intro sz
  refine ent (own := RX9) (As := [.ref (gq G 0), .int x1]) (by decide +kernel) rfl (Nat.le_of_ble_eq_true rfl) (fun _ _ h => h.1) ?_
  intro p e s m args below meth c ls B hr hlocks hv hl
  obtain ⟨-, hsz, hP, hKK, hD⟩ := hv
  subst hsz
  have X : CX RX9 cX9_pay 3 G p s m args c := ⟨B, hKK⟩
  obtain ⟨hx, hb, hml, hown, hts⟩ := id B
  have hA : ∀ q : Nat, s.heap.size ≤ q → va_A (cw G la0 w0) s.heap.size q := fun q z => Or.inr z
  have h : CH G (cw G la0 w0) (va_A (cw G la0 w0) s.heap.size) s.heap s.heap [] := ⟨hP, hD.self, va_S.rf⟩
  have hc : 0 + N = N := Nat.zero_add N
  obtain ⟨la, rfl⟩ : ∃ z, z = la0 := ⟨_, rfl⟩
  obtain ⟨w, rfl⟩ : ∃ z, z = w0 := ⟨_, rfl⟩
  have hl : lv_has ls 3 [(0, .ref (gq G 0)), (1, .int x1)] := hl
  unfold f_X9_pay at hf
  refine wid0 ?_
  refine lv_iload_n hx hb dX9_pay_0 rfl (lv_at hl 1 rfl) ?_
  obtain ⟨y1, ey1, hf⟩ := bnd_some hf
  refine k_X9_isPlace X.1 ey1 k_X9_88 dX9_pay_1 hl.1 ⟨(Nat.le_of_ble_eq_true rfl), (Nat.le_of_ble_eq_true rfl)⟩ (Nat.le_of_ble_eq_true rfl) (rmm0 hc) ?_
  refine lv_if_ne (tgt := 9) hx hb dX9_pay_4 (by decide) (fun c2 => ?_) (fun c2 => ?_)
  · have hf := if_f c2 hf
    refine lv_aload_n hx hb dX9_pay_9 rfl (lv_at hl 0 rfl) ?_
    refine lv_iload_n hx hb dX9_pay_10 rfl (lv_at hl 1 rfl) ?_
    obtain ⟨y3, ey3, hf⟩ := bnd_some hf
    refine k_X9_hasMachine X h ey3 k_X9_96 dX9_pay_11 hl.1 ⟨(Nat.le_of_ble_eq_true rfl), (Nat.le_of_ble_eq_true rfl)⟩ (Nat.le_of_ble_eq_true rfl) (rmm0 hc) ?_
    refine lv_if_ne (tgt := 23) hx hb dX9_pay_14 (by decide) (fun c4 => ?_) (fun c4 => ?_)
    · have hf := if_f c4 hf
      refine lv_aload_n hx hb dX9_pay_23 rfl (lv_at hl 0 rfl) ?_
      refine lv_iload_n hx hb dX9_pay_24 rfl (lv_at hl 1 rfl) ?_
      obtain ⟨y5, ey5, hf⟩ := bnd_some hf
      refine k_X9_enter X h hA ey5 k_X9_196 dX9_pay_25 hl.1 ⟨(Nat.le_of_ble_eq_true rfl), (Nat.le_of_ble_eq_true rfl)⟩ (Nat.le_of_ble_eq_true rfl) (rmm0 hc) (fun H locs h => ?_)
      refine lv_aload_n hx hb dX9_pay_28 rfl (lv_at hl 0 rfl) ?_
      refine lv_iload_n hx hb dX9_pay_29 rfl (lv_at hl 1 rfl) ?_
      obtain ⟨y6, ny6, my6, ey6, hf, jy6⟩ := bnc_some hf
      refine k_X9_payPrice X h hA ey6 k_X9_200 dX9_pay_30 hl.1 ⟨(Nat.le_of_ble_eq_true rfl), (Nat.le_of_ble_eq_true rfl)⟩ (Nat.le_of_ble_eq_true rfl) (rmm1 hc jy6) (fun la H locs h => ?_)
      have hc := rmm2 hc jy6
      refine lv_istore_n (lv' := [(2, .int y6.1), (0, .ref (gq G 0)), (1, .int x1)]) hx hb dX9_pay_33 rfl hl (by decide) rfl (fun ls hl => ?_)
      refine lv_aload_n hx hb dX9_pay_34 rfl (lv_at hl 1 rfl) ?_
      refine lv_iload_n hx hb dX9_pay_35 rfl (lv_at hl 2 rfl) ?_
      obtain ⟨y7, ey7, hf⟩ := bnd_some hf
      refine k_X9_leave X h hA ey7 k_X9_203 dX9_pay_36 hl.1 ⟨(Nat.le_of_ble_eq_true rfl), (Nat.le_of_ble_eq_true rfl)⟩ (Nat.le_of_ble_eq_true rfl) (rmm0 hc) (fun H locs h => ?_)
      refine lv_iload_n hx hb dX9_pay_39 rfl (lv_at hl 0 rfl) ?_
      exact e1_i X.1 hr hlocks hf h hc dX9_pay_40
    · have hf := if_t c4 hf
      refine lv_aload_n hx hb dX9_pay_17 rfl (lv_at hl 0 rfl) ?_
      refine lv_iconst (v := 1) hx hb dX9_pay_18 (by decide) ?_
      obtain ⟨y8, ey8, hf⟩ := bnd_some hf
      refine k_X9_found X h hA ey8 k_X9_103 dX9_pay_19 hl.1 ⟨(Nat.le_of_ble_eq_true rfl), (Nat.le_of_ble_eq_true rfl)⟩ (Nat.le_of_ble_eq_true rfl) (rmm0 hc) (fun H locs h => ?_)
      exact e1_i X.1 hr hlocks hf h hc dX9_pay_22
  · have hf := if_t c2 hf
    refine lv_iconst (v := (-1)) hx hb dX9_pay_7 (by decide) ?_
    exact e1_i X.1 hr hlocks hf h hc dX9_pay_8
theorem m_X9_pay : Cond.instanceMethod yX9_pay ∈ lw_good ∧ Cond.selects RX9 yX9_pay yX9_pay ∈ lw_good ∧ Cond.initialized RX9 ∈ lw_good ∧ Cond.code yX9_pay cX9_pay 3 (some .int) ∈ lw_good := by decide +kernel
theorem k_X9_pay {p : Program} {l : Launch} {e : Env} {R : Room} {s : State} {m : MethodId} {args : Array Value} {below : List Frame} {meth : Method} {c : Code} {H : Heap} {locs : List Loc} {cells : Nat} {Q : State → Prop} {cc : ByteArray} {nL pc idx : Nat} {ls : Array Slot} {rest : List Value} {own : String} {G : Gm} {A : Nat → Prop} {H0 : Heap} {la : Nat} {w : CW} {x1 : Int32} {y : Int32 × CW} {n : Nat} (X : CX own cc nL G p s m args c) (h : CH G (cw G la w) A H0 H locs) (hA : ∀ q, H0.size ≤ q → A q) (hf : f_X9_pay x1 w = some (y, n)) (hlk : Cond.methodLink own idx yX9_pay ∈ lw_good) (hd : decode cc pc = .ok (.invokevirtual idx, 3)) (hsz : ls.size = nL) (hR : 9 ≤ R.frames ∧ 225 ≤ R.locals) (hrest : (rest.map fun v => v.category).sum ≤ 8) (hk : cells + n ≤ R.cells ∧ 4096 * cells + 4096 * n ≤ R.slots) (k : ∀ (la : Nat) (H : Heap) (locs : List Loc), CH G (cw G la y.2) A H0 H locs → W p l e R s m args below meth c H locs (cells + n) (4096 * (cells + n)) Q (F0 m (pc + 3) ls (.int y.1 :: rest))) : W p l e R s m args below meth c H locs cells (4096 * cells) Q (F0 m pc ls (.int x1 :: .ref (gq G 0) :: rest)) :=
  fin_i (n := n) (runV (As := [.int x1]) X.1 1 (t_X9_pay l G la w x1 y.1 y.2 n hf _) rfl rfl hlk m_X9_pay (by decide +kernel) ⟨hR.1, hR.2⟩ ⟨blindM, va_recv X.2.1 h.1 (ci := 8) (q0 := 0) rfl rfl, preM X.2 h⟩ rfl hsz hrest hd hk) h hA (fun la H locs h => by rw [← Nat.mul_add]; exact k la H locs h)
def f_X9_refund (x1 : Int32) (w : CW) : Option ((Int32 × CW) × Nat) :=
 (f_X9_isPlace x1).bind fun y1 =>
 if y1 = 0 then
 (some (((-1 : Int32), w), 0))
 else
 ((f_X9_hasMachine x1 w).bind fun y3 =>
 if y3 = 0 then
 ((f_X9_found ((1 : Int32)) w).bind fun y6 =>
 some ((y6.1, y6.2), 0))
 else
 (bnc (f_X6_giveBack x1 w) fun y5 =>
 some ((y5.1, y5.2), 0)))
set_option maxHeartbeats 4000000 in
set_option maxRecDepth 100000 in
theorem t_X9_refund (l : Launch) (G : Gm) (la0 : Nat) (w0 : CW) (x1 : Int32) (r : Int32) (w' : CW) (N : Nat) (hf : f_X9_refund x1 w0 = some ((r, w'), N)) : MetI l yX9_refund cX9_refund 2 (some .int) 7 180 G (cw G la0 w0) [.ref (gq G 0), .int x1] r (fun u => cw G u w') N := by
  intro sz
  refine ent (own := RX9) (As := [.ref (gq G 0), .int x1]) (by decide +kernel) rfl (Nat.le_of_ble_eq_true rfl) (fun _ _ h => h.1) ?_
  intro p e s m args below meth c ls B hr hlocks hv hl
  obtain ⟨-, hsz, hP, hKK, hD⟩ := hv
  subst hsz
  have X : CX RX9 cX9_refund 2 G p s m args c := ⟨B, hKK⟩
  obtain ⟨hx, hb, hml, hown, hts⟩ := id B
  have hA : ∀ q : Nat, s.heap.size ≤ q → va_A (cw G la0 w0) s.heap.size q := fun q z => Or.inr z
  have h : CH G (cw G la0 w0) (va_A (cw G la0 w0) s.heap.size) s.heap s.heap [] := ⟨hP, hD.self, va_S.rf⟩
  have hc : 0 + N = N := Nat.zero_add N
  obtain ⟨la, rfl⟩ : ∃ z, z = la0 := ⟨_, rfl⟩
  obtain ⟨w, rfl⟩ : ∃ z, z = w0 := ⟨_, rfl⟩
  have hl : lv_has ls 2 [(0, .ref (gq G 0)), (1, .int x1)] := hl
  unfold f_X9_refund at hf
  refine wid0 ?_
  refine lv_iload_n hx hb dX9_refund_0 rfl (lv_at hl 1 rfl) ?_
  obtain ⟨y1, ey1, hf⟩ := bnd_some hf
  refine k_X9_isPlace X.1 ey1 k_X9_88 dX9_refund_1 hl.1 ⟨(Nat.le_of_ble_eq_true rfl), (Nat.le_of_ble_eq_true rfl)⟩ (Nat.le_of_ble_eq_true rfl) (rmm0 hc) ?_
  refine lv_if_ne (tgt := 9) hx hb dX9_refund_4 (by decide) (fun c2 => ?_) (fun c2 => ?_)
  · have hf := if_f c2 hf
    refine lv_aload_n hx hb dX9_refund_9 rfl (lv_at hl 0 rfl) ?_
    refine lv_iload_n hx hb dX9_refund_10 rfl (lv_at hl 1 rfl) ?_
    obtain ⟨y3, ey3, hf⟩ := bnd_some hf
    refine k_X9_hasMachine X h ey3 k_X9_96 dX9_refund_11 hl.1 ⟨(Nat.le_of_ble_eq_true rfl), (Nat.le_of_ble_eq_true rfl)⟩ (Nat.le_of_ble_eq_true rfl) (rmm0 hc) ?_
    refine lv_if_ne (tgt := 23) hx hb dX9_refund_14 (by decide) (fun c4 => ?_) (fun c4 => ?_)
    · have hf := if_f c4 hf
      refine lv_aload_n hx hb dX9_refund_23 rfl (lv_at hl 0 rfl) ?_
      refine GC_0_1 X h k_X9_21 dX9_refund_24 ?_
      refine lv_iload_n hx hb dX9_refund_27 rfl (lv_at hl 1 rfl) ?_
      obtain ⟨y5, ny5, my5, ey5, hf, jy5⟩ := bnc_some hf
      refine k_X6_giveBack X h hA ey5 k_X9_209 dX9_refund_28 hl.1 ⟨(Nat.le_of_ble_eq_true rfl), (Nat.le_of_ble_eq_true rfl)⟩ (Nat.le_of_ble_eq_true rfl) (rmm1 hc jy5) (fun la H locs h => ?_)
      have hc := rmm2 hc jy5
      exact e1_i X.1 hr hlocks hf h hc dX9_refund_31
    · have hf := if_t c4 hf
      refine lv_aload_n hx hb dX9_refund_17 rfl (lv_at hl 0 rfl) ?_
      refine lv_iconst (v := 1) hx hb dX9_refund_18 (by decide) ?_
      obtain ⟨y6, ey6, hf⟩ := bnd_some hf
      refine k_X9_found X h hA ey6 k_X9_103 dX9_refund_19 hl.1 ⟨(Nat.le_of_ble_eq_true rfl), (Nat.le_of_ble_eq_true rfl)⟩ (Nat.le_of_ble_eq_true rfl) (rmm0 hc) (fun H locs h => ?_)
      exact e1_i X.1 hr hlocks hf h hc dX9_refund_22
  · have hf := if_t c2 hf
    refine lv_iconst (v := (-1)) hx hb dX9_refund_7 (by decide) ?_
    exact e1_i X.1 hr hlocks hf h hc dX9_refund_8
theorem m_X9_refund : Cond.instanceMethod yX9_refund ∈ lw_good ∧ Cond.selects RX9 yX9_refund yX9_refund ∈ lw_good ∧ Cond.initialized RX9 ∈ lw_good ∧ Cond.code yX9_refund cX9_refund 2 (some .int) ∈ lw_good := by decide +kernel
theorem k_X9_refund {p : Program} {l : Launch} {e : Env} {R : Room} {s : State} {m : MethodId} {args : Array Value} {below : List Frame} {meth : Method} {c : Code} {H : Heap} {locs : List Loc} {cells : Nat} {Q : State → Prop} {cc : ByteArray} {nL pc idx : Nat} {ls : Array Slot} {rest : List Value} {own : String} {G : Gm} {A : Nat → Prop} {H0 : Heap} {la : Nat} {w : CW} {x1 : Int32} {y : Int32 × CW} {n : Nat} (X : CX own cc nL G p s m args c) (h : CH G (cw G la w) A H0 H locs) (hA : ∀ q, H0.size ≤ q → A q) (hf : f_X9_refund x1 w = some (y, n)) (hlk : Cond.methodLink own idx yX9_refund ∈ lw_good) (hd : decode cc pc = .ok (.invokevirtual idx, 3)) (hsz : ls.size = nL) (hR : 8 ≤ R.frames ∧ 201 ≤ R.locals) (hrest : (rest.map fun v => v.category).sum ≤ 8) (hk : cells + n ≤ R.cells ∧ 4096 * cells + 4096 * n ≤ R.slots) (k : ∀ (la : Nat) (H : Heap) (locs : List Loc), CH G (cw G la y.2) A H0 H locs → W p l e R s m args below meth c H locs (cells + n) (4096 * (cells + n)) Q (F0 m (pc + 3) ls (.int y.1 :: rest))) : W p l e R s m args below meth c H locs cells (4096 * cells) Q (F0 m pc ls (.int x1 :: .ref (gq G 0) :: rest)) :=
  fin_i (n := n) (runV (As := [.int x1]) X.1 1 (t_X9_refund l G la w x1 y.1 y.2 n hf _) rfl rfl hlk m_X9_refund (by decide +kernel) ⟨hR.1, hR.2⟩ ⟨blindM, va_recv X.2.1 h.1 (ci := 8) (q0 := 0) rfl rfl, preM X.2 h⟩ rfl hsz hrest hd hk) h hA (fun la H locs h => by rw [← Nat.mul_add]; exact k la H locs h)
def f_X6_gaveLast (x1 : Int32) (w : CW) : Option Int32 :=
 (f_X9_isTube x1).bind fun y1 =>
 if y1 = 0 then
 (some ((-1 : Int32)))
 else
 (chk (inb x1 12) (
 some (w.1 17 x1.toNatClampNeg)))
set_option maxHeartbeats 4000000 in
set_option maxRecDepth 100000 in
theorem t_X6_gaveLast (l : Launch) (G : Gm) (la : Nat) (w : CW) (x1 : Int32) (r : Int32) (hf : f_X6_gaveLast x1 w = some r) : MetR l yX6_gaveLast cX6_gaveLast 2 (some .int) 2 42 G (cw G la w) [.ref (gq G 2), .int x1] (.int r) := by
  refine ent (own := RX6) (As := [.ref (gq G 2), .int x1]) (by decide +kernel) rfl (Nat.le_of_ble_eq_true rfl) (fun _ _ h => h.1) ?_
  intro p e s m args below meth c ls B hr hlocks hv hl
  obtain ⟨-, hP, hKK, hD⟩ := hv
  have X : CX RX6 cX6_gaveLast 2 G p s m args c := ⟨B, hKK⟩
  obtain ⟨hx, hb, hml, hown, hts⟩ := id B
  have h : CH G (cw G la w) (fun _ => True) s.heap s.heap [] := ⟨hP, hD, va_S.rf⟩
  have hl : lv_has ls 2 [(0, .ref (gq G 2)), (1, .int x1)] := hl
  unfold f_X6_gaveLast at hf
  refine lv_iload_n hx hb dX6_gaveLast_0 rfl (lv_at hl 1 rfl) ?_
  obtain ⟨y1, ey1, hf⟩ := bnd_some hf
  refine kn_X9_isTube X.1 ey1 (X.2.2 _ (by decide +kernel)) dX6_gaveLast_1 hl.1 ⟨(Nat.le_of_ble_eq_true rfl), (Nat.le_of_ble_eq_true rfl)⟩ (Nat.le_of_ble_eq_true rfl) ⟨Nat.zero_le _, Nat.zero_le _⟩ ?_
  refine lv_if_eq (tgt := 16) hx hb dX6_gaveLast_4 (by decide) (fun c2 => ?_) (fun c2 => ?_)
  · have hf := if_t c2 hf
    refine lv_iconst (v := (-1)) hx hb dX6_gaveLast_16 (by decide) ?_
    cases hf
    exact rr_i X.1 hr hlocks dX6_gaveLast_17
  · have hf := if_f c2 hf
    refine lv_aload_n hx hb dX6_gaveLast_7 rfl (lv_at hl 0 rfl) ?_
    refine GC_2_4 X h k_X6_21 dX6_gaveLast_8 ?_
    refine lv_iload_n hx hb dX6_gaveLast_11 rfl (lv_at hl 1 rfl) ?_
    obtain ⟨c3, hf⟩ := chk_some hf
    refine LC_17 X h c3 dX6_gaveLast_12 ?_
    refine lv_goto (tgt := 17) hx hb dX6_gaveLast_13 (by decide) ?_
    cases hf
    exact rr_i X.1 hr hlocks dX6_gaveLast_17
theorem m_X6_gaveLast : Cond.instanceMethod yX6_gaveLast ∈ lw_good ∧ Cond.selects RX6 yX6_gaveLast yX6_gaveLast ∈ lw_good ∧ Cond.initialized RX6 ∈ lw_good ∧ Cond.code yX6_gaveLast cX6_gaveLast 2 (some .int) ∈ lw_good := by decide +kernel
theorem k_X6_gaveLast {p : Program} {l : Launch} {e : Env} {R : Room} {s : State} {m : MethodId} {args : Array Value} {below : List Frame} {meth : Method} {c : Code} {H : Heap} {locs : List Loc} {cells slots : Nat} {Q : State → Prop} {cc : ByteArray} {nL pc idx : Nat} {ls : Array Slot} {rest : List Value} {own : String} {G : Gm} {A : Nat → Prop} {H0 : Heap} {la : Nat} {w : CW} {x1 : Int32} {r : Int32} (X : CX own cc nL G p s m args c) (h : CH G (cw G la w) A H0 H locs) (hf : f_X6_gaveLast x1 w = some r) (hlk : Cond.methodLink own idx yX6_gaveLast ∈ lw_good) (hd : decode cc pc = .ok (.invokevirtual idx, 3)) (hsz : ls.size = nL) (hR : 3 ≤ R.frames ∧ 63 ≤ R.locals) (hrest : (rest.map fun v => v.category).sum ≤ 8) (hk : cells ≤ R.cells ∧ slots ≤ R.slots) (k : W p l e R s m args below meth c H locs cells slots Q (F0 m (pc + 3) ls (.int r :: rest))) : W p l e R s m args below meth c H locs cells slots Q (F0 m pc ls (.int x1 :: .ref (gq G 2) :: rest)) :=
  fin_r (runV (As := [.int x1]) X.1 1 (t_X6_gaveLast l G la w x1 r hf) rfl rfl hlk m_X6_gaveLast (by decide +kernel) ⟨hR.1, hR.2⟩ ⟨blindR, va_recv X.2.1 h.1 (ci := 5) (q0 := 2) rfl rfl, preR X.2 h⟩ rfl hsz hrest hd hk) k
def f_X9_given (x1 : Int32) (w : CW) : Option Int32 :=
 (f_X6_gaveLast x1 w).bind fun y1 =>
 some y1
set_option maxHeartbeats 4000000 in
set_option maxRecDepth 100000 in
theorem t_X9_given (l : Launch) (G : Gm) (la : Nat) (w : CW) (x1 : Int32) (r : Int32) (hf : f_X9_given x1 w = some r) : MetR l yX9_given cX9_given 2 (some .int) 3 63 G (cw G la w) [.ref (gq G 0), .int x1] (.int r) := by
  refine ent (own := RX9) (As := [.ref (gq G 0), .int x1]) (by decide +kernel) rfl (Nat.le_of_ble_eq_true rfl) (fun _ _ h => h.1) ?_
  intro p e s m args below meth c ls B hr hlocks hv hl
  obtain ⟨-, hP, hKK, hD⟩ := hv
  have X : CX RX9 cX9_given 2 G p s m args c := ⟨B, hKK⟩
  obtain ⟨hx, hb, hml, hown, hts⟩ := id B
  have h : CH G (cw G la w) (fun _ => True) s.heap s.heap [] := ⟨hP, hD, va_S.rf⟩
  have hl : lv_has ls 2 [(0, .ref (gq G 0)), (1, .int x1)] := hl
  unfold f_X9_given at hf
  refine lv_aload_n hx hb dX9_given_0 rfl (lv_at hl 0 rfl) ?_
  refine GC_0_1 X h k_X9_21 dX9_given_1 ?_
  refine lv_iload_n hx hb dX9_given_4 rfl (lv_at hl 1 rfl) ?_
  obtain ⟨y1, ey1, hf⟩ := bnd_some hf
  refine k_X6_gaveLast X h ey1 k_X9_215 dX9_given_5 hl.1 ⟨(Nat.le_of_ble_eq_true rfl), (Nat.le_of_ble_eq_true rfl)⟩ (Nat.le_of_ble_eq_true rfl) ⟨Nat.zero_le _, Nat.zero_le _⟩ ?_
  cases hf
  exact rr_i X.1 hr hlocks dX9_given_8
theorem m_X9_given : Cond.instanceMethod yX9_given ∈ lw_good ∧ Cond.selects RX9 yX9_given yX9_given ∈ lw_good ∧ Cond.initialized RX9 ∈ lw_good ∧ Cond.code yX9_given cX9_given 2 (some .int) ∈ lw_good := by decide +kernel
theorem k_X9_given {p : Program} {l : Launch} {e : Env} {R : Room} {s : State} {m : MethodId} {args : Array Value} {below : List Frame} {meth : Method} {c : Code} {H : Heap} {locs : List Loc} {cells slots : Nat} {Q : State → Prop} {cc : ByteArray} {nL pc idx : Nat} {ls : Array Slot} {rest : List Value} {own : String} {G : Gm} {A : Nat → Prop} {H0 : Heap} {la : Nat} {w : CW} {x1 : Int32} {r : Int32} (X : CX own cc nL G p s m args c) (h : CH G (cw G la w) A H0 H locs) (hf : f_X9_given x1 w = some r) (hlk : Cond.methodLink own idx yX9_given ∈ lw_good) (hd : decode cc pc = .ok (.invokevirtual idx, 3)) (hsz : ls.size = nL) (hR : 4 ≤ R.frames ∧ 84 ≤ R.locals) (hrest : (rest.map fun v => v.category).sum ≤ 8) (hk : cells ≤ R.cells ∧ slots ≤ R.slots) (k : W p l e R s m args below meth c H locs cells slots Q (F0 m (pc + 3) ls (.int r :: rest))) : W p l e R s m args below meth c H locs cells slots Q (F0 m pc ls (.int x1 :: .ref (gq G 0) :: rest)) :=
  fin_r (runV (As := [.int x1]) X.1 1 (t_X9_given l G la w x1 r hf) rfl rfl hlk m_X9_given (by decide +kernel) ⟨hR.1, hR.2⟩ ⟨blindR, va_recv X.2.1 h.1 (ci := 8) (q0 := 0) rfl rfl, preR X.2 h⟩ rfl hsz hrest hd hk) k
def f_X9_coins_b38 (x1 : Int32) (xs1 : Int32) (w : CW) : Option Int32 :=
 (f_X1_get (xs1 + x1) w).bind fun y1 =>
 some y1
def f_X9_coins (x1 : Int32) (x2 : Int32) (w : CW) : Option Int32 :=
 (f_X9_isTube x1).bind fun y2 =>
 if y2 = 0 then
 (some ((-1 : Int32)))
 else
 ((f_X9_within x2 ((0 : Int32)) ((1 : Int32))).bind fun y4 =>
 if y4 = 0 then
 (some ((-2 : Int32)))
 else
 (if x2 = 0 then
 (f_X9_coins_b38 x1 ((8420 : Int32)) w)
 else
 (f_X9_coins_b38 x1 ((8432 : Int32)) w)))
set_option maxHeartbeats 4000000 in
set_option maxRecDepth 100000 in
theorem t_X9_coins (l : Launch) (G : Gm) (la : Nat) (w : CW) (x1 : Int32) (x2 : Int32) (r : Int32) (hf : f_X9_coins x1 x2 w = some r) : MetR l yX9_coins cX9_coins 3 (some .int) 2 42 G (cw G la w) [.ref (gq G 0), .int x1, .int x2] (.int r) := by
  refine ent (own := RX9) (As := [.ref (gq G 0), .int x1, .int x2]) (by decide +kernel) rfl (Nat.le_of_ble_eq_true rfl) (fun _ _ h => h.1) ?_
  intro p e s m args below meth c ls B hr hlocks hv hl
  obtain ⟨-, hP, hKK, hD⟩ := hv
  have X : CX RX9 cX9_coins 3 G p s m args c := ⟨B, hKK⟩
  obtain ⟨hx, hb, hml, hown, hts⟩ := id B
  have h : CH G (cw G la w) (fun _ => True) s.heap s.heap [] := ⟨hP, hD, va_S.rf⟩
  have J38 : ∀ (x1 : Int32) (xs1 : Int32) (ls : Array Slot), f_X9_coins_b38 x1 xs1 w = some r → lv_has ls 3 [(1, .int x1)] → W p l e { frames := 2, cells := 0, slots := 0, locals := 42 } s m args below meth c s.heap [] 0 0 (MQ below (QcV (.int r)) args s 0 0 (fun _ => False)) (F0 m 38 ls [.int xs1, .ref (gq G 1)]) := by
    intro x1 xs1 ls hf hl
    unfold f_X9_coins_b38 at hf
    refine lv_iload_n hx hb dX9_coins_38 rfl (lv_at hl 0 rfl) ?_
    refine lv_iadd hx hb dX9_coins_39 ?_
    obtain ⟨y1, ey1, hf⟩ := bnd_some hf
    refine k_X1_get X h ey1 k_X9_175 dX9_coins_40 hl.1 ⟨(Nat.le_of_ble_eq_true rfl), (Nat.le_of_ble_eq_true rfl)⟩ (Nat.le_of_ble_eq_true rfl) ⟨Nat.zero_le _, Nat.zero_le _⟩ ?_
    cases hf
    exact rr_i X.1 hr hlocks dX9_coins_43
  have hl : lv_has ls 3 [(0, .ref (gq G 0)), (1, .int x1), (2, .int x2)] := hl
  unfold f_X9_coins at hf
  refine lv_iload_n hx hb dX9_coins_0 rfl (lv_at hl 1 rfl) ?_
  obtain ⟨y2, ey2, hf⟩ := bnd_some hf
  refine k_X9_isTube X.1 ey2 k_X9_181 dX9_coins_1 hl.1 ⟨(Nat.le_of_ble_eq_true rfl), (Nat.le_of_ble_eq_true rfl)⟩ (Nat.le_of_ble_eq_true rfl) ⟨Nat.zero_le _, Nat.zero_le _⟩ ?_
  refine lv_if_ne (tgt := 9) hx hb dX9_coins_4 (by decide) (fun c3 => ?_) (fun c3 => ?_)
  · have hf := if_f c3 hf
    refine lv_iload_n hx hb dX9_coins_9 rfl (lv_at hl 2 rfl) ?_
    refine lv_iconst (v := 0) hx hb dX9_coins_10 (by decide) ?_
    refine lv_iconst (v := 1) hx hb dX9_coins_11 (by decide) ?_
    obtain ⟨y4, ey4, hf⟩ := bnd_some hf
    refine k_X9_within X.1 ey4 k_X9_92 dX9_coins_12 hl.1 ⟨(Nat.le_of_ble_eq_true rfl), (Nat.le_of_ble_eq_true rfl)⟩ (Nat.le_of_ble_eq_true rfl) ⟨Nat.zero_le _, Nat.zero_le _⟩ ?_
    refine lv_if_ne (tgt := 21) hx hb dX9_coins_15 (by decide) (fun c5 => ?_) (fun c5 => ?_)
    · have hf := if_f c5 hf
      refine lv_aload_n hx hb dX9_coins_21 rfl (lv_at hl 0 rfl) ?_
      refine GC_0_0 X h k_X9_12 dX9_coins_22 ?_
      refine lv_iload_n hx hb dX9_coins_25 rfl (lv_at hl 2 rfl) ?_
      refine lv_if_ne (tgt := 35) hx hb dX9_coins_26 (by decide) (fun c6 => ?_) (fun c6 => ?_)
      · have hf := if_f c6 hf
        refine lv_sipush (v := 8432) hx hb dX9_coins_35 (by decide) ?_
        exact J38 _ _ _ hf (lv_sub hl [1] rfl)
      · have hf := if_t c6 hf
        refine lv_sipush (v := 8420) hx hb dX9_coins_29 (by decide) ?_
        refine lv_goto (tgt := 38) hx hb dX9_coins_32 (by decide) ?_
        exact J38 _ _ _ hf (lv_sub hl [1] rfl)
    · have hf := if_t c5 hf
      refine lv_bipush (v := (-2)) hx hb dX9_coins_18 (by decide) ?_
      cases hf
      exact rr_i X.1 hr hlocks dX9_coins_20
  · have hf := if_t c3 hf
    refine lv_iconst (v := (-1)) hx hb dX9_coins_7 (by decide) ?_
    cases hf
    exact rr_i X.1 hr hlocks dX9_coins_8
theorem m_X9_coins : Cond.instanceMethod yX9_coins ∈ lw_good ∧ Cond.selects RX9 yX9_coins yX9_coins ∈ lw_good ∧ Cond.initialized RX9 ∈ lw_good ∧ Cond.code yX9_coins cX9_coins 3 (some .int) ∈ lw_good := by decide +kernel
theorem k_X9_coins {p : Program} {l : Launch} {e : Env} {R : Room} {s : State} {m : MethodId} {args : Array Value} {below : List Frame} {meth : Method} {c : Code} {H : Heap} {locs : List Loc} {cells slots : Nat} {Q : State → Prop} {cc : ByteArray} {nL pc idx : Nat} {ls : Array Slot} {rest : List Value} {own : String} {G : Gm} {A : Nat → Prop} {H0 : Heap} {la : Nat} {w : CW} {x1 : Int32} {x2 : Int32} {r : Int32} (X : CX own cc nL G p s m args c) (h : CH G (cw G la w) A H0 H locs) (hf : f_X9_coins x1 x2 w = some r) (hlk : Cond.methodLink own idx yX9_coins ∈ lw_good) (hd : decode cc pc = .ok (.invokevirtual idx, 3)) (hsz : ls.size = nL) (hR : 3 ≤ R.frames ∧ 64 ≤ R.locals) (hrest : (rest.map fun v => v.category).sum ≤ 8) (hk : cells ≤ R.cells ∧ slots ≤ R.slots) (k : W p l e R s m args below meth c H locs cells slots Q (F0 m (pc + 3) ls (.int r :: rest))) : W p l e R s m args below meth c H locs cells slots Q (F0 m pc ls (.int x2 :: .int x1 :: .ref (gq G 0) :: rest)) :=
  fin_r (runV (As := [.int x1, .int x2]) X.1 2 (t_X9_coins l G la w x1 x2 r hf) rfl rfl hlk m_X9_coins (by decide +kernel) ⟨hR.1, hR.2⟩ ⟨blindR, va_recv X.2.1 h.1 (ci := 8) (q0 := 0) rfl rfl, preR X.2 h⟩ rfl hsz hrest hd hk) k
def f_X9_credit (x1 : Int32) (w : CW) : Option Int32 :=
 (f_X9_isPlace x1).bind fun y1 =>
 if y1 = 0 then
 (some ((-1 : Int32)))
 else
 ((f_X6_creditOf x1 w).bind fun y3 =>
 some y3)
set_option maxHeartbeats 4000000 in
set_option maxRecDepth 100000 in
theorem t_X9_credit (l : Launch) (G : Gm) (la : Nat) (w : CW) (x1 : Int32) (r : Int32) (hf : f_X9_credit x1 w = some r) : MetR l yX9_credit cX9_credit 2 (some .int) 2 44 G (cw G la w) [.ref (gq G 0), .int x1] (.int r) := by
  refine ent (own := RX9) (As := [.ref (gq G 0), .int x1]) (by decide +kernel) rfl (Nat.le_of_ble_eq_true rfl) (fun _ _ h => h.1) ?_
  intro p e s m args below meth c ls B hr hlocks hv hl
  obtain ⟨-, hP, hKK, hD⟩ := hv
  have X : CX RX9 cX9_credit 2 G p s m args c := ⟨B, hKK⟩
  obtain ⟨hx, hb, hml, hown, hts⟩ := id B
  have h : CH G (cw G la w) (fun _ => True) s.heap s.heap [] := ⟨hP, hD, va_S.rf⟩
  have hl : lv_has ls 2 [(0, .ref (gq G 0)), (1, .int x1)] := hl
  unfold f_X9_credit at hf
  refine lv_iload_n hx hb dX9_credit_0 rfl (lv_at hl 1 rfl) ?_
  obtain ⟨y1, ey1, hf⟩ := bnd_some hf
  refine k_X9_isPlace X.1 ey1 k_X9_88 dX9_credit_1 hl.1 ⟨(Nat.le_of_ble_eq_true rfl), (Nat.le_of_ble_eq_true rfl)⟩ (Nat.le_of_ble_eq_true rfl) ⟨Nat.zero_le _, Nat.zero_le _⟩ ?_
  refine lv_if_eq (tgt := 18) hx hb dX9_credit_4 (by decide) (fun c2 => ?_) (fun c2 => ?_)
  · have hf := if_t c2 hf
    refine lv_iconst (v := (-1)) hx hb dX9_credit_18 (by decide) ?_
    cases hf
    exact rr_i X.1 hr hlocks dX9_credit_19
  · have hf := if_f c2 hf
    refine lv_aload_n hx hb dX9_credit_7 rfl (lv_at hl 0 rfl) ?_
    refine GC_0_1 X h k_X9_21 dX9_credit_8 ?_
    refine lv_iload_n hx hb dX9_credit_11 rfl (lv_at hl 1 rfl) ?_
    obtain ⟨y3, ey3, hf⟩ := bnd_some hf
    refine k_X6_creditOf X h ey3 k_X9_117 dX9_credit_12 hl.1 ⟨(Nat.le_of_ble_eq_true rfl), (Nat.le_of_ble_eq_true rfl)⟩ (Nat.le_of_ble_eq_true rfl) ⟨Nat.zero_le _, Nat.zero_le _⟩ ?_
    refine lv_goto (tgt := 19) hx hb dX9_credit_15 (by decide) ?_
    cases hf
    exact rr_i X.1 hr hlocks dX9_credit_19
theorem m_X9_credit : Cond.instanceMethod yX9_credit ∈ lw_good ∧ Cond.selects RX9 yX9_credit yX9_credit ∈ lw_good ∧ Cond.initialized RX9 ∈ lw_good ∧ Cond.code yX9_credit cX9_credit 2 (some .int) ∈ lw_good := by decide +kernel
theorem k_X9_credit {p : Program} {l : Launch} {e : Env} {R : Room} {s : State} {m : MethodId} {args : Array Value} {below : List Frame} {meth : Method} {c : Code} {H : Heap} {locs : List Loc} {cells slots : Nat} {Q : State → Prop} {cc : ByteArray} {nL pc idx : Nat} {ls : Array Slot} {rest : List Value} {own : String} {G : Gm} {A : Nat → Prop} {H0 : Heap} {la : Nat} {w : CW} {x1 : Int32} {r : Int32} (X : CX own cc nL G p s m args c) (h : CH G (cw G la w) A H0 H locs) (hf : f_X9_credit x1 w = some r) (hlk : Cond.methodLink own idx yX9_credit ∈ lw_good) (hd : decode cc pc = .ok (.invokevirtual idx, 3)) (hsz : ls.size = nL) (hR : 3 ≤ R.frames ∧ 65 ≤ R.locals) (hrest : (rest.map fun v => v.category).sum ≤ 8) (hk : cells ≤ R.cells ∧ slots ≤ R.slots) (k : W p l e R s m args below meth c H locs cells slots Q (F0 m (pc + 3) ls (.int r :: rest))) : W p l e R s m args below meth c H locs cells slots Q (F0 m pc ls (.int x1 :: .ref (gq G 0) :: rest)) :=
  fin_r (runV (As := [.int x1]) X.1 1 (t_X9_credit l G la w x1 r hf) rfl rfl hlk m_X9_credit (by decide +kernel) ⟨hR.1, hR.2⟩ ⟨blindR, va_recv X.2.1 h.1 (ci := 8) (q0 := 0) rfl rfl, preR X.2 h⟩ rfl hsz hrest hd hk) k
def f_X9_isColour (x0 : Int32) : Option Int32 :=
 (f_X9_within x0 ((0 : Int32)) ((9 : Int32))).bind fun y1 =>
 chk (y1 = 0 ∨ y1 = 1) (
 some y1)
set_option maxHeartbeats 4000000 in
set_option maxRecDepth 100000 in
theorem t_X9_isColour (l : Launch) (x0 : Int32) (r : Int32) (hf : f_X9_isColour x0 = some r) : MetP l yX9_isColour cX9_isColour 1 (some .boolean) 1 22 [.int x0] (.int r) := by
  refine ent (own := RX9) (As := [.int x0]) (by decide +kernel) rfl (Nat.le_of_ble_eq_true rfl) (fun _ _ h => h.1) ?_
  intro p e s m args below meth c ls B hr hlocks hv hl
  obtain ⟨hx, hb, hml, hown, hts⟩ := id B
  have hl : lv_has ls 1 [(0, .int x0)] := hl
  unfold f_X9_isColour at hf
  refine lv_iload_n hx hb dX9_isColour_0 rfl (lv_at hl 0 rfl) ?_
  refine lv_iconst (v := 0) hx hb dX9_isColour_1 (by decide) ?_
  refine lv_bipush (v := 9) hx hb dX9_isColour_2 (by decide) ?_
  obtain ⟨y1, ey1, hf⟩ := bnd_some hf
  refine k_X9_within B ey1 k_X9_92 dX9_isColour_4 hl.1 ⟨(Nat.le_of_ble_eq_true rfl), (Nat.le_of_ble_eq_true rfl)⟩ (Nat.le_of_ble_eq_true rfl) ⟨Nat.zero_le _, Nat.zero_le _⟩ ?_
  obtain ⟨c2, hf⟩ := chk_some hf
  cases hf
  exact rr_z B hr hlocks c2 dX9_isColour_7
theorem m_X9_isColour : Cond.static yX9_isColour ∈ lw_good ∧ Cond.initialized yX9_isColour.cls ∈ lw_good ∧ Cond.code yX9_isColour cX9_isColour 1 (some .boolean) ∈ lw_good := by decide +kernel
theorem k_X9_isColour {p : Program} {l : Launch} {e : Env} {R : Room} {s : State} {m : MethodId} {args : Array Value} {below : List Frame} {meth : Method} {c : Code} {H : Heap} {locs : List Loc} {cells slots : Nat} {Q : State → Prop} {cc : ByteArray} {nL pc idx : Nat} {ls : Array Slot} {rest : List Value} {own : String} {x0 : Int32} {r : Int32} (B : CB own cc nL p s m args c) (hf : f_X9_isColour x0 = some r) (hlk : Cond.methodLink own idx yX9_isColour ∈ lw_good) (hd : decode cc pc = .ok (.invokestatic idx, 3)) (hsz : ls.size = nL) (hR : 2 ≤ R.frames ∧ 42 ≤ R.locals) (hrest : (rest.map fun v => v.category).sum ≤ 8) (hk : cells ≤ R.cells ∧ slots ≤ R.slots) (k : W p l e R s m args below meth c H locs cells slots Q (F0 m (pc + 3) ls (.int r :: rest))) : W p l e R s m args below meth c H locs cells slots Q (F0 m pc ls (.int x0 :: rest)) :=
  fin_r (runS (As := [.int x0]) B 1 (t_X9_isColour l x0 r hf) rfl rfl hlk m_X9_isColour (by decide +kernel) ⟨hR.1, hR.2⟩ ⟨blindP, preP⟩ rfl hsz hrest hd hk) k
def f_X9_loadCell (x0 : Int32) (x1 : Int32) : Option Int32 :=
 some ((((5920 : Int32)) + (x0 * ((5 : Int32)))) + x1)
set_option maxHeartbeats 4000000 in
set_option maxRecDepth 100000 in
theorem t_X9_loadCell (l : Launch) (x0 : Int32) (x1 : Int32) (r : Int32) (hf : f_X9_loadCell x0 x1 = some r) : MetP l yX9_loadCell cX9_loadCell 2 (some .int) 0 0 [.int x0, .int x1] (.int r) := by
  refine ent (own := RX9) (As := [.int x0, .int x1]) (by decide +kernel) rfl (Nat.le_of_ble_eq_true rfl) (fun _ _ h => h.1) ?_
  intro p e s m args below meth c ls B hr hlocks hv hl
  obtain ⟨hx, hb, hml, hown, hts⟩ := id B
  have hl : lv_has ls 2 [(0, .int x0), (1, .int x1)] := hl
  unfold f_X9_loadCell at hf
  refine lv_sipush (v := 5920) hx hb dX9_loadCell_0 (by decide) ?_
  refine lv_iload_n hx hb dX9_loadCell_3 rfl (lv_at hl 0 rfl) ?_
  refine lv_iconst (v := 5) hx hb dX9_loadCell_4 (by decide) ?_
  refine lv_imul hx hb dX9_loadCell_5 ?_
  refine lv_iadd hx hb dX9_loadCell_6 ?_
  refine lv_iload_n hx hb dX9_loadCell_7 rfl (lv_at hl 1 rfl) ?_
  refine lv_iadd hx hb dX9_loadCell_8 ?_
  cases hf
  exact rr_i B hr hlocks dX9_loadCell_9
theorem m_X9_loadCell : Cond.static yX9_loadCell ∈ lw_good ∧ Cond.initialized yX9_loadCell.cls ∈ lw_good ∧ Cond.code yX9_loadCell cX9_loadCell 2 (some .int) ∈ lw_good := by decide +kernel
theorem k_X9_loadCell {p : Program} {l : Launch} {e : Env} {R : Room} {s : State} {m : MethodId} {args : Array Value} {below : List Frame} {meth : Method} {c : Code} {H : Heap} {locs : List Loc} {cells slots : Nat} {Q : State → Prop} {cc : ByteArray} {nL pc idx : Nat} {ls : Array Slot} {rest : List Value} {own : String} {x0 : Int32} {x1 : Int32} {r : Int32} (B : CB own cc nL p s m args c) (hf : f_X9_loadCell x0 x1 = some r) (hlk : Cond.methodLink own idx yX9_loadCell ∈ lw_good) (hd : decode cc pc = .ok (.invokestatic idx, 3)) (hsz : ls.size = nL) (hR : 1 ≤ R.frames ∧ 21 ≤ R.locals) (hrest : (rest.map fun v => v.category).sum ≤ 8) (hk : cells ≤ R.cells ∧ slots ≤ R.slots) (k : W p l e R s m args below meth c H locs cells slots Q (F0 m (pc + 3) ls (.int r :: rest))) : W p l e R s m args below meth c H locs cells slots Q (F0 m pc ls (.int x1 :: .int x0 :: rest)) :=
  fin_r (runS (As := [.int x0, .int x1]) B 2 (t_X9_loadCell l x0 x1 r hf) rfl rfl hlk m_X9_loadCell (by decide +kernel) ⟨hR.1, hR.2⟩ ⟨blindP, preP⟩ rfl hsz hrest hd hk) k
def f_X9_load (x1 : Int32) (x2 : Int32) (x3 : Int32) (w : CW) : Option ((Int32 × CW) × Nat) :=
 (f_X9_within x1 ((0 : Int32)) ((9 : Int32))).bind fun y1 =>
 if y1 = 0 then
 (some (((-2 : Int32), w), 0))
 else
 ((f_X9_within x2 ((1 : Int32)) ((20000 : Int32))).bind fun y3 =>
 if y3 = 0 then
 (some (((-2 : Int32), w), 0))
 else
 ((f_X9_isColour x3).bind fun y5 =>
 if y5 = 0 then
 (some (((-2 : Int32), w), 0))
 else
 ((f_X1_get ((8550 : Int32)) w).bind fun y7 =>
 if y7 < ((500 : Int32)) then
 ((f_X9_loadCell y7 ((0 : Int32))).bind fun y9 =>
 bnc (f_X1_set y9 x1 (cs w 0 10 ((w.1 0 10) + ((1 : Int32))))) fun y10 =>
 (f_X9_loadCell y7 ((1 : Int32))).bind fun y11 =>
 bnc (f_X1_set y11 x2 y10) fun y12 =>
 (f_X9_loadCell y7 ((2 : Int32))).bind fun y13 =>
 bnc (f_X1_set y13 x3 y12) fun y14 =>
 (f_X9_loadCell y7 ((3 : Int32))).bind fun y15 =>
 bnc (f_X1_set y15 ((-1 : Int32)) y14) fun y16 =>
 (f_X9_loadCell y7 ((4 : Int32))).bind fun y17 =>
 bnc (f_X1_set y17 (y16.1 0 10) y16) fun y18 =>
 bnc (f_X1_set ((8550 : Int32)) (y7 + ((1 : Int32))) y18) fun y19 =>
 some ((y7, y19), 0))
 else
 (some (((-4 : Int32), w), 0)))))
set_option maxHeartbeats 4000000 in
set_option maxRecDepth 100000 in
theorem t_X9_load (l : Launch) (G : Gm) (la0 : Nat) (w0 : CW) (x1 : Int32) (x2 : Int32) (x3 : Int32) (r : Int32) (w' : CW) (N : Nat) (hf : f_X9_load x1 x2 x3 w0 = some ((r, w'), N)) : MetI l yX9_load cX9_load 5 (some .int) 4 113 G (cw G la0 w0) [.ref (gq G 0), .int x1, .int x2, .int x3] r (fun u => cw G u w') N := by
  intro sz
  refine ent (own := RX9) (As := [.ref (gq G 0), .int x1, .int x2, .int x3]) (by decide +kernel) rfl (Nat.le_of_ble_eq_true rfl) (fun _ _ h => h.1) ?_
  intro p e s m args below meth c ls B hr hlocks hv hl
  obtain ⟨-, hsz, hP, hKK, hD⟩ := hv
  subst hsz
  have X : CX RX9 cX9_load 5 G p s m args c := ⟨B, hKK⟩
  obtain ⟨hx, hb, hml, hown, hts⟩ := id B
  have hA : ∀ q : Nat, s.heap.size ≤ q → va_A (cw G la0 w0) s.heap.size q := fun q z => Or.inr z
  have h : CH G (cw G la0 w0) (va_A (cw G la0 w0) s.heap.size) s.heap s.heap [] := ⟨hP, hD.self, va_S.rf⟩
  have hc : 0 + N = N := Nat.zero_add N
  obtain ⟨la, rfl⟩ : ∃ z, z = la0 := ⟨_, rfl⟩
  obtain ⟨w, rfl⟩ : ∃ z, z = w0 := ⟨_, rfl⟩
  have hl : lv_has ls 5 [(0, .ref (gq G 0)), (1, .int x1), (2, .int x2), (3, .int x3)] := hl
  unfold f_X9_load at hf
  refine wid0 ?_
  refine lv_iload_n hx hb dX9_load_0 rfl (lv_at hl 1 rfl) ?_
  refine lv_iconst (v := 0) hx hb dX9_load_1 (by decide) ?_
  refine lv_bipush (v := 9) hx hb dX9_load_2 (by decide) ?_
  obtain ⟨y1, ey1, hf⟩ := bnd_some hf
  refine k_X9_within X.1 ey1 k_X9_92 dX9_load_4 hl.1 ⟨(Nat.le_of_ble_eq_true rfl), (Nat.le_of_ble_eq_true rfl)⟩ (Nat.le_of_ble_eq_true rfl) (rmm0 hc) ?_
  refine lv_if_eq (tgt := 28) hx hb dX9_load_7 (by decide) (fun c2 => ?_) (fun c2 => ?_)
  · have hf := if_t c2 hf
    refine lv_bipush (v := (-2)) hx hb dX9_load_28 (by decide) ?_
    exact e1_i X.1 hr hlocks hf h hc dX9_load_30
  · have hf := if_f c2 hf
    refine lv_iload_n hx hb dX9_load_10 rfl (lv_at hl 2 rfl) ?_
    refine lv_iconst (v := 1) hx hb dX9_load_11 (by decide) ?_
    refine lv_sipush (v := 20000) hx hb dX9_load_12 (by decide) ?_
    obtain ⟨y3, ey3, hf⟩ := bnd_some hf
    refine k_X9_within X.1 ey3 k_X9_92 dX9_load_15 hl.1 ⟨(Nat.le_of_ble_eq_true rfl), (Nat.le_of_ble_eq_true rfl)⟩ (Nat.le_of_ble_eq_true rfl) (rmm0 hc) ?_
    refine lv_if_eq (tgt := 28) hx hb dX9_load_18 (by decide) (fun c4 => ?_) (fun c4 => ?_)
    · have hf := if_t c4 hf
      refine lv_bipush (v := (-2)) hx hb dX9_load_28 (by decide) ?_
      exact e1_i X.1 hr hlocks hf h hc dX9_load_30
    · have hf := if_f c4 hf
      refine lv_iload_n hx hb dX9_load_21 rfl (lv_at hl 3 rfl) ?_
      obtain ⟨y5, ey5, hf⟩ := bnd_some hf
      refine k_X9_isColour X.1 ey5 k_X9_218 dX9_load_22 hl.1 ⟨(Nat.le_of_ble_eq_true rfl), (Nat.le_of_ble_eq_true rfl)⟩ (Nat.le_of_ble_eq_true rfl) (rmm0 hc) ?_
      refine lv_if_ne (tgt := 31) hx hb dX9_load_25 (by decide) (fun c6 => ?_) (fun c6 => ?_)
      · have hf := if_f c6 hf
        refine lv_aload_n hx hb dX9_load_31 rfl (lv_at hl 0 rfl) ?_
        refine GC_0_0 X h k_X9_12 dX9_load_32 ?_
        refine lv_sipush (v := 8550) hx hb dX9_load_35 (by decide) ?_
        obtain ⟨y7, ey7, hf⟩ := bnd_some hf
        refine k_X1_get X h ey7 k_X9_175 dX9_load_38 hl.1 ⟨(Nat.le_of_ble_eq_true rfl), (Nat.le_of_ble_eq_true rfl)⟩ (Nat.le_of_ble_eq_true rfl) (rmm0 hc) ?_
        refine lv_istore (lv' := [(4, .int y7), (0, .ref (gq G 0)), (1, .int x1), (2, .int x2), (3, .int x3)]) hx hb dX9_load_41 hl (by decide) rfl (fun ls hl => ?_)
        refine lv_iload hx hb dX9_load_43 (lv_at hl 0 rfl) ?_
        refine lv_sipush (v := 500) hx hb dX9_load_45 (by decide) ?_
        refine lv_icmp_lt (tgt := 54) hx hb dX9_load_48 (by decide) (fun c8 => ?_) (fun c8 => ?_)
        · have hf := if_t c8 hf
          refine lv_aload_n hx hb dX9_load_54 rfl (lv_at hl 1 rfl) ?_
          refine lv_dup hx hb dX9_load_55 rfl ?_
          refine GC_0_10 X h k_X9_74 dX9_load_56 ?_
          refine lv_iconst (v := 1) hx hb dX9_load_59 (by decide) ?_
          refine lv_iadd hx hb dX9_load_60 ?_
          refine PC_0_10 X h k_X9_74 dX9_load_61 (fun H locs h => ?_)
          refine lv_aload_n hx hb dX9_load_64 rfl (lv_at hl 1 rfl) ?_
          refine GC_0_0 X h k_X9_12 dX9_load_65 ?_
          refine lv_iload hx hb dX9_load_68 (lv_at hl 0 rfl) ?_
          refine lv_iconst (v := 0) hx hb dX9_load_70 (by decide) ?_
          obtain ⟨y9, ey9, hf⟩ := bnd_some hf
          refine k_X9_loadCell X.1 ey9 k_X9_221 dX9_load_71 hl.1 ⟨(Nat.le_of_ble_eq_true rfl), (Nat.le_of_ble_eq_true rfl)⟩ (Nat.le_of_ble_eq_true rfl) (rmm0 hc) ?_
          refine lv_iload_n hx hb dX9_load_74 rfl (lv_at hl 2 rfl) ?_
          obtain ⟨y10, ny10, my10, ey10, hf, jy10⟩ := bnc_some hf
          refine k_X1_set X h hA ey10 k_X9_84 dX9_load_75 hl.1 ⟨(Nat.le_of_ble_eq_true rfl), (Nat.le_of_ble_eq_true rfl)⟩ (Nat.le_of_ble_eq_true rfl) (rmm1 hc jy10) (fun la H locs h => ?_)
          have hc := rmm2 hc jy10
          refine lv_aload_n hx hb dX9_load_78 rfl (lv_at hl 1 rfl) ?_
          refine GC_0_0 X h k_X9_12 dX9_load_79 ?_
          refine lv_iload hx hb dX9_load_82 (lv_at hl 0 rfl) ?_
          refine lv_iconst (v := 1) hx hb dX9_load_84 (by decide) ?_
          obtain ⟨y11, ey11, hf⟩ := bnd_some hf
          refine k_X9_loadCell X.1 ey11 k_X9_221 dX9_load_85 hl.1 ⟨(Nat.le_of_ble_eq_true rfl), (Nat.le_of_ble_eq_true rfl)⟩ (Nat.le_of_ble_eq_true rfl) (rmm0 hc) ?_
          refine lv_iload_n hx hb dX9_load_88 rfl (lv_at hl 3 rfl) ?_
          obtain ⟨y12, ny12, my12, ey12, hf, jy12⟩ := bnc_some hf
          refine k_X1_set X h hA ey12 k_X9_84 dX9_load_89 hl.1 ⟨(Nat.le_of_ble_eq_true rfl), (Nat.le_of_ble_eq_true rfl)⟩ (Nat.le_of_ble_eq_true rfl) (rmm1 hc jy12) (fun la H locs h => ?_)
          have hc := rmm2 hc jy12
          refine lv_aload_n hx hb dX9_load_92 rfl (lv_at hl 1 rfl) ?_
          refine GC_0_0 X h k_X9_12 dX9_load_93 ?_
          refine lv_iload hx hb dX9_load_96 (lv_at hl 0 rfl) ?_
          refine lv_iconst (v := 2) hx hb dX9_load_98 (by decide) ?_
          obtain ⟨y13, ey13, hf⟩ := bnd_some hf
          refine k_X9_loadCell X.1 ey13 k_X9_221 dX9_load_99 hl.1 ⟨(Nat.le_of_ble_eq_true rfl), (Nat.le_of_ble_eq_true rfl)⟩ (Nat.le_of_ble_eq_true rfl) (rmm0 hc) ?_
          refine lv_iload_n hx hb dX9_load_102 rfl (lv_at hl 4 rfl) ?_
          obtain ⟨y14, ny14, my14, ey14, hf, jy14⟩ := bnc_some hf
          refine k_X1_set X h hA ey14 k_X9_84 dX9_load_103 hl.1 ⟨(Nat.le_of_ble_eq_true rfl), (Nat.le_of_ble_eq_true rfl)⟩ (Nat.le_of_ble_eq_true rfl) (rmm1 hc jy14) (fun la H locs h => ?_)
          have hc := rmm2 hc jy14
          refine lv_aload_n hx hb dX9_load_106 rfl (lv_at hl 1 rfl) ?_
          refine GC_0_0 X h k_X9_12 dX9_load_107 ?_
          refine lv_iload hx hb dX9_load_110 (lv_at hl 0 rfl) ?_
          refine lv_iconst (v := 3) hx hb dX9_load_112 (by decide) ?_
          obtain ⟨y15, ey15, hf⟩ := bnd_some hf
          refine k_X9_loadCell X.1 ey15 k_X9_221 dX9_load_113 hl.1 ⟨(Nat.le_of_ble_eq_true rfl), (Nat.le_of_ble_eq_true rfl)⟩ (Nat.le_of_ble_eq_true rfl) (rmm0 hc) ?_
          refine lv_iconst (v := (-1)) hx hb dX9_load_116 (by decide) ?_
          obtain ⟨y16, ny16, my16, ey16, hf, jy16⟩ := bnc_some hf
          refine k_X1_set X h hA ey16 k_X9_84 dX9_load_117 hl.1 ⟨(Nat.le_of_ble_eq_true rfl), (Nat.le_of_ble_eq_true rfl)⟩ (Nat.le_of_ble_eq_true rfl) (rmm1 hc jy16) (fun la H locs h => ?_)
          have hc := rmm2 hc jy16
          refine lv_aload_n hx hb dX9_load_120 rfl (lv_at hl 1 rfl) ?_
          refine GC_0_0 X h k_X9_12 dX9_load_121 ?_
          refine lv_iload hx hb dX9_load_124 (lv_at hl 0 rfl) ?_
          refine lv_iconst (v := 4) hx hb dX9_load_126 (by decide) ?_
          obtain ⟨y17, ey17, hf⟩ := bnd_some hf
          refine k_X9_loadCell X.1 ey17 k_X9_221 dX9_load_127 hl.1 ⟨(Nat.le_of_ble_eq_true rfl), (Nat.le_of_ble_eq_true rfl)⟩ (Nat.le_of_ble_eq_true rfl) (rmm0 hc) ?_
          refine lv_aload_n hx hb dX9_load_130 rfl (lv_at hl 1 rfl) ?_
          refine GC_0_10 X h k_X9_74 dX9_load_131 ?_
          obtain ⟨y18, ny18, my18, ey18, hf, jy18⟩ := bnc_some hf
          refine k_X1_set X h hA ey18 k_X9_84 dX9_load_134 hl.1 ⟨(Nat.le_of_ble_eq_true rfl), (Nat.le_of_ble_eq_true rfl)⟩ (Nat.le_of_ble_eq_true rfl) (rmm1 hc jy18) (fun la H locs h => ?_)
          have hc := rmm2 hc jy18
          refine lv_aload_n hx hb dX9_load_137 rfl (lv_at hl 1 rfl) ?_
          refine GC_0_0 X h k_X9_12 dX9_load_138 ?_
          refine lv_sipush (v := 8550) hx hb dX9_load_141 (by decide) ?_
          refine lv_iload hx hb dX9_load_144 (lv_at hl 0 rfl) ?_
          refine lv_iconst (v := 1) hx hb dX9_load_146 (by decide) ?_
          refine lv_iadd hx hb dX9_load_147 ?_
          obtain ⟨y19, ny19, my19, ey19, hf, jy19⟩ := bnc_some hf
          refine k_X1_set X h hA ey19 k_X9_84 dX9_load_148 hl.1 ⟨(Nat.le_of_ble_eq_true rfl), (Nat.le_of_ble_eq_true rfl)⟩ (Nat.le_of_ble_eq_true rfl) (rmm1 hc jy19) (fun la H locs h => ?_)
          have hc := rmm2 hc jy19
          refine lv_iload hx hb dX9_load_151 (lv_at hl 0 rfl) ?_
          exact e1_i X.1 hr hlocks hf h hc dX9_load_153
        · have hf := if_f c8 hf
          refine lv_bipush (v := (-4)) hx hb dX9_load_51 (by decide) ?_
          exact e1_i X.1 hr hlocks hf h hc dX9_load_53
      · have hf := if_t c6 hf
        refine lv_bipush (v := (-2)) hx hb dX9_load_28 (by decide) ?_
        exact e1_i X.1 hr hlocks hf h hc dX9_load_30
theorem m_X9_load : Cond.instanceMethod yX9_load ∈ lw_good ∧ Cond.selects RX9 yX9_load yX9_load ∈ lw_good ∧ Cond.initialized RX9 ∈ lw_good ∧ Cond.code yX9_load cX9_load 5 (some .int) ∈ lw_good := by decide +kernel
theorem k_X9_load {p : Program} {l : Launch} {e : Env} {R : Room} {s : State} {m : MethodId} {args : Array Value} {below : List Frame} {meth : Method} {c : Code} {H : Heap} {locs : List Loc} {cells : Nat} {Q : State → Prop} {cc : ByteArray} {nL pc idx : Nat} {ls : Array Slot} {rest : List Value} {own : String} {G : Gm} {A : Nat → Prop} {H0 : Heap} {la : Nat} {w : CW} {x1 : Int32} {x2 : Int32} {x3 : Int32} {y : Int32 × CW} {n : Nat} (X : CX own cc nL G p s m args c) (h : CH G (cw G la w) A H0 H locs) (hA : ∀ q, H0.size ≤ q → A q) (hf : f_X9_load x1 x2 x3 w = some (y, n)) (hlk : Cond.methodLink own idx yX9_load ∈ lw_good) (hd : decode cc pc = .ok (.invokevirtual idx, 3)) (hsz : ls.size = nL) (hR : 5 ≤ R.frames ∧ 137 ≤ R.locals) (hrest : (rest.map fun v => v.category).sum ≤ 8) (hk : cells + n ≤ R.cells ∧ 4096 * cells + 4096 * n ≤ R.slots) (k : ∀ (la : Nat) (H : Heap) (locs : List Loc), CH G (cw G la y.2) A H0 H locs → W p l e R s m args below meth c H locs (cells + n) (4096 * (cells + n)) Q (F0 m (pc + 3) ls (.int y.1 :: rest))) : W p l e R s m args below meth c H locs cells (4096 * cells) Q (F0 m pc ls (.int x3 :: .int x2 :: .int x1 :: .ref (gq G 0) :: rest)) :=
  fin_i (n := n) (runV (As := [.int x1, .int x2, .int x3]) X.1 3 (t_X9_load l G la w x1 x2 x3 y.1 y.2 n hf _) rfl rfl hlk m_X9_load (by decide +kernel) ⟨hR.1, hR.2⟩ ⟨blindM, va_recv X.2.1 h.1 (ci := 8) (q0 := 0) rfl rfl, preM X.2 h⟩ rfl hsz hrest hd hk) h hA (fun la H locs h => by rw [← Nat.mul_add]; exact k la H locs h)
def f_X9_barredCell (x0 : Int32) (x1 : Int32) : Option Int32 :=
 some ((((8444 : Int32)) + (x0 * ((10 : Int32)))) + x1)
set_option maxHeartbeats 4000000 in
set_option maxRecDepth 100000 in
theorem t_X9_barredCell (l : Launch) (x0 : Int32) (x1 : Int32) (r : Int32) (hf : f_X9_barredCell x0 x1 = some r) : MetP l yX9_barredCell cX9_barredCell 2 (some .int) 0 0 [.int x0, .int x1] (.int r) := by
  refine ent (own := RX9) (As := [.int x0, .int x1]) (by decide +kernel) rfl (Nat.le_of_ble_eq_true rfl) (fun _ _ h => h.1) ?_
  intro p e s m args below meth c ls B hr hlocks hv hl
  obtain ⟨hx, hb, hml, hown, hts⟩ := id B
  have hl : lv_has ls 2 [(0, .int x0), (1, .int x1)] := hl
  unfold f_X9_barredCell at hf
  refine lv_sipush (v := 8444) hx hb dX9_barredCell_0 (by decide) ?_
  refine lv_iload_n hx hb dX9_barredCell_3 rfl (lv_at hl 0 rfl) ?_
  refine lv_bipush (v := 10) hx hb dX9_barredCell_4 (by decide) ?_
  refine lv_imul hx hb dX9_barredCell_6 ?_
  refine lv_iadd hx hb dX9_barredCell_7 ?_
  refine lv_iload_n hx hb dX9_barredCell_8 rfl (lv_at hl 1 rfl) ?_
  refine lv_iadd hx hb dX9_barredCell_9 ?_
  cases hf
  exact rr_i B hr hlocks dX9_barredCell_10
theorem m_X9_barredCell : Cond.static yX9_barredCell ∈ lw_good ∧ Cond.initialized yX9_barredCell.cls ∈ lw_good ∧ Cond.code yX9_barredCell cX9_barredCell 2 (some .int) ∈ lw_good := by decide +kernel
theorem k_X9_barredCell {p : Program} {l : Launch} {e : Env} {R : Room} {s : State} {m : MethodId} {args : Array Value} {below : List Frame} {meth : Method} {c : Code} {H : Heap} {locs : List Loc} {cells slots : Nat} {Q : State → Prop} {cc : ByteArray} {nL pc idx : Nat} {ls : Array Slot} {rest : List Value} {own : String} {x0 : Int32} {x1 : Int32} {r : Int32} (B : CB own cc nL p s m args c) (hf : f_X9_barredCell x0 x1 = some r) (hlk : Cond.methodLink own idx yX9_barredCell ∈ lw_good) (hd : decode cc pc = .ok (.invokestatic idx, 3)) (hsz : ls.size = nL) (hR : 1 ≤ R.frames ∧ 21 ≤ R.locals) (hrest : (rest.map fun v => v.category).sum ≤ 8) (hk : cells ≤ R.cells ∧ slots ≤ R.slots) (k : W p l e R s m args below meth c H locs cells slots Q (F0 m (pc + 3) ls (.int r :: rest))) : W p l e R s m args below meth c H locs cells slots Q (F0 m pc ls (.int x1 :: .int x0 :: rest)) :=
  fin_r (runS (As := [.int x0, .int x1]) B 2 (t_X9_barredCell l x0 x1 r hf) rfl rfl hlk m_X9_barredCell (by decide +kernel) ⟨hR.1, hR.2⟩ ⟨blindP, preP⟩ rfl hsz hrest hd hk) k
def f_X9_mayMix (x1 : Int32) (x2 : Int32) (w : CW) : Option Int32 :=
 (f_X9_barredCell x1 x2).bind fun y1 =>
 (f_X1_get y1 w).bind fun y2 =>
 if y2 = 0 then
 (some ((1 : Int32)))
 else
 (some ((0 : Int32)))
set_option maxHeartbeats 4000000 in
set_option maxRecDepth 100000 in
theorem t_X9_mayMix (l : Launch) (G : Gm) (la : Nat) (w : CW) (x1 : Int32) (x2 : Int32) (r : Int32) (hf : f_X9_mayMix x1 x2 w = some r) : MetR l yX9_mayMix cX9_mayMix 3 (some .boolean) 1 21 G (cw G la w) [.ref (gq G 0), .int x1, .int x2] (.int r) := by
  refine ent (own := RX9) (As := [.ref (gq G 0), .int x1, .int x2]) (by decide +kernel) rfl (Nat.le_of_ble_eq_true rfl) (fun _ _ h => h.1) ?_
  intro p e s m args below meth c ls B hr hlocks hv hl
  obtain ⟨-, hP, hKK, hD⟩ := hv
  have X : CX RX9 cX9_mayMix 3 G p s m args c := ⟨B, hKK⟩
  obtain ⟨hx, hb, hml, hown, hts⟩ := id B
  have h : CH G (cw G la w) (fun _ => True) s.heap s.heap [] := ⟨hP, hD, va_S.rf⟩
  have hl : lv_has ls 3 [(0, .ref (gq G 0)), (1, .int x1), (2, .int x2)] := hl
  unfold f_X9_mayMix at hf
  refine lv_aload_n hx hb dX9_mayMix_0 rfl (lv_at hl 0 rfl) ?_
  refine GC_0_0 X h k_X9_12 dX9_mayMix_1 ?_
  refine lv_iload_n hx hb dX9_mayMix_4 rfl (lv_at hl 1 rfl) ?_
  refine lv_iload_n hx hb dX9_mayMix_5 rfl (lv_at hl 2 rfl) ?_
  obtain ⟨y1, ey1, hf⟩ := bnd_some hf
  refine k_X9_barredCell X.1 ey1 k_X9_227 dX9_mayMix_6 hl.1 ⟨(Nat.le_of_ble_eq_true rfl), (Nat.le_of_ble_eq_true rfl)⟩ (Nat.le_of_ble_eq_true rfl) ⟨Nat.zero_le _, Nat.zero_le _⟩ ?_
  obtain ⟨y2, ey2, hf⟩ := bnd_some hf
  refine k_X1_get X h ey2 k_X9_175 dX9_mayMix_9 hl.1 ⟨(Nat.le_of_ble_eq_true rfl), (Nat.le_of_ble_eq_true rfl)⟩ (Nat.le_of_ble_eq_true rfl) ⟨Nat.zero_le _, Nat.zero_le _⟩ ?_
  refine lv_if_ne (tgt := 19) hx hb dX9_mayMix_12 (by decide) (fun c3 => ?_) (fun c3 => ?_)
  · have hf := if_f c3 hf
    refine lv_iconst (v := 0) hx hb dX9_mayMix_19 (by decide) ?_
    cases hf
    exact rr_z X.1 hr hlocks (Or.inl rfl) dX9_mayMix_20
  · have hf := if_t c3 hf
    refine lv_iconst (v := 1) hx hb dX9_mayMix_15 (by decide) ?_
    refine lv_goto (tgt := 20) hx hb dX9_mayMix_16 (by decide) ?_
    cases hf
    exact rr_z X.1 hr hlocks (Or.inr rfl) dX9_mayMix_20
theorem m_X9_mayMix : Cond.instanceMethod yX9_mayMix ∈ lw_good ∧ Cond.selects RX9 yX9_mayMix yX9_mayMix ∈ lw_good ∧ Cond.initialized RX9 ∈ lw_good ∧ Cond.code yX9_mayMix cX9_mayMix 3 (some .boolean) ∈ lw_good := by decide +kernel
theorem k_X9_mayMix {p : Program} {l : Launch} {e : Env} {R : Room} {s : State} {m : MethodId} {args : Array Value} {below : List Frame} {meth : Method} {c : Code} {H : Heap} {locs : List Loc} {cells slots : Nat} {Q : State → Prop} {cc : ByteArray} {nL pc idx : Nat} {ls : Array Slot} {rest : List Value} {own : String} {G : Gm} {A : Nat → Prop} {H0 : Heap} {la : Nat} {w : CW} {x1 : Int32} {x2 : Int32} {r : Int32} (X : CX own cc nL G p s m args c) (h : CH G (cw G la w) A H0 H locs) (hf : f_X9_mayMix x1 x2 w = some r) (hlk : Cond.methodLink own idx yX9_mayMix ∈ lw_good) (hd : decode cc pc = .ok (.invokevirtual idx, 3)) (hsz : ls.size = nL) (hR : 2 ≤ R.frames ∧ 43 ≤ R.locals) (hrest : (rest.map fun v => v.category).sum ≤ 8) (hk : cells ≤ R.cells ∧ slots ≤ R.slots) (k : W p l e R s m args below meth c H locs cells slots Q (F0 m (pc + 3) ls (.int r :: rest))) : W p l e R s m args below meth c H locs cells slots Q (F0 m pc ls (.int x2 :: .int x1 :: .ref (gq G 0) :: rest)) :=
  fin_r (runV (As := [.int x1, .int x2]) X.1 2 (t_X9_mayMix l G la w x1 x2 r hf) rfl rfl hlk m_X9_mayMix (by decide +kernel) ⟨hR.1, hR.2⟩ ⟨blindR, va_recv X.2.1 h.1 (ci := 8) (q0 := 0) rfl rfl, preR X.2 h⟩ rfl hsz hrest hd hk) k
def f_X9_mix_b47 (x1 : Int32) (x2 : Int32) (x4 : Int32) (xs0 : Int32) (w : CW) : Option ((Int32 × CW) × Nat) :=
 (f_X9_barredCell x1 x2).bind fun y1 =>
 bnc (f_X1_set y1 xs0 w) fun y2 =>
 (f_X9_barredCell x2 x1).bind fun y3 =>
 bnc (f_X1_set y3 xs0 y2) fun y4 =>
 some ((x4, y4), 0)
def f_X9_mix_b36 (x1 : Int32) (x2 : Int32) (x3 : Int32) (xs0 : Int32) (w : CW) : Option ((Int32 × CW) × Nat) :=
 if x3 = 0 then
 (f_X9_mix_b47 x1 x2 xs0 ((1 : Int32)) w)
 else
 (f_X9_mix_b47 x1 x2 xs0 ((0 : Int32)) w)
def f_X9_mix (x1 : Int32) (x2 : Int32) (x3 : Int32) (w : CW) : Option ((Int32 × CW) × Nat) :=
 (f_X9_isColour x1).bind fun y6 =>
 if y6 = 0 then
 (some (((-2 : Int32), w), 0))
 else
 ((f_X9_isColour x2).bind fun y8 =>
 if y8 = 0 then
 (some (((-2 : Int32), w), 0))
 else
 (if x1 = x2 then
 (some (((-2 : Int32), w), 0))
 else
 ((f_X9_mayMix x1 x2 w).bind fun y11 =>
 if y11 = 0 then
 (f_X9_mix_b36 x1 x2 x3 ((0 : Int32)) w)
 else
 (f_X9_mix_b36 x1 x2 x3 ((1 : Int32)) w))))
set_option maxHeartbeats 4000000 in
set_option maxRecDepth 100000 in
theorem t_X9_mix (l : Launch) (G : Gm) (la0 : Nat) (w0 : CW) (x1 : Int32) (x2 : Int32) (x3 : Int32) (r : Int32) (w' : CW) (N : Nat) (hf : f_X9_mix x1 x2 x3 w0 = some ((r, w'), N)) : MetI l yX9_mix cX9_mix 6 (some .int) 4 113 G (cw G la0 w0) [.ref (gq G 0), .int x1, .int x2, .int x3] r (fun u => cw G u w') N := by
  intro sz
  refine ent (own := RX9) (As := [.ref (gq G 0), .int x1, .int x2, .int x3]) (by decide +kernel) rfl (Nat.le_of_ble_eq_true rfl) (fun _ _ h => h.1) ?_
  intro p e s m args below meth c ls B hr hlocks hv hl
  obtain ⟨-, hsz, hP, hKK, hD⟩ := hv
  subst hsz
  have X : CX RX9 cX9_mix 6 G p s m args c := ⟨B, hKK⟩
  obtain ⟨hx, hb, hml, hown, hts⟩ := id B
  have hA : ∀ q : Nat, s.heap.size ≤ q → va_A (cw G la0 w0) s.heap.size q := fun q z => Or.inr z
  have h : CH G (cw G la0 w0) (va_A (cw G la0 w0) s.heap.size) s.heap s.heap [] := ⟨hP, hD.self, va_S.rf⟩
  have hc : 0 + N = N := Nat.zero_add N
  have J47 : ∀ (x1 : Int32) (x2 : Int32) (x4 : Int32) (xs0 : Int32) (w : CW) (la : Nat) (H : Heap) (locs : List Loc) (ls : Array Slot) (k n : Nat), f_X9_mix_b47 x1 x2 x4 xs0 w = some ((r, w'), n) → CH G (cw G la w) (va_A (cw G la0 w0) s.heap.size) s.heap H locs → lv_has ls 6 [(0, .ref (gq G 0)), (1, .int x1), (2, .int x2), (4, .int x4)] → k + n = N → W p l e { frames := 4, cells := N, slots := 4096 * N, locals := 113 } s m args below meth c H locs k (4096 * k) (MQ below (QI G (cw G la0 w0) s.heap.size r (fun u => cw G u w')) args s N (4096 * N) (va_A (cw G la0 w0) s.heap.size)) (F0 m 47 ls [.int xs0]) := by
    intro x1 x2 x4 xs0 w la H locs ls k n hf h hl hc
    unfold f_X9_mix_b47 at hf
    refine lv_istore (lv' := [(5, .int xs0), (0, .ref (gq G 0)), (1, .int x1), (2, .int x2), (4, .int x4)]) hx hb dX9_mix_47 hl (by decide) rfl (fun ls hl => ?_)
    refine lv_aload_n hx hb dX9_mix_49 rfl (lv_at hl 1 rfl) ?_
    refine GC_0_0 X h k_X9_12 dX9_mix_50 ?_
    refine lv_iload_n hx hb dX9_mix_53 rfl (lv_at hl 2 rfl) ?_
    refine lv_iload_n hx hb dX9_mix_54 rfl (lv_at hl 3 rfl) ?_
    obtain ⟨y1, ey1, hf⟩ := bnd_some hf
    refine k_X9_barredCell X.1 ey1 k_X9_227 dX9_mix_55 hl.1 ⟨(Nat.le_of_ble_eq_true rfl), (Nat.le_of_ble_eq_true rfl)⟩ (Nat.le_of_ble_eq_true rfl) (rmm0 hc) ?_
    refine lv_iload hx hb dX9_mix_58 (lv_at hl 0 rfl) ?_
    obtain ⟨y2, ny2, my2, ey2, hf, jy2⟩ := bnc_some hf
    refine k_X1_set X h hA ey2 k_X9_84 dX9_mix_60 hl.1 ⟨(Nat.le_of_ble_eq_true rfl), (Nat.le_of_ble_eq_true rfl)⟩ (Nat.le_of_ble_eq_true rfl) (rmm1 hc jy2) (fun la H locs h => ?_)
    have hc := rmm2 hc jy2
    refine lv_aload_n hx hb dX9_mix_63 rfl (lv_at hl 1 rfl) ?_
    refine GC_0_0 X h k_X9_12 dX9_mix_64 ?_
    refine lv_iload_n hx hb dX9_mix_67 rfl (lv_at hl 3 rfl) ?_
    refine lv_iload_n hx hb dX9_mix_68 rfl (lv_at hl 2 rfl) ?_
    obtain ⟨y3, ey3, hf⟩ := bnd_some hf
    refine k_X9_barredCell X.1 ey3 k_X9_227 dX9_mix_69 hl.1 ⟨(Nat.le_of_ble_eq_true rfl), (Nat.le_of_ble_eq_true rfl)⟩ (Nat.le_of_ble_eq_true rfl) (rmm0 hc) ?_
    refine lv_iload hx hb dX9_mix_72 (lv_at hl 0 rfl) ?_
    obtain ⟨y4, ny4, my4, ey4, hf, jy4⟩ := bnc_some hf
    refine k_X1_set X h hA ey4 k_X9_84 dX9_mix_74 hl.1 ⟨(Nat.le_of_ble_eq_true rfl), (Nat.le_of_ble_eq_true rfl)⟩ (Nat.le_of_ble_eq_true rfl) (rmm1 hc jy4) (fun la H locs h => ?_)
    have hc := rmm2 hc jy4
    refine lv_iload hx hb dX9_mix_77 (lv_at hl 4 rfl) ?_
    exact e1_i X.1 hr hlocks hf h hc dX9_mix_79
  have J36 : ∀ (x1 : Int32) (x2 : Int32) (x3 : Int32) (xs0 : Int32) (w : CW) (la : Nat) (H : Heap) (locs : List Loc) (ls : Array Slot) (k n : Nat), f_X9_mix_b36 x1 x2 x3 xs0 w = some ((r, w'), n) → CH G (cw G la w) (va_A (cw G la0 w0) s.heap.size) s.heap H locs → lv_has ls 6 [(0, .ref (gq G 0)), (1, .int x1), (2, .int x2), (3, .int x3)] → k + n = N → W p l e { frames := 4, cells := N, slots := 4096 * N, locals := 113 } s m args below meth c H locs k (4096 * k) (MQ below (QI G (cw G la0 w0) s.heap.size r (fun u => cw G u w')) args s N (4096 * N) (va_A (cw G la0 w0) s.heap.size)) (F0 m 36 ls [.int xs0]) := by
    intro x1 x2 x3 xs0 w la H locs ls k n hf h hl hc
    unfold f_X9_mix_b36 at hf
    refine lv_istore (lv' := [(4, .int xs0), (0, .ref (gq G 0)), (1, .int x1), (2, .int x2), (3, .int x3)]) hx hb dX9_mix_36 hl (by decide) rfl (fun ls hl => ?_)
    refine lv_iload_n hx hb dX9_mix_38 rfl (lv_at hl 4 rfl) ?_
    refine lv_if_eq (tgt := 46) hx hb dX9_mix_39 (by decide) (fun c5 => ?_) (fun c5 => ?_)
    · have hf := if_t c5 hf
      refine lv_iconst (v := 1) hx hb dX9_mix_46 (by decide) ?_
      exact J47 _ _ _ _ _ _ _ _ _ _ _ hf h (lv_sub hl [1, 2, 3, 0] rfl) hc
    · have hf := if_f c5 hf
      refine lv_iconst (v := 0) hx hb dX9_mix_42 (by decide) ?_
      refine lv_goto (tgt := 47) hx hb dX9_mix_43 (by decide) ?_
      exact J47 _ _ _ _ _ _ _ _ _ _ _ hf h (lv_sub hl [1, 2, 3, 0] rfl) hc
  obtain ⟨la, rfl⟩ : ∃ z, z = la0 := ⟨_, rfl⟩
  obtain ⟨w, rfl⟩ : ∃ z, z = w0 := ⟨_, rfl⟩
  have hl : lv_has ls 6 [(0, .ref (gq G 0)), (1, .int x1), (2, .int x2), (3, .int x3)] := hl
  unfold f_X9_mix at hf
  refine wid0 ?_
  refine lv_iload_n hx hb dX9_mix_0 rfl (lv_at hl 1 rfl) ?_
  obtain ⟨y6, ey6, hf⟩ := bnd_some hf
  refine k_X9_isColour X.1 ey6 k_X9_218 dX9_mix_1 hl.1 ⟨(Nat.le_of_ble_eq_true rfl), (Nat.le_of_ble_eq_true rfl)⟩ (Nat.le_of_ble_eq_true rfl) (rmm0 hc) ?_
  refine lv_if_eq (tgt := 19) hx hb dX9_mix_4 (by decide) (fun c7 => ?_) (fun c7 => ?_)
  · have hf := if_t c7 hf
    refine lv_bipush (v := (-2)) hx hb dX9_mix_19 (by decide) ?_
    exact e1_i X.1 hr hlocks hf h hc dX9_mix_21
  · have hf := if_f c7 hf
    refine lv_iload_n hx hb dX9_mix_7 rfl (lv_at hl 2 rfl) ?_
    obtain ⟨y8, ey8, hf⟩ := bnd_some hf
    refine k_X9_isColour X.1 ey8 k_X9_218 dX9_mix_8 hl.1 ⟨(Nat.le_of_ble_eq_true rfl), (Nat.le_of_ble_eq_true rfl)⟩ (Nat.le_of_ble_eq_true rfl) (rmm0 hc) ?_
    refine lv_if_eq (tgt := 19) hx hb dX9_mix_11 (by decide) (fun c9 => ?_) (fun c9 => ?_)
    · have hf := if_t c9 hf
      refine lv_bipush (v := (-2)) hx hb dX9_mix_19 (by decide) ?_
      exact e1_i X.1 hr hlocks hf h hc dX9_mix_21
    · have hf := if_f c9 hf
      refine lv_iload_n hx hb dX9_mix_14 rfl (lv_at hl 1 rfl) ?_
      refine lv_iload_n hx hb dX9_mix_15 rfl (lv_at hl 2 rfl) ?_
      refine lv_icmp_ne (tgt := 22) hx hb dX9_mix_16 (by decide) (fun c10 => ?_) (fun c10 => ?_)
      · have hf := if_f c10 hf
        refine lv_aload_n hx hb dX9_mix_22 rfl (lv_at hl 0 rfl) ?_
        refine lv_iload_n hx hb dX9_mix_23 rfl (lv_at hl 1 rfl) ?_
        refine lv_iload_n hx hb dX9_mix_24 rfl (lv_at hl 2 rfl) ?_
        obtain ⟨y11, ey11, hf⟩ := bnd_some hf
        refine k_X9_mayMix X h ey11 k_X9_224 dX9_mix_25 hl.1 ⟨(Nat.le_of_ble_eq_true rfl), (Nat.le_of_ble_eq_true rfl)⟩ (Nat.le_of_ble_eq_true rfl) (rmm0 hc) ?_
        refine lv_if_eq (tgt := 35) hx hb dX9_mix_28 (by decide) (fun c12 => ?_) (fun c12 => ?_)
        · have hf := if_t c12 hf
          refine lv_iconst (v := 0) hx hb dX9_mix_35 (by decide) ?_
          exact J36 _ _ _ _ _ _ _ _ _ _ _ hf h (lv_sub hl [0, 1, 2, 3] rfl) hc
        · have hf := if_f c12 hf
          refine lv_iconst (v := 1) hx hb dX9_mix_31 (by decide) ?_
          refine lv_goto (tgt := 36) hx hb dX9_mix_32 (by decide) ?_
          exact J36 _ _ _ _ _ _ _ _ _ _ _ hf h (lv_sub hl [0, 1, 2, 3] rfl) hc
      · have hf := if_t c10 hf
        refine lv_bipush (v := (-2)) hx hb dX9_mix_19 (by decide) ?_
        exact e1_i X.1 hr hlocks hf h hc dX9_mix_21
theorem m_X9_mix : Cond.instanceMethod yX9_mix ∈ lw_good ∧ Cond.selects RX9 yX9_mix yX9_mix ∈ lw_good ∧ Cond.initialized RX9 ∈ lw_good ∧ Cond.code yX9_mix cX9_mix 6 (some .int) ∈ lw_good := by decide +kernel
theorem k_X9_mix {p : Program} {l : Launch} {e : Env} {R : Room} {s : State} {m : MethodId} {args : Array Value} {below : List Frame} {meth : Method} {c : Code} {H : Heap} {locs : List Loc} {cells : Nat} {Q : State → Prop} {cc : ByteArray} {nL pc idx : Nat} {ls : Array Slot} {rest : List Value} {own : String} {G : Gm} {A : Nat → Prop} {H0 : Heap} {la : Nat} {w : CW} {x1 : Int32} {x2 : Int32} {x3 : Int32} {y : Int32 × CW} {n : Nat} (X : CX own cc nL G p s m args c) (h : CH G (cw G la w) A H0 H locs) (hA : ∀ q, H0.size ≤ q → A q) (hf : f_X9_mix x1 x2 x3 w = some (y, n)) (hlk : Cond.methodLink own idx yX9_mix ∈ lw_good) (hd : decode cc pc = .ok (.invokevirtual idx, 3)) (hsz : ls.size = nL) (hR : 5 ≤ R.frames ∧ 138 ≤ R.locals) (hrest : (rest.map fun v => v.category).sum ≤ 8) (hk : cells + n ≤ R.cells ∧ 4096 * cells + 4096 * n ≤ R.slots) (k : ∀ (la : Nat) (H : Heap) (locs : List Loc), CH G (cw G la y.2) A H0 H locs → W p l e R s m args below meth c H locs (cells + n) (4096 * (cells + n)) Q (F0 m (pc + 3) ls (.int y.1 :: rest))) : W p l e R s m args below meth c H locs cells (4096 * cells) Q (F0 m pc ls (.int x3 :: .int x2 :: .int x1 :: .ref (gq G 0) :: rest)) :=
  fin_i (n := n) (runV (As := [.int x1, .int x2, .int x3]) X.1 3 (t_X9_mix l G la w x1 x2 x3 y.1 y.2 n hf _) rfl rfl hlk m_X9_mix (by decide +kernel) ⟨hR.1, hR.2⟩ ⟨blindM, va_recv X.2.1 h.1 (ci := 8) (q0 := 0) rfl rfl, preM X.2 h⟩ rfl hsz hrest hd hk) h hA (fun la H locs h => by rw [← Nat.mul_add]; exact k la H locs h)
