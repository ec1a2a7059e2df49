def f_X1_makeRoom_b97 (w : CW) : Option (CW × Nat) :=
 if (w.1 1 4) ≤ ((Int32.ofNat w.2) / ((2 : Int32))) then
 (some (w, 0))
 else
 (if ((1048576 : Int32)) ≤ (Int32.ofNat w.2) then
 (some (w, 0))
 else
 (bnc (f_grow ((Int32.ofNat w.2) * ((2 : Int32))) w) fun y3 =>
 some (y3, 0)))
def f_X1_makeRoom_l45_body (kself : (Int32 → CW → Option (CW × Nat))) (x1 : Int32) (w : CW) : Option (CW × Nat) :=
 if ((301 : Int32)) ≤ x1 then
 (f_X1_makeRoom_b97 (cs (cs w 1 4 ((w.1 1 4) - (w.1 1 3))) 1 3 ((0 : Int32))))
 else
 (chk (inb x1 301) (
 chk (inb x1 301) (
 (some (cs w 12 x1.toNatClampNeg (if ((0 : Int32)) < ((w.1 12 x1.toNatClampNeg) - (w.1 1 3)) then ((w.1 12 x1.toNatClampNeg) - (w.1 1 3)) else ((0 : Int32))))).bind fun w7 =>
 kself (x1 + (1 : Int32)) w7)))
def f_X1_makeRoom_l45 : Nat → Int32 → CW → Option (CW × Nat)
  | 0, _, _ => none
  | n + 1, x1, w => f_X1_makeRoom_l45_body (f_X1_makeRoom_l45 n) x1 w
def f_X1_makeRoom (w : CW) : Option (CW × Nat) :=
 if (w.1 1 3) ≤ 0 then
 (f_X1_makeRoom_b97 w)
 else
 (if (w.1 1 4) < (w.1 1 3) then
 (f_X1_makeRoom_b97 w)
 else
 (chk (cpok (w.1 1 3) ((0 : Int32)) ((w.1 1 4) - (w.1 1 3)) w.2 w.2) (
 (some (ca w 13 (va_cpy (w.1 13) (w.1 13) (w.1 1 3).toNatClampNeg ((0 : Int32)).toNatClampNeg ((w.1 1 4) - (w.1 1 3)).toNatClampNeg))).bind fun w11 =>
 f_X1_makeRoom_l45 FU ((0 : Int32)) w11)))
set_option maxHeartbeats 4000000 in
set_option maxRecDepth 100000 in
theorem t_X1_makeRoom (l : Launch) (G : Gm) (la0 : Nat) (w0 : CW) (w' : CW) (N : Nat) (hf : f_X1_makeRoom w0 = some (w', N)) : MetV l yX1_makeRoom cX1_makeRoom 2 2 70 G (cw G la0 w0) [.ref (gq G 1)] (fun u => cw G u w') N := by
  intro sz
  refine ent (own := RX1) (As := [.ref (gq G 1)]) (by decide +kernel) rfl (Nat.le_of_ble_eq_true rfl) (fun _ _ h => h.1) ?_
  intro p e s m args below meth c ls B hr hlocks hv hl
  obtain ⟨-, hsz, hP, hKK, hD⟩ := hv
  subst hsz
  have X : CX RX1 cX1_makeRoom 2 G p s m args c := ⟨B, hKK⟩
  obtain ⟨hx, hb, hml, hown, hts⟩ := id B
  have hA : ∀ q : Nat, s.heap.size ≤ q → va_A (cw G la0 w0) s.heap.size q := fun q z => Or.inr z
  have h : CH G (cw G la0 w0) (va_A (cw G la0 w0) s.heap.size) s.heap s.heap [] := ⟨hP, hD.self, va_S.rf⟩
  have hc : 0 + N = N := Nat.zero_add N
  have J97 : ∀ (w : CW) (la : Nat) (H : Heap) (locs : List Loc) (ls : Array Slot) (k n : Nat), f_X1_makeRoom_b97 w = some (w', n) → CH G (cw G la w) (va_A (cw G la0 w0) s.heap.size) s.heap H locs → lv_has ls 2 [(0, .ref (gq G 1))] → k + n = N → W p l e { frames := 2, cells := N, slots := 4096 * N, locals := 70 } s m args below meth c H locs k (4096 * k) (MQ below (QV G (cw G la0 w0) s.heap.size (fun u => cw G u w')) args s N (4096 * N) (va_A (cw G la0 w0) s.heap.size)) (F0 m 97 ls []) := by
    intro w la H locs ls k n hf h hl hc
    unfold f_X1_makeRoom_b97 at hf
    refine lv_aload_n hx hb dX1_makeRoom_97 rfl (lv_at hl 0 rfl) ?_
    refine GC_1_4 X h k_X1_25 dX1_makeRoom_98 ?_
    refine lv_aload_n hx hb dX1_makeRoom_101 rfl (lv_at hl 0 rfl) ?_
    refine GC_1_2 X h k_X1_18 dX1_makeRoom_102 ?_
    refine NC_13 X h dX1_makeRoom_105 ?_
    refine lv_iconst (v := 2) hx hb dX1_makeRoom_106 (by decide) ?_
    refine lv_idiv hx hb dX1_makeRoom_107 (by decide) ?_
    refine lv_icmp_le (tgt := 139) hx hb dX1_makeRoom_108 (by decide) (fun c1 => ?_) (fun c1 => ?_)
    · have hf := if_t c1 hf
      exact e1_v X.1 hr hlocks hf h hc dX1_makeRoom_139
    · have hf := if_f c1 hf
      refine lv_aload_n hx hb dX1_makeRoom_111 rfl (lv_at hl 0 rfl) ?_
      refine GC_1_2 X h k_X1_18 dX1_makeRoom_112 ?_
      refine NC_13 X h dX1_makeRoom_115 ?_
      refine lv_ldc (v := 1048576) hx hb hown (hts _ k_X1_64) dX1_makeRoom_116 ?_
      refine lv_icmp_ge (tgt := 139) hx hb dX1_makeRoom_118 (by decide) (fun c2 => ?_) (fun c2 => ?_)
      · have hf := if_t c2 hf
        exact e1_v X.1 hr hlocks hf h hc dX1_makeRoom_139
      · have hf := if_f c2 hf
        refine lv_aload_n hx hb dX1_makeRoom_121 rfl (lv_at hl 0 rfl) ?_
        refine lv_aload_n hx hb dX1_makeRoom_122 rfl (lv_at hl 0 rfl) ?_
        refine GC_1_2 X h k_X1_18 dX1_makeRoom_123 ?_
        refine lv_aload_n hx hb dX1_makeRoom_126 rfl (lv_at hl 0 rfl) ?_
        refine GC_1_2 X h k_X1_18 dX1_makeRoom_127 ?_
        refine NC_13 X h dX1_makeRoom_130 ?_
        refine lv_iconst (v := 2) hx hb dX1_makeRoom_131 (by decide) ?_
        refine lv_imul hx hb dX1_makeRoom_132 ?_
        obtain ⟨y3, ny3, my3, ey3, hf, jy3⟩ := bnc_some hf
        refine k_grow X h hA ey3 k_X1_65 dX1_makeRoom_133 k_X1_18 dX1_makeRoom_136 hl.1 ⟨(Nat.le_of_ble_eq_true rfl), (Nat.le_of_ble_eq_true rfl)⟩ (Nat.le_of_ble_eq_true rfl) (rmm1 hc jy3) (fun la H locs h => ?_)
        have hc := rmm2 hc jy3
        exact e1_v X.1 hr hlocks hf h hc dX1_makeRoom_139
  have L45 : ∀ (n45 : Nat) (x1 : Int32) (w : CW) (la : Nat) (H : Heap) (locs : List Loc) (ls : Array Slot) (k n : Nat), f_X1_makeRoom_l45 n45 x1 w = some (w', n) → CH G (cw G la w) (va_A (cw G la0 w0) s.heap.size) s.heap H locs → lv_has ls 2 [(0, .ref (gq G 1)), (1, .int x1)] → k + n = N → W p l e { frames := 2, cells := N, slots := 4096 * N, locals := 70 } s m args below meth c H locs k (4096 * k) (MQ below (QV G (cw G la0 w0) s.heap.size (fun u => cw G u w')) args s N (4096 * N) (va_A (cw G la0 w0) s.heap.size)) (F0 m 45 ls []) := by
    intro n45
    induction n45 with
    | zero =>
      intro x1 w la H locs ls k n hf h hl hc
      cases (show (none : Option (CW × Nat)) = some _ from hf)
    | succ n45 ih45 =>
      intro x1 w la H locs ls k n hf h hl hc
      have hf : f_X1_makeRoom_l45_body (f_X1_makeRoom_l45 n45) x1 w = _ := hf
      unfold f_X1_makeRoom_l45_body at hf
      refine lv_iload_n hx hb dX1_makeRoom_45 rfl (lv_at hl 1 rfl) ?_
      refine lv_sipush (v := 301) hx hb dX1_makeRoom_46 (by decide) ?_
      refine lv_icmp_ge (tgt := 79) hx hb dX1_makeRoom_49 (by decide) (fun c4 => ?_) (fun c4 => ?_)
      · have hf := if_t c4 hf
        refine lv_aload_n hx hb dX1_makeRoom_79 rfl (lv_at hl 0 rfl) ?_
        refine lv_dup hx hb dX1_makeRoom_80 rfl ?_
        refine GC_1_4 X h k_X1_25 dX1_makeRoom_81 ?_
        refine lv_aload_n hx hb dX1_makeRoom_84 rfl (lv_at hl 0 rfl) ?_
        refine GC_1_3 X h k_X1_21 dX1_makeRoom_85 ?_
        refine lv_isub hx hb dX1_makeRoom_88 ?_
        refine PC_1_4 X h k_X1_25 dX1_makeRoom_89 (fun H locs h => ?_)
        refine lv_aload_n hx hb dX1_makeRoom_92 rfl (lv_at hl 0 rfl) ?_
        refine lv_iconst (v := 0) hx hb dX1_makeRoom_93 (by decide) ?_
        refine PC_1_3 X h k_X1_21 dX1_makeRoom_94 (fun H locs h => ?_)
        exact J97 _ _ _ _ _ _ _ hf h (lv_sub hl [0] rfl) hc
      · have hf := if_f c4 hf
        refine lv_aload_n hx hb dX1_makeRoom_52 rfl (lv_at hl 0 rfl) ?_
        refine GC_1_1 X h k_X1_15 dX1_makeRoom_53 ?_
        refine lv_iload_n hx hb dX1_makeRoom_56 rfl (lv_at hl 1 rfl) ?_
        refine lv_iconst (v := 0) hx hb dX1_makeRoom_57 (by decide) ?_
        refine lv_aload_n hx hb dX1_makeRoom_58 rfl (lv_at hl 0 rfl) ?_
        refine GC_1_1 X h k_X1_15 dX1_makeRoom_59 ?_
        refine lv_iload_n hx hb dX1_makeRoom_62 rfl (lv_at hl 1 rfl) ?_
        obtain ⟨c5, hf⟩ := chk_some hf
        refine LC_12 X h c5 dX1_makeRoom_63 ?_
        refine lv_aload_n hx hb dX1_makeRoom_64 rfl (lv_at hl 0 rfl) ?_
        refine GC_1_3 X h k_X1_21 dX1_makeRoom_65 ?_
        refine lv_isub hx hb dX1_makeRoom_68 ?_
        refine m_max X.1 hl.1 k_X1_45 mx_w ⟨(Nat.le_of_ble_eq_true rfl), (Nat.le_of_ble_eq_true rfl)⟩ (rmm0 hc) dX1_makeRoom_69 ?_
        obtain ⟨c6, hf⟩ := chk_some hf
        refine SC_12 X h c6 dX1_makeRoom_72 (fun H locs h => ?_)
        obtain ⟨w7, ew7, hf⟩ := bnd_some hf
        have h := (Option.some.inj ew7) ▸ h
        refine lv_iinc (v := x1 + (1 : Int32)) (lv' := [(1, .int (x1 + (1 : Int32))), (0, .ref (gq G 1))]) hx hb dX1_makeRoom_73 hl (k := 1) rfl (by rfl) (by decide) rfl (fun ls hl => ?_)
        refine lv_goto (tgt := 45) hx hb dX1_makeRoom_76 (by decide) ?_
        exact ih45 _ _ _ _ _ _ _ _ hf h (lv_sub hl [1, 0] rfl) hc
  obtain ⟨la, rfl⟩ : ∃ z, z = la0 := ⟨_, rfl⟩
  obtain ⟨w, rfl⟩ : ∃ z, z = w0 := ⟨_, rfl⟩
  have hl : lv_has ls 2 [(0, .ref (gq G 1))] := hl
  unfold f_X1_makeRoom at hf
  refine wid0 ?_
  refine lv_aload_n hx hb dX1_makeRoom_0 rfl (lv_at hl 0 rfl) ?_
  refine GC_1_3 X h k_X1_21 dX1_makeRoom_1 ?_
  refine lv_if_le (tgt := 97) hx hb dX1_makeRoom_4 (by decide) (fun c8 => ?_) (fun c8 => ?_)
  · have hf := if_t c8 hf
    exact J97 _ _ _ _ _ _ _ hf h (lv_sub hl [0] rfl) hc
  · have hf := if_f c8 hf
    refine lv_aload_n hx hb dX1_makeRoom_7 rfl (lv_at hl 0 rfl) ?_
    refine GC_1_3 X h k_X1_21 dX1_makeRoom_8 ?_
    refine lv_aload_n hx hb dX1_makeRoom_11 rfl (lv_at hl 0 rfl) ?_
    refine GC_1_4 X h k_X1_25 dX1_makeRoom_12 ?_
    refine lv_icmp_gt (tgt := 97) hx hb dX1_makeRoom_15 (by decide) (fun c9 => ?_) (fun c9 => ?_)
    · have hf := if_t c9 hf
      exact J97 _ _ _ _ _ _ _ hf h (lv_sub hl [0] rfl) hc
    · have hf := if_f c9 hf
      refine lv_aload_n hx hb dX1_makeRoom_18 rfl (lv_at hl 0 rfl) ?_
      refine GC_1_2 X h k_X1_18 dX1_makeRoom_19 ?_
      refine lv_aload_n hx hb dX1_makeRoom_22 rfl (lv_at hl 0 rfl) ?_
      refine GC_1_3 X h k_X1_21 dX1_makeRoom_23 ?_
      refine lv_aload_n hx hb dX1_makeRoom_26 rfl (lv_at hl 0 rfl) ?_
      refine GC_1_2 X h k_X1_18 dX1_makeRoom_27 ?_
      refine lv_iconst (v := 0) hx hb dX1_makeRoom_30 (by decide) ?_
      refine lv_aload_n hx hb dX1_makeRoom_31 rfl (lv_at hl 0 rfl) ?_
      refine GC_1_4 X h k_X1_25 dX1_makeRoom_32 ?_
      refine lv_aload_n hx hb dX1_makeRoom_35 rfl (lv_at hl 0 rfl) ?_
      refine GC_1_3 X h k_X1_21 dX1_makeRoom_36 ?_
      refine lv_isub hx hb dX1_makeRoom_39 ?_
      obtain ⟨c10, hf⟩ := chk_some hf
      refine CP_log X h c10 k_X1_58 dX1_makeRoom_40 hl.1 ⟨(Nat.le_of_ble_eq_true rfl), (Nat.le_of_ble_eq_true rfl)⟩ (fun H locs h => ?_)
      obtain ⟨w11, ew11, hf⟩ := bnd_some hf
      have h := (Option.some.inj ew11) ▸ h
      refine lv_iconst (v := 0) hx hb dX1_makeRoom_43 (by decide) ?_
      refine lv_istore_n (lv' := [(1, .int ((0 : Int32))), (0, .ref (gq G 1))]) hx hb dX1_makeRoom_44 rfl hl (by decide) rfl (fun ls hl => ?_)
      exact L45 FU _ _ _ _ _ _ _ _ hf h (lv_sub hl [1, 0] rfl) hc
theorem m_X1_makeRoom : Cond.instanceMethod yX1_makeRoom ∈ lw_good ∧ Cond.selects RX1 yX1_makeRoom yX1_makeRoom ∈ lw_good ∧ Cond.initialized RX1 ∈ lw_good ∧ Cond.code yX1_makeRoom cX1_makeRoom 2 none ∈ lw_good := by decide +kernel
theorem k_X1_makeRoom {p : Program} {l : Launch} {e : Env} {R : Room} {s : State} {m : MethodId} {args : Array Value} {below : List Frame} {meth : Method} {c : Code} {H : Heap} {locs : List Loc} {cells : Nat} {Q : State → Prop} {cc : ByteArray} {nL pc idx : Nat} {ls : Array Slot} {rest : List Value} {own : String} {G : Gm} {A : Nat → Prop} {H0 : Heap} {la : Nat} {w : CW} {w' : CW} {n : Nat} (X : CX own cc nL G p s m args c) (h : CH G (cw G la w) A H0 H locs) (hA : ∀ q, H0.size ≤ q → A q) (hf : f_X1_makeRoom w = some (w', n)) (hlk : Cond.methodLink own idx yX1_makeRoom ∈ lw_good) (hd : decode cc pc = .ok (.invokevirtual idx, 3)) (hsz : ls.size = nL) (hR : 3 ≤ R.frames ∧ 91 ≤ R.locals) (hrest : (rest.map fun v => v.category).sum ≤ 8) (hk : cells + n ≤ R.cells ∧ 4096 * cells + 4096 * n ≤ R.slots) (k : ∀ (la : Nat) (H : Heap) (locs : List Loc), CH G (cw G la (w')) A H0 H locs → W p l e R s m args below meth c H locs (cells + n) (4096 * (cells + n)) Q (F0 m (pc + 3) ls (rest))) : W p l e R s m args below meth c H locs cells (4096 * cells) Q (F0 m pc ls (.ref (gq G 1) :: rest)) :=
  fin_v (n := n) (runV (As := []) X.1 0 (t_X1_makeRoom l G la w w' n hf _) rfl rfl hlk m_X1_makeRoom (by decide +kernel) ⟨hR.1, hR.2⟩ ⟨blindM, va_recv X.2.1 h.1 (ci := 1) (q0 := 1) rfl rfl, preM X.2 h⟩ rfl hsz hrest hd hk) h hA (fun la H locs h => by rw [← Nat.mul_add]; exact k la H locs h)
def f_X1_set_b93 (x1 : Int32) (x2 : Int32) (w : CW) : Option (CW × Nat) :=
 chk (inb x1 8556) (
 some (cs w 11 x1.toNatClampNeg x2, 0))
def f_X1_set_b42 (x1 : Int32) (x2 : Int32) (w : CW) : Option (CW × Nat) :=
 if ((Int32.ofNat w.2) - ((2 : Int32))) < (w.1 1 4) then
 (f_X1_set_b93 x1 x2 w)
 else
 (chk (inb (w.1 1 4) w.2) (
 chk (inb x1 8556) (
 chk (inb (((cs w 13 (w.1 1 4).toNatClampNeg x1).1 1 4) + ((1 : Int32))) (cs w 13 (w.1 1 4).toNatClampNeg x1).2) (
 (some (cs (cs w 13 (w.1 1 4).toNatClampNeg x1) 13 (((cs w 13 (w.1 1 4).toNatClampNeg x1).1 1 4) + ((1 : Int32))).toNatClampNeg ((cs w 13 (w.1 1 4).toNatClampNeg x1).1 11 x1.toNatClampNeg))).bind fun w6 =>
 f_X1_set_b93 x1 x2 (cs w6 1 4 ((w6.1 1 4) + ((2 : Int32))))))))
def f_X1_set (x1 : Int32) (x2 : Int32) (w : CW) : Option (CW × Nat) :=
 if x1 < 0 then
 (some (w, 0))
 else
 (if (Int32.ofNat 8556) ≤ x1 then
 (some (w, 0))
 else
 (chk (inb x1 8556) (
 if (w.1 11 x1.toNatClampNeg) = x2 then
 (some (w, 0))
 else
 (if (w.1 1 4) ≤ ((Int32.ofNat w.2) - ((2 : Int32))) then
 (f_X1_set_b42 x1 x2 w)
 else
 (bnc (f_X1_makeRoom w) fun y12 =>
 f_X1_set_b42 x1 x2 y12)))))
set_option maxHeartbeats 4000000 in
set_option maxRecDepth 100000 in
theorem t_X1_set (l : Launch) (G : Gm) (la0 : Nat) (w0 : CW) (x1 : Int32) (x2 : Int32) (w' : CW) (N : Nat) (hf : f_X1_set x1 x2 w0 = some (w', N)) : MetV l yX1_set cX1_set 3 3 91 G (cw G la0 w0) [.ref (gq G 1), .int x1, .int x2] (fun u => cw G u w') N := by
  intro sz
  refine ent (own := RX1) (As := [.ref (gq G 1), .int x1, .int x2]) (by decide +kernel) rfl (Nat.le_of_ble_eq_true rfl) (fun _ _ h => h.1) ?_
  intro p e s m args below meth c ls B hr hlocks hv hl
  obtain ⟨-, hsz, hP, hKK, hD⟩ := hv
  subst hsz
  have X : CX RX1 cX1_set 3 G p s m args c := ⟨B, hKK⟩
  obtain ⟨hx, hb, hml, hown, hts⟩ := id B
  have hA : ∀ q : Nat, s.heap.size ≤ q → va_A (cw G la0 w0) s.heap.size q := fun q z => Or.inr z
  have h : CH G (cw G la0 w0) (va_A (cw G la0 w0) s.heap.size) s.heap s.heap [] := ⟨hP, hD.self, va_S.rf⟩
  have hc : 0 + N = N := Nat.zero_add N
  have J93 : ∀ (x1 : Int32) (x2 : Int32) (w : CW) (la : Nat) (H : Heap) (locs : List Loc) (ls : Array Slot) (k n : Nat), f_X1_set_b93 x1 x2 w = some (w', n) → CH G (cw G la w) (va_A (cw G la0 w0) s.heap.size) s.heap H locs → lv_has ls 3 [(0, .ref (gq G 1)), (1, .int x1), (2, .int x2)] → k + n = N → W p l e { frames := 3, cells := N, slots := 4096 * N, locals := 91 } s m args below meth c H locs k (4096 * k) (MQ below (QV G (cw G la0 w0) s.heap.size (fun u => cw G u w')) args s N (4096 * N) (va_A (cw G la0 w0) s.heap.size)) (F0 m 93 ls []) := by
    intro x1 x2 w la H locs ls k n hf h hl hc
    unfold f_X1_set_b93 at hf
    refine lv_aload_n hx hb dX1_set_93 rfl (lv_at hl 0 rfl) ?_
    refine GC_1_0 X h k_X1_9 dX1_set_94 ?_
    refine lv_iload_n hx hb dX1_set_97 rfl (lv_at hl 1 rfl) ?_
    refine lv_iload_n hx hb dX1_set_98 rfl (lv_at hl 2 rfl) ?_
    obtain ⟨c1, hf⟩ := chk_some hf
    refine SC_11 X h c1 dX1_set_99 (fun H locs h => ?_)
    exact e1_v X.1 hr hlocks hf h hc dX1_set_100
  have J42 : ∀ (x1 : Int32) (x2 : Int32) (w : CW) (la : Nat) (H : Heap) (locs : List Loc) (ls : Array Slot) (k n : Nat), f_X1_set_b42 x1 x2 w = some (w', n) → CH G (cw G la w) (va_A (cw G la0 w0) s.heap.size) s.heap H locs → lv_has ls 3 [(0, .ref (gq G 1)), (1, .int x1), (2, .int x2)] → k + n = N → W p l e { frames := 3, cells := N, slots := 4096 * N, locals := 91 } s m args below meth c H locs k (4096 * k) (MQ below (QV G (cw G la0 w0) s.heap.size (fun u => cw G u w')) args s N (4096 * N) (va_A (cw G la0 w0) s.heap.size)) (F0 m 42 ls []) := by
    intro x1 x2 w la H locs ls k n hf h hl hc
    unfold f_X1_set_b42 at hf
    refine lv_aload_n hx hb dX1_set_42 rfl (lv_at hl 0 rfl) ?_
    refine GC_1_4 X h k_X1_25 dX1_set_43 ?_
    refine lv_aload_n hx hb dX1_set_46 rfl (lv_at hl 0 rfl) ?_
    refine GC_1_2 X h k_X1_18 dX1_set_47 ?_
    refine NC_13 X h dX1_set_50 ?_
    refine lv_iconst (v := 2) hx hb dX1_set_51 (by decide) ?_
    refine lv_isub hx hb dX1_set_52 ?_
    refine lv_icmp_gt (tgt := 93) hx hb dX1_set_53 (by decide) (fun c2 => ?_) (fun c2 => ?_)
    · have hf := if_t c2 hf
      exact J93 _ _ _ _ _ _ _ _ _ hf h (lv_sub hl [0, 1, 2] rfl) hc
    · have hf := if_f c2 hf
      refine lv_aload_n hx hb dX1_set_56 rfl (lv_at hl 0 rfl) ?_
      refine GC_1_2 X h k_X1_18 dX1_set_57 ?_
      refine lv_aload_n hx hb dX1_set_60 rfl (lv_at hl 0 rfl) ?_
      refine GC_1_4 X h k_X1_25 dX1_set_61 ?_
      refine lv_iload_n hx hb dX1_set_64 rfl (lv_at hl 1 rfl) ?_
      obtain ⟨c3, hf⟩ := chk_some hf
      refine SC_13 X h c3 dX1_set_65 (fun H locs h => ?_)
      refine lv_aload_n hx hb dX1_set_66 rfl (lv_at hl 0 rfl) ?_
      refine GC_1_2 X h k_X1_18 dX1_set_67 ?_
      refine lv_aload_n hx hb dX1_set_70 rfl (lv_at hl 0 rfl) ?_
      refine GC_1_4 X h k_X1_25 dX1_set_71 ?_
      refine lv_iconst (v := 1) hx hb dX1_set_74 (by decide) ?_
      refine lv_iadd hx hb dX1_set_75 ?_
      refine lv_aload_n hx hb dX1_set_76 rfl (lv_at hl 0 rfl) ?_
      refine GC_1_0 X h k_X1_9 dX1_set_77 ?_
      refine lv_iload_n hx hb dX1_set_80 rfl (lv_at hl 1 rfl) ?_
      obtain ⟨c4, hf⟩ := chk_some hf
      refine LC_11 X h c4 dX1_set_81 ?_
      obtain ⟨c5, hf⟩ := chk_some hf
      refine SC_13 X h c5 dX1_set_82 (fun H locs h => ?_)
      obtain ⟨w6, ew6, hf⟩ := bnd_some hf
      have h := (Option.some.inj ew6) ▸ h
      refine lv_aload_n hx hb dX1_set_83 rfl (lv_at hl 0 rfl) ?_
      refine lv_dup hx hb dX1_set_84 rfl ?_
      refine GC_1_4 X h k_X1_25 dX1_set_85 ?_
      refine lv_iconst (v := 2) hx hb dX1_set_88 (by decide) ?_
      refine lv_iadd hx hb dX1_set_89 ?_
      refine PC_1_4 X h k_X1_25 dX1_set_90 (fun H locs h => ?_)
      exact J93 _ _ _ _ _ _ _ _ _ hf h (lv_sub hl [0, 1, 2] rfl) hc
  obtain ⟨la, rfl⟩ : ∃ z, z = la0 := ⟨_, rfl⟩
  obtain ⟨w, rfl⟩ : ∃ z, z = w0 := ⟨_, rfl⟩
  have hl : lv_has ls 3 [(0, .ref (gq G 1)), (1, .int x1), (2, .int x2)] := hl
  unfold f_X1_set at hf
  refine wid0 ?_
  refine lv_iload_n hx hb dX1_set_0 rfl (lv_at hl 1 rfl) ?_
  refine lv_if_lt (tgt := 23) hx hb dX1_set_1 (by decide) (fun c7 => ?_) (fun c7 => ?_)
  · have hf := if_t c7 hf
    exact e1_v X.1 hr hlocks hf h hc dX1_set_23
  · have hf := if_f c7 hf
    refine lv_iload_n hx hb dX1_set_4 rfl (lv_at hl 1 rfl) ?_
    refine lv_aload_n hx hb dX1_set_5 rfl (lv_at hl 0 rfl) ?_
    refine GC_1_0 X h k_X1_9 dX1_set_6 ?_
    refine NC_11 X h dX1_set_9 ?_
    refine lv_icmp_ge (tgt := 23) hx hb dX1_set_10 (by decide) (fun c8 => ?_) (fun c8 => ?_)
    · have hf := if_t c8 hf
      exact e1_v X.1 hr hlocks hf h hc dX1_set_23
    · have hf := if_f c8 hf
      refine lv_aload_n hx hb dX1_set_13 rfl (lv_at hl 0 rfl) ?_
      refine GC_1_0 X h k_X1_9 dX1_set_14 ?_
      refine lv_iload_n hx hb dX1_set_17 rfl (lv_at hl 1 rfl) ?_
      obtain ⟨c9, hf⟩ := chk_some hf
      refine LC_11 X h c9 dX1_set_18 ?_
      refine lv_iload_n hx hb dX1_set_19 rfl (lv_at hl 2 rfl) ?_
      refine lv_icmp_ne (tgt := 24) hx hb dX1_set_20 (by decide) (fun c10 => ?_) (fun c10 => ?_)
      · have hf := if_f c10 hf
        refine lv_aload_n hx hb dX1_set_24 rfl (lv_at hl 0 rfl) ?_
        refine GC_1_4 X h k_X1_25 dX1_set_25 ?_
        refine lv_aload_n hx hb dX1_set_28 rfl (lv_at hl 0 rfl) ?_
        refine GC_1_2 X h k_X1_18 dX1_set_29 ?_
        refine NC_13 X h dX1_set_32 ?_
        refine lv_iconst (v := 2) hx hb dX1_set_33 (by decide) ?_
        refine lv_isub hx hb dX1_set_34 ?_
        refine lv_icmp_le (tgt := 42) hx hb dX1_set_35 (by decide) (fun c11 => ?_) (fun c11 => ?_)
        · have hf := if_t c11 hf
          exact J42 _ _ _ _ _ _ _ _ _ hf h (lv_sub hl [0, 1, 2] rfl) hc
        · have hf := if_f c11 hf
          refine lv_aload_n hx hb dX1_set_38 rfl (lv_at hl 0 rfl) ?_
          obtain ⟨y12, ny12, my12, ey12, hf, jy12⟩ := bnc_some hf
          refine k_X1_makeRoom X h hA ey12 k_X1_34 dX1_set_39 hl.1 ⟨(Nat.le_of_ble_eq_true rfl), (Nat.le_of_ble_eq_true rfl)⟩ (Nat.le_of_ble_eq_true rfl) (rmm1 hc jy12) (fun la H locs h => ?_)
          have hc := rmm2 hc jy12
          exact J42 _ _ _ _ _ _ _ _ _ hf h (lv_sub hl [0, 1, 2] rfl) hc
      · have hf := if_t c10 hf
        exact e1_v X.1 hr hlocks hf h hc dX1_set_23
theorem m_X1_set : Cond.instanceMethod yX1_set ∈ lw_good ∧ Cond.selects RX1 yX1_set yX1_set ∈ lw_good ∧ Cond.initialized RX1 ∈ lw_good ∧ Cond.code yX1_set cX1_set 3 none ∈ lw_good := by decide +kernel
theorem k_X1_set {p : Program} {l : Launch} {e : Env} {R : Room} {s : State} {m : MethodId} {args : Array Value} {below : List Frame} {meth : Method} {c : Code} {H : Heap} {locs : List Loc} {cells : Nat} {Q : State → Prop} {cc : ByteArray} {nL pc idx : Nat} {ls : Array Slot} {rest : List Value} {own : String} {G : Gm} {A : Nat → Prop} {H0 : Heap} {la : Nat} {w : CW} {x1 : Int32} {x2 : Int32} {w' : CW} {n : Nat} (X : CX own cc nL G p s m args c) (h : CH G (cw G la w) A H0 H locs) (hA : ∀ q, H0.size ≤ q → A q) (hf : f_X1_set x1 x2 w = some (w', n)) (hlk : Cond.methodLink own idx yX1_set ∈ lw_good) (hd : decode cc pc = .ok (.invokevirtual idx, 3)) (hsz : ls.size = nL) (hR : 4 ≤ R.frames ∧ 113 ≤ R.locals) (hrest : (rest.map fun v => v.category).sum ≤ 8) (hk : cells + n ≤ R.cells ∧ 4096 * cells + 4096 * n ≤ R.slots) (k : ∀ (la : Nat) (H : Heap) (locs : List Loc), CH G (cw G la (w')) A H0 H locs → W p l e R s m args below meth c H locs (cells + n) (4096 * (cells + n)) Q (F0 m (pc + 3) ls (rest))) : W p l e R s m args below meth c H locs cells (4096 * cells) Q (F0 m pc ls (.int x2 :: .int x1 :: .ref (gq G 1) :: rest)) :=
  fin_v (n := n) (runV (As := [.int x1, .int x2]) X.1 2 (t_X1_set l G la w x1 x2 w' n hf _) rfl rfl hlk m_X1_set (by decide +kernel) ⟨hR.1, hR.2⟩ ⟨blindM, va_recv X.2.1 h.1 (ci := 1) (q0 := 1) rfl rfl, preM X.2 h⟩ rfl hsz hrest hd hk) h hA (fun la H locs h => by rw [← Nat.mul_add]; exact k la H locs h)
def f_X9_within (x0 : Int32) (x1 : Int32) (x2 : Int32) : Option Int32 :=
 if x0 < x1 then
 (some ((0 : Int32)))
 else
 (if x2 < x0 then
 (some ((0 : Int32)))
 else
 (some ((1 : Int32))))
set_option maxHeartbeats 4000000 in
set_option maxRecDepth 100000 in
theorem t_X9_within (l : Launch) (x0 : Int32) (x1 : Int32) (x2 : Int32) (r : Int32) (hf : f_X9_within x0 x1 x2 = some r) : MetP l yX9_within cX9_within 3 (some .boolean) 0 0 [.int x0, .int x1, .int x2] (.int r) := by
  refine ent (own := RX9) (As := [.int x0, .int x1, .int x2]) (by decide +kernel) rfl (Nat.le_of_ble_eq_true rfl) (fun _ _ h => h.1) ?_
  intro p e s m args below meth c ls B hr hlocks hv hl
  obtain ⟨hx, hb, hml, hown, hts⟩ := id B
  have hl : lv_has ls 3 [(0, .int x0), (1, .int x1), (2, .int x2)] := hl
  unfold f_X9_within at hf
  refine lv_iload_n hx hb dX9_within_0 rfl (lv_at hl 0 rfl) ?_
  refine lv_iload_n hx hb dX9_within_1 rfl (lv_at hl 1 rfl) ?_
  refine lv_icmp_lt (tgt := 14) hx hb dX9_within_2 (by decide) (fun c1 => ?_) (fun c1 => ?_)
  · have hf := if_t c1 hf
    refine lv_iconst (v := 0) hx hb dX9_within_14 (by decide) ?_
    cases hf
    exact rr_z B hr hlocks (Or.inl rfl) dX9_within_15
  · have hf := if_f c1 hf
    refine lv_iload_n hx hb dX9_within_5 rfl (lv_at hl 0 rfl) ?_
    refine lv_iload_n hx hb dX9_within_6 rfl (lv_at hl 2 rfl) ?_
    refine lv_icmp_gt (tgt := 14) hx hb dX9_within_7 (by decide) (fun c2 => ?_) (fun c2 => ?_)
    · have hf := if_t c2 hf
      refine lv_iconst (v := 0) hx hb dX9_within_14 (by decide) ?_
      cases hf
      exact rr_z B hr hlocks (Or.inl rfl) dX9_within_15
    · have hf := if_f c2 hf
      refine lv_iconst (v := 1) hx hb dX9_within_10 (by decide) ?_
      refine lv_goto (tgt := 15) hx hb dX9_within_11 (by decide) ?_
      cases hf
      exact rr_z B hr hlocks (Or.inr rfl) dX9_within_15
theorem m_X9_within : Cond.static yX9_within ∈ lw_good ∧ Cond.initialized yX9_within.cls ∈ lw_good ∧ Cond.code yX9_within cX9_within 3 (some .boolean) ∈ lw_good := by decide +kernel
theorem k_X9_within {p : Program} {l : Launch} {e : Env} {R : Room} {s : State} {m : MethodId} {args : Array Value} {below : List Frame} {meth : Method} {c : Code} {H : Heap} {locs : List Loc} {cells slots : Nat} {Q : State → Prop} {cc : ByteArray} {nL pc idx : Nat} {ls : Array Slot} {rest : List Value} {own : String} {x0 : Int32} {x1 : Int32} {x2 : Int32} {r : Int32} (B : CB own cc nL p s m args c) (hf : f_X9_within x0 x1 x2 = some r) (hlk : Cond.methodLink own idx yX9_within ∈ lw_good) (hd : decode cc pc = .ok (.invokestatic idx, 3)) (hsz : ls.size = nL) (hR : 1 ≤ R.frames ∧ 22 ≤ R.locals) (hrest : (rest.map fun v => v.category).sum ≤ 8) (hk : cells ≤ R.cells ∧ slots ≤ R.slots) (k : W p l e R s m args below meth c H locs cells slots Q (F0 m (pc + 3) ls (.int r :: rest))) : W p l e R s m args below meth c H locs cells slots Q (F0 m pc ls (.int x2 :: .int x1 :: .int x0 :: rest)) :=
  fin_r (runS (As := [.int x0, .int x1, .int x2]) B 3 (t_X9_within l x0 x1 x2 r hf) rfl rfl hlk m_X9_within (by decide +kernel) ⟨hR.1, hR.2⟩ ⟨blindP, preP⟩ rfl hsz hrest hd hk) k
theorem kn_X9_within {p : Program} {l : Launch} {e : Env} {R : Room} {s : State} {m : MethodId} {args : Array Value} {below : List Frame} {meth : Method} {c : Code} {H : Heap} {locs : List Loc} {cells slots : Nat} {Q : State → Prop} {cc : ByteArray} {nL pc idx : Nat} {ls : Array Slot} {rest : List Value} {own : String} {x0 : Int32} {x1 : Int32} {x2 : Int32} {r : Int32} (B : CB own cc nL p s m args c) (hf : f_X9_within x0 x1 x2 = some r) (hlk : va_Nw (.methodLinkNest own idx yX9_within RX9) s) (hd : decode cc pc = .ok (.invokestatic idx, 3)) (hsz : ls.size = nL) (hR : 1 ≤ R.frames ∧ 22 ≤ R.locals) (hrest : (rest.map fun v => v.category).sum ≤ 8) (hk : cells ≤ R.cells ∧ slots ≤ R.slots) (k : W p l e R s m args below meth c H locs cells slots Q (F0 m (pc + 3) ls (.int r :: rest))) : W p l e R s m args below meth c H locs cells slots Q (F0 m pc ls (.int x2 :: .int x1 :: .int x0 :: rest)) :=
  fin_r (runSN (As := [.int x0, .int x1, .int x2]) B 3 (t_X9_within l x0 x1 x2 r hf) rfl rfl hlk m_X9_within (by decide +kernel) ⟨hR.1, hR.2⟩ ⟨blindP, preP⟩ rfl hsz hrest hd hk) k
def f_X9_isPlace (x0 : Int32) : Option Int32 :=
 (f_X9_within x0 ((0 : Int32)) ((59 : Int32))).bind fun y1 =>
 chk (y1 = 0 ∨ y1 = 1) (
 some y1)
set_option maxHeartbeats 4000000 in
set_option maxRecDepth 100000 in
theorem t_X9_isPlace (l : Launch) (x0 : Int32) (r : Int32) (hf : f_X9_isPlace x0 = some r) : MetP l yX9_isPlace cX9_isPlace 1 (some .boolean) 1 22 [.int x0] (.int r) := by
  refine ent (own := RX9) (As := [.int x0]) (by decide +kernel) rfl (Nat.le_of_ble_eq_true rfl) (fun _ _ h => h.1) ?_
  intro p e s m args below meth c ls B hr hlocks hv hl
  obtain ⟨hx, hb, hml, hown, hts⟩ := id B
  have hl : lv_has ls 1 [(0, .int x0)] := hl
  unfold f_X9_isPlace at hf
  refine lv_iload_n hx hb dX9_isPlace_0 rfl (lv_at hl 0 rfl) ?_
  refine lv_iconst (v := 0) hx hb dX9_isPlace_1 (by decide) ?_
  refine lv_bipush (v := 59) hx hb dX9_isPlace_2 (by decide) ?_
  obtain ⟨y1, ey1, hf⟩ := bnd_some hf
  refine k_X9_within B ey1 k_X9_92 dX9_isPlace_4 hl.1 ⟨(Nat.le_of_ble_eq_true rfl), (Nat.le_of_ble_eq_true rfl)⟩ (Nat.le_of_ble_eq_true rfl) ⟨Nat.zero_le _, Nat.zero_le _⟩ ?_
  obtain ⟨c2, hf⟩ := chk_some hf
  cases hf
  exact rr_z B hr hlocks c2 dX9_isPlace_7
theorem m_X9_isPlace : Cond.static yX9_isPlace ∈ lw_good ∧ Cond.initialized yX9_isPlace.cls ∈ lw_good ∧ Cond.code yX9_isPlace cX9_isPlace 1 (some .boolean) ∈ lw_good := by decide +kernel
theorem k_X9_isPlace {p : Program} {l : Launch} {e : Env} {R : Room} {s : State} {m : MethodId} {args : Array Value} {below : List Frame} {meth : Method} {c : Code} {H : Heap} {locs : List Loc} {cells slots : Nat} {Q : State → Prop} {cc : ByteArray} {nL pc idx : Nat} {ls : Array Slot} {rest : List Value} {own : String} {x0 : Int32} {r : Int32} (B : CB own cc nL p s m args c) (hf : f_X9_isPlace x0 = some r) (hlk : Cond.methodLink own idx yX9_isPlace ∈ lw_good) (hd : decode cc pc = .ok (.invokestatic idx, 3)) (hsz : ls.size = nL) (hR : 2 ≤ R.frames ∧ 42 ≤ R.locals) (hrest : (rest.map fun v => v.category).sum ≤ 8) (hk : cells ≤ R.cells ∧ slots ≤ R.slots) (k : W p l e R s m args below meth c H locs cells slots Q (F0 m (pc + 3) ls (.int r :: rest))) : W p l e R s m args below meth c H locs cells slots Q (F0 m pc ls (.int x0 :: rest)) :=
  fin_r (runS (As := [.int x0]) B 1 (t_X9_isPlace l x0 r hf) rfl rfl hlk m_X9_isPlace (by decide +kernel) ⟨hR.1, hR.2⟩ ⟨blindP, preP⟩ rfl hsz hrest hd hk) k
def f_X1_get (x1 : Int32) (w : CW) : Option Int32 :=
 if x1 < 0 then
 (some ((0 : Int32)))
 else
 (if x1 < (Int32.ofNat 8556) then
 (chk (inb x1 8556) (
 some (w.1 11 x1.toNatClampNeg)))
 else
 (some ((0 : Int32))))
set_option maxHeartbeats 4000000 in
set_option maxRecDepth 100000 in
theorem t_X1_get (l : Launch) (G : Gm) (la : Nat) (w : CW) (x1 : Int32) (r : Int32) (hf : f_X1_get x1 w = some r) : MetR l yX1_get cX1_get 2 (some .int) 0 0 G (cw G la w) [.ref (gq G 1), .int x1] (.int r) := by
  refine ent (own := RX1) (As := [.ref (gq G 1), .int x1]) (by decide +kernel) rfl (Nat.le_of_ble_eq_true rfl) (fun _ _ h => h.1) ?_
  intro p e s m args below meth c ls B hr hlocks hv hl
  obtain ⟨-, hP, hKK, hD⟩ := hv
  have X : CX RX1 cX1_get 2 G p s m args c := ⟨B, hKK⟩
  obtain ⟨hx, hb, hml, hown, hts⟩ := id B
  have h : CH G (cw G la w) (fun _ => True) s.heap s.heap [] := ⟨hP, hD, va_S.rf⟩
  have hl : lv_has ls 2 [(0, .ref (gq G 1)), (1, .int x1)] := hl
  unfold f_X1_get at hf
  refine lv_iload_n hx hb dX1_get_0 rfl (lv_at hl 1 rfl) ?_
  refine lv_if_lt (tgt := 13) hx hb dX1_get_1 (by decide) (fun c1 => ?_) (fun c1 => ?_)
  · have hf := if_t c1 hf
    refine lv_iconst (v := 0) hx hb dX1_get_13 (by decide) ?_
    refine lv_goto (tgt := 23) hx hb dX1_get_14 (by decide) ?_
    cases hf
    exact rr_i X.1 hr hlocks dX1_get_23
  · have hf := if_f c1 hf
    refine lv_iload_n hx hb dX1_get_4 rfl (lv_at hl 1 rfl) ?_
    refine lv_aload_n hx hb dX1_get_5 rfl (lv_at hl 0 rfl) ?_
    refine GC_1_0 X h k_X1_9 dX1_get_6 ?_
    refine NC_11 X h dX1_get_9 ?_
    refine lv_icmp_lt (tgt := 17) hx hb dX1_get_10 (by decide) (fun c2 => ?_) (fun c2 => ?_)
    · have hf := if_t c2 hf
      refine lv_aload_n hx hb dX1_get_17 rfl (lv_at hl 0 rfl) ?_
      refine GC_1_0 X h k_X1_9 dX1_get_18 ?_
      refine lv_iload_n hx hb dX1_get_21 rfl (lv_at hl 1 rfl) ?_
      obtain ⟨c3, hf⟩ := chk_some hf
      refine LC_11 X h c3 dX1_get_22 ?_
      cases hf
      exact rr_i X.1 hr hlocks dX1_get_23
    · have hf := if_f c2 hf
      refine lv_iconst (v := 0) hx hb dX1_get_13 (by decide) ?_
      refine lv_goto (tgt := 23) hx hb dX1_get_14 (by decide) ?_
      cases hf
      exact rr_i X.1 hr hlocks dX1_get_23
theorem m_X1_get : Cond.instanceMethod yX1_get ∈ lw_good ∧ Cond.selects RX1 yX1_get yX1_get ∈ lw_good ∧ Cond.initialized RX1 ∈ lw_good ∧ Cond.code yX1_get cX1_get 2 (some .int) ∈ lw_good := by decide +kernel
theorem k_X1_get {p : Program} {l : Launch} {e : Env} {R : Room} {s : State} {m : MethodId} {args : Array Value} {below : List Frame} {meth : Method} {c : Code} {H : Heap} {locs : List Loc} {cells slots : Nat} {Q : State → Prop} {cc : ByteArray} {nL pc idx : Nat} {ls : Array Slot} {rest : List Value} {own : String} {G : Gm} {A : Nat → Prop} {H0 : Heap} {la : Nat} {w : CW} {x1 : Int32} {r : Int32} (X : CX own cc nL G p s m args c) (h : CH G (cw G la w) A H0 H locs) (hf : f_X1_get x1 w = some r) (hlk : Cond.methodLink own idx yX1_get ∈ lw_good) (hd : decode cc pc = .ok (.invokevirtual idx, 3)) (hsz : ls.size = nL) (hR : 1 ≤ R.frames ∧ 21 ≤ R.locals) (hrest : (rest.map fun v => v.category).sum ≤ 8) (hk : cells ≤ R.cells ∧ slots ≤ R.slots) (k : W p l e R s m args below meth c H locs cells slots Q (F0 m (pc + 3) ls (.int r :: rest))) : W p l e R s m args below meth c H locs cells slots Q (F0 m pc ls (.int x1 :: .ref (gq G 1) :: rest)) :=
  fin_r (runV (As := [.int x1]) X.1 1 (t_X1_get l G la w x1 r hf) rfl rfl hlk m_X1_get (by decide +kernel) ⟨hR.1, hR.2⟩ ⟨blindR, va_recv X.2.1 h.1 (ci := 1) (q0 := 1) rfl rfl, preR X.2 h⟩ rfl hsz hrest hd hk) k
def f_X9_read (x1 : Int32) (x2 : Int32) (w : CW) : Option Int32 :=
 (f_X1_get ((x1 * ((78 : Int32))) + x2) w).bind fun y1 =>
 some y1
set_option maxHeartbeats 4000000 in
set_option maxRecDepth 100000 in
theorem t_X9_read (l : Launch) (G : Gm) (la : Nat) (w : CW) (x1 : Int32) (x2 : Int32) (r : Int32) (hf : f_X9_read x1 x2 w = some r) : MetR l yX9_read cX9_read 3 (some .int) 1 21 G (cw G la w) [.ref (gq G 0), .int x1, .int x2] (.int r) := by
  refine ent (own := RX9) (As := [.ref (gq G 0), .int x1, .int x2]) (by decide +kernel) rfl (Nat.le_of_ble_eq_true rfl) (fun _ _ h => h.1) ?_
  intro p e s m args below meth c ls B hr hlocks hv hl
  obtain ⟨-, hP, hKK, hD⟩ := hv
  have X : CX RX9 cX9_read 3 G p s m args c := ⟨B, hKK⟩
  obtain ⟨hx, hb, hml, hown, hts⟩ := id B
  have h : CH G (cw G la w) (fun _ => True) s.heap s.heap [] := ⟨hP, hD, va_S.rf⟩
  have hl : lv_has ls 3 [(0, .ref (gq G 0)), (1, .int x1), (2, .int x2)] := hl
  unfold f_X9_read at hf
  refine lv_aload_n hx hb dX9_read_0 rfl (lv_at hl 0 rfl) ?_
  refine GC_0_0 X h k_X9_12 dX9_read_1 ?_
  refine lv_iload_n hx hb dX9_read_4 rfl (lv_at hl 1 rfl) ?_
  refine lv_bipush (v := 78) hx hb dX9_read_5 (by decide) ?_
  refine lv_imul hx hb dX9_read_7 ?_
  refine lv_iload_n hx hb dX9_read_8 rfl (lv_at hl 2 rfl) ?_
  refine lv_iadd hx hb dX9_read_9 ?_
  obtain ⟨y1, ey1, hf⟩ := bnd_some hf
  refine k_X1_get X h ey1 k_X9_175 dX9_read_10 hl.1 ⟨(Nat.le_of_ble_eq_true rfl), (Nat.le_of_ble_eq_true rfl)⟩ (Nat.le_of_ble_eq_true rfl) ⟨Nat.zero_le _, Nat.zero_le _⟩ ?_
  cases hf
  exact rr_i X.1 hr hlocks dX9_read_13
theorem m_X9_read : Cond.instanceMethod yX9_read ∈ lw_good ∧ Cond.selects RX9 yX9_read yX9_read ∈ lw_good ∧ Cond.initialized RX9 ∈ lw_good ∧ Cond.code yX9_read cX9_read 3 (some .int) ∈ lw_good := by decide +kernel
theorem k_X9_read {p : Program} {l : Launch} {e : Env} {R : Room} {s : State} {m : MethodId} {args : Array Value} {below : List Frame} {meth : Method} {c : Code} {H : Heap} {locs : List Loc} {cells slots : Nat} {Q : State → Prop} {cc : ByteArray} {nL pc idx : Nat} {ls : Array Slot} {rest : List Value} {own : String} {G : Gm} {A : Nat → Prop} {H0 : Heap} {la : Nat} {w : CW} {x1 : Int32} {x2 : Int32} {r : Int32} (X : CX own cc nL G p s m args c) (h : CH G (cw G la w) A H0 H locs) (hf : f_X9_read x1 x2 w = some r) (hlk : Cond.methodLink own idx yX9_read ∈ lw_good) (hd : decode cc pc = .ok (.invokevirtual idx, 3)) (hsz : ls.size = nL) (hR : 2 ≤ R.frames ∧ 43 ≤ R.locals) (hrest : (rest.map fun v => v.category).sum ≤ 8) (hk : cells ≤ R.cells ∧ slots ≤ R.slots) (k : W p l e R s m args below meth c H locs cells slots Q (F0 m (pc + 3) ls (.int r :: rest))) : W p l e R s m args below meth c H locs cells slots Q (F0 m pc ls (.int x2 :: .int x1 :: .ref (gq G 0) :: rest)) :=
  fin_r (runV (As := [.int x1, .int x2]) X.1 2 (t_X9_read l G la w x1 x2 r hf) rfl rfl hlk m_X9_read (by decide +kernel) ⟨hR.1, hR.2⟩ ⟨blindR, va_recv X.2.1 h.1 (ci := 8) (q0 := 0) rfl rfl, preR X.2 h⟩ rfl hsz hrest hd hk) k
def f_X9_hasMachine (x1 : Int32) (w : CW) : Option Int32 :=
 (f_X9_read x1 ((0 : Int32)) w).bind fun y1 =>
 if y1 ≤ 0 then
 (some ((0 : Int32)))
 else
 (some ((1 : Int32)))
set_option maxHeartbeats 4000000 in
set_option maxRecDepth 100000 in
theorem t_X9_hasMachine (l : Launch) (G : Gm) (la : Nat) (w : CW) (x1 : Int32) (r : Int32) (hf : f_X9_hasMachine x1 w = some r) : MetR l yX9_hasMachine cX9_hasMachine 2 (some .boolean) 2 43 G (cw G la w) [.ref (gq G 0), .int x1] (.int r) := by
  refine ent (own := RX9) (As := [.ref (gq G 0), .int x1]) (by decide +kernel) rfl (Nat.le_of_ble_eq_true rfl) (fun _ _ h => h.1) ?_
  intro p e s m args below meth c ls B hr hlocks hv hl
  obtain ⟨-, hP, hKK, hD⟩ := hv
  have X : CX RX9 cX9_hasMachine 2 G p s m args c := ⟨B, hKK⟩
  obtain ⟨hx, hb, hml, hown, hts⟩ := id B
  have h : CH G (cw G la w) (fun _ => True) s.heap s.heap [] := ⟨hP, hD, va_S.rf⟩
  have hl : lv_has ls 2 [(0, .ref (gq G 0)), (1, .int x1)] := hl
  unfold f_X9_hasMachine at hf
  refine lv_aload_n hx hb dX9_hasMachine_0 rfl (lv_at hl 0 rfl) ?_
  refine lv_iload_n hx hb dX9_hasMachine_1 rfl (lv_at hl 1 rfl) ?_
  refine lv_iconst (v := 0) hx hb dX9_hasMachine_2 (by decide) ?_
  obtain ⟨y1, ey1, hf⟩ := bnd_some hf
  refine k_X9_read X h ey1 k_X9_110 dX9_hasMachine_3 hl.1 ⟨(Nat.le_of_ble_eq_true rfl), (Nat.le_of_ble_eq_true rfl)⟩ (Nat.le_of_ble_eq_true rfl) ⟨Nat.zero_le _, Nat.zero_le _⟩ ?_
  refine lv_if_le (tgt := 13) hx hb dX9_hasMachine_6 (by decide) (fun c2 => ?_) (fun c2 => ?_)
  · have hf := if_t c2 hf
    refine lv_iconst (v := 0) hx hb dX9_hasMachine_13 (by decide) ?_
    cases hf
    exact rr_z X.1 hr hlocks (Or.inl rfl) dX9_hasMachine_14
  · have hf := if_f c2 hf
    refine lv_iconst (v := 1) hx hb dX9_hasMachine_9 (by decide) ?_
    refine lv_goto (tgt := 14) hx hb dX9_hasMachine_10 (by decide) ?_
    cases hf
    exact rr_z X.1 hr hlocks (Or.inr rfl) dX9_hasMachine_14
theorem m_X9_hasMachine : Cond.instanceMethod yX9_hasMachine ∈ lw_good ∧ Cond.selects RX9 yX9_hasMachine yX9_hasMachine ∈ lw_good ∧ Cond.initialized RX9 ∈ lw_good ∧ Cond.code yX9_hasMachine cX9_hasMachine 2 (some .boolean) ∈ lw_good := by decide +kernel
theorem k_X9_hasMachine {p : Program} {l : Launch} {e : Env} {R : Room} {s : State} {m : MethodId} {args : Array Value} {below : List Frame} {meth : Method} {c : Code} {H : Heap} {locs : List Loc} {cells slots : Nat} {Q : State → Prop} {cc : ByteArray} {nL pc idx : Nat} {ls : Array Slot} {rest : List Value} {own : String} {G : Gm} {A : Nat → Prop} {H0 : Heap} {la : Nat} {w : CW} {x1 : Int32} {r : Int32} (X : CX own cc nL G p s m args c) (h : CH G (cw G la w) A H0 H locs) (hf : f_X9_hasMachine x1 w = some r) (hlk : Cond.methodLink own idx yX9_hasMachine ∈ lw_good) (hd : decode cc pc = .ok (.invokevirtual idx, 3)) (hsz : ls.size = nL) (hR : 3 ≤ R.frames ∧ 64 ≤ R.locals) (hrest : (rest.map fun v => v.category).sum ≤ 8) (hk : cells ≤ R.cells ∧ slots ≤ R.slots) (k : W p l e R s m args below meth c H locs cells slots Q (F0 m (pc + 3) ls (.int r :: rest))) : W p l e R s m args below meth c H locs cells slots Q (F0 m pc ls (.int x1 :: .ref (gq G 0) :: rest)) :=
  fin_r (runV (As := [.int x1]) X.1 1 (t_X9_hasMachine l G la w x1 r hf) rfl rfl hlk m_X9_hasMachine (by decide +kernel) ⟨hR.1, hR.2⟩ ⟨blindR, va_recv X.2.1 h.1 (ci := 8) (q0 := 0) rfl rfl, preR X.2 h⟩ rfl hsz hrest hd hk) k
def f_X9_write (x1 : Int32) (x2 : Int32) (x3 : Int32) (w : CW) : Option (CW × Nat) :=
 bnc (f_X1_set ((x1 * ((78 : Int32))) + x2) x3 w) fun y1 =>
 some (y1, 0)
set_option maxHeartbeats 4000000 in
set_option maxRecDepth 100000 in
theorem t_X9_write (l : Launch) (G : Gm) (la0 : Nat) (w0 : CW) (x1 : Int32) (x2 : Int32) (x3 : Int32) (w' : CW) (N : Nat) (hf : f_X9_write x1 x2 x3 w0 = some (w', N)) : MetV l yX9_write cX9_write 4 4 113 G (cw G la0 w0) [.ref (gq G 0), .int x1, .int x2, .int x3] (fun u => cw G u w') N := by
  intro sz
  refine ent (own := RX9) (As := [.ref (gq G 0), .int x1, .int x2, .int x3]) (by decide +kernel) rfl (Nat.le_of_ble_eq_true rfl) (fun _ _ h => h.1) ?_
  intro p e s m args below meth c ls B hr hlocks hv hl
  obtain ⟨-, hsz, hP, hKK, hD⟩ := hv
  subst hsz
  have X : CX RX9 cX9_write 4 G p s m args c := ⟨B, hKK⟩
  obtain ⟨hx, hb, hml, hown, hts⟩ := id B
  have hA : ∀ q : Nat, s.heap.size ≤ q → va_A (cw G la0 w0) s.heap.size q := fun q z => Or.inr z
  have h : CH G (cw G la0 w0) (va_A (cw G la0 w0) s.heap.size) s.heap s.heap [] := ⟨hP, hD.self, va_S.rf⟩
  have hc : 0 + N = N := Nat.zero_add N
  obtain ⟨la, rfl⟩ : ∃ z, z = la0 := ⟨_, rfl⟩
  obtain ⟨w, rfl⟩ : ∃ z, z = w0 := ⟨_, rfl⟩
  have hl : lv_has ls 4 [(0, .ref (gq G 0)), (1, .int x1), (2, .int x2), (3, .int x3)] := hl
  unfold f_X9_write at hf
  refine wid0 ?_
  refine lv_aload_n hx hb dX9_write_0 rfl (lv_at hl 0 rfl) ?_
  refine GC_0_0 X h k_X9_12 dX9_write_1 ?_
  refine lv_iload_n hx hb dX9_write_4 rfl (lv_at hl 1 rfl) ?_
  refine lv_bipush (v := 78) hx hb dX9_write_5 (by decide) ?_
  refine lv_imul hx hb dX9_write_7 ?_
  refine lv_iload_n hx hb dX9_write_8 rfl (lv_at hl 2 rfl) ?_
  refine lv_iadd hx hb dX9_write_9 ?_
  refine lv_iload_n hx hb dX9_write_10 rfl (lv_at hl 3 rfl) ?_
  obtain ⟨y1, ny1, my1, ey1, hf, jy1⟩ := bnc_some hf
  refine k_X1_set X h hA ey1 k_X9_84 dX9_write_11 hl.1 ⟨(Nat.le_of_ble_eq_true rfl), (Nat.le_of_ble_eq_true rfl)⟩ (Nat.le_of_ble_eq_true rfl) (rmm1 hc jy1) (fun la H locs h => ?_)
  have hc := rmm2 hc jy1
  exact e1_v X.1 hr hlocks hf h hc dX9_write_14
theorem m_X9_write : Cond.instanceMethod yX9_write ∈ lw_good ∧ Cond.selects RX9 yX9_write yX9_write ∈ lw_good ∧ Cond.initialized RX9 ∈ lw_good ∧ Cond.code yX9_write cX9_write 4 none ∈ lw_good := by decide +kernel
theorem k_X9_write {p : Program} {l : Launch} {e : Env} {R : Room} {s : State} {m : MethodId} {args : Array Value} {below : List Frame} {meth : Method} {c : Code} {H : Heap} {locs : List Loc} {cells : Nat} {Q : State → Prop} {cc : ByteArray} {nL pc idx : Nat} {ls : Array Slot} {rest : List Value} {own : String} {G : Gm} {A : Nat → Prop} {H0 : Heap} {la : Nat} {w : CW} {x1 : Int32} {x2 : Int32} {x3 : Int32} {w' : CW} {n : Nat} (X : CX own cc nL G p s m args c) (h : CH G (cw G la w) A H0 H locs) (hA : ∀ q, H0.size ≤ q → A q) (hf : f_X9_write x1 x2 x3 w = some (w', n)) (hlk : Cond.methodLink own idx yX9_write ∈ lw_good) (hd : decode cc pc = .ok (.invokevirtual idx, 3)) (hsz : ls.size = nL) (hR : 5 ≤ R.frames ∧ 136 ≤ R.locals) (hrest : (rest.map fun v => v.category).sum ≤ 8) (hk : cells + n ≤ R.cells ∧ 4096 * cells + 4096 * n ≤ R.slots) (k : ∀ (la : Nat) (H : Heap) (locs : List Loc), CH G (cw G la (w')) A H0 H locs → W p l e R s m args below meth c H locs (cells + n) (4096 * (cells + n)) Q (F0 m (pc + 3) ls (rest))) : W p l e R s m args below meth c H locs cells (4096 * cells) Q (F0 m pc ls (.int x3 :: .int x2 :: .int x1 :: .ref (gq G 0) :: rest)) :=
  fin_v (n := n) (runV (As := [.int x1, .int x2, .int x3]) X.1 3 (t_X9_write l G la w x1 x2 x3 w' n hf _) rfl rfl hlk m_X9_write (by decide +kernel) ⟨hR.1, hR.2⟩ ⟨blindM, va_recv X.2.1 h.1 (ci := 8) (q0 := 0) rfl rfl, preM X.2 h⟩ rfl hsz hrest hd hk) h hA (fun la H locs h => by rw [← Nat.mul_add]; exact k la H locs h)
def f_X9_machine_b125 (xs1 : Int32) (xs2 : Int32) (xs3 : Int32) (w : CW) : Option ((Int32 × CW) × Nat) :=
 bnc (f_X9_write xs1 xs2 xs3 w) fun y1 =>
 some (((1 : Int32), y1), 0)
def f_X9_machine_b124 (xs1 : Int32) (xs2 : Int32) (w : CW) : Option ((Int32 × CW) × Nat) :=
 f_X9_machine_b125 xs1 xs2 ((0 : Int32)) w
def f_X9_machine_b19 (x1 : Int32) (x2 : Int32) (x3 : Int32) (x4 : Int32) (xs0 : Int32) (w : CW) : Option ((Int32 × CW) × Nat) :=
 (f_X9_within x2 ((0 : Int32)) ((4 : Int32))).bind fun y2 =>
 if y2 = 0 then
 (some (((-2 : Int32), w), 0))
 else
 ((f_X9_within x3 xs0 ((20000 : Int32))).bind fun y4 =>
 if y4 = 0 then
 (some (((-2 : Int32), w), 0))
 else
 ((f_X9_within x4 ((0 : Int32)) ((5000 : Int32))).bind fun y6 =>
 if y6 = 0 then
 (some (((-2 : Int32), w), 0))
 else
 ((f_X9_hasMachine x1 w).bind fun y8 =>
 if y8 = 0 then
 (bnc (f_X9_write x1 ((0 : Int32)) (x2 + ((1 : Int32))) w) fun y10 =>
 bnc (f_X9_write x1 ((1 : Int32)) x4 y10) fun y11 =>
 bnc (f_X9_write x1 ((2 : Int32)) ((1 : Int32)) y11) fun y12 =>
 bnc (f_X9_write x1 ((3 : Int32)) ((1 : Int32)) y12) fun y13 =>
 bnc (f_X9_write x1 ((13 : Int32)) x3 y13) fun y14 =>
 if x2 = ((4 : Int32)) then
 (if x3 ≤ 0 then
 (f_X9_machine_b124 x1 ((8 : Int32)) y14)
 else
 (f_X9_machine_b125 x1 ((8 : Int32)) ((1 : Int32)) y14))
 else
 (f_X9_machine_b124 x1 ((8 : Int32)) y14))
 else
 (some (((-3 : Int32), w), 0)))))
def f_X9_machine (x1 : Int32) (x2 : Int32) (x3 : Int32) (x4 : Int32) (w : CW) : Option ((Int32 × CW) × Nat) :=
 (f_X9_isPlace x1).bind fun y17 =>
 if y17 = 0 then
 (some (((-1 : Int32), w), 0))
 else
 (if x2 = ((4 : Int32)) then
 (f_X9_machine_b19 x1 x2 x3 x4 ((0 : Int32)) w)
 else
 (f_X9_machine_b19 x1 x2 x3 x4 ((1 : Int32)) w))
set_option maxHeartbeats 4000000 in
set_option maxRecDepth 100000 in
theorem t_X9_machine (l : Launch) (G : Gm) (la0 : Nat) (w0 : CW) (x1 : Int32) (x2 : Int32) (x3 : Int32) (x4 : Int32) (r : Int32) (w' : CW) (N : Nat) (hf : f_X9_machine x1 x2 x3 x4 w0 = some ((r, w'), N)) : MetI l yX9_machine cX9_machine 6 (some .int) 5 136 G (cw G la0 w0) [.ref (gq G 0), .int x1, .int x2, .int x3, .int x4] r (fun u => cw G u w') N := by
  intro sz
  refine ent (own := RX9) (As := [.ref (gq G 0), .int x1, .int x2, .int x3, .int x4]) (by decide +kernel) rfl (Nat.le_of_ble_eq_true rfl) (fun _ _ h => h.1) ?_
  intro p e s m args below meth c ls B hr hlocks hv hl
  obtain ⟨-, hsz, hP, hKK, hD⟩ := hv
  subst hsz
  have X : CX RX9 cX9_machine 6 G p s m args c := ⟨B, hKK⟩
  obtain ⟨hx, hb, hml, hown, hts⟩ := id B
  have hA : ∀ q : Nat, s.heap.size ≤ q → va_A (cw G la0 w0) s.heap.size q := fun q z => Or.inr z
  have h : CH G (cw G la0 w0) (va_A (cw G la0 w0) s.heap.size) s.heap s.heap [] := ⟨hP, hD.self, va_S.rf⟩
  have hc : 0 + N = N := Nat.zero_add N
  have J125 : ∀ (xs1 : Int32) (xs2 : Int32) (xs3 : Int32) (w : CW) (la : Nat) (H : Heap) (locs : List Loc) (ls : Array Slot) (k n : Nat), f_X9_machine_b125 xs1 xs2 xs3 w = some ((r, w'), n) → CH G (cw G la w) (va_A (cw G la0 w0) s.heap.size) s.heap H locs → lv_has ls 6 [] → k + n = N → W p l e { frames := 5, cells := N, slots := 4096 * N, locals := 136 } s m args below meth c H locs k (4096 * k) (MQ below (QI G (cw G la0 w0) s.heap.size r (fun u => cw G u w')) args s N (4096 * N) (va_A (cw G la0 w0) s.heap.size)) (F0 m 125 ls [.int xs3, .int xs2, .int xs1, .ref (gq G 0)]) := by
    intro xs1 xs2 xs3 w la H locs ls k n hf h hl hc
    unfold f_X9_machine_b125 at hf
    obtain ⟨y1, ny1, my1, ey1, hf, jy1⟩ := bnc_some hf
    refine k_X9_write X h hA ey1 k_X9_99 dX9_machine_125 hl.1 ⟨(Nat.le_of_ble_eq_true rfl), (Nat.le_of_ble_eq_true rfl)⟩ (Nat.le_of_ble_eq_true rfl) (rmm1 hc jy1) (fun la H locs h => ?_)
    have hc := rmm2 hc jy1
    refine lv_iconst (v := 1) hx hb dX9_machine_128 (by decide) ?_
    exact e1_i X.1 hr hlocks hf h hc dX9_machine_129
  have J124 : ∀ (xs1 : Int32) (xs2 : Int32) (w : CW) (la : Nat) (H : Heap) (locs : List Loc) (ls : Array Slot) (k n : Nat), f_X9_machine_b124 xs1 xs2 w = some ((r, w'), n) → CH G (cw G la w) (va_A (cw G la0 w0) s.heap.size) s.heap H locs → lv_has ls 6 [] → k + n = N → W p l e { frames := 5, cells := N, slots := 4096 * N, locals := 136 } s m args below meth c H locs k (4096 * k) (MQ below (QI G (cw G la0 w0) s.heap.size r (fun u => cw G u w')) args s N (4096 * N) (va_A (cw G la0 w0) s.heap.size)) (F0 m 124 ls [.int xs2, .int xs1, .ref (gq G 0)]) := by
    intro xs1 xs2 w la H locs ls k n hf h hl hc
    unfold f_X9_machine_b124 at hf
    refine lv_iconst (v := 0) hx hb dX9_machine_124 (by decide) ?_
    exact J125 _ _ _ _ _ _ _ _ _ _ hf h (lv_sub hl [] rfl) hc
  have J19 : ∀ (x1 : Int32) (x2 : Int32) (x3 : Int32) (x4 : Int32) (xs0 : Int32) (w : CW) (la : Nat) (H : Heap) (locs : List Loc) (ls : Array Slot) (k n : Nat), f_X9_machine_b19 x1 x2 x3 x4 xs0 w = some ((r, w'), n) → CH G (cw G la w) (va_A (cw G la0 w0) s.heap.size) s.heap H locs → lv_has ls 6 [(0, .ref (gq G 0)), (1, .int x1), (2, .int x2), (3, .int x3), (4, .int x4)] → k + n = N → W p l e { frames := 5, cells := N, slots := 4096 * N, locals := 136 } s m args below meth c H locs k (4096 * k) (MQ below (QI G (cw G la0 w0) s.heap.size r (fun u => cw G u w')) args s N (4096 * N) (va_A (cw G la0 w0) s.heap.size)) (F0 m 19 ls [.int xs0]) := by
    intro x1 x2 x3 x4 xs0 w la H locs ls k n hf h hl hc
    unfold f_X9_machine_b19 at hf
    refine lv_istore (lv' := [(5, .int xs0), (0, .ref (gq G 0)), (1, .int x1), (2, .int x2), (3, .int x3), (4, .int x4)]) hx hb dX9_machine_19 hl (by decide) rfl (fun ls hl => ?_)
    refine lv_iload_n hx hb dX9_machine_21 rfl (lv_at hl 3 rfl) ?_
    refine lv_iconst (v := 0) hx hb dX9_machine_22 (by decide) ?_
    refine lv_iconst (v := 4) hx hb dX9_machine_23 (by decide) ?_
    obtain ⟨y2, ey2, hf⟩ := bnd_some hf
    refine k_X9_within X.1 ey2 k_X9_92 dX9_machine_24 hl.1 ⟨(Nat.le_of_ble_eq_true rfl), (Nat.le_of_ble_eq_true rfl)⟩ (Nat.le_of_ble_eq_true rfl) (rmm0 hc) ?_
    refine lv_if_eq (tgt := 54) hx hb dX9_machine_27 (by decide) (fun c3 => ?_) (fun c3 => ?_)
    · have hf := if_t c3 hf
      refine lv_bipush (v := (-2)) hx hb dX9_machine_54 (by decide) ?_
      exact e1_i X.1 hr hlocks hf h hc dX9_machine_56
    · have hf := if_f c3 hf
      refine lv_iload_n hx hb dX9_machine_30 rfl (lv_at hl 4 rfl) ?_
      refine lv_iload hx hb dX9_machine_31 (lv_at hl 0 rfl) ?_
      refine lv_sipush (v := 20000) hx hb dX9_machine_33 (by decide) ?_
      obtain ⟨y4, ey4, hf⟩ := bnd_some hf
      refine k_X9_within X.1 ey4 k_X9_92 dX9_machine_36 hl.1 ⟨(Nat.le_of_ble_eq_true rfl), (Nat.le_of_ble_eq_true rfl)⟩ (Nat.le_of_ble_eq_true rfl) (rmm0 hc) ?_
      refine lv_if_eq (tgt := 54) hx hb dX9_machine_39 (by decide) (fun c5 => ?_) (fun c5 => ?_)
      · have hf := if_t c5 hf
        refine lv_bipush (v := (-2)) hx hb dX9_machine_54 (by decide) ?_
        exact e1_i X.1 hr hlocks hf h hc dX9_machine_56
      · have hf := if_f c5 hf
        refine lv_iload hx hb dX9_machine_42 (lv_at hl 5 rfl) ?_
        refine lv_iconst (v := 0) hx hb dX9_machine_44 (by decide) ?_
        refine lv_sipush (v := 5000) hx hb dX9_machine_45 (by decide) ?_
        obtain ⟨y6, ey6, hf⟩ := bnd_some hf
        refine k_X9_within X.1 ey6 k_X9_92 dX9_machine_48 hl.1 ⟨(Nat.le_of_ble_eq_true rfl), (Nat.le_of_ble_eq_true rfl)⟩ (Nat.le_of_ble_eq_true rfl) (rmm0 hc) ?_
        refine lv_if_ne (tgt := 57) hx hb dX9_machine_51 (by decide) (fun c7 => ?_) (fun c7 => ?_)
        · have hf := if_f c7 hf
          refine lv_aload_n hx hb dX9_machine_57 rfl (lv_at hl 1 rfl) ?_
          refine lv_iload_n hx hb dX9_machine_58 rfl (lv_at hl 2 rfl) ?_
          obtain ⟨y8, ey8, hf⟩ := bnd_some hf
          refine k_X9_hasMachine X h ey8 k_X9_96 dX9_machine_59 hl.1 ⟨(Nat.le_of_ble_eq_true rfl), (Nat.le_of_ble_eq_true rfl)⟩ (Nat.le_of_ble_eq_true rfl) (rmm0 hc) ?_
          refine lv_if_eq (tgt := 68) hx hb dX9_machine_62 (by decide) (fun c9 => ?_) (fun c9 => ?_)
          · have hf := if_t c9 hf
            refine lv_aload_n hx hb dX9_machine_68 rfl (lv_at hl 1 rfl) ?_
            refine lv_iload_n hx hb dX9_machine_69 rfl (lv_at hl 2 rfl) ?_
            refine lv_iconst (v := 0) hx hb dX9_machine_70 (by decide) ?_
            refine lv_iload_n hx hb dX9_machine_71 rfl (lv_at hl 3 rfl) ?_
            refine lv_iconst (v := 1) hx hb dX9_machine_72 (by decide) ?_
            refine lv_iadd hx hb dX9_machine_73 ?_
            obtain ⟨y10, ny10, my10, ey10, hf, jy10⟩ := bnc_some hf
            refine k_X9_write X h hA ey10 k_X9_99 dX9_machine_74 hl.1 ⟨(Nat.le_of_ble_eq_true rfl), (Nat.le_of_ble_eq_true rfl)⟩ (Nat.le_of_ble_eq_true rfl) (rmm1 hc jy10) (fun la H locs h => ?_)
            have hc := rmm2 hc jy10
            refine lv_aload_n hx hb dX9_machine_77 rfl (lv_at hl 1 rfl) ?_
            refine lv_iload_n hx hb dX9_machine_78 rfl (lv_at hl 2 rfl) ?_
            refine lv_iconst (v := 1) hx hb dX9_machine_79 (by decide) ?_
            refine lv_iload hx hb dX9_machine_80 (lv_at hl 5 rfl) ?_
            obtain ⟨y11, ny11, my11, ey11, hf, jy11⟩ := bnc_some hf
            refine k_X9_write X h hA ey11 k_X9_99 dX9_machine_82 hl.1 ⟨(Nat.le_of_ble_eq_true rfl), (Nat.le_of_ble_eq_true rfl)⟩ (Nat.le_of_ble_eq_true rfl) (rmm1 hc jy11) (fun la H locs h => ?_)
            have hc := rmm2 hc jy11
            refine lv_aload_n hx hb dX9_machine_85 rfl (lv_at hl 1 rfl) ?_
            refine lv_iload_n hx hb dX9_machine_86 rfl (lv_at hl 2 rfl) ?_
            refine lv_iconst (v := 2) hx hb dX9_machine_87 (by decide) ?_
            refine lv_iconst (v := 1) hx hb dX9_machine_88 (by decide) ?_
            obtain ⟨y12, ny12, my12, ey12, hf, jy12⟩ := bnc_some hf
            refine k_X9_write X h hA ey12 k_X9_99 dX9_machine_89 hl.1 ⟨(Nat.le_of_ble_eq_true rfl), (Nat.le_of_ble_eq_true rfl)⟩ (Nat.le_of_ble_eq_true rfl) (rmm1 hc jy12) (fun la H locs h => ?_)
            have hc := rmm2 hc jy12
            refine lv_aload_n hx hb dX9_machine_92 rfl (lv_at hl 1 rfl) ?_
            refine lv_iload_n hx hb dX9_machine_93 rfl (lv_at hl 2 rfl) ?_
            refine lv_iconst (v := 3) hx hb dX9_machine_94 (by decide) ?_
            refine lv_iconst (v := 1) hx hb dX9_machine_95 (by decide) ?_
            obtain ⟨y13, ny13, my13, ey13, hf, jy13⟩ := bnc_some hf
            refine k_X9_write X h hA ey13 k_X9_99 dX9_machine_96 hl.1 ⟨(Nat.le_of_ble_eq_true rfl), (Nat.le_of_ble_eq_true rfl)⟩ (Nat.le_of_ble_eq_true rfl) (rmm1 hc jy13) (fun la H locs h => ?_)
            have hc := rmm2 hc jy13
            refine lv_aload_n hx hb dX9_machine_99 rfl (lv_at hl 1 rfl) ?_
            refine lv_iload_n hx hb dX9_machine_100 rfl (lv_at hl 2 rfl) ?_
            refine lv_bipush (v := 13) hx hb dX9_machine_101 (by decide) ?_
            refine lv_iload_n hx hb dX9_machine_103 rfl (lv_at hl 4 rfl) ?_
            obtain ⟨y14, ny14, my14, ey14, hf, jy14⟩ := bnc_some hf
            refine k_X9_write X h hA ey14 k_X9_99 dX9_machine_104 hl.1 ⟨(Nat.le_of_ble_eq_true rfl), (Nat.le_of_ble_eq_true rfl)⟩ (Nat.le_of_ble_eq_true rfl) (rmm1 hc jy14) (fun la H locs h => ?_)
            have hc := rmm2 hc jy14
            refine lv_aload_n hx hb dX9_machine_107 rfl (lv_at hl 1 rfl) ?_
            refine lv_iload_n hx hb dX9_machine_108 rfl (lv_at hl 2 rfl) ?_
            refine lv_bipush (v := 8) hx hb dX9_machine_109 (by decide) ?_
            refine lv_iload_n hx hb dX9_machine_111 rfl (lv_at hl 3 rfl) ?_
            refine lv_iconst (v := 4) hx hb dX9_machine_112 (by decide) ?_
            refine lv_icmp_ne (tgt := 124) hx hb dX9_machine_113 (by decide) (fun c15 => ?_) (fun c15 => ?_)
            · have hf := if_f c15 hf
              exact J124 _ _ _ _ _ _ _ _ _ hf h (lv_sub hl [] rfl) hc
            · have hf := if_t c15 hf
              refine lv_iload_n hx hb dX9_machine_116 rfl (lv_at hl 4 rfl) ?_
              refine lv_if_le (tgt := 124) hx hb dX9_machine_117 (by decide) (fun c16 => ?_) (fun c16 => ?_)
              · have hf := if_t c16 hf
                exact J124 _ _ _ _ _ _ _ _ _ hf h (lv_sub hl [] rfl) hc
              · have hf := if_f c16 hf
                refine lv_iconst (v := 1) hx hb dX9_machine_120 (by decide) ?_
                refine lv_goto (tgt := 125) hx hb dX9_machine_121 (by decide) ?_
                exact J125 _ _ _ _ _ _ _ _ _ _ hf h (lv_sub hl [] rfl) hc
          · have hf := if_f c9 hf
            refine lv_bipush (v := (-3)) hx hb dX9_machine_65 (by decide) ?_
            exact e1_i X.1 hr hlocks hf h hc dX9_machine_67
        · have hf := if_t c7 hf
          refine lv_bipush (v := (-2)) hx hb dX9_machine_54 (by decide) ?_
          exact e1_i X.1 hr hlocks hf h hc dX9_machine_56
  obtain ⟨la, rfl⟩ : ∃ z, z = la0 := ⟨_, rfl⟩
  obtain ⟨w, rfl⟩ : ∃ z, z = w0 := ⟨_, rfl⟩
  have hl : lv_has ls 6 [(0, .ref (gq G 0)), (1, .int x1), (2, .int x2), (3, .int x3), (4, .int x4)] := hl
  unfold f_X9_machine at hf
  refine wid0 ?_
  refine lv_iload_n hx hb dX9_machine_0 rfl (lv_at hl 1 rfl) ?_
  obtain ⟨y17, ey17, hf⟩ := bnd_some hf
  refine k_X9_isPlace X.1 ey17 k_X9_88 dX9_machine_1 hl.1 ⟨(Nat.le_of_ble_eq_true rfl), (Nat.le_of_ble_eq_true rfl)⟩ (Nat.le_of_ble_eq_true rfl) (rmm0 hc) ?_
  refine lv_if_ne (tgt := 9) hx hb dX9_machine_4 (by decide) (fun c18 => ?_) (fun c18 => ?_)
  · have hf := if_f c18 hf
    refine lv_iload_n hx hb dX9_machine_9 rfl (lv_at hl 2 rfl) ?_
    refine lv_iconst (v := 4) hx hb dX9_machine_10 (by decide) ?_
    refine lv_icmp_ne (tgt := 18) hx hb dX9_machine_11 (by decide) (fun c19 => ?_) (fun c19 => ?_)
    · have hf := if_f c19 hf
      refine lv_iconst (v := 1) hx hb dX9_machine_18 (by decide) ?_
      exact J19 _ _ _ _ _ _ _ _ _ _ _ _ hf h (lv_sub hl [0, 1, 2, 3, 4] rfl) hc
    · have hf := if_t c19 hf
      refine lv_iconst (v := 0) hx hb dX9_machine_14 (by decide) ?_
      refine lv_goto (tgt := 19) hx hb dX9_machine_15 (by decide) ?_
      exact J19 _ _ _ _ _ _ _ _ _ _ _ _ hf h (lv_sub hl [0, 1, 2, 3, 4] rfl) hc
  · have hf := if_t c18 hf
    refine lv_iconst (v := (-1)) hx hb dX9_machine_7 (by decide) ?_
    exact e1_i X.1 hr hlocks hf h hc dX9_machine_8
theorem m_X9_machine : Cond.instanceMethod yX9_machine ∈ lw_good ∧ Cond.selects RX9 yX9_machine yX9_machine ∈ lw_good ∧ Cond.initialized RX9 ∈ lw_good ∧ Cond.code yX9_machine cX9_machine 6 (some .int) ∈ lw_good := by decide +kernel
theorem k_X9_machine {p : Program} {l : Launch} {e : Env} {R : Room} {s : State} {m : MethodId} {args : Array Value} {below : List Frame} {meth : Method} {c : Code} {H : Heap} {locs : List Loc} {cells : Nat} {Q : State → Prop} {cc : ByteArray} {nL pc idx : Nat} {ls : Array Slot} {rest : List Value} {own : String} {G : Gm} {A : Nat → Prop} {H0 : Heap} {la : Nat} {w : CW} {x1 : Int32} {x2 : Int32} {x3 : Int32} {x4 : Int32} {y : Int32 × CW} {n : Nat} (X : CX own cc nL G p s m args c) (h : CH G (cw G la w) A H0 H locs) (hA : ∀ q, H0.size ≤ q → A q) (hf : f_X9_machine x1 x2 x3 x4 w = some (y, n)) (hlk : Cond.methodLink own idx yX9_machine ∈ lw_good) (hd : decode cc pc = .ok (.invokevirtual idx, 3)) (hsz : ls.size = nL) (hR : 6 ≤ R.frames ∧ 161 ≤ R.locals) (hrest : (rest.map fun v => v.category).sum ≤ 8) (hk : cells + n ≤ R.cells ∧ 4096 * cells + 4096 * n ≤ R.slots) (k : ∀ (la : Nat) (H : Heap) (locs : List Loc), CH G (cw G la y.2) A H0 H locs → W p l e R s m args below meth c H locs (cells + n) (4096 * (cells + n)) Q (F0 m (pc + 3) ls (.int y.1 :: rest))) : W p l e R s m args below meth c H locs cells (4096 * cells) Q (F0 m pc ls (.int x4 :: .int x3 :: .int x2 :: .int x1 :: .ref (gq G 0) :: rest)) :=
  fin_i (n := n) (runV (As := [.int x1, .int x2, .int x3, .int x4]) X.1 4 (t_X9_machine l G la w x1 x2 x3 x4 y.1 y.2 n hf _) rfl rfl hlk m_X9_machine (by decide +kernel) ⟨hR.1, hR.2⟩ ⟨blindM, va_recv X.2.1 h.1 (ci := 8) (q0 := 0) rfl rfl, preM X.2 h⟩ rfl hsz hrest hd hk) h hA (fun la H locs h => by rw [← Nat.mul_add]; exact k la H locs h)
def f_X9_found (x1 : Int32) (w : CW) : Option (Int32 × CW) :=
 some (((-20 : Int32)) - x1, cs (cs w 0 12 x1) 0 11 (((cs w 0 12 x1).1 0 11) + ((1 : Int32))))
set_option maxHeartbeats 4000000 in
set_option maxRecDepth 100000 in
theorem t_X9_found (l : Launch) (G : Gm) (la : Nat) (w0 : CW) (x1 : Int32) (r : Int32) (w' : CW) (hf : f_X9_found x1 w0 = some (r, w')) : MetI l yX9_found cX9_found 2 (some .int) 0 0 G (cw G la w0) [.ref (gq G 0), .int x1] r (fun _ => cw G la (w')) 0 := by
  intro sz
  refine ent (own := RX9) (As := [.ref (gq G 0), .int x1]) (by decide +kernel) rfl (Nat.le_of_ble_eq_true rfl) (fun _ _ h => h.1) ?_
  intro p e s m args below meth c ls B hr hlocks hv hl
  obtain ⟨-, hsz, hP, hKK, hD⟩ := hv
  subst hsz
  have X : CX RX9 cX9_found 2 G p s m args c := ⟨B, hKK⟩
  obtain ⟨hx, hb, hml, hown, hts⟩ := id B
  have hA : ∀ q : Nat, s.heap.size ≤ q → va_A (cw G la w0) s.heap.size q := fun q z => Or.inr z
  have h : CH G (cw G la w0) (va_A (cw G la w0) s.heap.size) s.heap s.heap [] := ⟨hP, hD.self, va_S.rf⟩
  obtain ⟨w, rfl⟩ : ∃ z, z = w0 := ⟨_, rfl⟩
  have hl : lv_has ls 2 [(0, .ref (gq G 0)), (1, .int x1)] := hl
  unfold f_X9_found at hf
  refine lv_aload_n hx hb dX9_found_0 rfl (lv_at hl 0 rfl) ?_
  refine lv_iload_n hx hb dX9_found_1 rfl (lv_at hl 1 rfl) ?_
  refine PC_0_12 X h k_X9_81 dX9_found_2 (fun H locs h => ?_)
  refine lv_aload_n hx hb dX9_found_5 rfl (lv_at hl 0 rfl) ?_
  refine lv_dup hx hb dX9_found_6 rfl ?_
  refine GC_0_11 X h k_X9_78 dX9_found_7 ?_
  refine lv_iconst (v := 1) hx hb dX9_found_10 (by decide) ?_
  refine lv_iadd hx hb dX9_found_11 ?_
  refine PC_0_11 X h k_X9_78 dX9_found_12 (fun H locs h => ?_)
  refine lv_bipush (v := (-20)) hx hb dX9_found_15 (by decide) ?_
  refine lv_iload_n hx hb dX9_found_17 rfl (lv_at hl 1 rfl) ?_
  refine lv_isub hx hb dX9_found_18 ?_
  exact e0_i (Wf := cw G la) X.1 hr hlocks hf h dX9_found_19
theorem m_X9_found : Cond.instanceMethod yX9_found ∈ lw_good ∧ Cond.selects RX9 yX9_found yX9_found ∈ lw_good ∧ Cond.initialized RX9 ∈ lw_good ∧ Cond.code yX9_found cX9_found 2 (some .int) ∈ lw_good := by decide +kernel
theorem k_X9_found {p : Program} {l : Launch} {e : Env} {R : Room} {s : State} {m : MethodId} {args : Array Value} {below : List Frame} {meth : Method} {c : Code} {H : Heap} {locs : List Loc} {cells slots : Nat} {Q : State → Prop} {cc : ByteArray} {nL pc idx : Nat} {ls : Array Slot} {rest : List Value} {own : String} {G : Gm} {A : Nat → Prop} {H0 : Heap} {la : Nat} {w : CW} {x1 : Int32} {y : Int32 × CW} (X : CX own cc nL G p s m args c) (h : CH G (cw G la w) A H0 H locs) (hA : ∀ q, H0.size ≤ q → A q) (hf : f_X9_found x1 w = some y) (hlk : Cond.methodLink own idx yX9_found ∈ lw_good) (hd : decode cc pc = .ok (.invokevirtual idx, 3)) (hsz : ls.size = nL) (hR : 1 ≤ R.frames ∧ 21 ≤ R.locals) (hrest : (rest.map fun v => v.category).sum ≤ 8) (hk : cells ≤ R.cells ∧ slots ≤ R.slots) (k : ∀ (H : Heap) (locs : List Loc), CH G (cw G la y.2) A H0 H locs → W p l e R s m args below meth c H locs cells slots Q (F0 m (pc + 3) ls (.int y.1 :: rest))) : W p l e R s m args below meth c H locs cells slots Q (F0 m pc ls (.int x1 :: .ref (gq G 0) :: rest)) :=
  fin_i (n := 0) (runV (As := [.int x1]) X.1 1 (t_X9_found l G la w x1 y.1 y.2 hf _) rfl rfl hlk m_X9_found (by decide +kernel) ⟨hR.1, hR.2⟩ ⟨blindM, va_recv X.2.1 h.1 (ci := 8) (q0 := 0) rfl rfl, preM X.2 h⟩ rfl hsz hrest hd hk) h hA (fun _ H locs h => k H locs h)
def f_X9_isBank (x1 : Int32) (w : CW) : Option Int32 :=
 (f_X9_read x1 ((0 : Int32)) w).bind fun y1 =>
 if y1 = ((5 : Int32)) then
 (some ((1 : Int32)))
 else
 (some ((0 : Int32)))
set_option maxHeartbeats 4000000 in
set_option maxRecDepth 100000 in
theorem t_X9_isBank (l : Launch) (G : Gm) (la : Nat) (w : CW) (x1 : Int32) (r : Int32) (hf : f_X9_isBank x1 w = some r) : MetR l yX9_isBank cX9_isBank 2 (some .boolean) 2 43 G (cw G la w) [.ref (gq G 0), .int x1] (.int r) := by
  refine ent (own := RX9) (As := [.ref (gq G 0), .int x1]) (by decide +kernel) rfl (Nat.le_of_ble_eq_true rfl) (fun _ _ h => h.1) ?_
  intro p e s m args below meth c ls B hr hlocks hv hl
  obtain ⟨-, hP, hKK, hD⟩ := hv
  have X : CX RX9 cX9_isBank 2 G p s m args c := ⟨B, hKK⟩
  obtain ⟨hx, hb, hml, hown, hts⟩ := id B
  have h : CH G (cw G la w) (fun _ => True) s.heap s.heap [] := ⟨hP, hD, va_S.rf⟩
  have hl : lv_has ls 2 [(0, .ref (gq G 0)), (1, .int x1)] := hl
  unfold f_X9_isBank at hf
  refine lv_aload_n hx hb dX9_isBank_0 rfl (lv_at hl 0 rfl) ?_
  refine lv_iload_n hx hb dX9_isBank_1 rfl (lv_at hl 1 rfl) ?_
  refine lv_iconst (v := 0) hx hb dX9_isBank_2 (by decide) ?_
  obtain ⟨y1, ey1, hf⟩ := bnd_some hf
  refine k_X9_read X h ey1 k_X9_110 dX9_isBank_3 hl.1 ⟨(Nat.le_of_ble_eq_true rfl), (Nat.le_of_ble_eq_true rfl)⟩ (Nat.le_of_ble_eq_true rfl) ⟨Nat.zero_le _, Nat.zero_le _⟩ ?_
  refine lv_iconst (v := 5) hx hb dX9_isBank_6 (by decide) ?_
  refine lv_icmp_ne (tgt := 14) hx hb dX9_isBank_7 (by decide) (fun c2 => ?_) (fun c2 => ?_)
  · have hf := if_f c2 hf
    refine lv_iconst (v := 0) hx hb dX9_isBank_14 (by decide) ?_
    cases hf
    exact rr_z X.1 hr hlocks (Or.inl rfl) dX9_isBank_15
  · have hf := if_t c2 hf
    refine lv_iconst (v := 1) hx hb dX9_isBank_10 (by decide) ?_
    refine lv_goto (tgt := 15) hx hb dX9_isBank_11 (by decide) ?_
    cases hf
    exact rr_z X.1 hr hlocks (Or.inr rfl) dX9_isBank_15
theorem m_X9_isBank : Cond.instanceMethod yX9_isBank ∈ lw_good ∧ Cond.selects RX9 yX9_isBank yX9_isBank ∈ lw_good ∧ Cond.initialized RX9 ∈ lw_good ∧ Cond.code yX9_isBank cX9_isBank 2 (some .boolean) ∈ lw_good := by decide +kernel
theorem k_X9_isBank {p : Program} {l : Launch} {e : Env} {R : Room} {s : State} {m : MethodId} {args : Array Value} {below : List Frame} {meth : Method} {c : Code} {H : Heap} {locs : List Loc} {cells slots : Nat} {Q : State → Prop} {cc : ByteArray} {nL pc idx : Nat} {ls : Array Slot} {rest : List Value} {own : String} {G : Gm} {A : Nat → Prop} {H0 : Heap} {la : Nat} {w : CW} {x1 : Int32} {r : Int32} (X : CX own cc nL G p s m args c) (h : CH G (cw G la w) A H0 H locs) (hf : f_X9_isBank x1 w = some r) (hlk : Cond.methodLink own idx yX9_isBank ∈ lw_good) (hd : decode cc pc = .ok (.invokevirtual idx, 3)) (hsz : ls.size = nL) (hR : 3 ≤ R.frames ∧ 64 ≤ R.locals) (hrest : (rest.map fun v => v.category).sum ≤ 8) (hk : cells ≤ R.cells ∧ slots ≤ R.slots) (k : W p l e R s m args below meth c H locs cells slots Q (F0 m (pc + 3) ls (.int r :: rest))) : W p l e R s m args below meth c H locs cells slots Q (F0 m pc ls (.int x1 :: .ref (gq G 0) :: rest)) :=
  fin_r (runV (As := [.int x1]) X.1 1 (t_X9_isBank l G la w x1 r hf) rfl rfl hlk m_X9_isBank (by decide +kernel) ⟨hR.1, hR.2⟩ ⟨blindR, va_recv X.2.1 h.1 (ci := 8) (q0 := 0) rfl rfl, preR X.2 h⟩ rfl hsz hrest hd hk) k
def f_X9_hasRun (x1 : Int32) (w : CW) : Option Int32 :=
 (f_X9_read x1 ((12 : Int32)) w).bind fun y1 =>
 if y1 ≤ 0 then
 (some ((0 : Int32)))
 else
 (some ((1 : Int32)))
set_option maxHeartbeats 4000000 in
set_option maxRecDepth 100000 in
theorem t_X9_hasRun (l : Launch) (G : Gm) (la : Nat) (w : CW) (x1 : Int32) (r : Int32) (hf : f_X9_hasRun x1 w = some r) : MetR l yX9_hasRun cX9_hasRun 2 (some .boolean) 2 43 G (cw G la w) [.ref (gq G 0), .int x1] (.int r) := by
  refine ent (own := RX9) (As := [.ref (gq G 0), .int x1]) (by decide +kernel) rfl (Nat.le_of_ble_eq_true rfl) (fun _ _ h => h.1) ?_
  intro p e s m args below meth c ls B hr hlocks hv hl
  obtain ⟨-, hP, hKK, hD⟩ := hv
  have X : CX RX9 cX9_hasRun 2 G p s m args c := ⟨B, hKK⟩
  obtain ⟨hx, hb, hml, hown, hts⟩ := id B
  have h : CH G (cw G la w) (fun _ => True) s.heap s.heap [] := ⟨hP, hD, va_S.rf⟩
  have hl : lv_has ls 2 [(0, .ref (gq G 0)), (1, .int x1)] := hl
  unfold f_X9_hasRun at hf
  refine lv_aload_n hx hb dX9_hasRun_0 rfl (lv_at hl 0 rfl) ?_
  refine lv_iload_n hx hb dX9_hasRun_1 rfl (lv_at hl 1 rfl) ?_
  refine lv_bipush (v := 12) hx hb dX9_hasRun_2 (by decide) ?_
  obtain ⟨y1, ey1, hf⟩ := bnd_some hf
  refine k_X9_read X h ey1 k_X9_110 dX9_hasRun_4 hl.1 ⟨(Nat.le_of_ble_eq_true rfl), (Nat.le_of_ble_eq_true rfl)⟩ (Nat.le_of_ble_eq_true rfl) ⟨Nat.zero_le _, Nat.zero_le _⟩ ?_
  refine lv_if_le (tgt := 14) hx hb dX9_hasRun_7 (by decide) (fun c2 => ?_) (fun c2 => ?_)
  · have hf := if_t c2 hf
    refine lv_iconst (v := 0) hx hb dX9_hasRun_14 (by decide) ?_
    cases hf
    exact rr_z X.1 hr hlocks (Or.inl rfl) dX9_hasRun_15
  · have hf := if_f c2 hf
    refine lv_iconst (v := 1) hx hb dX9_hasRun_10 (by decide) ?_
    refine lv_goto (tgt := 15) hx hb dX9_hasRun_11 (by decide) ?_
    cases hf
    exact rr_z X.1 hr hlocks (Or.inr rfl) dX9_hasRun_15
theorem m_X9_hasRun : Cond.instanceMethod yX9_hasRun ∈ lw_good ∧ Cond.selects RX9 yX9_hasRun yX9_hasRun ∈ lw_good ∧ Cond.initialized RX9 ∈ lw_good ∧ Cond.code yX9_hasRun cX9_hasRun 2 (some .boolean) ∈ lw_good := by decide +kernel
theorem k_X9_hasRun {p : Program} {l : Launch} {e : Env} {R : Room} {s : State} {m : MethodId} {args : Array Value} {below : List Frame} {meth : Method} {c : Code} {H : Heap} {locs : List Loc} {cells slots : Nat} {Q : State → Prop} {cc : ByteArray} {nL pc idx : Nat} {ls : Array Slot} {rest : List Value} {own : String} {G : Gm} {A : Nat → Prop} {H0 : Heap} {la : Nat} {w : CW} {x1 : Int32} {r : Int32} (X : CX own cc nL G p s m args c) (h : CH G (cw G la w) A H0 H locs) (hf : f_X9_hasRun x1 w = some r) (hlk : Cond.methodLink own idx yX9_hasRun ∈ lw_good) (hd : decode cc pc = .ok (.invokevirtual idx, 3)) (hsz : ls.size = nL) (hR : 3 ≤ R.frames ∧ 64 ≤ R.locals) (hrest : (rest.map fun v => v.category).sum ≤ 8) (hk : cells ≤ R.cells ∧ slots ≤ R.slots) (k : W p l e R s m args below meth c H locs cells slots Q (F0 m (pc + 3) ls (.int r :: rest))) : W p l e R s m args below meth c H locs cells slots Q (F0 m pc ls (.int x1 :: .ref (gq G 0) :: rest)) :=
  fin_r (runV (As := [.int x1]) X.1 1 (t_X9_hasRun l G la w x1 r hf) rfl rfl hlk m_X9_hasRun (by decide +kernel) ⟨hR.1, hR.2⟩ ⟨blindR, va_recv X.2.1 h.1 (ci := 8) (q0 := 0) rfl rfl, preR X.2 h⟩ rfl hsz hrest hd hk) k
def f_X9_drum_b69 (w : CW) : Option ((Int32 × CW) × Nat) :=
 (f_X9_found ((7 : Int32)) w).bind fun y1 =>
 some ((y1.1, y1.2), 0)
def f_X9_drum (x1 : Int32) (x2 : Int32) (w : CW) : Option ((Int32 × CW) × Nat) :=
 (f_X9_isPlace x1).bind fun y2 =>
 if y2 = 0 then
 (some (((-1 : Int32), w), 0))
 else
 ((f_X9_within x2 ((1 : Int32)) ((20000 : Int32))).bind fun y4 =>
 if y4 = 0 then
 (some (((-2 : Int32), w), 0))
 else
 ((f_X9_hasMachine x1 w).bind fun y6 =>
 if y6 = 0 then
 ((f_X9_found ((1 : Int32)) w).bind fun y19 =>
 some ((y19.1, y19.2), 0))
 else
 ((f_X9_isBank x1 w).bind fun y8 =>
 if y8 = 0 then
 ((f_X9_found ((5 : Int32)) w).bind fun y18 =>
 some ((y18.1, y18.2), 0))
 else
 ((f_X9_read x1 ((9 : Int32)) w).bind fun y10 =>
 if 0 < y10 then
 (f_X9_drum_b69 w)
 else
 ((f_X9_hasRun x1 w).bind fun y12 =>
 if y12 = 0 then
 ((f_X9_read x1 ((8 : Int32)) w).bind fun y14 =>
 if y14 < ((6 : Int32)) then
 (bnc (f_X9_write x1 (((13 : Int32)) + y14) x2 w) fun y16 =>
 bnc (f_X9_write x1 ((8 : Int32)) (y14 + ((1 : Int32))) y16) fun y17 =>
 some ((y14 + ((1 : Int32)), y17), 0))
 else
 (some (((-4 : Int32), w), 0)))
 else
 (f_X9_drum_b69 w))))))
set_option maxHeartbeats 4000000 in
set_option maxRecDepth 100000 in
theorem t_X9_drum (l : Launch) (G : Gm) (la0 : Nat) (w0 : CW) (x1 : Int32) (x2 : Int32) (r : Int32) (w' : CW) (N : Nat) (hf : f_X9_drum x1 x2 w0 = some ((r, w'), N)) : MetI l yX9_drum cX9_drum 4 (some .int) 5 136 G (cw G la0 w0) [.ref (gq G 0), .int x1, .int x2] r (fun u => cw G u w') N := by
  intro sz
  refine ent (own := RX9) (As := [.ref (gq G 0), .int x1, .int x2]) (by decide +kernel) rfl (Nat.le_of_ble_eq_true rfl) (fun _ _ h => h.1) ?_
  intro p e s m args below meth c ls B hr hlocks hv hl
  obtain ⟨-, hsz, hP, hKK, hD⟩ := hv
  subst hsz
  have X : CX RX9 cX9_drum 4 G p s m args c := ⟨B, hKK⟩
  obtain ⟨hx, hb, hml, hown, hts⟩ := id B
  have hA : ∀ q : Nat, s.heap.size ≤ q → va_A (cw G la0 w0) s.heap.size q := fun q z => Or.inr z
  have h : CH G (cw G la0 w0) (va_A (cw G la0 w0) s.heap.size) s.heap s.heap [] := ⟨hP, hD.self, va_S.rf⟩
  have hc : 0 + N = N := Nat.zero_add N
  have J69 : ∀ (w : CW) (la : Nat) (H : Heap) (locs : List Loc) (ls : Array Slot) (k n : Nat), f_X9_drum_b69 w = some ((r, w'), n) → CH G (cw G la w) (va_A (cw G la0 w0) s.heap.size) s.heap H locs → lv_has ls 4 [(0, .ref (gq G 0))] → k + n = N → W p l e { frames := 5, cells := N, slots := 4096 * N, locals := 136 } s m args below meth c H locs k (4096 * k) (MQ below (QI G (cw G la0 w0) s.heap.size r (fun u => cw G u w')) args s N (4096 * N) (va_A (cw G la0 w0) s.heap.size)) (F0 m 69 ls []) := by
    intro w la H locs ls k n hf h hl hc
    unfold f_X9_drum_b69 at hf
    refine lv_aload_n hx hb dX9_drum_69 rfl (lv_at hl 0 rfl) ?_
    refine lv_bipush (v := 7) hx hb dX9_drum_70 (by decide) ?_
    obtain ⟨y1, ey1, hf⟩ := bnd_some hf
    refine k_X9_found X h hA ey1 k_X9_103 dX9_drum_72 hl.1 ⟨(Nat.le_of_ble_eq_true rfl), (Nat.le_of_ble_eq_true rfl)⟩ (Nat.le_of_ble_eq_true rfl) (rmm0 hc) (fun H locs h => ?_)
    exact e1_i X.1 hr hlocks hf h hc dX9_drum_75
  obtain ⟨la, rfl⟩ : ∃ z, z = la0 := ⟨_, rfl⟩
  obtain ⟨w, rfl⟩ : ∃ z, z = w0 := ⟨_, rfl⟩
  have hl : lv_has ls 4 [(0, .ref (gq G 0)), (1, .int x1), (2, .int x2)] := hl
  unfold f_X9_drum at hf
  refine wid0 ?_
  refine lv_iload_n hx hb dX9_drum_0 rfl (lv_at hl 1 rfl) ?_
  obtain ⟨y2, ey2, hf⟩ := bnd_some hf
  refine k_X9_isPlace X.1 ey2 k_X9_88 dX9_drum_1 hl.1 ⟨(Nat.le_of_ble_eq_true rfl), (Nat.le_of_ble_eq_true rfl)⟩ (Nat.le_of_ble_eq_true rfl) (rmm0 hc) ?_
  refine lv_if_ne (tgt := 9) hx hb dX9_drum_4 (by decide) (fun c3 => ?_) (fun c3 => ?_)
  · have hf := if_f c3 hf
    refine lv_iload_n hx hb dX9_drum_9 rfl (lv_at hl 2 rfl) ?_
    refine lv_iconst (v := 1) hx hb dX9_drum_10 (by decide) ?_
    refine lv_sipush (v := 20000) hx hb dX9_drum_11 (by decide) ?_
    obtain ⟨y4, ey4, hf⟩ := bnd_some hf
    refine k_X9_within X.1 ey4 k_X9_92 dX9_drum_14 hl.1 ⟨(Nat.le_of_ble_eq_true rfl), (Nat.le_of_ble_eq_true rfl)⟩ (Nat.le_of_ble_eq_true rfl) (rmm0 hc) ?_
    refine lv_if_ne (tgt := 23) hx hb dX9_drum_17 (by decide) (fun c5 => ?_) (fun c5 => ?_)
    · have hf := if_f c5 hf
      refine lv_aload_n hx hb dX9_drum_23 rfl (lv_at hl 0 rfl) ?_
      refine lv_iload_n hx hb dX9_drum_24 rfl (lv_at hl 1 rfl) ?_
      obtain ⟨y6, ey6, hf⟩ := bnd_some hf
      refine k_X9_hasMachine X h ey6 k_X9_96 dX9_drum_25 hl.1 ⟨(Nat.le_of_ble_eq_true rfl), (Nat.le_of_ble_eq_true rfl)⟩ (Nat.le_of_ble_eq_true rfl) (rmm0 hc) ?_
      refine lv_if_ne (tgt := 37) hx hb dX9_drum_28 (by decide) (fun c7 => ?_) (fun c7 => ?_)
      · have hf := if_f c7 hf
        refine lv_aload_n hx hb dX9_drum_37 rfl (lv_at hl 0 rfl) ?_
        refine lv_iload_n hx hb dX9_drum_38 rfl (lv_at hl 1 rfl) ?_
        obtain ⟨y8, ey8, hf⟩ := bnd_some hf
        refine k_X9_isBank X h ey8 k_X9_107 dX9_drum_39 hl.1 ⟨(Nat.le_of_ble_eq_true rfl), (Nat.le_of_ble_eq_true rfl)⟩ (Nat.le_of_ble_eq_true rfl) (rmm0 hc) ?_
        refine lv_if_ne (tgt := 51) hx hb dX9_drum_42 (by decide) (fun c9 => ?_) (fun c9 => ?_)
        · have hf := if_f c9 hf
          refine lv_aload_n hx hb dX9_drum_51 rfl (lv_at hl 0 rfl) ?_
          refine lv_iload_n hx hb dX9_drum_52 rfl (lv_at hl 1 rfl) ?_
          refine lv_bipush (v := 9) hx hb dX9_drum_53 (by decide) ?_
          obtain ⟨y10, ey10, hf⟩ := bnd_some hf
          refine k_X9_read X h ey10 k_X9_110 dX9_drum_55 hl.1 ⟨(Nat.le_of_ble_eq_true rfl), (Nat.le_of_ble_eq_true rfl)⟩ (Nat.le_of_ble_eq_true rfl) (rmm0 hc) ?_
          refine lv_if_gt (tgt := 69) hx hb dX9_drum_58 (by decide) (fun c11 => ?_) (fun c11 => ?_)
          · have hf := if_t c11 hf
            exact J69 _ _ _ _ _ _ _ hf h (lv_sub hl [0] rfl) hc
          · have hf := if_f c11 hf
            refine lv_aload_n hx hb dX9_drum_61 rfl (lv_at hl 0 rfl) ?_
            refine lv_iload_n hx hb dX9_drum_62 rfl (lv_at hl 1 rfl) ?_
            obtain ⟨y12, ey12, hf⟩ := bnd_some hf
            refine k_X9_hasRun X h ey12 k_X9_114 dX9_drum_63 hl.1 ⟨(Nat.le_of_ble_eq_true rfl), (Nat.le_of_ble_eq_true rfl)⟩ (Nat.le_of_ble_eq_true rfl) (rmm0 hc) ?_
            refine lv_if_eq (tgt := 76) hx hb dX9_drum_66 (by decide) (fun c13 => ?_) (fun c13 => ?_)
            · have hf := if_t c13 hf
              refine lv_aload_n hx hb dX9_drum_76 rfl (lv_at hl 0 rfl) ?_
              refine lv_iload_n hx hb dX9_drum_77 rfl (lv_at hl 1 rfl) ?_
              refine lv_bipush (v := 8) hx hb dX9_drum_78 (by decide) ?_
              obtain ⟨y14, ey14, hf⟩ := bnd_some hf
              refine k_X9_read X h ey14 k_X9_110 dX9_drum_80 hl.1 ⟨(Nat.le_of_ble_eq_true rfl), (Nat.le_of_ble_eq_true rfl)⟩ (Nat.le_of_ble_eq_true rfl) (rmm0 hc) ?_
              refine lv_istore_n (lv' := [(3, .int y14), (0, .ref (gq G 0)), (1, .int x1), (2, .int x2)]) hx hb dX9_drum_83 rfl hl (by decide) rfl (fun ls hl => ?_)
              refine lv_iload_n hx hb dX9_drum_84 rfl (lv_at hl 0 rfl) ?_
              refine lv_bipush (v := 6) hx hb dX9_drum_85 (by decide) ?_
              refine lv_icmp_lt (tgt := 93) hx hb dX9_drum_87 (by decide) (fun c15 => ?_) (fun c15 => ?_)
              · have hf := if_t c15 hf
                refine lv_aload_n hx hb dX9_drum_93 rfl (lv_at hl 1 rfl) ?_
                refine lv_iload_n hx hb dX9_drum_94 rfl (lv_at hl 2 rfl) ?_
                refine lv_bipush (v := 13) hx hb dX9_drum_95 (by decide) ?_
                refine lv_iload_n hx hb dX9_drum_97 rfl (lv_at hl 0 rfl) ?_
                refine lv_iadd hx hb dX9_drum_98 ?_
                refine lv_iload_n hx hb dX9_drum_99 rfl (lv_at hl 3 rfl) ?_
                obtain ⟨y16, ny16, my16, ey16, hf, jy16⟩ := bnc_some hf
                refine k_X9_write X h hA ey16 k_X9_99 dX9_drum_100 hl.1 ⟨(Nat.le_of_ble_eq_true rfl), (Nat.le_of_ble_eq_true rfl)⟩ (Nat.le_of_ble_eq_true rfl) (rmm1 hc jy16) (fun la H locs h => ?_)
                have hc := rmm2 hc jy16
                refine lv_aload_n hx hb dX9_drum_103 rfl (lv_at hl 1 rfl) ?_
                refine lv_iload_n hx hb dX9_drum_104 rfl (lv_at hl 2 rfl) ?_
                refine lv_bipush (v := 8) hx hb dX9_drum_105 (by decide) ?_
                refine lv_iload_n hx hb dX9_drum_107 rfl (lv_at hl 0 rfl) ?_
                refine lv_iconst (v := 1) hx hb dX9_drum_108 (by decide) ?_
                refine lv_iadd hx hb dX9_drum_109 ?_
                obtain ⟨y17, ny17, my17, ey17, hf, jy17⟩ := bnc_some hf
                refine k_X9_write X h hA ey17 k_X9_99 dX9_drum_110 hl.1 ⟨(Nat.le_of_ble_eq_true rfl), (Nat.le_of_ble_eq_true rfl)⟩ (Nat.le_of_ble_eq_true rfl) (rmm1 hc jy17) (fun la H locs h => ?_)
                have hc := rmm2 hc jy17
                refine lv_iload_n hx hb dX9_drum_113 rfl (lv_at hl 0 rfl) ?_
                refine lv_iconst (v := 1) hx hb dX9_drum_114 (by decide) ?_
                refine lv_iadd hx hb dX9_drum_115 ?_
                exact e1_i X.1 hr hlocks hf h hc dX9_drum_116
              · have hf := if_f c15 hf
                refine lv_bipush (v := (-4)) hx hb dX9_drum_90 (by decide) ?_
                exact e1_i X.1 hr hlocks hf h hc dX9_drum_92
            · have hf := if_f c13 hf
              exact J69 _ _ _ _ _ _ _ hf h (lv_sub hl [0] rfl) hc
        · have hf := if_t c9 hf
          refine lv_aload_n hx hb dX9_drum_45 rfl (lv_at hl 0 rfl) ?_
          refine lv_iconst (v := 5) hx hb dX9_drum_46 (by decide) ?_
          obtain ⟨y18, ey18, hf⟩ := bnd_some hf
          refine k_X9_found X h hA ey18 k_X9_103 dX9_drum_47 hl.1 ⟨(Nat.le_of_ble_eq_true rfl), (Nat.le_of_ble_eq_true rfl)⟩ (Nat.le_of_ble_eq_true rfl) (rmm0 hc) (fun H locs h => ?_)
          exact e1_i X.1 hr hlocks hf h hc dX9_drum_50
      · have hf := if_t c7 hf
        refine lv_aload_n hx hb dX9_drum_31 rfl (lv_at hl 0 rfl) ?_
        refine lv_iconst (v := 1) hx hb dX9_drum_32 (by decide) ?_
        obtain ⟨y19, ey19, hf⟩ := bnd_some hf
        refine k_X9_found X h hA ey19 k_X9_103 dX9_drum_33 hl.1 ⟨(Nat.le_of_ble_eq_true rfl), (Nat.le_of_ble_eq_true rfl)⟩ (Nat.le_of_ble_eq_true rfl) (rmm0 hc) (fun H locs h => ?_)
        exact e1_i X.1 hr hlocks hf h hc dX9_drum_36
    · have hf := if_t c5 hf
      refine lv_bipush (v := (-2)) hx hb dX9_drum_20 (by decide) ?_
      exact e1_i X.1 hr hlocks hf h hc dX9_drum_22
  · have hf := if_t c3 hf
    refine lv_iconst (v := (-1)) hx hb dX9_drum_7 (by decide) ?_
    exact e1_i X.1 hr hlocks hf h hc dX9_drum_8
theorem m_X9_drum : Cond.instanceMethod yX9_drum ∈ lw_good ∧ Cond.selects RX9 yX9_drum yX9_drum ∈ lw_good ∧ Cond.initialized RX9 ∈ lw_good ∧ Cond.code yX9_drum cX9_drum 4 (some .int) ∈ lw_good := by decide +kernel
theorem k_X9_drum {p : Program} {l : Launch} {e : Env} {R : Room} {s : State} {m : MethodId} {args : Array Value} {below : List Frame} {meth : Method} {c : Code} {H : Heap} {locs : List Loc} {cells : Nat} {Q : State → Prop} {cc : ByteArray} {nL pc idx : Nat} {ls : Array Slot} {rest : List Value} {own : String} {G : Gm} {A : Nat → Prop} {H0 : Heap} {la : Nat} {w : CW} {x1 : Int32} {x2 : Int32} {y : Int32 × CW} {n : Nat} (X : CX own cc nL G p s m args c) (h : CH G (cw G la w) A H0 H locs) (hA : ∀ q, H0.size ≤ q → A q) (hf : f_X9_drum x1 x2 w = some (y, n)) (hlk : Cond.methodLink own idx yX9_drum ∈ lw_good) (hd : decode cc pc = .ok (.invokevirtual idx, 3)) (hsz : ls.size = nL) (hR : 6 ≤ R.frames ∧ 159 ≤ R.locals) (hrest : (rest.map fun v => v.category).sum ≤ 8) (hk : cells + n ≤ R.cells ∧ 4096 * cells + 4096 * n ≤ R.slots) (k : ∀ (la : Nat) (H : Heap) (locs : List Loc), CH G (cw G la y.2) A H0 H locs → W p l e R s m args below meth c H locs (cells + n) (4096 * (cells + n)) Q (F0 m (pc + 3) ls (.int y.1 :: rest))) : W p l e R s m args below meth c H locs cells (4096 * cells) Q (F0 m pc ls (.int x2 :: .int x1 :: .ref (gq G 0) :: rest)) :=
  fin_i (n := n) (runV (As := [.int x1, .int x2]) X.1 2 (t_X9_drum l G la w x1 x2 y.1 y.2 n hf _) rfl rfl hlk m_X9_drum (by decide +kernel) ⟨hR.1, hR.2⟩ ⟨blindM, va_recv X.2.1 h.1 (ci := 8) (q0 := 0) rfl rfl, preM X.2 h⟩ rfl hsz hrest hd hk) h hA (fun la H locs h => by rw [← Nat.mul_add]; exact k la H locs h)
def f_X6_creditCell (x0 : Int32) (x1 : Int32) : Option Int32 :=
 some (((x0 * ((78 : Int32))) + ((36 : Int32))) + x1)
set_option maxHeartbeats 4000000 in
set_option maxRecDepth 100000 in
theorem t_X6_creditCell (l : Launch) (x0 : Int32) (x1 : Int32) (r : Int32) (hf : f_X6_creditCell x0 x1 = some r) : MetP l yX6_creditCell cX6_creditCell 2 (some .int) 0 0 [.int x0, .int x1] (.int r) := by
  refine ent (own := RX6) (As := [.int x0, .int x1]) (by decide +kernel) rfl (Nat.le_of_ble_eq_true rfl) (fun _ _ h => h.1) ?_
  intro p e s m args below meth c ls B hr hlocks hv hl
  obtain ⟨hx, hb, hml, hown, hts⟩ := id B
  have hl : lv_has ls 2 [(0, .int x0), (1, .int x1)] := hl
  unfold f_X6_creditCell at hf
  refine lv_iload_n hx hb dX6_creditCell_0 rfl (lv_at hl 0 rfl) ?_
  refine lv_bipush (v := 78) hx hb dX6_creditCell_1 (by decide) ?_
  refine lv_imul hx hb dX6_creditCell_3 ?_
  refine lv_bipush (v := 36) hx hb dX6_creditCell_4 (by decide) ?_
  refine lv_iadd hx hb dX6_creditCell_6 ?_
  refine lv_iload_n hx hb dX6_creditCell_7 rfl (lv_at hl 1 rfl) ?_
  refine lv_iadd hx hb dX6_creditCell_8 ?_
  cases hf
  exact rr_i B hr hlocks dX6_creditCell_9
theorem m_X6_creditCell : Cond.static yX6_creditCell ∈ lw_good ∧ Cond.initialized yX6_creditCell.cls ∈ lw_good ∧ Cond.code yX6_creditCell cX6_creditCell 2 (some .int) ∈ lw_good := by decide +kernel
theorem k_X6_creditCell {p : Program} {l : Launch} {e : Env} {R : Room} {s : State} {m : MethodId} {args : Array Value} {below : List Frame} {meth : Method} {c : Code} {H : Heap} {locs : List Loc} {cells slots : Nat} {Q : State → Prop} {cc : ByteArray} {nL pc idx : Nat} {ls : Array Slot} {rest : List Value} {own : String} {x0 : Int32} {x1 : Int32} {r : Int32} (B : CB own cc nL p s m args c) (hf : f_X6_creditCell x0 x1 = some r) (hlk : Cond.methodLink own idx yX6_creditCell ∈ lw_good) (hd : decode cc pc = .ok (.invokestatic idx, 3)) (hsz : ls.size = nL) (hR : 1 ≤ R.frames ∧ 21 ≤ R.locals) (hrest : (rest.map fun v => v.category).sum ≤ 8) (hk : cells ≤ R.cells ∧ slots ≤ R.slots) (k : W p l e R s m args below meth c H locs cells slots Q (F0 m (pc + 3) ls (.int r :: rest))) : W p l e R s m args below meth c H locs cells slots Q (F0 m pc ls (.int x1 :: .int x0 :: rest)) :=
  fin_r (runS (As := [.int x0, .int x1]) B 2 (t_X6_creditCell l x0 x1 r hf) rfl rfl hlk m_X6_creditCell (by decide +kernel) ⟨hR.1, hR.2⟩ ⟨blindP, preP⟩ rfl hsz hrest hd hk) k
def f_X6_creditOf_l4_body (kself : (Int32 → Int32 → Int32 → CW → Option Int32)) (x1 : Int32) (x2 : Int32) (x3 : Int32) (w : CW) : Option Int32 :=
 if ((12 : Int32)) ≤ x3 then
 (some x2)
 else
 ((f_X6_creditCell x1 x3).bind fun y2 =>
 (f_X1_get y2 w).bind fun y3 =>
 (f_X1_get (((8420 : Int32)) + x3) w).bind fun y4 =>
 kself x1 (x2 + (y3 * y4)) (x3 + (1 : Int32)) w)
def f_X6_creditOf_l4 : Nat → Int32 → Int32 → Int32 → CW → Option Int32
  | 0, _, _, _, _ => none
  | n + 1, x1, x2, x3, w => f_X6_creditOf_l4_body (f_X6_creditOf_l4 n) x1 x2 x3 w
def f_X6_creditOf (x1 : Int32) (w : CW) : Option Int32 :=
 f_X6_creditOf_l4 FU x1 ((0 : Int32)) ((0 : Int32)) w
set_option maxHeartbeats 4000000 in
set_option maxRecDepth 100000 in
theorem t_X6_creditOf (l : Launch) (G : Gm) (la : Nat) (w : CW) (x1 : Int32) (r : Int32) (hf : f_X6_creditOf x1 w = some r) : MetR l yX6_creditOf cX6_creditOf 4 (some .int) 1 21 G (cw G la w) [.ref (gq G 2), .int x1] (.int r) := by
  refine ent (own := RX6) (As := [.ref (gq G 2), .int x1]) (by decide +kernel) rfl (Nat.le_of_ble_eq_true rfl) (fun _ _ h => h.1) ?_
  intro p e s m args below meth c ls B hr hlocks hv hl
  obtain ⟨-, hP, hKK, hD⟩ := hv
  have X : CX RX6 cX6_creditOf 4 G p s m args c := ⟨B, hKK⟩
  obtain ⟨hx, hb, hml, hown, hts⟩ := id B
  have h : CH G (cw G la w) (fun _ => True) s.heap s.heap [] := ⟨hP, hD, va_S.rf⟩
  have L4 : ∀ (n4 : Nat) (x1 : Int32) (x2 : Int32) (x3 : Int32) (ls : Array Slot), f_X6_creditOf_l4 n4 x1 x2 x3 w = some r → lv_has ls 4 [(0, .ref (gq G 2)), (1, .int x1), (2, .int x2), (3, .int x3)] → W p l e { frames := 1, cells := 0, slots := 0, locals := 21 } s m args below meth c s.heap [] 0 0 (MQ below (QcV (.int r)) args s 0 0 (fun _ => False)) (F0 m 4 ls []) := by
    intro n4
    induction n4 with
    | zero =>
      intro x1 x2 x3 ls hf hl
      cases (show (none : Option Int32) = some _ from hf)
    | succ n4 ih4 =>
      intro x1 x2 x3 ls hf hl
      have hf : f_X6_creditOf_l4_body (f_X6_creditOf_l4 n4) x1 x2 x3 w = _ := hf
      unfold f_X6_creditOf_l4_body at hf
      refine lv_iload_n hx hb dX6_creditOf_4 rfl (lv_at hl 3 rfl) ?_
      refine lv_bipush (v := 12) hx hb dX6_creditOf_5 (by decide) ?_
      refine lv_icmp_ge (tgt := 44) hx hb dX6_creditOf_7 (by decide) (fun c1 => ?_) (fun c1 => ?_)
      · have hf := if_t c1 hf
        refine lv_iload_n hx hb dX6_creditOf_44 rfl (lv_at hl 2 rfl) ?_
        cases hf
        exact rr_i X.1 hr hlocks dX6_creditOf_45
      · have hf := if_f c1 hf
        refine lv_iload_n hx hb dX6_creditOf_10 rfl (lv_at hl 2 rfl) ?_
        refine lv_aload_n hx hb dX6_creditOf_11 rfl (lv_at hl 0 rfl) ?_
        refine GC_2_0 X h k_X6_29 dX6_creditOf_12 ?_
        refine lv_iload_n hx hb dX6_creditOf_15 rfl (lv_at hl 1 rfl) ?_
        refine lv_iload_n hx hb dX6_creditOf_16 rfl (lv_at hl 3 rfl) ?_
        obtain ⟨y2, ey2, hf⟩ := bnd_some hf
        refine k_X6_creditCell X.1 ey2 k_X6_37 dX6_creditOf_17 hl.1 ⟨(Nat.le_of_ble_eq_true rfl), (Nat.le_of_ble_eq_true rfl)⟩ (Nat.le_of_ble_eq_true rfl) ⟨Nat.zero_le _, Nat.zero_le _⟩ ?_
        obtain ⟨y3, ey3, hf⟩ := bnd_some hf
        refine k_X1_get X h ey3 k_X6_41 dX6_creditOf_20 hl.1 ⟨(Nat.le_of_ble_eq_true rfl), (Nat.le_of_ble_eq_true rfl)⟩ (Nat.le_of_ble_eq_true rfl) ⟨Nat.zero_le _, Nat.zero_le _⟩ ?_
        refine lv_aload_n hx hb dX6_creditOf_23 rfl (lv_at hl 0 rfl) ?_
        refine GC_2_0 X h k_X6_29 dX6_creditOf_24 ?_
        refine lv_sipush (v := 8420) hx hb dX6_creditOf_27 (by decide) ?_
        refine lv_iload_n hx hb dX6_creditOf_30 rfl (lv_at hl 3 rfl) ?_
        refine lv_iadd hx hb dX6_creditOf_31 ?_
        obtain ⟨y4, ey4, hf⟩ := bnd_some hf
        refine k_X1_get X h ey4 k_X6_41 dX6_creditOf_32 hl.1 ⟨(Nat.le_of_ble_eq_true rfl), (Nat.le_of_ble_eq_true rfl)⟩ (Nat.le_of_ble_eq_true rfl) ⟨Nat.zero_le _, Nat.zero_le _⟩ ?_
        refine lv_imul hx hb dX6_creditOf_35 ?_
        refine lv_iadd hx hb dX6_creditOf_36 ?_
        refine lv_istore_n (lv' := [(2, .int (x2 + (y3 * y4))), (0, .ref (gq G 2)), (1, .int x1), (3, .int x3)]) hx hb dX6_creditOf_37 rfl hl (by decide) rfl (fun ls hl => ?_)
        refine lv_iinc (v := x3 + (1 : Int32)) (lv' := [(3, .int (x3 + (1 : Int32))), (2, .int (x2 + (y3 * y4))), (0, .ref (gq G 2)), (1, .int x1)]) hx hb dX6_creditOf_38 hl (k := 3) rfl (by rfl) (by decide) rfl (fun ls hl => ?_)
        refine lv_goto (tgt := 4) hx hb dX6_creditOf_41 (by decide) ?_
        exact ih4 _ _ _ _ hf (lv_sub hl [2, 3, 1, 0] rfl)
  have hl : lv_has ls 4 [(0, .ref (gq G 2)), (1, .int x1)] := hl
  unfold f_X6_creditOf at hf
  refine lv_iconst (v := 0) hx hb dX6_creditOf_0 (by decide) ?_
  refine lv_istore_n (lv' := [(2, .int ((0 : Int32))), (0, .ref (gq G 2)), (1, .int x1)]) hx hb dX6_creditOf_1 rfl hl (by decide) rfl (fun ls hl => ?_)
  refine lv_iconst (v := 0) hx hb dX6_creditOf_2 (by decide) ?_
  refine lv_istore_n (lv' := [(3, .int ((0 : Int32))), (2, .int ((0 : Int32))), (0, .ref (gq G 2)), (1, .int x1)]) hx hb dX6_creditOf_3 rfl hl (by decide) rfl (fun ls hl => ?_)
  exact L4 FU _ _ _ _ hf (lv_sub hl [2, 3, 1, 0] rfl)
theorem m_X6_creditOf : Cond.instanceMethod yX6_creditOf ∈ lw_good ∧ Cond.selects RX6 yX6_creditOf yX6_creditOf ∈ lw_good ∧ Cond.initialized RX6 ∈ lw_good ∧ Cond.code yX6_creditOf cX6_creditOf 4 (some .int) ∈ lw_good := by decide +kernel
theorem k_X6_creditOf {p : Program} {l : Launch} {e : Env} {R : Room} {s : State} {m : MethodId} {args : Array Value} {below : List Frame} {meth : Method} {c : Code} {H : Heap} {locs : List Loc} {cells slots : Nat} {Q : State → Prop} {cc : ByteArray} {nL pc idx : Nat} {ls : Array Slot} {rest : List Value} {own : String} {G : Gm} {A : Nat → Prop} {H0 : Heap} {la : Nat} {w : CW} {x1 : Int32} {r : Int32} (X : CX own cc nL G p s m args c) (h : CH G (cw G la w) A H0 H locs) (hf : f_X6_creditOf x1 w = some r) (hlk : Cond.methodLink own idx yX6_creditOf ∈ lw_good) (hd : decode cc pc = .ok (.invokevirtual idx, 3)) (hsz : ls.size = nL) (hR : 2 ≤ R.frames ∧ 44 ≤ R.locals) (hrest : (rest.map fun v => v.category).sum ≤ 8) (hk : cells ≤ R.cells ∧ slots ≤ R.slots) (k : W p l e R s m args below meth c H locs cells slots Q (F0 m (pc + 3) ls (.int r :: rest))) : W p l e R s m args below meth c H locs cells slots Q (F0 m pc ls (.int x1 :: .ref (gq G 2) :: rest)) :=
  fin_r (runV (As := [.int x1]) X.1 1 (t_X6_creditOf l G la w x1 r hf) rfl rfl hlk m_X6_creditOf (by decide +kernel) ⟨hR.1, hR.2⟩ ⟨blindR, va_recv X.2.1 h.1 (ci := 5) (q0 := 2) rfl rfl, preR X.2 h⟩ rfl hsz hrest hd hk) k
def f_X9_remove_l70_body (kself : (Int32 → Int32 → Int32 → CW → Option ((Int32 × CW) × Nat))) (x1 : Int32) (x2 : Int32) (x3 : Int32) (w : CW) : Option ((Int32 × CW) × Nat) :=
 if ((78 : Int32)) ≤ x3 then
 (some ((x2, w), 0))
 else
 (bnc (f_X9_write x1 x3 ((0 : Int32)) w) fun y2 =>
 kself x1 x2 (x3 + (1 : Int32)) y2)
def f_X9_remove_l70 : Nat → Int32 → Int32 → Int32 → CW → Option ((Int32 × CW) × Nat)
  | 0, _, _, _, _ => none
  | n + 1, x1, x2, x3, w => f_X9_remove_l70_body (f_X9_remove_l70 n) x1 x2 x3 w
def f_X9_remove_b52 (w : CW) : Option ((Int32 × CW) × Nat) :=
 (f_X9_found ((7 : Int32)) w).bind fun y3 =>
 some ((y3.1, y3.2), 0)
def f_X9_remove (x1 : Int32) (w : CW) : Option ((Int32 × CW) × Nat) :=
 (f_X9_isPlace x1).bind fun y4 =>
 if y4 = 0 then
 (some (((-1 : Int32), w), 0))
 else
 ((f_X9_hasMachine x1 w).bind fun y6 =>
 if y6 = 0 then
 ((f_X9_found ((1 : Int32)) w).bind fun y15 =>
 some ((y15.1, y15.2), 0))
 else
 ((f_X9_read x1 ((9 : Int32)) w).bind fun y8 =>
 if 0 < y8 then
 (f_X9_remove_b52 w)
 else
 ((f_X9_hasRun x1 w).bind fun y10 =>
 if y10 = 0 then
 ((f_X6_creditOf x1 w).bind fun y12 =>
 if y12 ≤ 0 then
 ((f_X9_read x1 ((0 : Int32)) w).bind fun y14 =>
 f_X9_remove_l70 FU x1 (y14 - ((1 : Int32))) ((0 : Int32)) w)
 else
 (f_X9_remove_b52 w))
 else
 (f_X9_remove_b52 w))))
set_option maxHeartbeats 4000000 in
set_option maxRecDepth 100000 in
theorem t_X9_remove (l : Launch) (G : Gm) (la0 : Nat) (w0 : CW) (x1 : Int32) (r : Int32) (w' : CW) (N : Nat) (hf : f_X9_remove x1 w0 = some ((r, w'), N)) : MetI l yX9_remove cX9_remove 4 (some .int) 5 136 G (cw G la0 w0) [.ref (gq G 0), .int x1] r (fun u => cw G u w') N := by
  intro sz
  refine ent (own := RX9) (As := [.ref (gq G 0), .int x1]) (by decide +kernel) rfl (Nat.le_of_ble_eq_true rfl) (fun _ _ h => h.1) ?_
  intro p e s m args below meth c ls B hr hlocks hv hl
  obtain ⟨-, hsz, hP, hKK, hD⟩ := hv
  subst hsz
  have X : CX RX9 cX9_remove 4 G p s m args c := ⟨B, hKK⟩
  obtain ⟨hx, hb, hml, hown, hts⟩ := id B
  have hA : ∀ q : Nat, s.heap.size ≤ q → va_A (cw G la0 w0) s.heap.size q := fun q z => Or.inr z
  have h : CH G (cw G la0 w0) (va_A (cw G la0 w0) s.heap.size) s.heap s.heap [] := ⟨hP, hD.self, va_S.rf⟩
  have hc : 0 + N = N := Nat.zero_add N
  have L70 : ∀ (n70 : Nat) (x1 : Int32) (x2 : Int32) (x3 : Int32) (w : CW) (la : Nat) (H : Heap) (locs : List Loc) (ls : Array Slot) (k n : Nat), f_X9_remove_l70 n70 x1 x2 x3 w = some ((r, w'), n) → CH G (cw G la w) (va_A (cw G la0 w0) s.heap.size) s.heap H locs → lv_has ls 4 [(0, .ref (gq G 0)), (1, .int x1), (2, .int x2), (3, .int x3)] → k + n = N → W p l e { frames := 5, cells := N, slots := 4096 * N, locals := 136 } s m args below meth c H locs k (4096 * k) (MQ below (QI G (cw G la0 w0) s.heap.size r (fun u => cw G u w')) args s N (4096 * N) (va_A (cw G la0 w0) s.heap.size)) (F0 m 70 ls []) := by
    intro n70
    induction n70 with
    | zero =>
      intro x1 x2 x3 w la H locs ls k n hf h hl hc
      cases (show (none : Option ((Int32 × CW) × Nat)) = some _ from hf)
    | succ n70 ih70 =>
      intro x1 x2 x3 w la H locs ls k n hf h hl hc
      have hf : f_X9_remove_l70_body (f_X9_remove_l70 n70) x1 x2 x3 w = _ := hf
      unfold f_X9_remove_l70_body at hf
      refine lv_iload_n hx hb dX9_remove_70 rfl (lv_at hl 3 rfl) ?_
      refine lv_bipush (v := 78) hx hb dX9_remove_71 (by decide) ?_
      refine lv_icmp_ge (tgt := 89) hx hb dX9_remove_73 (by decide) (fun c1 => ?_) (fun c1 => ?_)
      · have hf := if_t c1 hf
        refine lv_iload_n hx hb dX9_remove_89 rfl (lv_at hl 2 rfl) ?_
        exact e1_i X.1 hr hlocks hf h hc dX9_remove_90
      · have hf := if_f c1 hf
        refine lv_aload_n hx hb dX9_remove_76 rfl (lv_at hl 0 rfl) ?_
        refine lv_iload_n hx hb dX9_remove_77 rfl (lv_at hl 1 rfl) ?_
        refine lv_iload_n hx hb dX9_remove_78 rfl (lv_at hl 3 rfl) ?_
        refine lv_iconst (v := 0) hx hb dX9_remove_79 (by decide) ?_
        obtain ⟨y2, ny2, my2, ey2, hf, jy2⟩ := bnc_some hf
        refine k_X9_write X h hA ey2 k_X9_99 dX9_remove_80 hl.1 ⟨(Nat.le_of_ble_eq_true rfl), (Nat.le_of_ble_eq_true rfl)⟩ (Nat.le_of_ble_eq_true rfl) (rmm1 hc jy2) (fun la H locs h => ?_)
        have hc := rmm2 hc jy2
        refine lv_iinc (v := x3 + (1 : Int32)) (lv' := [(3, .int (x3 + (1 : Int32))), (0, .ref (gq G 0)), (1, .int x1), (2, .int x2)]) hx hb dX9_remove_83 hl (k := 3) rfl (by rfl) (by decide) rfl (fun ls hl => ?_)
        refine lv_goto (tgt := 70) hx hb dX9_remove_86 (by decide) ?_
        exact ih70 _ _ _ _ _ _ _ _ _ _ hf h (lv_sub hl [1, 2, 3, 0] rfl) hc
  have J52 : ∀ (w : CW) (la : Nat) (H : Heap) (locs : List Loc) (ls : Array Slot) (k n : Nat), f_X9_remove_b52 w = some ((r, w'), n) → CH G (cw G la w) (va_A (cw G la0 w0) s.heap.size) s.heap H locs → lv_has ls 4 [(0, .ref (gq G 0))] → k + n = N → W p l e { frames := 5, cells := N, slots := 4096 * N, locals := 136 } s m args below meth c H locs k (4096 * k) (MQ below (QI G (cw G la0 w0) s.heap.size r (fun u => cw G u w')) args s N (4096 * N) (va_A (cw G la0 w0) s.heap.size)) (F0 m 52 ls []) := by
    intro w la H locs ls k n hf h hl hc
    unfold f_X9_remove_b52 at hf
    refine lv_aload_n hx hb dX9_remove_52 rfl (lv_at hl 0 rfl) ?_
    refine lv_bipush (v := 7) hx hb dX9_remove_53 (by decide) ?_
    obtain ⟨y3, ey3, hf⟩ := bnd_some hf
    refine k_X9_found X h hA ey3 k_X9_103 dX9_remove_55 hl.1 ⟨(Nat.le_of_ble_eq_true rfl), (Nat.le_of_ble_eq_true rfl)⟩ (Nat.le_of_ble_eq_true rfl) (rmm0 hc) (fun H locs h => ?_)
    exact e1_i X.1 hr hlocks hf h hc dX9_remove_58
  obtain ⟨la, rfl⟩ : ∃ z, z = la0 := ⟨_, rfl⟩
  obtain ⟨w, rfl⟩ : ∃ z, z = w0 := ⟨_, rfl⟩
  have hl : lv_has ls 4 [(0, .ref (gq G 0)), (1, .int x1)] := hl
  unfold f_X9_remove at hf
  refine wid0 ?_
  refine lv_iload_n hx hb dX9_remove_0 rfl (lv_at hl 1 rfl) ?_
  obtain ⟨y4, ey4, hf⟩ := bnd_some hf
  refine k_X9_isPlace X.1 ey4 k_X9_88 dX9_remove_1 hl.1 ⟨(Nat.le_of_ble_eq_true rfl), (Nat.le_of_ble_eq_true rfl)⟩ (Nat.le_of_ble_eq_true rfl) (rmm0 hc) ?_
  refine lv_if_ne (tgt := 9) hx hb dX9_remove_4 (by decide) (fun c5 => ?_) (fun c5 => ?_)
  · have hf := if_f c5 hf
    refine lv_aload_n hx hb dX9_remove_9 rfl (lv_at hl 0 rfl) ?_
    refine lv_iload_n hx hb dX9_remove_10 rfl (lv_at hl 1 rfl) ?_
    obtain ⟨y6, ey6, hf⟩ := bnd_some hf
    refine k_X9_hasMachine X h ey6 k_X9_96 dX9_remove_11 hl.1 ⟨(Nat.le_of_ble_eq_true rfl), (Nat.le_of_ble_eq_true rfl)⟩ (Nat.le_of_ble_eq_true rfl) (rmm0 hc) ?_
    refine lv_if_ne (tgt := 23) hx hb dX9_remove_14 (by decide) (fun c7 => ?_) (fun c7 => ?_)
    · have hf := if_f c7 hf
      refine lv_aload_n hx hb dX9_remove_23 rfl (lv_at hl 0 rfl) ?_
      refine lv_iload_n hx hb dX9_remove_24 rfl (lv_at hl 1 rfl) ?_
      refine lv_bipush (v := 9) hx hb dX9_remove_25 (by decide) ?_
      obtain ⟨y8, ey8, hf⟩ := bnd_some hf
      refine k_X9_read X h ey8 k_X9_110 dX9_remove_27 hl.1 ⟨(Nat.le_of_ble_eq_true rfl), (Nat.le_of_ble_eq_true rfl)⟩ (Nat.le_of_ble_eq_true rfl) (rmm0 hc) ?_
      refine lv_if_gt (tgt := 52) hx hb dX9_remove_30 (by decide) (fun c9 => ?_) (fun c9 => ?_)
      · have hf := if_t c9 hf
        exact J52 _ _ _ _ _ _ _ hf h (lv_sub hl [0] rfl) hc
      · have hf := if_f c9 hf
        refine lv_aload_n hx hb dX9_remove_33 rfl (lv_at hl 0 rfl) ?_
        refine lv_iload_n hx hb dX9_remove_34 rfl (lv_at hl 1 rfl) ?_
        obtain ⟨y10, ey10, hf⟩ := bnd_some hf
        refine k_X9_hasRun X h ey10 k_X9_114 dX9_remove_35 hl.1 ⟨(Nat.le_of_ble_eq_true rfl), (Nat.le_of_ble_eq_true rfl)⟩ (Nat.le_of_ble_eq_true rfl) (rmm0 hc) ?_
        refine lv_if_ne (tgt := 52) hx hb dX9_remove_38 (by decide) (fun c11 => ?_) (fun c11 => ?_)
        · have hf := if_f c11 hf
          exact J52 _ _ _ _ _ _ _ hf h (lv_sub hl [0] rfl) hc
        · have hf := if_t c11 hf
          refine lv_aload_n hx hb dX9_remove_41 rfl (lv_at hl 0 rfl) ?_
          refine GC_0_1 X h k_X9_21 dX9_remove_42 ?_
          refine lv_iload_n hx hb dX9_remove_45 rfl (lv_at hl 1 rfl) ?_
          obtain ⟨y12, ey12, hf⟩ := bnd_some hf
          refine k_X6_creditOf X h ey12 k_X9_117 dX9_remove_46 hl.1 ⟨(Nat.le_of_ble_eq_true rfl), (Nat.le_of_ble_eq_true rfl)⟩ (Nat.le_of_ble_eq_true rfl) (rmm0 hc) ?_
          refine lv_if_le (tgt := 59) hx hb dX9_remove_49 (by decide) (fun c13 => ?_) (fun c13 => ?_)
          · have hf := if_t c13 hf
            refine lv_aload_n hx hb dX9_remove_59 rfl (lv_at hl 0 rfl) ?_
            refine lv_iload_n hx hb dX9_remove_60 rfl (lv_at hl 1 rfl) ?_
            refine lv_iconst (v := 0) hx hb dX9_remove_61 (by decide) ?_
            obtain ⟨y14, ey14, hf⟩ := bnd_some hf
            refine k_X9_read X h ey14 k_X9_110 dX9_remove_62 hl.1 ⟨(Nat.le_of_ble_eq_true rfl), (Nat.le_of_ble_eq_true rfl)⟩ (Nat.le_of_ble_eq_true rfl) (rmm0 hc) ?_
            refine lv_iconst (v := 1) hx hb dX9_remove_65 (by decide) ?_
            refine lv_isub hx hb dX9_remove_66 ?_
            refine lv_istore_n (lv' := [(2, .int (y14 - ((1 : Int32)))), (0, .ref (gq G 0)), (1, .int x1)]) hx hb dX9_remove_67 rfl hl (by decide) rfl (fun ls hl => ?_)
            refine lv_iconst (v := 0) hx hb dX9_remove_68 (by decide) ?_
            refine lv_istore_n (lv' := [(3, .int ((0 : Int32))), (2, .int (y14 - ((1 : Int32)))), (0, .ref (gq G 0)), (1, .int x1)]) hx hb dX9_remove_69 rfl hl (by decide) rfl (fun ls hl => ?_)
            exact L70 FU _ _ _ _ _ _ _ _ _ _ hf h (lv_sub hl [2, 3, 1, 0] rfl) hc
          · have hf := if_f c13 hf
            exact J52 _ _ _ _ _ _ _ hf h (lv_sub hl [0] rfl) hc
    · have hf := if_t c7 hf
      refine lv_aload_n hx hb dX9_remove_17 rfl (lv_at hl 0 rfl) ?_
      refine lv_iconst (v := 1) hx hb dX9_remove_18 (by decide) ?_
      obtain ⟨y15, ey15, hf⟩ := bnd_some hf
      refine k_X9_found X h hA ey15 k_X9_103 dX9_remove_19 hl.1 ⟨(Nat.le_of_ble_eq_true rfl), (Nat.le_of_ble_eq_true rfl)⟩ (Nat.le_of_ble_eq_true rfl) (rmm0 hc) (fun H locs h => ?_)
      exact e1_i X.1 hr hlocks hf h hc dX9_remove_22
  · have hf := if_t c5 hf
    refine lv_iconst (v := (-1)) hx hb dX9_remove_7 (by decide) ?_
    exact e1_i X.1 hr hlocks hf h hc dX9_remove_8
theorem m_X9_remove : Cond.instanceMethod yX9_remove ∈ lw_good ∧ Cond.selects RX9 yX9_remove yX9_remove ∈ lw_good ∧ Cond.initialized RX9 ∈ lw_good ∧ Cond.code yX9_remove cX9_remove 4 (some .int) ∈ lw_good := by decide +kernel
theorem k_X9_remove {p : Program} {l : Launch} {e : Env} {R : Room} {s : State} {m : MethodId} {args : Array Value} {below : List Frame} {meth : Method} {c : Code} {H : Heap} {locs : List Loc} {cells : Nat} {Q : State → Prop} {cc : ByteArray} {nL pc idx : Nat} {ls : Array Slot} {rest : List Value} {own : String} {G : Gm} {A : Nat → Prop} {H0 : Heap} {la : Nat} {w : CW} {x1 : Int32} {y : Int32 × CW} {n : Nat} (X : CX own cc nL G p s m args c) (h : CH G (cw G la w) A H0 H locs) (hA : ∀ q, H0.size ≤ q → A q) (hf : f_X9_remove x1 w = some (y, n)) (hlk : Cond.methodLink own idx yX9_remove ∈ lw_good) (hd : decode cc pc = .ok (.invokevirtual idx, 3)) (hsz : ls.size = nL) (hR : 6 ≤ R.frames ∧ 159 ≤ R.locals) (hrest : (rest.map fun v => v.category).sum ≤ 8) (hk : cells + n ≤ R.cells ∧ 4096 * cells + 4096 * n ≤ R.slots) (k : ∀ (la : Nat) (H : Heap) (locs : List Loc), CH G (cw G la y.2) A H0 H locs → W p l e R s m args below meth c H locs (cells + n) (4096 * (cells + n)) Q (F0 m (pc + 3) ls (.int y.1 :: rest))) : W p l e R s m args below meth c H locs cells (4096 * cells) Q (F0 m pc ls (.int x1 :: .ref (gq G 0) :: rest)) :=
  fin_i (n := n) (runV (As := [.int x1]) X.1 1 (t_X9_remove l G la w x1 y.1 y.2 n hf _) rfl rfl hlk m_X9_remove (by decide +kernel) ⟨hR.1, hR.2⟩ ⟨blindM, va_recv X.2.1 h.1 (ci := 8) (q0 := 0) rfl rfl, preM X.2 h⟩ rfl hsz hrest hd hk) h hA (fun la H locs h => by rw [← Nat.mul_add]; exact k la H locs h)
def f_X9_roomOf_l4_body (kself : (Int32 → Int32 → Int32 → CW → Option Int32)) (x1 : Int32) (x2 : Int32) (x3 : Int32) (w : CW) : Option Int32 :=
 if ((6 : Int32)) ≤ x3 then
 (some x2)
 else
 ((f_X9_read x1 (((13 : Int32)) + x3) w).bind fun y2 =>
 kself x1 (x2 + y2) (x3 + (1 : Int32)) w)
def f_X9_roomOf_l4 : Nat → Int32 → Int32 → Int32 → CW → Option Int32
  | 0, _, _, _, _ => none
  | n + 1, x1, x2, x3, w => f_X9_roomOf_l4_body (f_X9_roomOf_l4 n) x1 x2 x3 w
def f_X9_roomOf (x1 : Int32) (w : CW) : Option Int32 :=
 f_X9_roomOf_l4 FU x1 ((0 : Int32)) ((0 : Int32)) w
set_option maxHeartbeats 4000000 in
set_option maxRecDepth 100000 in
theorem t_X9_roomOf (l : Launch) (G : Gm) (la : Nat) (w : CW) (x1 : Int32) (r : Int32) (hf : f_X9_roomOf x1 w = some r) : MetR l yX9_roomOf cX9_roomOf 4 (some .int) 2 43 G (cw G la w) [.ref (gq G 0), .int x1] (.int r) := by
  refine ent (own := RX9) (As := [.ref (gq G 0), .int x1]) (by decide +kernel) rfl (Nat.le_of_ble_eq_true rfl) (fun _ _ h => h.1) ?_
  intro p e s m args below meth c ls B hr hlocks hv hl
  obtain ⟨-, hP, hKK, hD⟩ := hv
  have X : CX RX9 cX9_roomOf 4 G p s m args c := ⟨B, hKK⟩
  obtain ⟨hx, hb, hml, hown, hts⟩ := id B
  have h : CH G (cw G la w) (fun _ => True) s.heap s.heap [] := ⟨hP, hD, va_S.rf⟩
  have L4 : ∀ (n4 : Nat) (x1 : Int32) (x2 : Int32) (x3 : Int32) (ls : Array Slot), f_X9_roomOf_l4 n4 x1 x2 x3 w = some r → lv_has ls 4 [(0, .ref (gq G 0)), (1, .int x1), (2, .int x2), (3, .int x3)] → W p l e { frames := 2, cells := 0, slots := 0, locals := 43 } s m args below meth c s.heap [] 0 0 (MQ below (QcV (.int r)) args s 0 0 (fun _ => False)) (F0 m 4 ls []) := by
    intro n4
    induction n4 with
    | zero =>
      intro x1 x2 x3 ls hf hl
      cases (show (none : Option Int32) = some _ from hf)
    | succ n4 ih4 =>
      intro x1 x2 x3 ls hf hl
      have hf : f_X9_roomOf_l4_body (f_X9_roomOf_l4 n4) x1 x2 x3 w = _ := hf
      unfold f_X9_roomOf_l4_body at hf
      refine lv_iload_n hx hb dX9_roomOf_4 rfl (lv_at hl 3 rfl) ?_
      refine lv_bipush (v := 6) hx hb dX9_roomOf_5 (by decide) ?_
      refine lv_icmp_ge (tgt := 28) hx hb dX9_roomOf_7 (by decide) (fun c1 => ?_) (fun c1 => ?_)
      · have hf := if_t c1 hf
        refine lv_iload_n hx hb dX9_roomOf_28 rfl (lv_at hl 2 rfl) ?_
        cases hf
        exact rr_i X.1 hr hlocks dX9_roomOf_29
      · have hf := if_f c1 hf
        refine lv_iload_n hx hb dX9_roomOf_10 rfl (lv_at hl 2 rfl) ?_
        refine lv_aload_n hx hb dX9_roomOf_11 rfl (lv_at hl 0 rfl) ?_
        refine lv_iload_n hx hb dX9_roomOf_12 rfl (lv_at hl 1 rfl) ?_
        refine lv_bipush (v := 13) hx hb dX9_roomOf_13 (by decide) ?_
        refine lv_iload_n hx hb dX9_roomOf_15 rfl (lv_at hl 3 rfl) ?_
        refine lv_iadd hx hb dX9_roomOf_16 ?_
        obtain ⟨y2, ey2, hf⟩ := bnd_some hf
        refine k_X9_read X h ey2 k_X9_110 dX9_roomOf_17 hl.1 ⟨(Nat.le_of_ble_eq_true rfl), (Nat.le_of_ble_eq_true rfl)⟩ (Nat.le_of_ble_eq_true rfl) ⟨Nat.zero_le _, Nat.zero_le _⟩ ?_
        refine lv_iadd hx hb dX9_roomOf_20 ?_
        refine lv_istore_n (lv' := [(2, .int (x2 + y2)), (0, .ref (gq G 0)), (1, .int x1), (3, .int x3)]) hx hb dX9_roomOf_21 rfl hl (by decide) rfl (fun ls hl => ?_)
        refine lv_iinc (v := x3 + (1 : Int32)) (lv' := [(3, .int (x3 + (1 : Int32))), (2, .int (x2 + y2)), (0, .ref (gq G 0)), (1, .int x1)]) hx hb dX9_roomOf_22 hl (k := 3) rfl (by rfl) (by decide) rfl (fun ls hl => ?_)
        refine lv_goto (tgt := 4) hx hb dX9_roomOf_25 (by decide) ?_
        exact ih4 _ _ _ _ hf (lv_sub hl [2, 3, 1, 0] rfl)
  have hl : lv_has ls 4 [(0, .ref (gq G 0)), (1, .int x1)] := hl
  unfold f_X9_roomOf at hf
  refine lv_iconst (v := 0) hx hb dX9_roomOf_0 (by decide) ?_
  refine lv_istore_n (lv' := [(2, .int ((0 : Int32))), (0, .ref (gq G 0)), (1, .int x1)]) hx hb dX9_roomOf_1 rfl hl (by decide) rfl (fun ls hl => ?_)
  refine lv_iconst (v := 0) hx hb dX9_roomOf_2 (by decide) ?_
  refine lv_istore_n (lv' := [(3, .int ((0 : Int32))), (2, .int ((0 : Int32))), (0, .ref (gq G 0)), (1, .int x1)]) hx hb dX9_roomOf_3 rfl hl (by decide) rfl (fun ls hl => ?_)
  exact L4 FU _ _ _ _ hf (lv_sub hl [2, 3, 1, 0] rfl)
theorem m_X9_roomOf : Cond.instanceMethod yX9_roomOf ∈ lw_good ∧ Cond.selects RX9 yX9_roomOf yX9_roomOf ∈ lw_good ∧ Cond.initialized RX9 ∈ lw_good ∧ Cond.code yX9_roomOf cX9_roomOf 4 (some .int) ∈ lw_good := by decide +kernel
theorem k_X9_roomOf {p : Program} {l : Launch} {e : Env} {R : Room} {s : State} {m : MethodId} {args : Array Value} {below : List Frame} {meth : Method} {c : Code} {H : Heap} {locs : List Loc} {cells slots : Nat} {Q : State → Prop} {cc : ByteArray} {nL pc idx : Nat} {ls : Array Slot} {rest : List Value} {own : String} {G : Gm} {A : Nat → Prop} {H0 : Heap} {la : Nat} {w : CW} {x1 : Int32} {r : Int32} (X : CX own cc nL G p s m args c) (h : CH G (cw G la w) A H0 H locs) (hf : f_X9_roomOf x1 w = some r) (hlk : Cond.methodLink own idx yX9_roomOf ∈ lw_good) (hd : decode cc pc = .ok (.invokevirtual idx, 3)) (hsz : ls.size = nL) (hR : 3 ≤ R.frames ∧ 66 ≤ R.locals) (hrest : (rest.map fun v => v.category).sum ≤ 8) (hk : cells ≤ R.cells ∧ slots ≤ R.slots) (k : W p l e R s m args below meth c H locs cells slots Q (F0 m (pc + 3) ls (.int r :: rest))) : W p l e R s m args below meth c H locs cells slots Q (F0 m pc ls (.int x1 :: .ref (gq G 0) :: rest)) :=
  fin_r (runV (As := [.int x1]) X.1 1 (t_X9_roomOf l G la w x1 r hf) rfl rfl hlk m_X9_roomOf (by decide +kernel) ⟨hR.1, hR.2⟩ ⟨blindR, va_recv X.2.1 h.1 (ci := 8) (q0 := 0) rfl rfl, preR X.2 h⟩ rfl hsz hrest hd hk) k
def f_X9_kindAt (x1 : Int32) (w : CW) : Option Nat :=
 (f_X9_read x1 ((0 : Int32)) w).bind fun y1 =>
 (f_X9_within (y1 - ((1 : Int32))) ((0 : Int32)) ((4 : Int32))).bind fun y2 =>
 if y2 = 0 then
 (chk (inb ((0 : Int32)) 5) (
 some (((0 : Int32)).toNatClampNeg)))
 else
 (chk (inb (y1 - ((1 : Int32))) 5) (
 some ((y1 - ((1 : Int32))).toNatClampNeg)))
set_option maxHeartbeats 4000000 in
set_option maxRecDepth 100000 in
theorem t_X9_kindAt (l : Launch) (G : Gm) (la : Nat) (w : CW) (x1 : Int32) (r : Nat) (hf : f_X9_kindAt x1 w = some r) : MetR l yX9_kindAt cX9_kindAt 3 (some (.object "WashHouse$Machine")) 2 43 G (cw G la w) [.ref (gq G 0), .int x1] (.ref (gq G (20 + r))) := by
  refine ent (own := RX9) (As := [.ref (gq G 0), .int x1]) (by decide +kernel) rfl (Nat.le_of_ble_eq_true rfl) (fun _ _ h => h.1) ?_
  intro p e s m args below meth c ls B hr hlocks hv hl
  obtain ⟨-, hP, hKK, hD⟩ := hv
  have X : CX RX9 cX9_kindAt 3 G p s m args c := ⟨B, hKK⟩
  obtain ⟨hx, hb, hml, hown, hts⟩ := id B
  have h : CH G (cw G la w) (fun _ => True) s.heap s.heap [] := ⟨hP, hD, va_S.rf⟩
  have hl : lv_has ls 3 [(0, .ref (gq G 0)), (1, .int x1)] := hl
  unfold f_X9_kindAt at hf
  refine lv_aload_n hx hb dX9_kindAt_0 rfl (lv_at hl 0 rfl) ?_
  refine lv_iload_n hx hb dX9_kindAt_1 rfl (lv_at hl 1 rfl) ?_
  refine lv_iconst (v := 0) hx hb dX9_kindAt_2 (by decide) ?_
  obtain ⟨y1, ey1, hf⟩ := bnd_some hf
  refine k_X9_read X h ey1 k_X9_110 dX9_kindAt_3 hl.1 ⟨(Nat.le_of_ble_eq_true rfl), (Nat.le_of_ble_eq_true rfl)⟩ (Nat.le_of_ble_eq_true rfl) ⟨Nat.zero_le _, Nat.zero_le _⟩ ?_
  refine lv_iconst (v := 1) hx hb dX9_kindAt_6 (by decide) ?_
  refine lv_isub hx hb dX9_kindAt_7 ?_
  refine lv_istore_n (lv' := [(2, .int (y1 - ((1 : Int32)))), (0, .ref (gq G 0)), (1, .int x1)]) hx hb dX9_kindAt_8 rfl hl (by decide) rfl (fun ls hl => ?_)
  refine lv_aload_n hx hb dX9_kindAt_9 rfl (lv_at hl 1 rfl) ?_
  refine GC_0_3 X h k_X9_51 dX9_kindAt_10 ?_
  refine lv_iload_n hx hb dX9_kindAt_13 rfl (lv_at hl 0 rfl) ?_
  refine lv_iconst (v := 0) hx hb dX9_kindAt_14 (by decide) ?_
  refine lv_iconst (v := 4) hx hb dX9_kindAt_15 (by decide) ?_
  obtain ⟨y2, ey2, hf⟩ := bnd_some hf
  refine k_X9_within X.1 ey2 k_X9_92 dX9_kindAt_16 hl.1 ⟨(Nat.le_of_ble_eq_true rfl), (Nat.le_of_ble_eq_true rfl)⟩ (Nat.le_of_ble_eq_true rfl) ⟨Nat.zero_le _, Nat.zero_le _⟩ ?_
  refine lv_if_eq (tgt := 26) hx hb dX9_kindAt_19 (by decide) (fun c3 => ?_) (fun c3 => ?_)
  · have hf := if_t c3 hf
    refine lv_iconst (v := 0) hx hb dX9_kindAt_26 (by decide) ?_
    obtain ⟨c4, hf⟩ := chk_some hf
    have qc4 := inb_lt c4
    refine AK X h c4 dX9_kindAt_27 ?_
    cases hf
    exact rr_a X.1 hr hlocks dX9_kindAt_28
  · have hf := if_f c3 hf
    refine lv_iload_n hx hb dX9_kindAt_22 rfl (lv_at hl 0 rfl) ?_
    refine lv_goto (tgt := 27) hx hb dX9_kindAt_23 (by decide) ?_
    obtain ⟨c5, hf⟩ := chk_some hf
    have qc5 := inb_lt c5
    refine AK X h c5 dX9_kindAt_27 ?_
    cases hf
    exact rr_a X.1 hr hlocks dX9_kindAt_28
theorem m_X9_kindAt : Cond.instanceMethod yX9_kindAt ∈ lw_good ∧ Cond.selects RX9 yX9_kindAt yX9_kindAt ∈ lw_good ∧ Cond.initialized RX9 ∈ lw_good ∧ Cond.code yX9_kindAt cX9_kindAt 3 (some (.object "WashHouse$Machine")) ∈ lw_good := by decide +kernel
theorem k_X9_kindAt {p : Program} {l : Launch} {e : Env} {R : Room} {s : State} {m : MethodId} {args : Array Value} {below : List Frame} {meth : Method} {c : Code} {H : Heap} {locs : List Loc} {cells slots : Nat} {Q : State → Prop} {cc : ByteArray} {nL pc idx : Nat} {ls : Array Slot} {rest : List Value} {own : String} {G : Gm} {A : Nat → Prop} {H0 : Heap} {la : Nat} {w : CW} {x1 : Int32} {r : Nat} (X : CX own cc nL G p s m args c) (h : CH G (cw G la w) A H0 H locs) (hf : f_X9_kindAt x1 w = some r) (hlk : Cond.methodLink own idx yX9_kindAt ∈ lw_good) (hd : decode cc pc = .ok (.invokevirtual idx, 3)) (hsz : ls.size = nL) (hR : 3 ≤ R.frames ∧ 65 ≤ R.locals) (hrest : (rest.map fun v => v.category).sum ≤ 8) (hk : cells ≤ R.cells ∧ slots ≤ R.slots) (k : W p l e R s m args below meth c H locs cells slots Q (F0 m (pc + 3) ls (.ref (gq G (20 + r)) :: rest))) : W p l e R s m args below meth c H locs cells slots Q (F0 m pc ls (.int x1 :: .ref (gq G 0) :: rest)) :=
  fin_r (runV (As := [.int x1]) X.1 1 (t_X9_kindAt l G la w x1 r hf) rfl rfl hlk m_X9_kindAt (by decide +kernel) ⟨hR.1, hR.2⟩ ⟨blindR, va_recv X.2.1 h.1 (ci := 8) (q0 := 0) rfl rfl, preR X.2 h⟩ rfl hsz hrest hd hk) k
def f_X9_told (x1 : Int32) (x2 : Int32) (w : CW) : Option (Int32 × CW) :=
 (f_X9_isPlace x1).bind fun y1 =>
 if y1 = 0 then
 (some ((-1 : Int32), w))
 else
 ((f_X9_within x2 ((0 : Int32)) ((12 : Int32))).bind fun y3 =>
 if y3 = 0 then
 (some ((-2 : Int32), w))
 else
 ((f_X9_hasMachine x1 w).bind fun y5 =>
 if y5 = 0 then
 ((f_X9_found ((1 : Int32)) w).bind fun y41 =>
 some (y41.1, y41.2))
 else
 (if x2 = (0 : Int32) then
 ((f_X9_read x1 ((0 : Int32)) w).bind fun y8 =>
 some (y8 - ((1 : Int32)), w))
 else
 (if x2 = (1 : Int32) then
 ((f_X9_roomOf x1 w).bind fun y10 =>
 some (y10, w))
 else
 (if x2 = (2 : Int32) then
 ((f_X9_read x1 ((1 : Int32)) w).bind fun y12 =>
 some (y12, w))
 else
 (if x2 = (3 : Int32) then
 ((f_X9_read x1 ((2 : Int32)) w).bind fun y14 =>
 some (y14, w))
 else
 (if x2 = (4 : Int32) then
 ((f_X9_read x1 ((3 : Int32)) w).bind fun y16 =>
 some (y16, w))
 else
 (if x2 = (5 : Int32) then
 ((f_X9_read x1 ((4 : Int32)) w).bind fun y18 =>
 some (y18, w))
 else
 (if x2 = (6 : Int32) then
 ((f_X9_read x1 ((9 : Int32)) w).bind fun y20 =>
 some (y20, w))
 else
 (if x2 = (7 : Int32) then
 ((f_X9_read x1 ((5 : Int32)) w).bind fun y22 =>
 some (y22, w))
 else
 (if x2 = (8 : Int32) then
 ((f_X9_read x1 ((8 : Int32)) w).bind fun y24 =>
 some (y24, w))
 else
 (if x2 = (9 : Int32) then
 ((f_X9_read x1 ((6 : Int32)) w).bind fun y26 =>
 some (y26, w))
 else
 (if x2 = (10 : Int32) then
 ((f_X9_kindAt x1 w).bind fun y28 =>
 chk (y28 < 5) (
 (fv_fills y28 w).bind fun y29 =>
 if y29 = 0 then
 (some ((0 : Int32), w))
 else
 (some ((1 : Int32), w))))
 else
 (if x2 = (11 : Int32) then
 ((f_X9_kindAt x1 w).bind fun y33 =>
 chk (y33 < 5) (
 (fv_turns y33 w).bind fun y34 =>
 if y34 = 0 then
 (some ((0 : Int32), w))
 else
 (some ((1 : Int32), w))))
 else
 ((f_X9_kindAt x1 w).bind fun y37 =>
 chk (y37 < 5) (
 (fv_warms y37 w).bind fun y38 =>
 if y38 = 0 then
 (some ((0 : Int32), w))
 else
 (some ((1 : Int32), w))))))))))))))))))
set_option maxHeartbeats 4000000 in
set_option maxRecDepth 100000 in
theorem t_X9_told (l : Launch) (G : Gm) (la : Nat) (w0 : CW) (x1 : Int32) (x2 : Int32) (r : Int32) (w' : CW) (hf : f_X9_told x1 x2 w0 = some (r, w')) : MetI l yX9_told cX9_told 3 (some .int) 3 66 G (cw G la w0) [.ref (gq G 0), .int x1, .int x2] r (fun _ => cw G la (w')) 0 := by
  intro sz
  refine ent (own := RX9) (As := [.ref (gq G 0), .int x1, .int x2]) (by decide +kernel) rfl (Nat.le_of_ble_eq_true rfl) (fun _ _ h => h.1) ?_
  intro p e s m args below meth c ls B hr hlocks hv hl
  obtain ⟨-, hsz, hP, hKK, hD⟩ := hv
  subst hsz
  have X : CX RX9 cX9_told 3 G p s m args c := ⟨B, hKK⟩
  obtain ⟨hx, hb, hml, hown, hts⟩ := id B
  have hA : ∀ q : Nat, s.heap.size ≤ q → va_A (cw G la w0) s.heap.size q := fun q z => Or.inr z
  have h : CH G (cw G la w0) (va_A (cw G la w0) s.heap.size) s.heap s.heap [] := ⟨hP, hD.self, va_S.rf⟩
  obtain ⟨w, rfl⟩ : ∃ z, z = w0 := ⟨_, rfl⟩
  have hl : lv_has ls 3 [(0, .ref (gq G 0)), (1, .int x1), (2, .int x2)] := hl
  unfold f_X9_told at hf
  refine lv_iload_n hx hb dX9_told_0 rfl (lv_at hl 1 rfl) ?_
  obtain ⟨y1, ey1, hf⟩ := bnd_some hf
  refine k_X9_isPlace X.1 ey1 k_X9_88 dX9_told_1 hl.1 ⟨(Nat.le_of_ble_eq_true rfl), (Nat.le_of_ble_eq_true rfl)⟩ (Nat.le_of_ble_eq_true rfl) ⟨Nat.zero_le _, Nat.zero_le _⟩ ?_
  refine lv_if_ne (tgt := 9) hx hb dX9_told_4 (by decide) (fun c2 => ?_) (fun c2 => ?_)
  · have hf := if_f c2 hf
    refine lv_iload_n hx hb dX9_told_9 rfl (lv_at hl 2 rfl) ?_
    refine lv_iconst (v := 0) hx hb dX9_told_10 (by decide) ?_
    refine lv_bipush (v := 12) hx hb dX9_told_11 (by decide) ?_
    obtain ⟨y3, ey3, hf⟩ := bnd_some hf
    refine k_X9_within X.1 ey3 k_X9_92 dX9_told_13 hl.1 ⟨(Nat.le_of_ble_eq_true rfl), (Nat.le_of_ble_eq_true rfl)⟩ (Nat.le_of_ble_eq_true rfl) ⟨Nat.zero_le _, Nat.zero_le _⟩ ?_
    refine lv_if_ne (tgt := 22) hx hb dX9_told_16 (by decide) (fun c4 => ?_) (fun c4 => ?_)
    · have hf := if_f c4 hf
      refine lv_aload_n hx hb dX9_told_22 rfl (lv_at hl 0 rfl) ?_
      refine lv_iload_n hx hb dX9_told_23 rfl (lv_at hl 1 rfl) ?_
      obtain ⟨y5, ey5, hf⟩ := bnd_some hf
      refine k_X9_hasMachine X h ey5 k_X9_96 dX9_told_24 hl.1 ⟨(Nat.le_of_ble_eq_true rfl), (Nat.le_of_ble_eq_true rfl)⟩ (Nat.le_of_ble_eq_true rfl) ⟨Nat.zero_le _, Nat.zero_le _⟩ ?_
      refine lv_if_ne (tgt := 36) hx hb dX9_told_27 (by decide) (fun c6 => ?_) (fun c6 => ?_)
      · have hf := if_f c6 hf
        refine lv_iload_n hx hb dX9_told_36 rfl (lv_at hl 2 rfl) ?_
        by_cases c7 : x2 = (0 : Int32)
        · have hf := if_t c7 hf
          refine lv_tableIn (tgt := 100) hx hb dX9_told_37 (by rw [c7]; decide) (by rw [c7]; decide) (by rw [c7]; rfl) (by decide) ?_
          refine lv_aload_n hx hb dX9_told_100 rfl (lv_at hl 0 rfl) ?_
          refine lv_iload_n hx hb dX9_told_101 rfl (lv_at hl 1 rfl) ?_
          refine lv_iconst (v := 0) hx hb dX9_told_102 (by decide) ?_
          obtain ⟨y8, ey8, hf⟩ := bnd_some hf
          refine k_X9_read X h ey8 k_X9_110 dX9_told_103 hl.1 ⟨(Nat.le_of_ble_eq_true rfl), (Nat.le_of_ble_eq_true rfl)⟩ (Nat.le_of_ble_eq_true rfl) ⟨Nat.zero_le _, Nat.zero_le _⟩ ?_
          refine lv_iconst (v := 1) hx hb dX9_told_106 (by decide) ?_
          refine lv_isub hx hb dX9_told_107 ?_
          exact e0_i (Wf := cw G la) X.1 hr hlocks hf h dX9_told_108
        · have hf := if_f c7 hf
          have nc7 := lv_neT (a := 0) c7 (by decide)
          by_cases c9 : x2 = (1 : Int32)
          · have hf := if_t c9 hf
            refine lv_tableIn (tgt := 109) hx hb dX9_told_37 (by rw [c9]; decide) (by rw [c9]; decide) (by rw [c9]; rfl) (by decide) ?_
            refine lv_aload_n hx hb dX9_told_109 rfl (lv_at hl 0 rfl) ?_
            refine lv_iload_n hx hb dX9_told_110 rfl (lv_at hl 1 rfl) ?_
            obtain ⟨y10, ey10, hf⟩ := bnd_some hf
            refine k_X9_roomOf X h ey10 k_X9_120 dX9_told_111 hl.1 ⟨(Nat.le_of_ble_eq_true rfl), (Nat.le_of_ble_eq_true rfl)⟩ (Nat.le_of_ble_eq_true rfl) ⟨Nat.zero_le _, Nat.zero_le _⟩ ?_
            exact e0_i (Wf := cw G la) X.1 hr hlocks hf h dX9_told_114
          · have hf := if_f c9 hf
            have nc9 := lv_neT (a := 1) c9 (by decide)
            by_cases c11 : x2 = (2 : Int32)
            · have hf := if_t c11 hf
              refine lv_tableIn (tgt := 115) hx hb dX9_told_37 (by rw [c11]; decide) (by rw [c11]; decide) (by rw [c11]; rfl) (by decide) ?_
              refine lv_aload_n hx hb dX9_told_115 rfl (lv_at hl 0 rfl) ?_
              refine lv_iload_n hx hb dX9_told_116 rfl (lv_at hl 1 rfl) ?_
              refine lv_iconst (v := 1) hx hb dX9_told_117 (by decide) ?_
              obtain ⟨y12, ey12, hf⟩ := bnd_some hf
              refine k_X9_read X h ey12 k_X9_110 dX9_told_118 hl.1 ⟨(Nat.le_of_ble_eq_true rfl), (Nat.le_of_ble_eq_true rfl)⟩ (Nat.le_of_ble_eq_true rfl) ⟨Nat.zero_le _, Nat.zero_le _⟩ ?_
              exact e0_i (Wf := cw G la) X.1 hr hlocks hf h dX9_told_121
            · have hf := if_f c11 hf
              have nc11 := lv_neT (a := 2) c11 (by decide)
              by_cases c13 : x2 = (3 : Int32)
              · have hf := if_t c13 hf
                refine lv_tableIn (tgt := 122) hx hb dX9_told_37 (by rw [c13]; decide) (by rw [c13]; decide) (by rw [c13]; rfl) (by decide) ?_
                refine lv_aload_n hx hb dX9_told_122 rfl (lv_at hl 0 rfl) ?_
                refine lv_iload_n hx hb dX9_told_123 rfl (lv_at hl 1 rfl) ?_
                refine lv_iconst (v := 2) hx hb dX9_told_124 (by decide) ?_
                obtain ⟨y14, ey14, hf⟩ := bnd_some hf
                refine k_X9_read X h ey14 k_X9_110 dX9_told_125 hl.1 ⟨(Nat.le_of_ble_eq_true rfl), (Nat.le_of_ble_eq_true rfl)⟩ (Nat.le_of_ble_eq_true rfl) ⟨Nat.zero_le _, Nat.zero_le _⟩ ?_
                exact e0_i (Wf := cw G la) X.1 hr hlocks hf h dX9_told_128
              · have hf := if_f c13 hf
                have nc13 := lv_neT (a := 3) c13 (by decide)
                by_cases c15 : x2 = (4 : Int32)
                · have hf := if_t c15 hf
                  refine lv_tableIn (tgt := 129) hx hb dX9_told_37 (by rw [c15]; decide) (by rw [c15]; decide) (by rw [c15]; rfl) (by decide) ?_
                  refine lv_aload_n hx hb dX9_told_129 rfl (lv_at hl 0 rfl) ?_
                  refine lv_iload_n hx hb dX9_told_130 rfl (lv_at hl 1 rfl) ?_
                  refine lv_iconst (v := 3) hx hb dX9_told_131 (by decide) ?_
                  obtain ⟨y16, ey16, hf⟩ := bnd_some hf
                  refine k_X9_read X h ey16 k_X9_110 dX9_told_132 hl.1 ⟨(Nat.le_of_ble_eq_true rfl), (Nat.le_of_ble_eq_true rfl)⟩ (Nat.le_of_ble_eq_true rfl) ⟨Nat.zero_le _, Nat.zero_le _⟩ ?_
                  exact e0_i (Wf := cw G la) X.1 hr hlocks hf h dX9_told_135
                · have hf := if_f c15 hf
                  have nc15 := lv_neT (a := 4) c15 (by decide)
                  by_cases c17 : x2 = (5 : Int32)
                  · have hf := if_t c17 hf
                    refine lv_tableIn (tgt := 136) hx hb dX9_told_37 (by rw [c17]; decide) (by rw [c17]; decide) (by rw [c17]; rfl) (by decide) ?_
                    refine lv_aload_n hx hb dX9_told_136 rfl (lv_at hl 0 rfl) ?_
                    refine lv_iload_n hx hb dX9_told_137 rfl (lv_at hl 1 rfl) ?_
                    refine lv_iconst (v := 4) hx hb dX9_told_138 (by decide) ?_
                    obtain ⟨y18, ey18, hf⟩ := bnd_some hf
                    refine k_X9_read X h ey18 k_X9_110 dX9_told_139 hl.1 ⟨(Nat.le_of_ble_eq_true rfl), (Nat.le_of_ble_eq_true rfl)⟩ (Nat.le_of_ble_eq_true rfl) ⟨Nat.zero_le _, Nat.zero_le _⟩ ?_
                    exact e0_i (Wf := cw G la) X.1 hr hlocks hf h dX9_told_142
                  · have hf := if_f c17 hf
                    have nc17 := lv_neT (a := 5) c17 (by decide)
                    by_cases c19 : x2 = (6 : Int32)
                    · have hf := if_t c19 hf
                      refine lv_tableIn (tgt := 143) hx hb dX9_told_37 (by rw [c19]; decide) (by rw [c19]; decide) (by rw [c19]; rfl) (by decide) ?_
                      refine lv_aload_n hx hb dX9_told_143 rfl (lv_at hl 0 rfl) ?_
                      refine lv_iload_n hx hb dX9_told_144 rfl (lv_at hl 1 rfl) ?_
                      refine lv_bipush (v := 9) hx hb dX9_told_145 (by decide) ?_
                      obtain ⟨y20, ey20, hf⟩ := bnd_some hf
                      refine k_X9_read X h ey20 k_X9_110 dX9_told_147 hl.1 ⟨(Nat.le_of_ble_eq_true rfl), (Nat.le_of_ble_eq_true rfl)⟩ (Nat.le_of_ble_eq_true rfl) ⟨Nat.zero_le _, Nat.zero_le _⟩ ?_
                      exact e0_i (Wf := cw G la) X.1 hr hlocks hf h dX9_told_150
                    · have hf := if_f c19 hf
                      have nc19 := lv_neT (a := 6) c19 (by decide)
                      by_cases c21 : x2 = (7 : Int32)
                      · have hf := if_t c21 hf
                        refine lv_tableIn (tgt := 151) hx hb dX9_told_37 (by rw [c21]; decide) (by rw [c21]; decide) (by rw [c21]; rfl) (by decide) ?_
                        refine lv_aload_n hx hb dX9_told_151 rfl (lv_at hl 0 rfl) ?_
                        refine lv_iload_n hx hb dX9_told_152 rfl (lv_at hl 1 rfl) ?_
                        refine lv_iconst (v := 5) hx hb dX9_told_153 (by decide) ?_
                        obtain ⟨y22, ey22, hf⟩ := bnd_some hf
                        refine k_X9_read X h ey22 k_X9_110 dX9_told_154 hl.1 ⟨(Nat.le_of_ble_eq_true rfl), (Nat.le_of_ble_eq_true rfl)⟩ (Nat.le_of_ble_eq_true rfl) ⟨Nat.zero_le _, Nat.zero_le _⟩ ?_
                        exact e0_i (Wf := cw G la) X.1 hr hlocks hf h dX9_told_157
                      · have hf := if_f c21 hf
                        have nc21 := lv_neT (a := 7) c21 (by decide)
                        by_cases c23 : x2 = (8 : Int32)
                        · have hf := if_t c23 hf
                          refine lv_tableIn (tgt := 158) hx hb dX9_told_37 (by rw [c23]; decide) (by rw [c23]; decide) (by rw [c23]; rfl) (by decide) ?_
                          refine lv_aload_n hx hb dX9_told_158 rfl (lv_at hl 0 rfl) ?_
                          refine lv_iload_n hx hb dX9_told_159 rfl (lv_at hl 1 rfl) ?_
                          refine lv_bipush (v := 8) hx hb dX9_told_160 (by decide) ?_
                          obtain ⟨y24, ey24, hf⟩ := bnd_some hf
                          refine k_X9_read X h ey24 k_X9_110 dX9_told_162 hl.1 ⟨(Nat.le_of_ble_eq_true rfl), (Nat.le_of_ble_eq_true rfl)⟩ (Nat.le_of_ble_eq_true rfl) ⟨Nat.zero_le _, Nat.zero_le _⟩ ?_
                          exact e0_i (Wf := cw G la) X.1 hr hlocks hf h dX9_told_165
                        · have hf := if_f c23 hf
                          have nc23 := lv_neT (a := 8) c23 (by decide)
                          by_cases c25 : x2 = (9 : Int32)
                          · have hf := if_t c25 hf
                            refine lv_tableIn (tgt := 166) hx hb dX9_told_37 (by rw [c25]; decide) (by rw [c25]; decide) (by rw [c25]; rfl) (by decide) ?_
                            refine lv_aload_n hx hb dX9_told_166 rfl (lv_at hl 0 rfl) ?_
                            refine lv_iload_n hx hb dX9_told_167 rfl (lv_at hl 1 rfl) ?_
                            refine lv_bipush (v := 6) hx hb dX9_told_168 (by decide) ?_
                            obtain ⟨y26, ey26, hf⟩ := bnd_some hf
                            refine k_X9_read X h ey26 k_X9_110 dX9_told_170 hl.1 ⟨(Nat.le_of_ble_eq_true rfl), (Nat.le_of_ble_eq_true rfl)⟩ (Nat.le_of_ble_eq_true rfl) ⟨Nat.zero_le _, Nat.zero_le _⟩ ?_
                            exact e0_i (Wf := cw G la) X.1 hr hlocks hf h dX9_told_173
                          · have hf := if_f c25 hf
                            have nc25 := lv_neT (a := 9) c25 (by decide)
                            by_cases c27 : x2 = (10 : Int32)
                            · have hf := if_t c27 hf
                              refine lv_tableIn (tgt := 174) hx hb dX9_told_37 (by rw [c27]; decide) (by rw [c27]; decide) (by rw [c27]; rfl) (by decide) ?_
                              refine lv_aload_n hx hb dX9_told_174 rfl (lv_at hl 0 rfl) ?_
                              refine lv_iload_n hx hb dX9_told_175 rfl (lv_at hl 1 rfl) ?_
                              obtain ⟨y28, ey28, hf⟩ := bnd_some hf
                              refine k_X9_kindAt X h ey28 k_X9_123 dX9_told_176 hl.1 ⟨(Nat.le_of_ble_eq_true rfl), (Nat.le_of_ble_eq_true rfl)⟩ (Nat.le_of_ble_eq_true rfl) ⟨Nat.zero_le _, Nat.zero_le _⟩ ?_
                              obtain ⟨c30, hf⟩ := chk_some hf
                              obtain ⟨y29, ey29, hf⟩ := bnd_some hf
                              refine kv_fills X h c30 ey29 k_X9_127 dX9_told_179 hl.1 ⟨(Nat.le_of_ble_eq_true rfl), (Nat.le_of_ble_eq_true rfl)⟩ (Nat.le_of_ble_eq_true rfl) ⟨Nat.zero_le _, Nat.zero_le _⟩ ?_
                              refine lv_if_eq (tgt := 189) hx hb dX9_told_182 (by decide) (fun c31 => ?_) (fun c31 => ?_)
                              · have hf := if_t c31 hf
                                refine lv_iconst (v := 0) hx hb dX9_told_189 (by decide) ?_
                                exact e0_i (Wf := cw G la) X.1 hr hlocks hf h dX9_told_190
                              · have hf := if_f c31 hf
                                refine lv_iconst (v := 1) hx hb dX9_told_185 (by decide) ?_
                                refine lv_goto (tgt := 190) hx hb dX9_told_186 (by decide) ?_
                                exact e0_i (Wf := cw G la) X.1 hr hlocks hf h dX9_told_190
                            · have hf := if_f c27 hf
                              have nc27 := lv_neT (a := 10) c27 (by decide)
                              by_cases c32 : x2 = (11 : Int32)
                              · have hf := if_t c32 hf
                                refine lv_tableIn (tgt := 191) hx hb dX9_told_37 (by rw [c32]; decide) (by rw [c32]; decide) (by rw [c32]; rfl) (by decide) ?_
                                refine lv_aload_n hx hb dX9_told_191 rfl (lv_at hl 0 rfl) ?_
                                refine lv_iload_n hx hb dX9_told_192 rfl (lv_at hl 1 rfl) ?_
                                obtain ⟨y33, ey33, hf⟩ := bnd_some hf
                                refine k_X9_kindAt X h ey33 k_X9_123 dX9_told_193 hl.1 ⟨(Nat.le_of_ble_eq_true rfl), (Nat.le_of_ble_eq_true rfl)⟩ (Nat.le_of_ble_eq_true rfl) ⟨Nat.zero_le _, Nat.zero_le _⟩ ?_
                                obtain ⟨c35, hf⟩ := chk_some hf
                                obtain ⟨y34, ey34, hf⟩ := bnd_some hf
                                refine kv_turns X h c35 ey34 k_X9_131 dX9_told_196 hl.1 ⟨(Nat.le_of_ble_eq_true rfl), (Nat.le_of_ble_eq_true rfl)⟩ (Nat.le_of_ble_eq_true rfl) ⟨Nat.zero_le _, Nat.zero_le _⟩ ?_
                                refine lv_if_eq (tgt := 206) hx hb dX9_told_199 (by decide) (fun c36 => ?_) (fun c36 => ?_)
                                · have hf := if_t c36 hf
                                  refine lv_iconst (v := 0) hx hb dX9_told_206 (by decide) ?_
                                  exact e0_i (Wf := cw G la) X.1 hr hlocks hf h dX9_told_207
                                · have hf := if_f c36 hf
                                  refine lv_iconst (v := 1) hx hb dX9_told_202 (by decide) ?_
                                  refine lv_goto (tgt := 207) hx hb dX9_told_203 (by decide) ?_
                                  exact e0_i (Wf := cw G la) X.1 hr hlocks hf h dX9_told_207
                              · have hf := if_f c32 hf
                                have nc32 := lv_neT (a := 11) c32 (by decide)
                                refine lv_tableOut (tgt := 208) hx hb dX9_told_37 (by omega) (by decide) ?_
                                refine lv_aload_n hx hb dX9_told_208 rfl (lv_at hl 0 rfl) ?_
                                refine lv_iload_n hx hb dX9_told_209 rfl (lv_at hl 1 rfl) ?_
                                obtain ⟨y37, ey37, hf⟩ := bnd_some hf
                                refine k_X9_kindAt X h ey37 k_X9_123 dX9_told_210 hl.1 ⟨(Nat.le_of_ble_eq_true rfl), (Nat.le_of_ble_eq_true rfl)⟩ (Nat.le_of_ble_eq_true rfl) ⟨Nat.zero_le _, Nat.zero_le _⟩ ?_
                                obtain ⟨c39, hf⟩ := chk_some hf
                                obtain ⟨y38, ey38, hf⟩ := bnd_some hf
                                refine kv_warms X h c39 ey38 k_X9_134 dX9_told_213 hl.1 ⟨(Nat.le_of_ble_eq_true rfl), (Nat.le_of_ble_eq_true rfl)⟩ (Nat.le_of_ble_eq_true rfl) ⟨Nat.zero_le _, Nat.zero_le _⟩ ?_
                                refine lv_if_eq (tgt := 223) hx hb dX9_told_216 (by decide) (fun c40 => ?_) (fun c40 => ?_)
                                · have hf := if_t c40 hf
                                  refine lv_iconst (v := 0) hx hb dX9_told_223 (by decide) ?_
                                  exact e0_i (Wf := cw G la) X.1 hr hlocks hf h dX9_told_224
                                · have hf := if_f c40 hf
                                  refine lv_iconst (v := 1) hx hb dX9_told_219 (by decide) ?_
                                  refine lv_goto (tgt := 224) hx hb dX9_told_220 (by decide) ?_
                                  exact e0_i (Wf := cw G la) X.1 hr hlocks hf h dX9_told_224
      · have hf := if_t c6 hf
        refine lv_aload_n hx hb dX9_told_30 rfl (lv_at hl 0 rfl) ?_
        refine lv_iconst (v := 1) hx hb dX9_told_31 (by decide) ?_
        obtain ⟨y41, ey41, hf⟩ := bnd_some hf
        refine k_X9_found X h hA ey41 k_X9_103 dX9_told_32 hl.1 ⟨(Nat.le_of_ble_eq_true rfl), (Nat.le_of_ble_eq_true rfl)⟩ (Nat.le_of_ble_eq_true rfl) ⟨Nat.zero_le _, Nat.zero_le _⟩ (fun H locs h => ?_)
        exact e0_i (Wf := cw G la) X.1 hr hlocks hf h dX9_told_35
    · have hf := if_t c4 hf
      refine lv_bipush (v := (-2)) hx hb dX9_told_19 (by decide) ?_
      exact e0_i (Wf := cw G la) X.1 hr hlocks hf h dX9_told_21
  · have hf := if_t c2 hf
    refine lv_iconst (v := (-1)) hx hb dX9_told_7 (by decide) ?_
    exact e0_i (Wf := cw G la) X.1 hr hlocks hf h dX9_told_8
theorem m_X9_told : Cond.instanceMethod yX9_told ∈ lw_good ∧ Cond.selects RX9 yX9_told yX9_told ∈ lw_good ∧ Cond.initialized RX9 ∈ lw_good ∧ Cond.code yX9_told cX9_told 3 (some .int) ∈ lw_good := by decide +kernel
theorem k_X9_told {p : Program} {l : Launch} {e : Env} {R : Room} {s : State} {m : MethodId} {args : Array Value} {below : List Frame} {meth : Method} {c : Code} {H : Heap} {locs : List Loc} {cells slots : Nat} {Q : State → Prop} {cc : ByteArray} {nL pc idx : Nat} {ls : Array Slot} {rest : List Value} {own : String} {G : Gm} {A : Nat → Prop} {H0 : Heap} {la : Nat} {w : CW} {x1 : Int32} {x2 : Int32} {y : Int32 × CW} (X : CX own cc nL G p s m args c) (h : CH G (cw G la w) A H0 H locs) (hA : ∀ q, H0.size ≤ q → A q) (hf : f_X9_told x1 x2 w = some y) (hlk : Cond.methodLink own idx yX9_told ∈ lw_good) (hd : decode cc pc = .ok (.invokevirtual idx, 3)) (hsz : ls.size = nL) (hR : 4 ≤ R.frames ∧ 88 ≤ R.locals) (hrest : (rest.map fun v => v.category).sum ≤ 8) (hk : cells ≤ R.cells ∧ slots ≤ R.slots) (k : ∀ (H : Heap) (locs : List Loc), CH G (cw G la y.2) A H0 H locs → W p l e R s m args below meth c H locs cells slots Q (F0 m (pc + 3) ls (.int y.1 :: rest))) : W p l e R s m args below meth c H locs cells slots Q (F0 m pc ls (.int x2 :: .int x1 :: .ref (gq G 0) :: rest)) :=
  fin_i (n := 0) (runV (As := [.int x1, .int x2]) X.1 2 (t_X9_told l G la w x1 x2 y.1 y.2 hf _) rfl rfl hlk m_X9_told (by decide +kernel) ⟨hR.1, hR.2⟩ ⟨blindM, va_recv X.2.1 h.1 (ci := 8) (q0 := 0) rfl rfl, preM X.2 h⟩ rfl hsz hrest hd hk) h hA (fun _ H locs h => k H locs h)
def f_X9_isWish (x0 : Int32) (x1 : Int32) : Option Int32 :=
 if x0 = ((4 : Int32)) then
 ((f_X9_within x1 ((0 : Int32)) ((1000 : Int32))).bind fun y7 =>
 chk (y7 = 0 ∨ y7 = 1) (
 some y7))
 else
 (if x0 = ((3 : Int32)) then
 (some ((1 : Int32)))
 else
 ((f_X9_within x0 ((0 : Int32)) ((2 : Int32))).bind fun y3 =>
 if y3 = 0 then
 (some ((0 : Int32)))
 else
 ((f_X9_within x1 ((0 : Int32)) ((4 : Int32))).bind fun y5 =>
 if y5 = 0 then
 (some ((0 : Int32)))
 else
 (some ((1 : Int32))))))
set_option maxHeartbeats 4000000 in
set_option maxRecDepth 100000 in
theorem t_X9_isWish (l : Launch) (x0 : Int32) (x1 : Int32) (r : Int32) (hf : f_X9_isWish x0 x1 = some r) : MetP l yX9_isWish cX9_isWish 2 (some .boolean) 1 22 [.int x0, .int x1] (.int r) := by
  refine ent (own := RX9) (As := [.int x0, .int x1]) (by decide +kernel) rfl (Nat.le_of_ble_eq_true rfl) (fun _ _ h => h.1) ?_
  intro p e s m args below meth c ls B hr hlocks hv hl
  obtain ⟨hx, hb, hml, hown, hts⟩ := id B
  have hl : lv_has ls 2 [(0, .int x0), (1, .int x1)] := hl
  unfold f_X9_isWish at hf
  refine lv_iload_n hx hb dX9_isWish_0 rfl (lv_at hl 0 rfl) ?_
  refine lv_iconst (v := 4) hx hb dX9_isWish_1 (by decide) ?_
  refine lv_icmp_ne (tgt := 14) hx hb dX9_isWish_2 (by decide) (fun c1 => ?_) (fun c1 => ?_)
  · have hf := if_f c1 hf
    refine lv_iload_n hx hb dX9_isWish_14 rfl (lv_at hl 0 rfl) ?_
    refine lv_iconst (v := 3) hx hb dX9_isWish_15 (by decide) ?_
    refine lv_icmp_eq (tgt := 37) hx hb dX9_isWish_16 (by decide) (fun c2 => ?_) (fun c2 => ?_)
    · have hf := if_t c2 hf
      refine lv_iconst (v := 1) hx hb dX9_isWish_37 (by decide) ?_
      refine lv_goto (tgt := 42) hx hb dX9_isWish_38 (by decide) ?_
      cases hf
      exact rr_z B hr hlocks (Or.inr rfl) dX9_isWish_42
    · have hf := if_f c2 hf
      refine lv_iload_n hx hb dX9_isWish_19 rfl (lv_at hl 0 rfl) ?_
      refine lv_iconst (v := 0) hx hb dX9_isWish_20 (by decide) ?_
      refine lv_iconst (v := 2) hx hb dX9_isWish_21 (by decide) ?_
      obtain ⟨y3, ey3, hf⟩ := bnd_some hf
      refine k_X9_within B ey3 k_X9_92 dX9_isWish_22 hl.1 ⟨(Nat.le_of_ble_eq_true rfl), (Nat.le_of_ble_eq_true rfl)⟩ (Nat.le_of_ble_eq_true rfl) ⟨Nat.zero_le _, Nat.zero_le _⟩ ?_
      refine lv_if_eq (tgt := 41) hx hb dX9_isWish_25 (by decide) (fun c4 => ?_) (fun c4 => ?_)
      · have hf := if_t c4 hf
        refine lv_iconst (v := 0) hx hb dX9_isWish_41 (by decide) ?_
        cases hf
        exact rr_z B hr hlocks (Or.inl rfl) dX9_isWish_42
      · have hf := if_f c4 hf
        refine lv_iload_n hx hb dX9_isWish_28 rfl (lv_at hl 1 rfl) ?_
        refine lv_iconst (v := 0) hx hb dX9_isWish_29 (by decide) ?_
        refine lv_iconst (v := 4) hx hb dX9_isWish_30 (by decide) ?_
        obtain ⟨y5, ey5, hf⟩ := bnd_some hf
        refine k_X9_within B ey5 k_X9_92 dX9_isWish_31 hl.1 ⟨(Nat.le_of_ble_eq_true rfl), (Nat.le_of_ble_eq_true rfl)⟩ (Nat.le_of_ble_eq_true rfl) ⟨Nat.zero_le _, Nat.zero_le _⟩ ?_
        refine lv_if_eq (tgt := 41) hx hb dX9_isWish_34 (by decide) (fun c6 => ?_) (fun c6 => ?_)
        · have hf := if_t c6 hf
          refine lv_iconst (v := 0) hx hb dX9_isWish_41 (by decide) ?_
          cases hf
          exact rr_z B hr hlocks (Or.inl rfl) dX9_isWish_42
        · have hf := if_f c6 hf
          refine lv_iconst (v := 1) hx hb dX9_isWish_37 (by decide) ?_
          refine lv_goto (tgt := 42) hx hb dX9_isWish_38 (by decide) ?_
          cases hf
          exact rr_z B hr hlocks (Or.inr rfl) dX9_isWish_42
  · have hf := if_t c1 hf
    refine lv_iload_n hx hb dX9_isWish_5 rfl (lv_at hl 1 rfl) ?_
    refine lv_iconst (v := 0) hx hb dX9_isWish_6 (by decide) ?_
    refine lv_sipush (v := 1000) hx hb dX9_isWish_7 (by decide) ?_
    obtain ⟨y7, ey7, hf⟩ := bnd_some hf
    refine k_X9_within B ey7 k_X9_92 dX9_isWish_10 hl.1 ⟨(Nat.le_of_ble_eq_true rfl), (Nat.le_of_ble_eq_true rfl)⟩ (Nat.le_of_ble_eq_true rfl) ⟨Nat.zero_le _, Nat.zero_le _⟩ ?_
    obtain ⟨c8, hf⟩ := chk_some hf
    cases hf
    exact rr_z B hr hlocks c8 dX9_isWish_13
theorem m_X9_isWish : Cond.static yX9_isWish ∈ lw_good ∧ Cond.initialized yX9_isWish.cls ∈ lw_good ∧ Cond.code yX9_isWish cX9_isWish 2 (some .boolean) ∈ lw_good := by decide +kernel
theorem k_X9_isWish {p : Program} {l : Launch} {e : Env} {R : Room} {s : State} {m : MethodId} {args : Array Value} {below : List Frame} {meth : Method} {c : Code} {H : Heap} {locs : List Loc} {cells slots : Nat} {Q : State → Prop} {cc : ByteArray} {nL pc idx : Nat} {ls : Array Slot} {rest : List Value} {own : String} {x0 : Int32} {x1 : Int32} {r : Int32} (B : CB own cc nL p s m args c) (hf : f_X9_isWish x0 x1 = some r) (hlk : Cond.methodLink own idx yX9_isWish ∈ lw_good) (hd : decode cc pc = .ok (.invokestatic idx, 3)) (hsz : ls.size = nL) (hR : 2 ≤ R.frames ∧ 43 ≤ R.locals) (hrest : (rest.map fun v => v.category).sum ≤ 8) (hk : cells ≤ R.cells ∧ slots ≤ R.slots) (k : W p l e R s m args below meth c H locs cells slots Q (F0 m (pc + 3) ls (.int r :: rest))) : W p l e R s m args below meth c H locs cells slots Q (F0 m pc ls (.int x1 :: .int x0 :: rest)) :=
  fin_r (runS (As := [.int x0, .int x1]) B 2 (t_X9_isWish l x0 x1 r hf) rfl rfl hlk m_X9_isWish (by decide +kernel) ⟨hR.1, hR.2⟩ ⟨blindP, preP⟩ rfl hsz hrest hd hk) k
def f_X9_wish_b60 (x1 : Int32) (x2 : Int32) (x3 : Int32) (x4 : Nat) (w : CW) : Option (Int32 × CW) :=
 (f_X9_read x1 ((8 : Int32)) w).bind fun y1 =>
 if x2 = (0 : Int32) then
 (chk (x4 < 5) (
 (fv_water x4 x3 y1 w).bind fun y3 =>
 some (y3.1, y3.2)))
 else
 (if x2 = (1 : Int32) then
 (chk (x4 < 5) (
 (fv_heat x4 x3 y1 w).bind fun y6 =>
 some (y6.1, y6.2)))
 else
 (if x2 = (2 : Int32) then
 (chk (x4 < 5) (
 (fv_power x4 x3 y1 w).bind fun y9 =>
 some (y9.1, y9.2)))
 else
 (if x2 = (3 : Int32) then
 (chk (x4 < 5) (
 (fv_speed x4 w).bind fun y12 =>
 some (y12.1, y12.2)))
 else
 (chk (x4 < 5) (
 (fv_wear x4 x3 w).bind fun y14 =>
 some (y14.1, y14.2))))))
def f_X9_wish (x1 : Int32) (x2 : Int32) (x3 : Int32) (w : CW) : Option (Int32 × CW) :=
 (f_X9_isPlace x1).bind fun y16 =>
 if y16 = 0 then
 (some ((-1 : Int32), w))
 else
 ((f_X9_isWish x2 x3).bind fun y18 =>
 if y18 = 0 then
 (some ((-2 : Int32), w))
 else
 ((f_X9_hasMachine x1 w).bind fun y20 =>
 if y20 = 0 then
 ((f_X9_found ((1 : Int32)) w).bind fun y28 =>
 some (y28.1, y28.2))
 else
 ((f_X9_kindAt x1 w).bind fun y22 =>
 if x2 < ((3 : Int32)) then
 (f_X9_wish_b60 x1 x2 x3 y22 w)
 else
 (chk (y22 < 5) (
 (fv_turns y22 w).bind fun y24 =>
 if y24 = 0 then
 ((f_X9_found ((5 : Int32)) w).bind fun y27 =>
 some (y27.1, y27.2))
 else
 (f_X9_wish_b60 x1 x2 x3 y22 w))))))
set_option maxHeartbeats 4000000 in
set_option maxRecDepth 100000 in
theorem t_X9_wish (l : Launch) (G : Gm) (la : Nat) (w0 : CW) (x1 : Int32) (x2 : Int32) (x3 : Int32) (r : Int32) (w' : CW) (hf : f_X9_wish x1 x2 x3 w0 = some (r, w')) : MetI l yX9_wish cX9_wish 6 (some .int) 5 109 G (cw G la w0) [.ref (gq G 0), .int x1, .int x2, .int x3] r (fun _ => cw G la (w')) 0 := by
  intro sz
  refine ent (own := RX9) (As := [.ref (gq G 0), .int x1, .int x2, .int x3]) (by decide +kernel) rfl (Nat.le_of_ble_eq_true rfl) (fun _ _ h => h.1) ?_
  intro p e s m args below meth c ls B hr hlocks hv hl
  obtain ⟨-, hsz, hP, hKK, hD⟩ := hv
  subst hsz
  have X : CX RX9 cX9_wish 6 G p s m args c := ⟨B, hKK⟩
  obtain ⟨hx, hb, hml, hown, hts⟩ := id B
  have hA : ∀ q : Nat, s.heap.size ≤ q → va_A (cw G la w0) s.heap.size q := fun q z => Or.inr z
  have h : CH G (cw G la w0) (va_A (cw G la w0) s.heap.size) s.heap s.heap [] := ⟨hP, hD.self, va_S.rf⟩
  have J60 : ∀ (x1 : Int32) (x2 : Int32) (x3 : Int32) (x4 : Nat) (w : CW) (H : Heap) (locs : List Loc) (ls : Array Slot), f_X9_wish_b60 x1 x2 x3 x4 w = some (r, w') → CH G (cw G la w) (va_A (cw G la w0) s.heap.size) s.heap H locs → lv_has ls 6 [(0, .ref (gq G 0)), (1, .int x1), (2, .int x2), (3, .int x3), (4, .ref (gq G (20 + x4)))] → W p l e { frames := 5, cells := 0, slots := 4096 * 0, locals := 109 } s m args below meth c H locs 0 (4096 * 0) (MQ below (QI G (cw G la w0) s.heap.size r (fun _ => cw G la (w'))) args s 0 (4096 * 0) (va_A (cw G la w0) s.heap.size)) (F0 m 60 ls []) := by
    intro x1 x2 x3 x4 w H locs ls hf h hl
    unfold f_X9_wish_b60 at hf
    refine lv_aload_n hx hb dX9_wish_60 rfl (lv_at hl 0 rfl) ?_
    refine lv_iload_n hx hb dX9_wish_61 rfl (lv_at hl 1 rfl) ?_
    refine lv_bipush (v := 8) hx hb dX9_wish_62 (by decide) ?_
    obtain ⟨y1, ey1, hf⟩ := bnd_some hf
    refine k_X9_read X h ey1 k_X9_110 dX9_wish_64 hl.1 ⟨(Nat.le_of_ble_eq_true rfl), (Nat.le_of_ble_eq_true rfl)⟩ (Nat.le_of_ble_eq_true rfl) ⟨Nat.zero_le _, Nat.zero_le _⟩ ?_
    refine lv_istore (lv' := [(5, .int y1), (0, .ref (gq G 0)), (1, .int x1), (2, .int x2), (3, .int x3), (4, .ref (gq G (20 + x4)))]) hx hb dX9_wish_67 hl (by decide) rfl (fun ls hl => ?_)
    refine lv_iload_n hx hb dX9_wish_69 rfl (lv_at hl 3 rfl) ?_
    by_cases c2 : x2 = (0 : Int32)
    · have hf := if_t c2 hf
      refine lv_tableIn (tgt := 100) hx hb dX9_wish_70 (by rw [c2]; decide) (by rw [c2]; decide) (by rw [c2]; rfl) (by decide) ?_
      refine lv_aload hx hb dX9_wish_100 (lv_at hl 5 rfl) ?_
      refine lv_iload_n hx hb dX9_wish_102 rfl (lv_at hl 4 rfl) ?_
      refine lv_iload hx hb dX9_wish_103 (lv_at hl 0 rfl) ?_
      obtain ⟨c4, hf⟩ := chk_some hf
      obtain ⟨y3, ey3, hf⟩ := bnd_some hf
      refine kv_water X h hA c4 ey3 k_X9_141 dX9_wish_105 hl.1 ⟨(Nat.le_of_ble_eq_true rfl), (Nat.le_of_ble_eq_true rfl)⟩ (Nat.le_of_ble_eq_true rfl) ⟨Nat.zero_le _, Nat.zero_le _⟩ (fun H locs h => ?_)
      exact e0_i (Wf := cw G la) X.1 hr hlocks hf h dX9_wish_108
    · have hf := if_f c2 hf
      have nc2 := lv_neT (a := 0) c2 (by decide)
      by_cases c5 : x2 = (1 : Int32)
      · have hf := if_t c5 hf
        refine lv_tableIn (tgt := 109) hx hb dX9_wish_70 (by rw [c5]; decide) (by rw [c5]; decide) (by rw [c5]; rfl) (by decide) ?_
        refine lv_aload hx hb dX9_wish_109 (lv_at hl 5 rfl) ?_
        refine lv_iload_n hx hb dX9_wish_111 rfl (lv_at hl 4 rfl) ?_
        refine lv_iload hx hb dX9_wish_112 (lv_at hl 0 rfl) ?_
        obtain ⟨c7, hf⟩ := chk_some hf
        obtain ⟨y6, ey6, hf⟩ := bnd_some hf
        refine kv_heat X h hA c7 ey6 k_X9_144 dX9_wish_114 hl.1 ⟨(Nat.le_of_ble_eq_true rfl), (Nat.le_of_ble_eq_true rfl)⟩ (Nat.le_of_ble_eq_true rfl) ⟨Nat.zero_le _, Nat.zero_le _⟩ (fun H locs h => ?_)
        exact e0_i (Wf := cw G la) X.1 hr hlocks hf h dX9_wish_117
      · have hf := if_f c5 hf
        have nc5 := lv_neT (a := 1) c5 (by decide)
        by_cases c8 : x2 = (2 : Int32)
        · have hf := if_t c8 hf
          refine lv_tableIn (tgt := 118) hx hb dX9_wish_70 (by rw [c8]; decide) (by rw [c8]; decide) (by rw [c8]; rfl) (by decide) ?_
          refine lv_aload hx hb dX9_wish_118 (lv_at hl 5 rfl) ?_
          refine lv_iload_n hx hb dX9_wish_120 rfl (lv_at hl 4 rfl) ?_
          refine lv_iload hx hb dX9_wish_121 (lv_at hl 0 rfl) ?_
          obtain ⟨c10, hf⟩ := chk_some hf
          obtain ⟨y9, ey9, hf⟩ := bnd_some hf
          refine kv_power X h hA c10 ey9 k_X9_147 dX9_wish_123 hl.1 ⟨(Nat.le_of_ble_eq_true rfl), (Nat.le_of_ble_eq_true rfl)⟩ (Nat.le_of_ble_eq_true rfl) ⟨Nat.zero_le _, Nat.zero_le _⟩ (fun H locs h => ?_)
          exact e0_i (Wf := cw G la) X.1 hr hlocks hf h dX9_wish_126
        · have hf := if_f c8 hf
          have nc8 := lv_neT (a := 2) c8 (by decide)
          by_cases c11 : x2 = (3 : Int32)
          · have hf := if_t c11 hf
            refine lv_tableIn (tgt := 127) hx hb dX9_wish_70 (by rw [c11]; decide) (by rw [c11]; decide) (by rw [c11]; rfl) (by decide) ?_
            refine lv_aload hx hb dX9_wish_127 (lv_at hl 5 rfl) ?_
            obtain ⟨c13, hf⟩ := chk_some hf
            obtain ⟨y12, ey12, hf⟩ := bnd_some hf
            refine kv_speed X h hA c13 ey12 k_X9_150 dX9_wish_129 hl.1 ⟨(Nat.le_of_ble_eq_true rfl), (Nat.le_of_ble_eq_true rfl)⟩ (Nat.le_of_ble_eq_true rfl) ⟨Nat.zero_le _, Nat.zero_le _⟩ (fun H locs h => ?_)
            exact e0_i (Wf := cw G la) X.1 hr hlocks hf h dX9_wish_132
          · have hf := if_f c11 hf
            have nc11 := lv_neT (a := 3) c11 (by decide)
            refine lv_tableOut (tgt := 133) hx hb dX9_wish_70 (by omega) (by decide) ?_
            refine lv_aload hx hb dX9_wish_133 (lv_at hl 5 rfl) ?_
            refine lv_iload_n hx hb dX9_wish_135 rfl (lv_at hl 4 rfl) ?_
            obtain ⟨c15, hf⟩ := chk_some hf
            obtain ⟨y14, ey14, hf⟩ := bnd_some hf
            refine kv_wear X h hA c15 ey14 k_X9_154 dX9_wish_136 hl.1 ⟨(Nat.le_of_ble_eq_true rfl), (Nat.le_of_ble_eq_true rfl)⟩ (Nat.le_of_ble_eq_true rfl) ⟨Nat.zero_le _, Nat.zero_le _⟩ (fun H locs h => ?_)
            exact e0_i (Wf := cw G la) X.1 hr hlocks hf h dX9_wish_139
  obtain ⟨w, rfl⟩ : ∃ z, z = w0 := ⟨_, rfl⟩
  have hl : lv_has ls 6 [(0, .ref (gq G 0)), (1, .int x1), (2, .int x2), (3, .int x3)] := hl
  unfold f_X9_wish at hf
  refine lv_iload_n hx hb dX9_wish_0 rfl (lv_at hl 1 rfl) ?_
  obtain ⟨y16, ey16, hf⟩ := bnd_some hf
  refine k_X9_isPlace X.1 ey16 k_X9_88 dX9_wish_1 hl.1 ⟨(Nat.le_of_ble_eq_true rfl), (Nat.le_of_ble_eq_true rfl)⟩ (Nat.le_of_ble_eq_true rfl) ⟨Nat.zero_le _, Nat.zero_le _⟩ ?_
  refine lv_if_ne (tgt := 9) hx hb dX9_wish_4 (by decide) (fun c17 => ?_) (fun c17 => ?_)
  · have hf := if_f c17 hf
    refine lv_iload_n hx hb dX9_wish_9 rfl (lv_at hl 2 rfl) ?_
    refine lv_iload_n hx hb dX9_wish_10 rfl (lv_at hl 3 rfl) ?_
    obtain ⟨y18, ey18, hf⟩ := bnd_some hf
    refine k_X9_isWish X.1 ey18 k_X9_137 dX9_wish_11 hl.1 ⟨(Nat.le_of_ble_eq_true rfl), (Nat.le_of_ble_eq_true rfl)⟩ (Nat.le_of_ble_eq_true rfl) ⟨Nat.zero_le _, Nat.zero_le _⟩ ?_
    refine lv_if_ne (tgt := 20) hx hb dX9_wish_14 (by decide) (fun c19 => ?_) (fun c19 => ?_)
    · have hf := if_f c19 hf
      refine lv_aload_n hx hb dX9_wish_20 rfl (lv_at hl 0 rfl) ?_
      refine lv_iload_n hx hb dX9_wish_21 rfl (lv_at hl 1 rfl) ?_
      obtain ⟨y20, ey20, hf⟩ := bnd_some hf
      refine k_X9_hasMachine X h ey20 k_X9_96 dX9_wish_22 hl.1 ⟨(Nat.le_of_ble_eq_true rfl), (Nat.le_of_ble_eq_true rfl)⟩ (Nat.le_of_ble_eq_true rfl) ⟨Nat.zero_le _, Nat.zero_le _⟩ ?_
      refine lv_if_ne (tgt := 34) hx hb dX9_wish_25 (by decide) (fun c21 => ?_) (fun c21 => ?_)
      · have hf := if_f c21 hf
        refine lv_aload_n hx hb dX9_wish_34 rfl (lv_at hl 0 rfl) ?_
        refine lv_iload_n hx hb dX9_wish_35 rfl (lv_at hl 1 rfl) ?_
        obtain ⟨y22, ey22, hf⟩ := bnd_some hf
        refine k_X9_kindAt X h ey22 k_X9_123 dX9_wish_36 hl.1 ⟨(Nat.le_of_ble_eq_true rfl), (Nat.le_of_ble_eq_true rfl)⟩ (Nat.le_of_ble_eq_true rfl) ⟨Nat.zero_le _, Nat.zero_le _⟩ ?_
        refine lv_astore (lv' := [(4, .ref (gq G (20 + y22))), (0, .ref (gq G 0)), (1, .int x1), (2, .int x2), (3, .int x3)]) hx hb dX9_wish_39 hl (by decide) rfl (fun ls hl => ?_)
        refine lv_iload_n hx hb dX9_wish_41 rfl (lv_at hl 3 rfl) ?_
        refine lv_iconst (v := 3) hx hb dX9_wish_42 (by decide) ?_
        refine lv_icmp_lt (tgt := 60) hx hb dX9_wish_43 (by decide) (fun c23 => ?_) (fun c23 => ?_)
        · have hf := if_t c23 hf
          exact J60 _ _ _ _ _ _ _ _ hf h (lv_sub hl [1, 2, 3, 4, 0] rfl)
        · have hf := if_f c23 hf
          refine lv_aload hx hb dX9_wish_46 (lv_at hl 0 rfl) ?_
          obtain ⟨c25, hf⟩ := chk_some hf
          obtain ⟨y24, ey24, hf⟩ := bnd_some hf
          refine kv_turns X h c25 ey24 k_X9_131 dX9_wish_48 hl.1 ⟨(Nat.le_of_ble_eq_true rfl), (Nat.le_of_ble_eq_true rfl)⟩ (Nat.le_of_ble_eq_true rfl) ⟨Nat.zero_le _, Nat.zero_le _⟩ ?_
          refine lv_if_ne (tgt := 60) hx hb dX9_wish_51 (by decide) (fun c26 => ?_) (fun c26 => ?_)
          · have hf := if_f c26 hf
            exact J60 _ _ _ _ _ _ _ _ hf h (lv_sub hl [1, 2, 3, 4, 0] rfl)
          · have hf := if_t c26 hf
            refine lv_aload_n hx hb dX9_wish_54 rfl (lv_at hl 1 rfl) ?_
            refine lv_iconst (v := 5) hx hb dX9_wish_55 (by decide) ?_
            obtain ⟨y27, ey27, hf⟩ := bnd_some hf
            refine k_X9_found X h hA ey27 k_X9_103 dX9_wish_56 hl.1 ⟨(Nat.le_of_ble_eq_true rfl), (Nat.le_of_ble_eq_true rfl)⟩ (Nat.le_of_ble_eq_true rfl) ⟨Nat.zero_le _, Nat.zero_le _⟩ (fun H locs h => ?_)
            exact e0_i (Wf := cw G la) X.1 hr hlocks hf h dX9_wish_59
      · have hf := if_t c21 hf
        refine lv_aload_n hx hb dX9_wish_28 rfl (lv_at hl 0 rfl) ?_
        refine lv_iconst (v := 1) hx hb dX9_wish_29 (by decide) ?_
        obtain ⟨y28, ey28, hf⟩ := bnd_some hf
        refine k_X9_found X h hA ey28 k_X9_103 dX9_wish_30 hl.1 ⟨(Nat.le_of_ble_eq_true rfl), (Nat.le_of_ble_eq_true rfl)⟩ (Nat.le_of_ble_eq_true rfl) ⟨Nat.zero_le _, Nat.zero_le _⟩ (fun H locs h => ?_)
        exact e0_i (Wf := cw G la) X.1 hr hlocks hf h dX9_wish_33
    · have hf := if_t c19 hf
      refine lv_bipush (v := (-2)) hx hb dX9_wish_17 (by decide) ?_
      exact e0_i (Wf := cw G la) X.1 hr hlocks hf h dX9_wish_19
  · have hf := if_t c17 hf
    refine lv_iconst (v := (-1)) hx hb dX9_wish_7 (by decide) ?_
    exact e0_i (Wf := cw G la) X.1 hr hlocks hf h dX9_wish_8
theorem m_X9_wish : Cond.instanceMethod yX9_wish ∈ lw_good ∧ Cond.selects RX9 yX9_wish yX9_wish ∈ lw_good ∧ Cond.initialized RX9 ∈ lw_good ∧ Cond.code yX9_wish cX9_wish 6 (some .int) ∈ lw_good := by decide +kernel
theorem k_X9_wish {p : Program} {l : Launch} {e : Env} {R : Room} {s : State} {m : MethodId} {args : Array Value} {below : List Frame} {meth : Method} {c : Code} {H : Heap} {locs : List Loc} {cells slots : Nat} {Q : State → Prop} {cc : ByteArray} {nL pc idx : Nat} {ls : Array Slot} {rest : List Value} {own : String} {G : Gm} {A : Nat → Prop} {H0 : Heap} {la : Nat} {w : CW} {x1 : Int32} {x2 : Int32} {x3 : Int32} {y : Int32 × CW} (X : CX own cc nL G p s m args c) (h : CH G (cw G la w) A H0 H locs) (hA : ∀ q, H0.size ≤ q → A q) (hf : f_X9_wish x1 x2 x3 w = some y) (hlk : Cond.methodLink own idx yX9_wish ∈ lw_good) (hd : decode cc pc = .ok (.invokevirtual idx, 3)) (hsz : ls.size = nL) (hR : 6 ≤ R.frames ∧ 134 ≤ R.locals) (hrest : (rest.map fun v => v.category).sum ≤ 8) (hk : cells ≤ R.cells ∧ slots ≤ R.slots) (k : ∀ (H : Heap) (locs : List Loc), CH G (cw G la y.2) A H0 H locs → W p l e R s m args below meth c H locs cells slots Q (F0 m (pc + 3) ls (.int y.1 :: rest))) : W p l e R s m args below meth c H locs cells slots Q (F0 m pc ls (.int x3 :: .int x2 :: .int x1 :: .ref (gq G 0) :: rest)) :=
  fin_i (n := 0) (runV (As := [.int x1, .int x2, .int x3]) X.1 3 (t_X9_wish l G la w x1 x2 x3 y.1 y.2 hf _) rfl rfl hlk m_X9_wish (by decide +kernel) ⟨hR.1, hR.2⟩ ⟨blindM, va_recv X.2.1 h.1 (ci := 8) (q0 := 0) rfl rfl, preM X.2 h⟩ rfl hsz hrest hd hk) h hA (fun _ H locs h => k H locs h)
def f_J9_floorMod_7cf53 (x0 : Int32) (x1 : Int32) : Option Int32 :=
 chk (¬ x1 = 0) (
 if 0 ≤ (x0 ^^^ x1) then
 (some (x0 - x0 / x1 * x1))
 else
 (if (x0 - x0 / x1 * x1) = 0 then
 (some (x0 - x0 / x1 * x1))
 else
 (some ((x0 - x0 / x1 * x1) + x1))))
set_option maxHeartbeats 4000000 in
set_option maxRecDepth 100000 in
theorem t_J9_floorMod_7cf53 (l : Launch) (x0 : Int32) (x1 : Int32) (r : Int32) (hf : f_J9_floorMod_7cf53 x0 x1 = some r) : MetP l yJ9_floorMod_7cf53 cJ9_floorMod_7cf53 3 (some .int) 0 0 [.int x0, .int x1] (.int r) := by
  refine ent (own := RJ9) (As := [.int x0, .int x1]) (by decide +kernel) rfl (Nat.le_of_ble_eq_true rfl) (fun _ _ h => h.1) ?_
  intro p e s m args below meth c ls B hr hlocks hv hl
  obtain ⟨hx, hb, hml, hown, hts⟩ := id B
  have hl : lv_has ls 3 [(0, .int x0), (1, .int x1)] := hl
  unfold f_J9_floorMod_7cf53 at hf
  refine lv_iload_n hx hb dJ9_floorMod_7cf53_0 rfl (lv_at hl 0 rfl) ?_
  refine lv_iload_n hx hb dJ9_floorMod_7cf53_1 rfl (lv_at hl 1 rfl) ?_
  obtain ⟨c1, hf⟩ := chk_some hf
  refine lv_irem hx hb dJ9_floorMod_7cf53_2 c1 ?_
  refine lv_istore_n (lv' := [(2, .int (x0 - x0 / x1 * x1)), (0, .int x0), (1, .int x1)]) hx hb dJ9_floorMod_7cf53_3 rfl hl (by decide) rfl (fun ls hl => ?_)
  refine lv_iload_n hx hb dJ9_floorMod_7cf53_4 rfl (lv_at hl 1 rfl) ?_
  refine lv_iload_n hx hb dJ9_floorMod_7cf53_5 rfl (lv_at hl 2 rfl) ?_
  refine lv_ixor hx hb dJ9_floorMod_7cf53_6 ?_
  refine lv_if_ge (tgt := 18) hx hb dJ9_floorMod_7cf53_7 (by decide) (fun c2 => ?_) (fun c2 => ?_)
  · have hf := if_t c2 hf
    refine lv_iload_n hx hb dJ9_floorMod_7cf53_18 rfl (lv_at hl 0 rfl) ?_
    cases hf
    exact rr_i B hr hlocks dJ9_floorMod_7cf53_19
  · have hf := if_f c2 hf
    refine lv_iload_n hx hb dJ9_floorMod_7cf53_10 rfl (lv_at hl 0 rfl) ?_
    refine lv_if_eq (tgt := 18) hx hb dJ9_floorMod_7cf53_11 (by decide) (fun c3 => ?_) (fun c3 => ?_)
    · have hf := if_t c3 hf
      refine lv_iload_n hx hb dJ9_floorMod_7cf53_18 rfl (lv_at hl 0 rfl) ?_
      cases hf
      exact rr_i B hr hlocks dJ9_floorMod_7cf53_19
    · have hf := if_f c3 hf
      refine lv_iload_n hx hb dJ9_floorMod_7cf53_14 rfl (lv_at hl 0 rfl) ?_
      refine lv_iload_n hx hb dJ9_floorMod_7cf53_15 rfl (lv_at hl 2 rfl) ?_
      refine lv_iadd hx hb dJ9_floorMod_7cf53_16 ?_
      cases hf
      exact rr_i B hr hlocks dJ9_floorMod_7cf53_17
theorem m_J9_floorMod_7cf53 : Cond.static yJ9_floorMod_7cf53 ∈ lw_good ∧ Cond.initialized yJ9_floorMod_7cf53.cls ∈ lw_good ∧ Cond.code yJ9_floorMod_7cf53 cJ9_floorMod_7cf53 3 (some .int) ∈ lw_good := by decide +kernel
theorem k_J9_floorMod_7cf53 {p : Program} {l : Launch} {e : Env} {R : Room} {s : State} {m : MethodId} {args : Array Value} {below : List Frame} {meth : Method} {c : Code} {H : Heap} {locs : List Loc} {cells slots : Nat} {Q : State → Prop} {cc : ByteArray} {nL pc idx : Nat} {ls : Array Slot} {rest : List Value} {own : String} {x0 : Int32} {x1 : Int32} {r : Int32} (B : CB own cc nL p s m args c) (hf : f_J9_floorMod_7cf53 x0 x1 = some r) (hlk : Cond.methodLink own idx yJ9_floorMod_7cf53 ∈ lw_good) (hd : decode cc pc = .ok (.invokestatic idx, 3)) (hsz : ls.size = nL) (hR : 1 ≤ R.frames ∧ 22 ≤ R.locals) (hrest : (rest.map fun v => v.category).sum ≤ 8) (hk : cells ≤ R.cells ∧ slots ≤ R.slots) (k : W p l e R s m args below meth c H locs cells slots Q (F0 m (pc + 3) ls (.int r :: rest))) : W p l e R s m args below meth c H locs cells slots Q (F0 m pc ls (.int x1 :: .int x0 :: rest)) :=
  fin_r (runS (As := [.int x0, .int x1]) B 2 (t_J9_floorMod_7cf53 l x0 x1 r hf) rfl rfl hlk m_J9_floorMod_7cf53 (by decide +kernel) ⟨hR.1, hR.2⟩ ⟨blindP, preP⟩ rfl hsz hrest hd hk) k
def f_X7_latest (x1 : Int32) (w : CW) : Option Int32 :=
 (f_X9_within x1 ((0 : Int32)) ((w.1 3 1) - ((1 : Int32)))).bind fun y1 =>
 if y1 = 0 then
 (some ((-5 : Int32)))
 else
 ((f_J9_floorMod_7cf53 (((w.1 3 2) - ((1 : Int32))) - x1) ((30 : Int32))).bind fun y3 =>
 chk (inb y3 30) (
 some (w.1 19 y3.toNatClampNeg)))
set_option maxHeartbeats 4000000 in
set_option maxRecDepth 100000 in
theorem t_X7_latest (l : Launch) (G : Gm) (la : Nat) (w : CW) (x1 : Int32) (r : Int32) (hf : f_X7_latest x1 w = some r) : MetR l yX7_latest cX7_latest 2 (some .int) 1 22 G (cw G la w) [.ref (gq G 3), .int x1] (.int r) := by
  refine ent (own := RX7) (As := [.ref (gq G 3), .int x1]) (by decide +kernel) rfl (Nat.le_of_ble_eq_true rfl) (fun _ _ h => h.1) ?_
  intro p e s m args below meth c ls B hr hlocks hv hl
  obtain ⟨-, hP, hKK, hD⟩ := hv
  have X : CX RX7 cX7_latest 2 G p s m args c := ⟨B, hKK⟩
  obtain ⟨hx, hb, hml, hown, hts⟩ := id B
  have h : CH G (cw G la w) (fun _ => True) s.heap s.heap [] := ⟨hP, hD, va_S.rf⟩
  have hl : lv_has ls 2 [(0, .ref (gq G 3)), (1, .int x1)] := hl
  unfold f_X7_latest at hf
  refine lv_iload_n hx hb dX7_latest_0 rfl (lv_at hl 1 rfl) ?_
  refine lv_iconst (v := 0) hx hb dX7_latest_1 (by decide) ?_
  refine lv_aload_n hx hb dX7_latest_2 rfl (lv_at hl 0 rfl) ?_
  refine GC_3_1 X h k_X7_15 dX7_latest_3 ?_
  refine lv_iconst (v := 1) hx hb dX7_latest_6 (by decide) ?_
  refine lv_isub hx hb dX7_latest_7 ?_
  obtain ⟨y1, ey1, hf⟩ := bnd_some hf
  refine kn_X9_within X.1 ey1 (X.2.2 _ (by decide +kernel)) dX7_latest_8 hl.1 ⟨(Nat.le_of_ble_eq_true rfl), (Nat.le_of_ble_eq_true rfl)⟩ (Nat.le_of_ble_eq_true rfl) ⟨Nat.zero_le _, Nat.zero_le _⟩ ?_
  refine lv_if_eq (tgt := 35) hx hb dX7_latest_11 (by decide) (fun c2 => ?_) (fun c2 => ?_)
  · have hf := if_t c2 hf
    refine lv_bipush (v := (-5)) hx hb dX7_latest_35 (by decide) ?_
    cases hf
    exact rr_i X.1 hr hlocks dX7_latest_37
  · have hf := if_f c2 hf
    refine lv_aload_n hx hb dX7_latest_14 rfl (lv_at hl 0 rfl) ?_
    refine GC_3_0 X h k_X7_11 dX7_latest_15 ?_
    refine lv_aload_n hx hb dX7_latest_18 rfl (lv_at hl 0 rfl) ?_
    refine GC_3_2 X h k_X7_19 dX7_latest_19 ?_
    refine lv_iconst (v := 1) hx hb dX7_latest_22 (by decide) ?_
    refine lv_isub hx hb dX7_latest_23 ?_
    refine lv_iload_n hx hb dX7_latest_24 rfl (lv_at hl 1 rfl) ?_
    refine lv_isub hx hb dX7_latest_25 ?_
    refine lv_bipush (v := 30) hx hb dX7_latest_26 (by decide) ?_
    obtain ⟨y3, ey3, hf⟩ := bnd_some hf
    refine k_J9_floorMod_7cf53 X.1 ey3 k_X7_32 dX7_latest_28 hl.1 ⟨(Nat.le_of_ble_eq_true rfl), (Nat.le_of_ble_eq_true rfl)⟩ (Nat.le_of_ble_eq_true rfl) ⟨Nat.zero_le _, Nat.zero_le _⟩ ?_
    obtain ⟨c4, hf⟩ := chk_some hf
    refine LC_19 X h c4 dX7_latest_31 ?_
    refine lv_goto (tgt := 37) hx hb dX7_latest_32 (by decide) ?_
    cases hf
    exact rr_i X.1 hr hlocks dX7_latest_37
theorem m_X7_latest : Cond.instanceMethod yX7_latest ∈ lw_good ∧ Cond.selects RX7 yX7_latest yX7_latest ∈ lw_good ∧ Cond.initialized RX7 ∈ lw_good ∧ Cond.code yX7_latest cX7_latest 2 (some .int) ∈ lw_good := by decide +kernel
theorem k_X7_latest {p : Program} {l : Launch} {e : Env} {R : Room} {s : State} {m : MethodId} {args : Array Value} {below : List Frame} {meth : Method} {c : Code} {H : Heap} {locs : List Loc} {cells slots : Nat} {Q : State → Prop} {cc : ByteArray} {nL pc idx : Nat} {ls : Array Slot} {rest : List Value} {own : String} {G : Gm} {A : Nat → Prop} {H0 : Heap} {la : Nat} {w : CW} {x1 : Int32} {r : Int32} (X : CX own cc nL G p s m args c) (h : CH G (cw G la w) A H0 H locs) (hf : f_X7_latest x1 w = some r) (hlk : Cond.methodLink own idx yX7_latest ∈ lw_good) (hd : decode cc pc = .ok (.invokevirtual idx, 3)) (hsz : ls.size = nL) (hR : 2 ≤ R.frames ∧ 43 ≤ R.locals) (hrest : (rest.map fun v => v.category).sum ≤ 8) (hk : cells ≤ R.cells ∧ slots ≤ R.slots) (k : W p l e R s m args below meth c H locs cells slots Q (F0 m (pc + 3) ls (.int r :: rest))) : W p l e R s m args below meth c H locs cells slots Q (F0 m pc ls (.int x1 :: .ref (gq G 3) :: rest)) :=
  fin_r (runV (As := [.int x1]) X.1 1 (t_X7_latest l G la w x1 r hf) rfl rfl hlk m_X7_latest (by decide +kernel) ⟨hR.1, hR.2⟩ ⟨blindR, va_recv X.2.1 h.1 (ci := 6) (q0 := 3) rfl rfl, preR X.2 h⟩ rfl hsz hrest hd hk) k
def f_X9_trace (x1 : Int32) (w : CW) : Option Int32 :=
 (f_X7_latest x1 w).bind fun y1 =>
 some y1
set_option maxHeartbeats 4000000 in
set_option maxRecDepth 100000 in
theorem t_X9_trace (l : Launch) (G : Gm) (la : Nat) (w : CW) (x1 : Int32) (r : Int32) (hf : f_X9_trace x1 w = some r) : MetR l yX9_trace cX9_trace 2 (some .int) 2 43 G (cw G la w) [.ref (gq G 0), .int x1] (.int r) := by
  refine ent (own := RX9) (As := [.ref (gq G 0), .int x1]) (by decide +kernel) rfl (Nat.le_of_ble_eq_true rfl) (fun _ _ h => h.1) ?_
  intro p e s m args below meth c ls B hr hlocks hv hl
  obtain ⟨-, hP, hKK, hD⟩ := hv
  have X : CX RX9 cX9_trace 2 G p s m args c := ⟨B, hKK⟩
  obtain ⟨hx, hb, hml, hown, hts⟩ := id B
  have h : CH G (cw G la w) (fun _ => True) s.heap s.heap [] := ⟨hP, hD, va_S.rf⟩
  have hl : lv_has ls 2 [(0, .ref (gq G 0)), (1, .int x1)] := hl
  unfold f_X9_trace at hf
  refine lv_aload_n hx hb dX9_trace_0 rfl (lv_at hl 0 rfl) ?_
  refine GC_0_2 X h k_X9_28 dX9_trace_1 ?_
  refine lv_iload_n hx hb dX9_trace_4 rfl (lv_at hl 1 rfl) ?_
  obtain ⟨y1, ey1, hf⟩ := bnd_some hf
  refine k_X7_latest X h ey1 k_X9_157 dX9_trace_5 hl.1 ⟨(Nat.le_of_ble_eq_true rfl), (Nat.le_of_ble_eq_true rfl)⟩ (Nat.le_of_ble_eq_true rfl) ⟨Nat.zero_le _, Nat.zero_le _⟩ ?_
  cases hf
  exact rr_i X.1 hr hlocks dX9_trace_8
theorem m_X9_trace : Cond.instanceMethod yX9_trace ∈ lw_good ∧ Cond.selects RX9 yX9_trace yX9_trace ∈ lw_good ∧ Cond.initialized RX9 ∈ lw_good ∧ Cond.code yX9_trace cX9_trace 2 (some .int) ∈ lw_good := by decide +kernel
theorem k_X9_trace {p : Program} {l : Launch} {e : Env} {R : Room} {s : State} {m : MethodId} {args : Array Value} {below : List Frame} {meth : Method} {c : Code} {H : Heap} {locs : List Loc} {cells slots : Nat} {Q : State → Prop} {cc : ByteArray} {nL pc idx : Nat} {ls : Array Slot} {rest : List Value} {own : String} {G : Gm} {A : Nat → Prop} {H0 : Heap} {la : Nat} {w : CW} {x1 : Int32} {r : Int32} (X : CX own cc nL G p s m args c) (h : CH G (cw G la w) A H0 H locs) (hf : f_X9_trace x1 w = some r) (hlk : Cond.methodLink own idx yX9_trace ∈ lw_good) (hd : decode cc pc = .ok (.invokevirtual idx, 3)) (hsz : ls.size = nL) (hR : 3 ≤ R.frames ∧ 64 ≤ R.locals) (hrest : (rest.map fun v => v.category).sum ≤ 8) (hk : cells ≤ R.cells ∧ slots ≤ R.slots) (k : W p l e R s m args below meth c H locs cells slots Q (F0 m (pc + 3) ls (.int r :: rest))) : W p l e R s m args below meth c H locs cells slots Q (F0 m pc ls (.int x1 :: .ref (gq G 0) :: rest)) :=
  fin_r (runV (As := [.int x1]) X.1 1 (t_X9_trace l G la w x1 r hf) rfl rfl hlk m_X9_trace (by decide +kernel) ⟨hR.1, hR.2⟩ ⟨blindR, va_recv X.2.1 h.1 (ci := 8) (q0 := 0) rfl rfl, preR X.2 h⟩ rfl hsz hrest hd hk) k
def f_X9_touches (x1 : Int32) (x2 : Int32) (w : CW) : Option Int32 :=
 (f_X9_isPlace x1).bind fun y1 =>
 if y1 = 0 then
 (some ((-1 : Int32)))
 else
 ((f_X9_within x2 ((0 : Int32)) ((1 : Int32))).bind fun y3 =>
 if y3 = 0 then
 (some ((-2 : Int32)))
 else
 (if x2 = 0 then
 (chk (inb x1 60) (
 some (w.1 5 x1.toNatClampNeg)))
 else
 (chk (inb x1 60) (
 some (w.1 6 x1.toNatClampNeg)))))
set_option maxHeartbeats 4000000 in
set_option maxRecDepth 100000 in
theorem t_X9_touches (l : Launch) (G : Gm) (la : Nat) (w : CW) (x1 : Int32) (x2 : Int32) (r : Int32) (hf : f_X9_touches x1 x2 w = some r) : MetR l yX9_touches cX9_touches 3 (some .int) 2 42 G (cw G la w) [.ref (gq G 0), .int x1, .int x2] (.int r) := by
  refine ent (own := RX9) (As := [.ref (gq G 0), .int x1, .int x2]) (by decide +kernel) rfl (Nat.le_of_ble_eq_true rfl) (fun _ _ h => h.1) ?_
  intro p e s m args below meth c ls B hr hlocks hv hl
  obtain ⟨-, hP, hKK, hD⟩ := hv
  have X : CX RX9 cX9_touches 3 G p s m args c := ⟨B, hKK⟩
  obtain ⟨hx, hb, hml, hown, hts⟩ := id B
  have h : CH G (cw G la w) (fun _ => True) s.heap s.heap [] := ⟨hP, hD, va_S.rf⟩
  have hl : lv_has ls 3 [(0, .ref (gq G 0)), (1, .int x1), (2, .int x2)] := hl
  unfold f_X9_touches at hf
  refine lv_iload_n hx hb dX9_touches_0 rfl (lv_at hl 1 rfl) ?_
  obtain ⟨y1, ey1, hf⟩ := bnd_some hf
  refine k_X9_isPlace X.1 ey1 k_X9_88 dX9_touches_1 hl.1 ⟨(Nat.le_of_ble_eq_true rfl), (Nat.le_of_ble_eq_true rfl)⟩ (Nat.le_of_ble_eq_true rfl) ⟨Nat.zero_le _, Nat.zero_le _⟩ ?_
  refine lv_if_ne (tgt := 9) hx hb dX9_touches_4 (by decide) (fun c2 => ?_) (fun c2 => ?_)
  · have hf := if_f c2 hf
    refine lv_iload_n hx hb dX9_touches_9 rfl (lv_at hl 2 rfl) ?_
    refine lv_iconst (v := 0) hx hb dX9_touches_10 (by decide) ?_
    refine lv_iconst (v := 1) hx hb dX9_touches_11 (by decide) ?_
    obtain ⟨y3, ey3, hf⟩ := bnd_some hf
    refine k_X9_within X.1 ey3 k_X9_92 dX9_touches_12 hl.1 ⟨(Nat.le_of_ble_eq_true rfl), (Nat.le_of_ble_eq_true rfl)⟩ (Nat.le_of_ble_eq_true rfl) ⟨Nat.zero_le _, Nat.zero_le _⟩ ?_
    refine lv_if_ne (tgt := 21) hx hb dX9_touches_15 (by decide) (fun c4 => ?_) (fun c4 => ?_)
    · have hf := if_f c4 hf
      refine lv_iload_n hx hb dX9_touches_21 rfl (lv_at hl 2 rfl) ?_
      refine lv_if_ne (tgt := 34) hx hb dX9_touches_22 (by decide) (fun c5 => ?_) (fun c5 => ?_)
      · have hf := if_f c5 hf
        refine lv_aload_n hx hb dX9_touches_34 rfl (lv_at hl 0 rfl) ?_
        refine GC_0_5 X h k_X9_59 dX9_touches_35 ?_
        refine lv_iload_n hx hb dX9_touches_38 rfl (lv_at hl 1 rfl) ?_
        obtain ⟨c6, hf⟩ := chk_some hf
        refine LC_6 X h c6 dX9_touches_39 ?_
        cases hf
        exact rr_i X.1 hr hlocks dX9_touches_40
      · have hf := if_t c5 hf
        refine lv_aload_n hx hb dX9_touches_25 rfl (lv_at hl 0 rfl) ?_
        refine GC_0_4 X h k_X9_55 dX9_touches_26 ?_
        refine lv_iload_n hx hb dX9_touches_29 rfl (lv_at hl 1 rfl) ?_
        obtain ⟨c7, hf⟩ := chk_some hf
        refine LC_5 X h c7 dX9_touches_30 ?_
        refine lv_goto (tgt := 40) hx hb dX9_touches_31 (by decide) ?_
        cases hf
        exact rr_i X.1 hr hlocks dX9_touches_40
    · have hf := if_t c4 hf
      refine lv_bipush (v := (-2)) hx hb dX9_touches_18 (by decide) ?_
      cases hf
      exact rr_i X.1 hr hlocks dX9_touches_20
  · have hf := if_t c2 hf
    refine lv_iconst (v := (-1)) hx hb dX9_touches_7 (by decide) ?_
    cases hf
    exact rr_i X.1 hr hlocks dX9_touches_8
theorem m_X9_touches : Cond.instanceMethod yX9_touches ∈ lw_good ∧ Cond.selects RX9 yX9_touches yX9_touches ∈ lw_good ∧ Cond.initialized RX9 ∈ lw_good ∧ Cond.code yX9_touches cX9_touches 3 (some .int) ∈ lw_good := by decide +kernel
theorem k_X9_touches {p : Program} {l : Launch} {e : Env} {R : Room} {s : State} {m : MethodId} {args : Array Value} {below : List Frame} {meth : Method} {c : Code} {H : Heap} {locs : List Loc} {cells slots : Nat} {Q : State → Prop} {cc : ByteArray} {nL pc idx : Nat} {ls : Array Slot} {rest : List Value} {own : String} {G : Gm} {A : Nat → Prop} {H0 : Heap} {la : Nat} {w : CW} {x1 : Int32} {x2 : Int32} {r : Int32} (X : CX own cc nL G p s m args c) (h : CH G (cw G la w) A H0 H locs) (hf : f_X9_touches x1 x2 w = some r) (hlk : Cond.methodLink own idx yX9_touches ∈ lw_good) (hd : decode cc pc = .ok (.invokevirtual idx, 3)) (hsz : ls.size = nL) (hR : 3 ≤ R.frames ∧ 64 ≤ R.locals) (hrest : (rest.map fun v => v.category).sum ≤ 8) (hk : cells ≤ R.cells ∧ slots ≤ R.slots) (k : W p l e R s m args below meth c H locs cells slots Q (F0 m (pc + 3) ls (.int r :: rest))) : W p l e R s m args below meth c H locs cells slots Q (F0 m pc ls (.int x2 :: .int x1 :: .ref (gq G 0) :: rest)) :=
  fin_r (runV (As := [.int x1, .int x2]) X.1 2 (t_X9_touches l G la w x1 x2 r hf) rfl rfl hlk m_X9_touches (by decide +kernel) ⟨hR.1, hR.2⟩ ⟨blindR, va_recv X.2.1 h.1 (ci := 8) (q0 := 0) rfl rfl, preR X.2 h⟩ rfl hsz hrest hd hk) k
def f_X9_isProgram (x0 : Int32) : Option Int32 :=
 (f_X9_within x0 ((0 : Int32)) ((39 : Int32))).bind fun y1 =>
 chk (y1 = 0 ∨ y1 = 1) (
 some y1)
set_option maxHeartbeats 4000000 in
set_option maxRecDepth 100000 in
theorem t_X9_isProgram (l : Launch) (x0 : Int32) (r : Int32) (hf : f_X9_isProgram x0 = some r) : MetP l yX9_isProgram cX9_isProgram 1 (some .boolean) 1 22 [.int x0] (.int r) := by
  refine ent (own := RX9) (As := [.int x0]) (by decide +kernel) rfl (Nat.le_of_ble_eq_true rfl) (fun _ _ h => h.1) ?_
  intro p e s m args below meth c ls B hr hlocks hv hl
  obtain ⟨hx, hb, hml, hown, hts⟩ := id B
  have hl : lv_has ls 1 [(0, .int x0)] := hl
  unfold f_X9_isProgram at hf
  refine lv_iload_n hx hb dX9_isProgram_0 rfl (lv_at hl 0 rfl) ?_
  refine lv_iconst (v := 0) hx hb dX9_isProgram_1 (by decide) ?_
  refine lv_bipush (v := 39) hx hb dX9_isProgram_2 (by decide) ?_
  obtain ⟨y1, ey1, hf⟩ := bnd_some hf
  refine k_X9_within B ey1 k_X9_92 dX9_isProgram_4 hl.1 ⟨(Nat.le_of_ble_eq_true rfl), (Nat.le_of_ble_eq_true rfl)⟩ (Nat.le_of_ble_eq_true rfl) ⟨Nat.zero_le _, Nat.zero_le _⟩ ?_
  obtain ⟨c2, hf⟩ := chk_some hf
  cases hf
  exact rr_z B hr hlocks c2 dX9_isProgram_7
theorem m_X9_isProgram : Cond.static yX9_isProgram ∈ lw_good ∧ Cond.initialized yX9_isProgram.cls ∈ lw_good ∧ Cond.code yX9_isProgram cX9_isProgram 1 (some .boolean) ∈ lw_good := by decide +kernel
theorem k_X9_isProgram {p : Program} {l : Launch} {e : Env} {R : Room} {s : State} {m : MethodId} {args : Array Value} {below : List Frame} {meth : Method} {c : Code} {H : Heap} {locs : List Loc} {cells slots : Nat} {Q : State → Prop} {cc : ByteArray} {nL pc idx : Nat} {ls : Array Slot} {rest : List Value} {own : String} {x0 : Int32} {r : Int32} (B : CB own cc nL p s m args c) (hf : f_X9_isProgram x0 = some r) (hlk : Cond.methodLink own idx yX9_isProgram ∈ lw_good) (hd : decode cc pc = .ok (.invokestatic idx, 3)) (hsz : ls.size = nL) (hR : 2 ≤ R.frames ∧ 42 ≤ R.locals) (hrest : (rest.map fun v => v.category).sum ≤ 8) (hk : cells ≤ R.cells ∧ slots ≤ R.slots) (k : W p l e R s m args below meth c H locs cells slots Q (F0 m (pc + 3) ls (.int r :: rest))) : W p l e R s m args below meth c H locs cells slots Q (F0 m pc ls (.int x0 :: rest)) :=
  fin_r (runS (As := [.int x0]) B 1 (t_X9_isProgram l x0 r hf) rfl rfl hlk m_X9_isProgram (by decide +kernel) ⟨hR.1, hR.2⟩ ⟨blindP, preP⟩ rfl hsz hrest hd hk) k
def f_X9_programCell (x0 : Int32) : Option Int32 :=
 some (((4680 : Int32)) + (x0 * ((31 : Int32))))
set_option maxHeartbeats 4000000 in
set_option maxRecDepth 100000 in
theorem t_X9_programCell (l : Launch) (x0 : Int32) (r : Int32) (hf : f_X9_programCell x0 = some r) : MetP l yX9_programCell cX9_programCell 1 (some .int) 0 0 [.int x0] (.int r) := by
  refine ent (own := RX9) (As := [.int x0]) (by decide +kernel) rfl (Nat.le_of_ble_eq_true rfl) (fun _ _ h => h.1) ?_
  intro p e s m args below meth c ls B hr hlocks hv hl
  obtain ⟨hx, hb, hml, hown, hts⟩ := id B
  have hl : lv_has ls 1 [(0, .int x0)] := hl
  unfold f_X9_programCell at hf
  refine lv_sipush (v := 4680) hx hb dX9_programCell_0 (by decide) ?_
  refine lv_iload_n hx hb dX9_programCell_3 rfl (lv_at hl 0 rfl) ?_
  refine lv_bipush (v := 31) hx hb dX9_programCell_4 (by decide) ?_
  refine lv_imul hx hb dX9_programCell_6 ?_
  refine lv_iadd hx hb dX9_programCell_7 ?_
  cases hf
  exact rr_i B hr hlocks dX9_programCell_8
theorem m_X9_programCell : Cond.static yX9_programCell ∈ lw_good ∧ Cond.initialized yX9_programCell.cls ∈ lw_good ∧ Cond.code yX9_programCell cX9_programCell 1 (some .int) ∈ lw_good := by decide +kernel
theorem k_X9_programCell {p : Program} {l : Launch} {e : Env} {R : Room} {s : State} {m : MethodId} {args : Array Value} {below : List Frame} {meth : Method} {c : Code} {H : Heap} {locs : List Loc} {cells slots : Nat} {Q : State → Prop} {cc : ByteArray} {nL pc idx : Nat} {ls : Array Slot} {rest : List Value} {own : String} {x0 : Int32} {r : Int32} (B : CB own cc nL p s m args c) (hf : f_X9_programCell x0 = some r) (hlk : Cond.methodLink own idx yX9_programCell ∈ lw_good) (hd : decode cc pc = .ok (.invokestatic idx, 3)) (hsz : ls.size = nL) (hR : 1 ≤ R.frames ∧ 20 ≤ R.locals) (hrest : (rest.map fun v => v.category).sum ≤ 8) (hk : cells ≤ R.cells ∧ slots ≤ R.slots) (k : W p l e R s m args below meth c H locs cells slots Q (F0 m (pc + 3) ls (.int r :: rest))) : W p l e R s m args below meth c H locs cells slots Q (F0 m pc ls (.int x0 :: rest)) :=
  fin_r (runS (As := [.int x0]) B 1 (t_X9_programCell l x0 r hf) rfl rfl hlk m_X9_programCell (by decide +kernel) ⟨hR.1, hR.2⟩ ⟨blindP, preP⟩ rfl hsz hrest hd hk) k
def f_X9_stepCell (x0 : Int32) (x1 : Int32) : Option Int32 :=
 (f_X9_programCell x0).bind fun y1 =>
 some ((y1 + ((1 : Int32))) + x1)
set_option maxHeartbeats 4000000 in
set_option maxRecDepth 100000 in
theorem t_X9_stepCell (l : Launch) (x0 : Int32) (x1 : Int32) (r : Int32) (hf : f_X9_stepCell x0 x1 = some r) : MetP l yX9_stepCell cX9_stepCell 2 (some .int) 1 20 [.int x0, .int x1] (.int r) := by
  refine ent (own := RX9) (As := [.int x0, .int x1]) (by decide +kernel) rfl (Nat.le_of_ble_eq_true rfl) (fun _ _ h => h.1) ?_
  intro p e s m args below meth c ls B hr hlocks hv hl
  obtain ⟨hx, hb, hml, hown, hts⟩ := id B
  have hl : lv_has ls 2 [(0, .int x0), (1, .int x1)] := hl
  unfold f_X9_stepCell at hf
  refine lv_iload_n hx hb dX9_stepCell_0 rfl (lv_at hl 0 rfl) ?_
  obtain ⟨y1, ey1, hf⟩ := bnd_some hf
  refine k_X9_programCell B ey1 k_X9_163 dX9_stepCell_1 hl.1 ⟨(Nat.le_of_ble_eq_true rfl), (Nat.le_of_ble_eq_true rfl)⟩ (Nat.le_of_ble_eq_true rfl) ⟨Nat.zero_le _, Nat.zero_le _⟩ ?_
  refine lv_iconst (v := 1) hx hb dX9_stepCell_4 (by decide) ?_
  refine lv_iadd hx hb dX9_stepCell_5 ?_
  refine lv_iload_n hx hb dX9_stepCell_6 rfl (lv_at hl 1 rfl) ?_
  refine lv_iadd hx hb dX9_stepCell_7 ?_
  cases hf
  exact rr_i B hr hlocks dX9_stepCell_8
theorem m_X9_stepCell : Cond.static yX9_stepCell ∈ lw_good ∧ Cond.initialized yX9_stepCell.cls ∈ lw_good ∧ Cond.code yX9_stepCell cX9_stepCell 2 (some .int) ∈ lw_good := by decide +kernel
theorem k_X9_stepCell {p : Program} {l : Launch} {e : Env} {R : Room} {s : State} {m : MethodId} {args : Array Value} {below : List Frame} {meth : Method} {c : Code} {H : Heap} {locs : List Loc} {cells slots : Nat} {Q : State → Prop} {cc : ByteArray} {nL pc idx : Nat} {ls : Array Slot} {rest : List Value} {own : String} {x0 : Int32} {x1 : Int32} {r : Int32} (B : CB own cc nL p s m args c) (hf : f_X9_stepCell x0 x1 = some r) (hlk : Cond.methodLink own idx yX9_stepCell ∈ lw_good) (hd : decode cc pc = .ok (.invokestatic idx, 3)) (hsz : ls.size = nL) (hR : 2 ≤ R.frames ∧ 41 ≤ R.locals) (hrest : (rest.map fun v => v.category).sum ≤ 8) (hk : cells ≤ R.cells ∧ slots ≤ R.slots) (k : W p l e R s m args below meth c H locs cells slots Q (F0 m (pc + 3) ls (.int r :: rest))) : W p l e R s m args below meth c H locs cells slots Q (F0 m pc ls (.int x1 :: .int x0 :: rest)) :=
  fin_r (runS (As := [.int x0, .int x1]) B 2 (t_X9_stepCell l x0 x1 r hf) rfl rfl hlk m_X9_stepCell (by decide +kernel) ⟨hR.1, hR.2⟩ ⟨blindP, preP⟩ rfl hsz hrest hd hk) k
def f_X9_program_l45_body (kself : (Int32 → Int32 → Int32 → CW → Option ((Int32 × CW) × Nat))) (x1 : Int32) (x2 : Int32) (x3 : Int32) (w : CW) : Option ((Int32 × CW) × Nat) :=
 if x2 ≤ x3 then
 (some (((1 : Int32), w), 0))
 else
 ((f_X9_stepCell x1 x3).bind fun y2 =>
 bnc (f_X1_set y2 ((4001 : Int32)) w) fun y3 =>
 kself x1 x2 (x3 + (1 : Int32)) y3)
def f_X9_program_l45 : Nat → Int32 → Int32 → Int32 → CW → Option ((Int32 × CW) × Nat)
  | 0, _, _, _, _ => none
  | n + 1, x1, x2, x3, w => f_X9_program_l45_body (f_X9_program_l45 n) x1 x2 x3 w
def f_X9_program (x1 : Int32) (x2 : Int32) (w : CW) : Option ((Int32 × CW) × Nat) :=
 (f_X9_isProgram x1).bind fun y4 =>
 if y4 = 0 then
 (some (((-1 : Int32), w), 0))
 else
 (if x2 ≤ ((30 : Int32)) then
 (if 0 ≤ x2 then
 ((f_X9_programCell x1).bind fun y8 =>
 bnc (f_X1_set y8 (x2 + ((1 : Int32))) w) fun y9 =>
 f_X9_program_l45 FU x1 x2 ((0 : Int32)) y9)
 else
 ((f_X9_found ((13 : Int32)) w).bind fun y10 =>
 some ((y10.1, y10.2), 0)))
 else
 (some (((-2 : Int32), w), 0)))
set_option maxHeartbeats 4000000 in
set_option maxRecDepth 100000 in
theorem t_X9_program (l : Launch) (G : Gm) (la0 : Nat) (w0 : CW) (x1 : Int32) (x2 : Int32) (r : Int32) (w' : CW) (N : Nat) (hf : f_X9_program x1 x2 w0 = some ((r, w'), N)) : MetI l yX9_program cX9_program 4 (some .int) 4 113 G (cw G la0 w0) [.ref (gq G 0), .int x1, .int x2] r (fun u => cw G u w') N := by
  intro sz
  refine ent (own := RX9) (As := [.ref (gq G 0), .int x1, .int x2]) (by decide +kernel) rfl (Nat.le_of_ble_eq_true rfl) (fun _ _ h => h.1) ?_
  intro p e s m args below meth c ls B hr hlocks hv hl
  obtain ⟨-, hsz, hP, hKK, hD⟩ := hv
  subst hsz
  have X : CX RX9 cX9_program 4 G p s m args c := ⟨B, hKK⟩
  obtain ⟨hx, hb, hml, hown, hts⟩ := id B
  have hA : ∀ q : Nat, s.heap.size ≤ q → va_A (cw G la0 w0) s.heap.size q := fun q z => Or.inr z
  have h : CH G (cw G la0 w0) (va_A (cw G la0 w0) s.heap.size) s.heap s.heap [] := ⟨hP, hD.self, va_S.rf⟩
  have hc : 0 + N = N := Nat.zero_add N
  have L45 : ∀ (n45 : Nat) (x1 : Int32) (x2 : Int32) (x3 : Int32) (w : CW) (la : Nat) (H : Heap) (locs : List Loc) (ls : Array Slot) (k n : Nat), f_X9_program_l45 n45 x1 x2 x3 w = some ((r, w'), n) → CH G (cw G la w) (va_A (cw G la0 w0) s.heap.size) s.heap H locs → lv_has ls 4 [(0, .ref (gq G 0)), (1, .int x1), (2, .int x2), (3, .int x3)] → k + n = N → W p l e { frames := 4, cells := N, slots := 4096 * N, locals := 113 } s m args below meth c H locs k (4096 * k) (MQ below (QI G (cw G la0 w0) s.heap.size r (fun u => cw G u w')) args s N (4096 * N) (va_A (cw G la0 w0) s.heap.size)) (F0 m 45 ls []) := by
    intro n45
    induction n45 with
    | zero =>
      intro x1 x2 x3 w la H locs ls k n hf h hl hc
      cases (show (none : Option ((Int32 × CW) × Nat)) = some _ from hf)
    | succ n45 ih45 =>
      intro x1 x2 x3 w la H locs ls k n hf h hl hc
      have hf : f_X9_program_l45_body (f_X9_program_l45 n45) x1 x2 x3 w = _ := hf
      unfold f_X9_program_l45_body at hf
      refine lv_iload_n hx hb dX9_program_45 rfl (lv_at hl 3 rfl) ?_
      refine lv_iload_n hx hb dX9_program_46 rfl (lv_at hl 2 rfl) ?_
      refine lv_icmp_ge (tgt := 71) hx hb dX9_program_47 (by decide) (fun c1 => ?_) (fun c1 => ?_)
      · have hf := if_t c1 hf
        refine lv_iconst (v := 1) hx hb dX9_program_71 (by decide) ?_
        exact e1_i X.1 hr hlocks hf h hc dX9_program_72
      · have hf := if_f c1 hf
        refine lv_aload_n hx hb dX9_program_50 rfl (lv_at hl 0 rfl) ?_
        refine GC_0_0 X h k_X9_12 dX9_program_51 ?_
        refine lv_iload_n hx hb dX9_program_54 rfl (lv_at hl 1 rfl) ?_
        refine lv_iload_n hx hb dX9_program_55 rfl (lv_at hl 3 rfl) ?_
        obtain ⟨y2, ey2, hf⟩ := bnd_some hf
        refine k_X9_stepCell X.1 ey2 k_X9_166 dX9_program_56 hl.1 ⟨(Nat.le_of_ble_eq_true rfl), (Nat.le_of_ble_eq_true rfl)⟩ (Nat.le_of_ble_eq_true rfl) (rmm0 hc) ?_
        refine lv_sipush (v := 4001) hx hb dX9_program_59 (by decide) ?_
        obtain ⟨y3, ny3, my3, ey3, hf, jy3⟩ := bnc_some hf
        refine k_X1_set X h hA ey3 k_X9_84 dX9_program_62 hl.1 ⟨(Nat.le_of_ble_eq_true rfl), (Nat.le_of_ble_eq_true rfl)⟩ (Nat.le_of_ble_eq_true rfl) (rmm1 hc jy3) (fun la H locs h => ?_)
        have hc := rmm2 hc jy3
        refine lv_iinc (v := x3 + (1 : Int32)) (lv' := [(3, .int (x3 + (1 : Int32))), (0, .ref (gq G 0)), (1, .int x1), (2, .int x2)]) hx hb dX9_program_65 hl (k := 3) rfl (by rfl) (by decide) rfl (fun ls hl => ?_)
        refine lv_goto (tgt := 45) hx hb dX9_program_68 (by decide) ?_
        exact ih45 _ _ _ _ _ _ _ _ _ _ hf h (lv_sub hl [1, 2, 3, 0] rfl) hc
  obtain ⟨la, rfl⟩ : ∃ z, z = la0 := ⟨_, rfl⟩
  obtain ⟨w, rfl⟩ : ∃ z, z = w0 := ⟨_, rfl⟩
  have hl : lv_has ls 4 [(0, .ref (gq G 0)), (1, .int x1), (2, .int x2)] := hl
  unfold f_X9_program at hf
  refine wid0 ?_
  refine lv_iload_n hx hb dX9_program_0 rfl (lv_at hl 1 rfl) ?_
  obtain ⟨y4, ey4, hf⟩ := bnd_some hf
  refine k_X9_isProgram X.1 ey4 k_X9_160 dX9_program_1 hl.1 ⟨(Nat.le_of_ble_eq_true rfl), (Nat.le_of_ble_eq_true rfl)⟩ (Nat.le_of_ble_eq_true rfl) (rmm0 hc) ?_
  refine lv_if_ne (tgt := 9) hx hb dX9_program_4 (by decide) (fun c5 => ?_) (fun c5 => ?_)
  · have hf := if_f c5 hf
    refine lv_iload_n hx hb dX9_program_9 rfl (lv_at hl 2 rfl) ?_
    refine lv_bipush (v := 30) hx hb dX9_program_10 (by decide) ?_
    refine lv_icmp_le (tgt := 18) hx hb dX9_program_12 (by decide) (fun c6 => ?_) (fun c6 => ?_)
    · have hf := if_t c6 hf
      refine lv_iload_n hx hb dX9_program_18 rfl (lv_at hl 2 rfl) ?_
      refine lv_if_ge (tgt := 29) hx hb dX9_program_19 (by decide) (fun c7 => ?_) (fun c7 => ?_)
      · have hf := if_t c7 hf
        refine lv_aload_n hx hb dX9_program_29 rfl (lv_at hl 0 rfl) ?_
        refine GC_0_0 X h k_X9_12 dX9_program_30 ?_
        refine lv_iload_n hx hb dX9_program_33 rfl (lv_at hl 1 rfl) ?_
        obtain ⟨y8, ey8, hf⟩ := bnd_some hf
        refine k_X9_programCell X.1 ey8 k_X9_163 dX9_program_34 hl.1 ⟨(Nat.le_of_ble_eq_true rfl), (Nat.le_of_ble_eq_true rfl)⟩ (Nat.le_of_ble_eq_true rfl) (rmm0 hc) ?_
        refine lv_iload_n hx hb dX9_program_37 rfl (lv_at hl 2 rfl) ?_
        refine lv_iconst (v := 1) hx hb dX9_program_38 (by decide) ?_
        refine lv_iadd hx hb dX9_program_39 ?_
        obtain ⟨y9, ny9, my9, ey9, hf, jy9⟩ := bnc_some hf
        refine k_X1_set X h hA ey9 k_X9_84 dX9_program_40 hl.1 ⟨(Nat.le_of_ble_eq_true rfl), (Nat.le_of_ble_eq_true rfl)⟩ (Nat.le_of_ble_eq_true rfl) (rmm1 hc jy9) (fun la H locs h => ?_)
        have hc := rmm2 hc jy9
        refine lv_iconst (v := 0) hx hb dX9_program_43 (by decide) ?_
        refine lv_istore_n (lv' := [(3, .int ((0 : Int32))), (0, .ref (gq G 0)), (1, .int x1), (2, .int x2)]) hx hb dX9_program_44 rfl hl (by decide) rfl (fun ls hl => ?_)
        exact L45 FU _ _ _ _ _ _ _ _ _ _ hf h (lv_sub hl [1, 2, 3, 0] rfl) hc
      · have hf := if_f c7 hf
        refine lv_aload_n hx hb dX9_program_22 rfl (lv_at hl 0 rfl) ?_
        refine lv_bipush (v := 13) hx hb dX9_program_23 (by decide) ?_
        obtain ⟨y10, ey10, hf⟩ := bnd_some hf
        refine k_X9_found X h hA ey10 k_X9_103 dX9_program_25 hl.1 ⟨(Nat.le_of_ble_eq_true rfl), (Nat.le_of_ble_eq_true rfl)⟩ (Nat.le_of_ble_eq_true rfl) (rmm0 hc) (fun H locs h => ?_)
        exact e1_i X.1 hr hlocks hf h hc dX9_program_28
    · have hf := if_f c6 hf
      refine lv_bipush (v := (-2)) hx hb dX9_program_15 (by decide) ?_
      exact e1_i X.1 hr hlocks hf h hc dX9_program_17
  · have hf := if_t c5 hf
    refine lv_iconst (v := (-1)) hx hb dX9_program_7 (by decide) ?_
    exact e1_i X.1 hr hlocks hf h hc dX9_program_8
theorem m_X9_program : Cond.instanceMethod yX9_program ∈ lw_good ∧ Cond.selects RX9 yX9_program yX9_program ∈ lw_good ∧ Cond.initialized RX9 ∈ lw_good ∧ Cond.code yX9_program cX9_program 4 (some .int) ∈ lw_good := by decide +kernel
theorem k_X9_program {p : Program} {l : Launch} {e : Env} {R : Room} {s : State} {m : MethodId} {args : Array Value} {below : List Frame} {meth : Method} {c : Code} {H : Heap} {locs : List Loc} {cells : Nat} {Q : State → Prop} {cc : ByteArray} {nL pc idx : Nat} {ls : Array Slot} {rest : List Value} {own : String} {G : Gm} {A : Nat → Prop} {H0 : Heap} {la : Nat} {w : CW} {x1 : Int32} {x2 : Int32} {y : Int32 × CW} {n : Nat} (X : CX own cc nL G p s m args c) (h : CH G (cw G la w) A H0 H locs) (hA : ∀ q, H0.size ≤ q → A q) (hf : f_X9_program x1 x2 w = some (y, n)) (hlk : Cond.methodLink own idx yX9_program ∈ lw_good) (hd : decode cc pc = .ok (.invokevirtual idx, 3)) (hsz : ls.size = nL) (hR : 5 ≤ R.frames ∧ 136 ≤ R.locals) (hrest : (rest.map fun v => v.category).sum ≤ 8) (hk : cells + n ≤ R.cells ∧ 4096 * cells + 4096 * n ≤ R.slots) (k : ∀ (la : Nat) (H : Heap) (locs : List Loc), CH G (cw G la y.2) A H0 H locs → W p l e R s m args below meth c H locs (cells + n) (4096 * (cells + n)) Q (F0 m (pc + 3) ls (.int y.1 :: rest))) : W p l e R s m args below meth c H locs cells (4096 * cells) Q (F0 m pc ls (.int x2 :: .int x1 :: .ref (gq G 0) :: rest)) :=
  fin_i (n := n) (runV (As := [.int x1, .int x2]) X.1 2 (t_X9_program l G la w x1 x2 y.1 y.2 n hf _) rfl rfl hlk m_X9_program (by decide +kernel) ⟨hR.1, hR.2⟩ ⟨blindM, va_recv X.2.1 h.1 (ci := 8) (q0 := 0) rfl rfl, preM X.2 h⟩ rfl hsz hrest hd hk) h hA (fun la H locs h => by rw [← Nat.mul_add]; exact k la H locs h)
def f_X9_hasProgram (x1 : Int32) (w : CW) : Option Int32 :=
 (f_X9_programCell x1).bind fun y1 =>
 (f_X1_get y1 w).bind fun y2 =>
 if y2 ≤ 0 then
 (some ((0 : Int32)))
 else
 (some ((1 : Int32)))
set_option maxHeartbeats 4000000 in
set_option maxRecDepth 100000 in
theorem t_X9_hasProgram (l : Launch) (G : Gm) (la : Nat) (w : CW) (x1 : Int32) (r : Int32) (hf : f_X9_hasProgram x1 w = some r) : MetR l yX9_hasProgram cX9_hasProgram 2 (some .boolean) 1 21 G (cw G la w) [.ref (gq G 0), .int x1] (.int r) := by
  refine ent (own := RX9) (As := [.ref (gq G 0), .int x1]) (by decide +kernel) rfl (Nat.le_of_ble_eq_true rfl) (fun _ _ h => h.1) ?_
  intro p e s m args below meth c ls B hr hlocks hv hl
  obtain ⟨-, hP, hKK, hD⟩ := hv
  have X : CX RX9 cX9_hasProgram 2 G p s m args c := ⟨B, hKK⟩
  obtain ⟨hx, hb, hml, hown, hts⟩ := id B
  have h : CH G (cw G la w) (fun _ => True) s.heap s.heap [] := ⟨hP, hD, va_S.rf⟩
  have hl : lv_has ls 2 [(0, .ref (gq G 0)), (1, .int x1)] := hl
  unfold f_X9_hasProgram at hf
  refine lv_aload_n hx hb dX9_hasProgram_0 rfl (lv_at hl 0 rfl) ?_
  refine GC_0_0 X h k_X9_12 dX9_hasProgram_1 ?_
  refine lv_iload_n hx hb dX9_hasProgram_4 rfl (lv_at hl 1 rfl) ?_
  obtain ⟨y1, ey1, hf⟩ := bnd_some hf
  refine k_X9_programCell X.1 ey1 k_X9_163 dX9_hasProgram_5 hl.1 ⟨(Nat.le_of_ble_eq_true rfl), (Nat.le_of_ble_eq_true rfl)⟩ (Nat.le_of_ble_eq_true rfl) ⟨Nat.zero_le _, Nat.zero_le _⟩ ?_
  obtain ⟨y2, ey2, hf⟩ := bnd_some hf
  refine k_X1_get X h ey2 k_X9_175 dX9_hasProgram_8 hl.1 ⟨(Nat.le_of_ble_eq_true rfl), (Nat.le_of_ble_eq_true rfl)⟩ (Nat.le_of_ble_eq_true rfl) ⟨Nat.zero_le _, Nat.zero_le _⟩ ?_
  refine lv_if_le (tgt := 18) hx hb dX9_hasProgram_11 (by decide) (fun c3 => ?_) (fun c3 => ?_)
  · have hf := if_t c3 hf
    refine lv_iconst (v := 0) hx hb dX9_hasProgram_18 (by decide) ?_
    cases hf
    exact rr_z X.1 hr hlocks (Or.inl rfl) dX9_hasProgram_19
  · have hf := if_f c3 hf
    refine lv_iconst (v := 1) hx hb dX9_hasProgram_14 (by decide) ?_
    refine lv_goto (tgt := 19) hx hb dX9_hasProgram_15 (by decide) ?_
    cases hf
    exact rr_z X.1 hr hlocks (Or.inr rfl) dX9_hasProgram_19
theorem m_X9_hasProgram : Cond.instanceMethod yX9_hasProgram ∈ lw_good ∧ Cond.selects RX9 yX9_hasProgram yX9_hasProgram ∈ lw_good ∧ Cond.initialized RX9 ∈ lw_good ∧ Cond.code yX9_hasProgram cX9_hasProgram 2 (some .boolean) ∈ lw_good := by decide +kernel
theorem k_X9_hasProgram {p : Program} {l : Launch} {e : Env} {R : Room} {s : State} {m : MethodId} {args : Array Value} {below : List Frame} {meth : Method} {c : Code} {H : Heap} {locs : List Loc} {cells slots : Nat} {Q : State → Prop} {cc : ByteArray} {nL pc idx : Nat} {ls : Array Slot} {rest : List Value} {own : String} {G : Gm} {A : Nat → Prop} {H0 : Heap} {la : Nat} {w : CW} {x1 : Int32} {r : Int32} (X : CX own cc nL G p s m args c) (h : CH G (cw G la w) A H0 H locs) (hf : f_X9_hasProgram x1 w = some r) (hlk : Cond.methodLink own idx yX9_hasProgram ∈ lw_good) (hd : decode cc pc = .ok (.invokevirtual idx, 3)) (hsz : ls.size = nL) (hR : 2 ≤ R.frames ∧ 42 ≤ R.locals) (hrest : (rest.map fun v => v.category).sum ≤ 8) (hk : cells ≤ R.cells ∧ slots ≤ R.slots) (k : W p l e R s m args below meth c H locs cells slots Q (F0 m (pc + 3) ls (.int r :: rest))) : W p l e R s m args below meth c H locs cells slots Q (F0 m pc ls (.int x1 :: .ref (gq G 0) :: rest)) :=
  fin_r (runV (As := [.int x1]) X.1 1 (t_X9_hasProgram l G la w x1 r hf) rfl rfl hlk m_X9_hasProgram (by decide +kernel) ⟨hR.1, hR.2⟩ ⟨blindR, va_recv X.2.1 h.1 (ci := 8) (q0 := 0) rfl rfl, preR X.2 h⟩ rfl hsz hrest hd hk) k
def f_X9_takeOut (x1 : Int32) (w : CW) : Option ((Int32 × CW) × Nat) :=
 (f_X9_isProgram x1).bind fun y1 =>
 if y1 = 0 then
 (some (((-1 : Int32), w), 0))
 else
 ((f_X9_hasProgram x1 w).bind fun y3 =>
 if y3 = 0 then
 (some (((0 : Int32), w), 0))
 else
 ((f_X9_programCell x1).bind fun y5 =>
 bnc (f_X1_set y5 ((0 : Int32)) w) fun y6 =>
 some (((1 : Int32), y6), 0)))
set_option maxHeartbeats 4000000 in
set_option maxRecDepth 100000 in
theorem t_X9_takeOut (l : Launch) (G : Gm) (la0 : Nat) (w0 : CW) (x1 : Int32) (r : Int32) (w' : CW) (N : Nat) (hf : f_X9_takeOut x1 w0 = some ((r, w'), N)) : MetI l yX9_takeOut cX9_takeOut 2 (some .int) 4 113 G (cw G la0 w0) [.ref (gq G 0), .int x1] r (fun u => cw G u w') N := by
  intro sz
  refine ent (own := RX9) (As := [.ref (gq G 0), .int x1]) (by decide +kernel) rfl (Nat.le_of_ble_eq_true rfl) (fun _ _ h => h.1) ?_
  intro p e s m args below meth c ls B hr hlocks hv hl
  obtain ⟨-, hsz, hP, hKK, hD⟩ := hv
  subst hsz
  have X : CX RX9 cX9_takeOut 2 G p s m args c := ⟨B, hKK⟩
  obtain ⟨hx, hb, hml, hown, hts⟩ := id B
  have hA : ∀ q : Nat, s.heap.size ≤ q → va_A (cw G la0 w0) s.heap.size q := fun q z => Or.inr z
  have h : CH G (cw G la0 w0) (va_A (cw G la0 w0) s.heap.size) s.heap s.heap [] := ⟨hP, hD.self, va_S.rf⟩
  have hc : 0 + N = N := Nat.zero_add N
  obtain ⟨la, rfl⟩ : ∃ z, z = la0 := ⟨_, rfl⟩
  obtain ⟨w, rfl⟩ : ∃ z, z = w0 := ⟨_, rfl⟩
  have hl : lv_has ls 2 [(0, .ref (gq G 0)), (1, .int x1)] := hl
  unfold f_X9_takeOut at hf
  refine wid0 ?_
  refine lv_iload_n hx hb dX9_takeOut_0 rfl (lv_at hl 1 rfl) ?_
  obtain ⟨y1, ey1, hf⟩ := bnd_some hf
  refine k_X9_isProgram X.1 ey1 k_X9_160 dX9_takeOut_1 hl.1 ⟨(Nat.le_of_ble_eq_true rfl), (Nat.le_of_ble_eq_true rfl)⟩ (Nat.le_of_ble_eq_true rfl) (rmm0 hc) ?_
  refine lv_if_ne (tgt := 9) hx hb dX9_takeOut_4 (by decide) (fun c2 => ?_) (fun c2 => ?_)
  · have hf := if_f c2 hf
    refine lv_aload_n hx hb dX9_takeOut_9 rfl (lv_at hl 0 rfl) ?_
    refine lv_iload_n hx hb dX9_takeOut_10 rfl (lv_at hl 1 rfl) ?_
    obtain ⟨y3, ey3, hf⟩ := bnd_some hf
    refine k_X9_hasProgram X h ey3 k_X9_169 dX9_takeOut_11 hl.1 ⟨(Nat.le_of_ble_eq_true rfl), (Nat.le_of_ble_eq_true rfl)⟩ (Nat.le_of_ble_eq_true rfl) (rmm0 hc) ?_
    refine lv_if_ne (tgt := 19) hx hb dX9_takeOut_14 (by decide) (fun c4 => ?_) (fun c4 => ?_)
    · have hf := if_f c4 hf
      refine lv_aload_n hx hb dX9_takeOut_19 rfl (lv_at hl 0 rfl) ?_
      refine GC_0_0 X h k_X9_12 dX9_takeOut_20 ?_
      refine lv_iload_n hx hb dX9_takeOut_23 rfl (lv_at hl 1 rfl) ?_
      obtain ⟨y5, ey5, hf⟩ := bnd_some hf
      refine k_X9_programCell X.1 ey5 k_X9_163 dX9_takeOut_24 hl.1 ⟨(Nat.le_of_ble_eq_true rfl), (Nat.le_of_ble_eq_true rfl)⟩ (Nat.le_of_ble_eq_true rfl) (rmm0 hc) ?_
      refine lv_iconst (v := 0) hx hb dX9_takeOut_27 (by decide) ?_
      obtain ⟨y6, ny6, my6, ey6, hf, jy6⟩ := bnc_some hf
      refine k_X1_set X h hA ey6 k_X9_84 dX9_takeOut_28 hl.1 ⟨(Nat.le_of_ble_eq_true rfl), (Nat.le_of_ble_eq_true rfl)⟩ (Nat.le_of_ble_eq_true rfl) (rmm1 hc jy6) (fun la H locs h => ?_)
      have hc := rmm2 hc jy6
      refine lv_iconst (v := 1) hx hb dX9_takeOut_31 (by decide) ?_
      exact e1_i X.1 hr hlocks hf h hc dX9_takeOut_32
    · have hf := if_t c4 hf
      refine lv_iconst (v := 0) hx hb dX9_takeOut_17 (by decide) ?_
      exact e1_i X.1 hr hlocks hf h hc dX9_takeOut_18
  · have hf := if_t c2 hf
    refine lv_iconst (v := (-1)) hx hb dX9_takeOut_7 (by decide) ?_
    exact e1_i X.1 hr hlocks hf h hc dX9_takeOut_8
theorem m_X9_takeOut : Cond.instanceMethod yX9_takeOut ∈ lw_good ∧ Cond.selects RX9 yX9_takeOut yX9_takeOut ∈ lw_good ∧ Cond.initialized RX9 ∈ lw_good ∧ Cond.code yX9_takeOut cX9_takeOut 2 (some .int) ∈ lw_good := by decide +kernel
theorem k_X9_takeOut {p : Program} {l : Launch} {e : Env} {R : Room} {s : State} {m : MethodId} {args : Array Value} {below : List Frame} {meth : Method} {c : Code} {H : Heap} {locs : List Loc} {cells : Nat} {Q : State → Prop} {cc : ByteArray} {nL pc idx : Nat} {ls : Array Slot} {rest : List Value} {own : String} {G : Gm} {A : Nat → Prop} {H0 : Heap} {la : Nat} {w : CW} {x1 : Int32} {y : Int32 × CW} {n : Nat} (X : CX own cc nL G p s m args c) (h : CH G (cw G la w) A H0 H locs) (hA : ∀ q, H0.size ≤ q → A q) (hf : f_X9_takeOut x1 w = some (y, n)) (hlk : Cond.methodLink own idx yX9_takeOut ∈ lw_good) (hd : decode cc pc = .ok (.invokevirtual idx, 3)) (hsz : ls.size = nL) (hR : 5 ≤ R.frames ∧ 134 ≤ R.locals) (hrest : (rest.map fun v => v.category).sum ≤ 8) (hk : cells + n ≤ R.cells ∧ 4096 * cells + 4096 * n ≤ R.slots) (k : ∀ (la : Nat) (H : Heap) (locs : List Loc), CH G (cw G la y.2) A H0 H locs → W p l e R s m args below meth c H locs (cells + n) (4096 * (cells + n)) Q (F0 m (pc + 3) ls (.int y.1 :: rest))) : W p l e R s m args below meth c H locs cells (4096 * cells) Q (F0 m pc ls (.int x1 :: .ref (gq G 0) :: rest)) :=
  fin_i (n := n) (runV (As := [.int x1]) X.1 1 (t_X9_takeOut l G la w x1 y.1 y.2 n hf _) rfl rfl hlk m_X9_takeOut (by decide +kernel) ⟨hR.1, hR.2⟩ ⟨blindM, va_recv X.2.1 h.1 (ci := 8) (q0 := 0) rfl rfl, preM X.2 h⟩ rfl hsz hrest hd hk) h hA (fun la H locs h => by rw [← Nat.mul_add]; exact k la H locs h)
def f_X9_lengthOf (x1 : Int32) (w : CW) : Option Int32 :=
 (f_X9_programCell x1).bind fun y1 =>
 (f_X1_get y1 w).bind fun y2 =>
 some (y2 - ((1 : Int32)))
set_option maxHeartbeats 4000000 in
set_option maxRecDepth 100000 in
theorem t_X9_lengthOf (l : Launch) (G : Gm) (la : Nat) (w : CW) (x1 : Int32) (r : Int32) (hf : f_X9_lengthOf x1 w = some r) : MetR l yX9_lengthOf cX9_lengthOf 2 (some .int) 1 21 G (cw G la w) [.ref (gq G 0), .int x1] (.int r) := by
  refine ent (own := RX9) (As := [.ref (gq G 0), .int x1]) (by decide +kernel) rfl (Nat.le_of_ble_eq_true rfl) (fun _ _ h => h.1) ?_
  intro p e s m args below meth c ls B hr hlocks hv hl
  obtain ⟨-, hP, hKK, hD⟩ := hv
  have X : CX RX9 cX9_lengthOf 2 G p s m args c := ⟨B, hKK⟩
  obtain ⟨hx, hb, hml, hown, hts⟩ := id B
  have h : CH G (cw G la w) (fun _ => True) s.heap s.heap [] := ⟨hP, hD, va_S.rf⟩
  have hl : lv_has ls 2 [(0, .ref (gq G 0)), (1, .int x1)] := hl
  unfold f_X9_lengthOf at hf
  refine lv_aload_n hx hb dX9_lengthOf_0 rfl (lv_at hl 0 rfl) ?_
  refine GC_0_0 X h k_X9_12 dX9_lengthOf_1 ?_
  refine lv_iload_n hx hb dX9_lengthOf_4 rfl (lv_at hl 1 rfl) ?_
  obtain ⟨y1, ey1, hf⟩ := bnd_some hf
  refine k_X9_programCell X.1 ey1 k_X9_163 dX9_lengthOf_5 hl.1 ⟨(Nat.le_of_ble_eq_true rfl), (Nat.le_of_ble_eq_true rfl)⟩ (Nat.le_of_ble_eq_true rfl) ⟨Nat.zero_le _, Nat.zero_le _⟩ ?_
  obtain ⟨y2, ey2, hf⟩ := bnd_some hf
  refine k_X1_get X h ey2 k_X9_175 dX9_lengthOf_8 hl.1 ⟨(Nat.le_of_ble_eq_true rfl), (Nat.le_of_ble_eq_true rfl)⟩ (Nat.le_of_ble_eq_true rfl) ⟨Nat.zero_le _, Nat.zero_le _⟩ ?_
  refine lv_iconst (v := 1) hx hb dX9_lengthOf_11 (by decide) ?_
  refine lv_isub hx hb dX9_lengthOf_12 ?_
  cases hf
  exact rr_i X.1 hr hlocks dX9_lengthOf_13
theorem m_X9_lengthOf : Cond.instanceMethod yX9_lengthOf ∈ lw_good ∧ Cond.selects RX9 yX9_lengthOf yX9_lengthOf ∈ lw_good ∧ Cond.initialized RX9 ∈ lw_good ∧ Cond.code yX9_lengthOf cX9_lengthOf 2 (some .int) ∈ lw_good := by decide +kernel
theorem k_X9_lengthOf {p : Program} {l : Launch} {e : Env} {R : Room} {s : State} {m : MethodId} {args : Array Value} {below : List Frame} {meth : Method} {c : Code} {H : Heap} {locs : List Loc} {cells slots : Nat} {Q : State → Prop} {cc : ByteArray} {nL pc idx : Nat} {ls : Array Slot} {rest : List Value} {own : String} {G : Gm} {A : Nat → Prop} {H0 : Heap} {la : Nat} {w : CW} {x1 : Int32} {r : Int32} (X : CX own cc nL G p s m args c) (h : CH G (cw G la w) A H0 H locs) (hf : f_X9_lengthOf x1 w = some r) (hlk : Cond.methodLink own idx yX9_lengthOf ∈ lw_good) (hd : decode cc pc = .ok (.invokevirtual idx, 3)) (hsz : ls.size = nL) (hR : 2 ≤ R.frames ∧ 42 ≤ R.locals) (hrest : (rest.map fun v => v.category).sum ≤ 8) (hk : cells ≤ R.cells ∧ slots ≤ R.slots) (k : W p l e R s m args below meth c H locs cells slots Q (F0 m (pc + 3) ls (.int r :: rest))) : W p l e R s m args below meth c H locs cells slots Q (F0 m pc ls (.int x1 :: .ref (gq G 0) :: rest)) :=
  fin_r (runV (As := [.int x1]) X.1 1 (t_X9_lengthOf l G la w x1 r hf) rfl rfl hlk m_X9_lengthOf (by decide +kernel) ⟨hR.1, hR.2⟩ ⟨blindR, va_recv X.2.1 h.1 (ci := 8) (q0 := 0) rfl rfl, preR X.2 h⟩ rfl hsz hrest hd hk) k
def f_X9_step (x1 : Int32) (x2 : Int32) (x3 : Int32) (x4 : Int32) (w : CW) : Option ((Int32 × CW) × Nat) :=
 (f_X9_isProgram x1).bind fun y1 =>
 if y1 = 0 then
 (some (((-1 : Int32), w), 0))
 else
 ((f_X9_within x3 ((0 : Int32)) ((4 : Int32))).bind fun y3 =>
 if y3 = 0 then
 (some (((-2 : Int32), w), 0))
 else
 ((f_X9_within x4 ((1 : Int32)) ((200 : Int32))).bind fun y5 =>
 if y5 = 0 then
 (some (((-2 : Int32), w), 0))
 else
 ((f_X9_hasProgram x1 w).bind fun y7 =>
 if y7 = 0 then
 ((f_X9_found ((3 : Int32)) w).bind fun y15 =>
 some ((y15.1, y15.2), 0))
 else
 ((f_X9_lengthOf x1 w).bind fun y9 =>
 (f_X9_within x2 ((0 : Int32)) (y9 - ((1 : Int32)))).bind fun y10 =>
 if y10 = 0 then
 ((f_X9_found ((4 : Int32)) w).bind fun y14 =>
 some ((y14.1, y14.2), 0))
 else
 ((f_X9_stepCell x1 x2).bind fun y12 =>
 bnc (f_X1_set y12 ((x3 * ((1000 : Int32))) + x4) w) fun y13 =>
 some (((1 : Int32), y13), 0))))))
set_option maxHeartbeats 4000000 in
set_option maxRecDepth 100000 in
theorem t_X9_step (l : Launch) (G : Gm) (la0 : Nat) (w0 : CW) (x1 : Int32) (x2 : Int32) (x3 : Int32) (x4 : Int32) (r : Int32) (w' : CW) (N : Nat) (hf : f_X9_step x1 x2 x3 x4 w0 = some ((r, w'), N)) : MetI l yX9_step cX9_step 5 (some .int) 4 113 G (cw G la0 w0) [.ref (gq G 0), .int x1, .int x2, .int x3, .int x4] r (fun u => cw G u w') N := by
  intro sz
  refine ent (own := RX9) (As := [.ref (gq G 0), .int x1, .int x2, .int x3, .int x4]) (by decide +kernel) rfl (Nat.le_of_ble_eq_true rfl) (fun _ _ h => h.1) ?_
  intro p e s m args below meth c ls B hr hlocks hv hl
  obtain ⟨-, hsz, hP, hKK, hD⟩ := hv
  subst hsz
  have X : CX RX9 cX9_step 5 G p s m args c := ⟨B, hKK⟩
  obtain ⟨hx, hb, hml, hown, hts⟩ := id B
  have hA : ∀ q : Nat, s.heap.size ≤ q → va_A (cw G la0 w0) s.heap.size q := fun q z => Or.inr z
  have h : CH G (cw G la0 w0) (va_A (cw G la0 w0) s.heap.size) s.heap s.heap [] := ⟨hP, hD.self, va_S.rf⟩
  have hc : 0 + N = N := Nat.zero_add N
  obtain ⟨la, rfl⟩ : ∃ z, z = la0 := ⟨_, rfl⟩
  obtain ⟨w, rfl⟩ : ∃ z, z = w0 := ⟨_, rfl⟩
  have hl : lv_has ls 5 [(0, .ref (gq G 0)), (1, .int x1), (2, .int x2), (3, .int x3), (4, .int x4)] := hl
  unfold f_X9_step at hf
  refine wid0 ?_
  refine lv_iload_n hx hb dX9_step_0 rfl (lv_at hl 1 rfl) ?_
  obtain ⟨y1, ey1, hf⟩ := bnd_some hf
  refine k_X9_isProgram X.1 ey1 k_X9_160 dX9_step_1 hl.1 ⟨(Nat.le_of_ble_eq_true rfl), (Nat.le_of_ble_eq_true rfl)⟩ (Nat.le_of_ble_eq_true rfl) (rmm0 hc) ?_
  refine lv_if_ne (tgt := 9) hx hb dX9_step_4 (by decide) (fun c2 => ?_) (fun c2 => ?_)
  · have hf := if_f c2 hf
    refine lv_iload_n hx hb dX9_step_9 rfl (lv_at hl 3 rfl) ?_
    refine lv_iconst (v := 0) hx hb dX9_step_10 (by decide) ?_
    refine lv_iconst (v := 4) hx hb dX9_step_11 (by decide) ?_
    obtain ⟨y3, ey3, hf⟩ := bnd_some hf
    refine k_X9_within X.1 ey3 k_X9_92 dX9_step_12 hl.1 ⟨(Nat.le_of_ble_eq_true rfl), (Nat.le_of_ble_eq_true rfl)⟩ (Nat.le_of_ble_eq_true rfl) (rmm0 hc) ?_
    refine lv_if_eq (tgt := 30) hx hb dX9_step_15 (by decide) (fun c4 => ?_) (fun c4 => ?_)
    · have hf := if_t c4 hf
      refine lv_bipush (v := (-2)) hx hb dX9_step_30 (by decide) ?_
      exact e1_i X.1 hr hlocks hf h hc dX9_step_32
    · have hf := if_f c4 hf
      refine lv_iload hx hb dX9_step_18 (lv_at hl 4 rfl) ?_
      refine lv_iconst (v := 1) hx hb dX9_step_20 (by decide) ?_
      refine lv_sipush (v := 200) hx hb dX9_step_21 (by decide) ?_
      obtain ⟨y5, ey5, hf⟩ := bnd_some hf
      refine k_X9_within X.1 ey5 k_X9_92 dX9_step_24 hl.1 ⟨(Nat.le_of_ble_eq_true rfl), (Nat.le_of_ble_eq_true rfl)⟩ (Nat.le_of_ble_eq_true rfl) (rmm0 hc) ?_
      refine lv_if_ne (tgt := 33) hx hb dX9_step_27 (by decide) (fun c6 => ?_) (fun c6 => ?_)
      · have hf := if_f c6 hf
        refine lv_aload_n hx hb dX9_step_33 rfl (lv_at hl 0 rfl) ?_
        refine lv_iload_n hx hb dX9_step_34 rfl (lv_at hl 1 rfl) ?_
        obtain ⟨y7, ey7, hf⟩ := bnd_some hf
        refine k_X9_hasProgram X h ey7 k_X9_169 dX9_step_35 hl.1 ⟨(Nat.le_of_ble_eq_true rfl), (Nat.le_of_ble_eq_true rfl)⟩ (Nat.le_of_ble_eq_true rfl) (rmm0 hc) ?_
        refine lv_if_ne (tgt := 47) hx hb dX9_step_38 (by decide) (fun c8 => ?_) (fun c8 => ?_)
        · have hf := if_f c8 hf
          refine lv_iload_n hx hb dX9_step_47 rfl (lv_at hl 2 rfl) ?_
          refine lv_iconst (v := 0) hx hb dX9_step_48 (by decide) ?_
          refine lv_aload_n hx hb dX9_step_49 rfl (lv_at hl 0 rfl) ?_
          refine lv_iload_n hx hb dX9_step_50 rfl (lv_at hl 1 rfl) ?_
          obtain ⟨y9, ey9, hf⟩ := bnd_some hf
          refine k_X9_lengthOf X h ey9 k_X9_172 dX9_step_51 hl.1 ⟨(Nat.le_of_ble_eq_true rfl), (Nat.le_of_ble_eq_true rfl)⟩ (Nat.le_of_ble_eq_true rfl) (rmm0 hc) ?_
          refine lv_iconst (v := 1) hx hb dX9_step_54 (by decide) ?_
          refine lv_isub hx hb dX9_step_55 ?_
          obtain ⟨y10, ey10, hf⟩ := bnd_some hf
          refine k_X9_within X.1 ey10 k_X9_92 dX9_step_56 hl.1 ⟨(Nat.le_of_ble_eq_true rfl), (Nat.le_of_ble_eq_true rfl)⟩ (Nat.le_of_ble_eq_true rfl) (rmm0 hc) ?_
          refine lv_if_ne (tgt := 68) hx hb dX9_step_59 (by decide) (fun c11 => ?_) (fun c11 => ?_)
          · have hf := if_f c11 hf
            refine lv_aload_n hx hb dX9_step_68 rfl (lv_at hl 0 rfl) ?_
            refine GC_0_0 X h k_X9_12 dX9_step_69 ?_
            refine lv_iload_n hx hb dX9_step_72 rfl (lv_at hl 1 rfl) ?_
            refine lv_iload_n hx hb dX9_step_73 rfl (lv_at hl 2 rfl) ?_
            obtain ⟨y12, ey12, hf⟩ := bnd_some hf
            refine k_X9_stepCell X.1 ey12 k_X9_166 dX9_step_74 hl.1 ⟨(Nat.le_of_ble_eq_true rfl), (Nat.le_of_ble_eq_true rfl)⟩ (Nat.le_of_ble_eq_true rfl) (rmm0 hc) ?_
            refine lv_iload_n hx hb dX9_step_77 rfl (lv_at hl 3 rfl) ?_
            refine lv_sipush (v := 1000) hx hb dX9_step_78 (by decide) ?_
            refine lv_imul hx hb dX9_step_81 ?_
            refine lv_iload hx hb dX9_step_82 (lv_at hl 4 rfl) ?_
            refine lv_iadd hx hb dX9_step_84 ?_
            obtain ⟨y13, ny13, my13, ey13, hf, jy13⟩ := bnc_some hf
            refine k_X1_set X h hA ey13 k_X9_84 dX9_step_85 hl.1 ⟨(Nat.le_of_ble_eq_true rfl), (Nat.le_of_ble_eq_true rfl)⟩ (Nat.le_of_ble_eq_true rfl) (rmm1 hc jy13) (fun la H locs h => ?_)
            have hc := rmm2 hc jy13
            refine lv_iconst (v := 1) hx hb dX9_step_88 (by decide) ?_
            exact e1_i X.1 hr hlocks hf h hc dX9_step_89
          · have hf := if_t c11 hf
            refine lv_aload_n hx hb dX9_step_62 rfl (lv_at hl 0 rfl) ?_
            refine lv_iconst (v := 4) hx hb dX9_step_63 (by decide) ?_
            obtain ⟨y14, ey14, hf⟩ := bnd_some hf
            refine k_X9_found X h hA ey14 k_X9_103 dX9_step_64 hl.1 ⟨(Nat.le_of_ble_eq_true rfl), (Nat.le_of_ble_eq_true rfl)⟩ (Nat.le_of_ble_eq_true rfl) (rmm0 hc) (fun H locs h => ?_)
            exact e1_i X.1 hr hlocks hf h hc dX9_step_67
        · have hf := if_t c8 hf
          refine lv_aload_n hx hb dX9_step_41 rfl (lv_at hl 0 rfl) ?_
          refine lv_iconst (v := 3) hx hb dX9_step_42 (by decide) ?_
          obtain ⟨y15, ey15, hf⟩ := bnd_some hf
          refine k_X9_found X h hA ey15 k_X9_103 dX9_step_43 hl.1 ⟨(Nat.le_of_ble_eq_true rfl), (Nat.le_of_ble_eq_true rfl)⟩ (Nat.le_of_ble_eq_true rfl) (rmm0 hc) (fun H locs h => ?_)
          exact e1_i X.1 hr hlocks hf h hc dX9_step_46
      · have hf := if_t c6 hf
        refine lv_bipush (v := (-2)) hx hb dX9_step_30 (by decide) ?_
        exact e1_i X.1 hr hlocks hf h hc dX9_step_32
  · have hf := if_t c2 hf
    refine lv_iconst (v := (-1)) hx hb dX9_step_7 (by decide) ?_
    exact e1_i X.1 hr hlocks hf h hc dX9_step_8
theorem m_X9_step : Cond.instanceMethod yX9_step ∈ lw_good ∧ Cond.selects RX9 yX9_step yX9_step ∈ lw_good ∧ Cond.initialized RX9 ∈ lw_good ∧ Cond.code yX9_step cX9_step 5 (some .int) ∈ lw_good := by decide +kernel
theorem k_X9_step {p : Program} {l : Launch} {e : Env} {R : Room} {s : State} {m : MethodId} {args : Array Value} {below : List Frame} {meth : Method} {c : Code} {H : Heap} {locs : List Loc} {cells : Nat} {Q : State → Prop} {cc : ByteArray} {nL pc idx : Nat} {ls : Array Slot} {rest : List Value} {own : String} {G : Gm} {A : Nat → Prop} {H0 : Heap} {la : Nat} {w : CW} {x1 : Int32} {x2 : Int32} {x3 : Int32} {x4 : Int32} {y : Int32 × CW} {n : Nat} (X : CX own cc nL G p s m args c) (h : CH G (cw G la w) A H0 H locs) (hA : ∀ q, H0.size ≤ q → A q) (hf : f_X9_step x1 x2 x3 x4 w = some (y, n)) (hlk : Cond.methodLink own idx yX9_step ∈ lw_good) (hd : decode cc pc = .ok (.invokevirtual idx, 3)) (hsz : ls.size = nL) (hR : 5 ≤ R.frames ∧ 137 ≤ R.locals) (hrest : (rest.map fun v => v.category).sum ≤ 8) (hk : cells + n ≤ R.cells ∧ 4096 * cells + 4096 * n ≤ R.slots) (k : ∀ (la : Nat) (H : Heap) (locs : List Loc), CH G (cw G la y.2) A H0 H locs → W p l e R s m args below meth c H locs (cells + n) (4096 * (cells + n)) Q (F0 m (pc + 3) ls (.int y.1 :: rest))) : W p l e R s m args below meth c H locs cells (4096 * cells) Q (F0 m pc ls (.int x4 :: .int x3 :: .int x2 :: .int x1 :: .ref (gq G 0) :: rest)) :=
  fin_i (n := n) (runV (As := [.int x1, .int x2, .int x3, .int x4]) X.1 4 (t_X9_step l G la w x1 x2 x3 x4 y.1 y.2 n hf _) rfl rfl hlk m_X9_step (by decide +kernel) ⟨hR.1, hR.2⟩ ⟨blindM, va_recv X.2.1 h.1 (ci := 8) (q0 := 0) rfl rfl, preM X.2 h⟩ rfl hsz hrest hd hk) h hA (fun la H locs h => by rw [← Nat.mul_add]; exact k la H locs h)
def f_X9_minutesOf (x0 : Int32) : Option Int32 :=
 some (x0 - x0 / ((1000 : Int32)) * ((1000 : Int32)))
set_option maxHeartbeats 4000000 in
set_option maxRecDepth 100000 in
theorem t_X9_minutesOf (l : Launch) (x0 : Int32) (r : Int32) (hf : f_X9_minutesOf x0 = some r) : MetP l yX9_minutesOf cX9_minutesOf 1 (some .int) 0 0 [.int x0] (.int r) := by
  refine ent (own := RX9) (As := [.int x0]) (by decide +kernel) rfl (Nat.le_of_ble_eq_true rfl) (fun _ _ h => h.1) ?_
  intro p e s m args below meth c ls B hr hlocks hv hl
  obtain ⟨hx, hb, hml, hown, hts⟩ := id B
  have hl : lv_has ls 1 [(0, .int x0)] := hl
  unfold f_X9_minutesOf at hf
  refine lv_iload_n hx hb dX9_minutesOf_0 rfl (lv_at hl 0 rfl) ?_
  refine lv_sipush (v := 1000) hx hb dX9_minutesOf_1 (by decide) ?_
  refine lv_irem hx hb dX9_minutesOf_4 (by decide) ?_
  cases hf
  exact rr_i B hr hlocks dX9_minutesOf_5
theorem m_X9_minutesOf : Cond.static yX9_minutesOf ∈ lw_good ∧ Cond.initialized yX9_minutesOf.cls ∈ lw_good ∧ Cond.code yX9_minutesOf cX9_minutesOf 1 (some .int) ∈ lw_good := by decide +kernel
theorem k_X9_minutesOf {p : Program} {l : Launch} {e : Env} {R : Room} {s : State} {m : MethodId} {args : Array Value} {below : List Frame} {meth : Method} {c : Code} {H : Heap} {locs : List Loc} {cells slots : Nat} {Q : State → Prop} {cc : ByteArray} {nL pc idx : Nat} {ls : Array Slot} {rest : List Value} {own : String} {x0 : Int32} {r : Int32} (B : CB own cc nL p s m args c) (hf : f_X9_minutesOf x0 = some r) (hlk : Cond.methodLink own idx yX9_minutesOf ∈ lw_good) (hd : decode cc pc = .ok (.invokestatic idx, 3)) (hsz : ls.size = nL) (hR : 1 ≤ R.frames ∧ 20 ≤ R.locals) (hrest : (rest.map fun v => v.category).sum ≤ 8) (hk : cells ≤ R.cells ∧ slots ≤ R.slots) (k : W p l e R s m args below meth c H locs cells slots Q (F0 m (pc + 3) ls (.int r :: rest))) : W p l e R s m args below meth c H locs cells slots Q (F0 m pc ls (.int x0 :: rest)) :=
  fin_r (runS (As := [.int x0]) B 1 (t_X9_minutesOf l x0 r hf) rfl rfl hlk m_X9_minutesOf (by decide +kernel) ⟨hR.1, hR.2⟩ ⟨blindP, preP⟩ rfl hsz hrest hd hk) k
def f_X9_minutes_l34_body (kself : (Int32 → Int32 → Int32 → Int32 → CW → Option (Int32 × CW))) (x1 : Int32) (x2 : Int32) (x3 : Int32) (x4 : Int32) (w : CW) : Option (Int32 × CW) :=
 if x3 ≤ x4 then
 (some (x2, w))
 else
 ((f_X9_stepCell x1 x4).bind fun y2 =>
 (f_X1_get y2 w).bind fun y3 =>
 (f_X9_minutesOf y3).bind fun y4 =>
 kself x1 (x2 + y4) x3 (x4 + (1 : Int32)) w)
def f_X9_minutes_l34 : Nat → Int32 → Int32 → Int32 → Int32 → CW → Option (Int32 × CW)
  | 0, _, _, _, _, _ => none
  | n + 1, x1, x2, x3, x4, w => f_X9_minutes_l34_body (f_X9_minutes_l34 n) x1 x2 x3 x4 w
def f_X9_minutes (x1 : Int32) (w : CW) : Option (Int32 × CW) :=
 (f_X9_isProgram x1).bind fun y5 =>
 if y5 = 0 then
 (some ((-1 : Int32), w))
 else
 ((f_X9_hasProgram x1 w).bind fun y7 =>
 if y7 = 0 then
 ((f_X9_found ((3 : Int32)) w).bind fun y10 =>
 some (y10.1, y10.2))
 else
 ((f_X9_lengthOf x1 w).bind fun y9 =>
 f_X9_minutes_l34 FU x1 ((0 : Int32)) y9 ((0 : Int32)) w))
set_option maxHeartbeats 4000000 in
set_option maxRecDepth 100000 in
theorem t_X9_minutes (l : Launch) (G : Gm) (la : Nat) (w0 : CW) (x1 : Int32) (r : Int32) (w' : CW) (hf : f_X9_minutes x1 w0 = some (r, w')) : MetI l yX9_minutes cX9_minutes 5 (some .int) 2 42 G (cw G la w0) [.ref (gq G 0), .int x1] r (fun _ => cw G la (w')) 0 := by
  intro sz
  refine ent (own := RX9) (As := [.ref (gq G 0), .int x1]) (by decide +kernel) rfl (Nat.le_of_ble_eq_true rfl) (fun _ _ h => h.1) ?_
  intro p e s m args below meth c ls B hr hlocks hv hl
  obtain ⟨-, hsz, hP, hKK, hD⟩ := hv
  subst hsz
  have X : CX RX9 cX9_minutes 5 G p s m args c := ⟨B, hKK⟩
  obtain ⟨hx, hb, hml, hown, hts⟩ := id B
  have hA : ∀ q : Nat, s.heap.size ≤ q → va_A (cw G la w0) s.heap.size q := fun q z => Or.inr z
  have h : CH G (cw G la w0) (va_A (cw G la w0) s.heap.size) s.heap s.heap [] := ⟨hP, hD.self, va_S.rf⟩
  have L34 : ∀ (n34 : Nat) (x1 : Int32) (x2 : Int32) (x3 : Int32) (x4 : Int32) (w : CW) (H : Heap) (locs : List Loc) (ls : Array Slot), f_X9_minutes_l34 n34 x1 x2 x3 x4 w = some (r, w') → CH G (cw G la w) (va_A (cw G la w0) s.heap.size) s.heap H locs → lv_has ls 5 [(0, .ref (gq G 0)), (1, .int x1), (2, .int x2), (3, .int x3), (4, .int x4)] → W p l e { frames := 2, cells := 0, slots := 4096 * 0, locals := 42 } s m args below meth c H locs 0 (4096 * 0) (MQ below (QI G (cw G la w0) s.heap.size r (fun _ => cw G la (w'))) args s 0 (4096 * 0) (va_A (cw G la w0) s.heap.size)) (F0 m 34 ls []) := by
    intro n34
    induction n34 with
    | zero =>
      intro x1 x2 x3 x4 w H locs ls hf h hl
      cases (show (none : Option (Int32 × CW)) = some _ from hf)
    | succ n34 ih34 =>
      intro x1 x2 x3 x4 w H locs ls hf h hl
      have hf : f_X9_minutes_l34_body (f_X9_minutes_l34 n34) x1 x2 x3 x4 w = _ := hf
      unfold f_X9_minutes_l34_body at hf
      refine lv_iload hx hb dX9_minutes_34 (lv_at hl 4 rfl) ?_
      refine lv_iload_n hx hb dX9_minutes_36 rfl (lv_at hl 3 rfl) ?_
      refine lv_icmp_ge (tgt := 65) hx hb dX9_minutes_37 (by decide) (fun c1 => ?_) (fun c1 => ?_)
      · have hf := if_t c1 hf
        refine lv_iload_n hx hb dX9_minutes_65 rfl (lv_at hl 2 rfl) ?_
        exact e0_i (Wf := cw G la) X.1 hr hlocks hf h dX9_minutes_66
      · have hf := if_f c1 hf
        refine lv_iload_n hx hb dX9_minutes_40 rfl (lv_at hl 2 rfl) ?_
        refine lv_aload_n hx hb dX9_minutes_41 rfl (lv_at hl 0 rfl) ?_
        refine GC_0_0 X h k_X9_12 dX9_minutes_42 ?_
        refine lv_iload_n hx hb dX9_minutes_45 rfl (lv_at hl 1 rfl) ?_
        refine lv_iload hx hb dX9_minutes_46 (lv_at hl 4 rfl) ?_
        obtain ⟨y2, ey2, hf⟩ := bnd_some hf
        refine k_X9_stepCell X.1 ey2 k_X9_166 dX9_minutes_48 hl.1 ⟨(Nat.le_of_ble_eq_true rfl), (Nat.le_of_ble_eq_true rfl)⟩ (Nat.le_of_ble_eq_true rfl) ⟨Nat.zero_le _, Nat.zero_le _⟩ ?_
        obtain ⟨y3, ey3, hf⟩ := bnd_some hf
        refine k_X1_get X h ey3 k_X9_175 dX9_minutes_51 hl.1 ⟨(Nat.le_of_ble_eq_true rfl), (Nat.le_of_ble_eq_true rfl)⟩ (Nat.le_of_ble_eq_true rfl) ⟨Nat.zero_le _, Nat.zero_le _⟩ ?_
        obtain ⟨y4, ey4, hf⟩ := bnd_some hf
        refine k_X9_minutesOf X.1 ey4 k_X9_178 dX9_minutes_54 hl.1 ⟨(Nat.le_of_ble_eq_true rfl), (Nat.le_of_ble_eq_true rfl)⟩ (Nat.le_of_ble_eq_true rfl) ⟨Nat.zero_le _, Nat.zero_le _⟩ ?_
        refine lv_iadd hx hb dX9_minutes_57 ?_
        refine lv_istore_n (lv' := [(2, .int (x2 + y4)), (0, .ref (gq G 0)), (1, .int x1), (3, .int x3), (4, .int x4)]) hx hb dX9_minutes_58 rfl hl (by decide) rfl (fun ls hl => ?_)
        refine lv_iinc (v := x4 + (1 : Int32)) (lv' := [(4, .int (x4 + (1 : Int32))), (2, .int (x2 + y4)), (0, .ref (gq G 0)), (1, .int x1), (3, .int x3)]) hx hb dX9_minutes_59 hl (k := 4) rfl (by rfl) (by decide) rfl (fun ls hl => ?_)
        refine lv_goto (tgt := 34) hx hb dX9_minutes_62 (by decide) ?_
        exact ih34 _ _ _ _ _ _ _ _ hf h (lv_sub hl [2, 3, 1, 4, 0] rfl)
  obtain ⟨w, rfl⟩ : ∃ z, z = w0 := ⟨_, rfl⟩
  have hl : lv_has ls 5 [(0, .ref (gq G 0)), (1, .int x1)] := hl
  unfold f_X9_minutes at hf
  refine lv_iload_n hx hb dX9_minutes_0 rfl (lv_at hl 1 rfl) ?_
  obtain ⟨y5, ey5, hf⟩ := bnd_some hf
  refine k_X9_isProgram X.1 ey5 k_X9_160 dX9_minutes_1 hl.1 ⟨(Nat.le_of_ble_eq_true rfl), (Nat.le_of_ble_eq_true rfl)⟩ (Nat.le_of_ble_eq_true rfl) ⟨Nat.zero_le _, Nat.zero_le _⟩ ?_
  refine lv_if_ne (tgt := 9) hx hb dX9_minutes_4 (by decide) (fun c6 => ?_) (fun c6 => ?_)
  · have hf := if_f c6 hf
    refine lv_aload_n hx hb dX9_minutes_9 rfl (lv_at hl 0 rfl) ?_
    refine lv_iload_n hx hb dX9_minutes_10 rfl (lv_at hl 1 rfl) ?_
    obtain ⟨y7, ey7, hf⟩ := bnd_some hf
    refine k_X9_hasProgram X h ey7 k_X9_169 dX9_minutes_11 hl.1 ⟨(Nat.le_of_ble_eq_true rfl), (Nat.le_of_ble_eq_true rfl)⟩ (Nat.le_of_ble_eq_true rfl) ⟨Nat.zero_le _, Nat.zero_le _⟩ ?_
    refine lv_if_ne (tgt := 23) hx hb dX9_minutes_14 (by decide) (fun c8 => ?_) (fun c8 => ?_)
    · have hf := if_f c8 hf
      refine lv_iconst (v := 0) hx hb dX9_minutes_23 (by decide) ?_
      refine lv_istore_n (lv' := [(2, .int ((0 : Int32))), (0, .ref (gq G 0)), (1, .int x1)]) hx hb dX9_minutes_24 rfl hl (by decide) rfl (fun ls hl => ?_)
      refine lv_aload_n hx hb dX9_minutes_25 rfl (lv_at hl 1 rfl) ?_
      refine lv_iload_n hx hb dX9_minutes_26 rfl (lv_at hl 2 rfl) ?_
      obtain ⟨y9, ey9, hf⟩ := bnd_some hf
      refine k_X9_lengthOf X h ey9 k_X9_172 dX9_minutes_27 hl.1 ⟨(Nat.le_of_ble_eq_true rfl), (Nat.le_of_ble_eq_true rfl)⟩ (Nat.le_of_ble_eq_true rfl) ⟨Nat.zero_le _, Nat.zero_le _⟩ ?_
      refine lv_istore_n (lv' := [(3, .int y9), (2, .int ((0 : Int32))), (0, .ref (gq G 0)), (1, .int x1)]) hx hb dX9_minutes_30 rfl hl (by decide) rfl (fun ls hl => ?_)
      refine lv_iconst (v := 0) hx hb dX9_minutes_31 (by decide) ?_
      refine lv_istore (lv' := [(4, .int ((0 : Int32))), (3, .int y9), (2, .int ((0 : Int32))), (0, .ref (gq G 0)), (1, .int x1)]) hx hb dX9_minutes_32 hl (by decide) rfl (fun ls hl => ?_)
      exact L34 FU _ _ _ _ _ _ _ _ hf h (lv_sub hl [3, 4, 2, 1, 0] rfl)
    · have hf := if_t c8 hf
      refine lv_aload_n hx hb dX9_minutes_17 rfl (lv_at hl 0 rfl) ?_
      refine lv_iconst (v := 3) hx hb dX9_minutes_18 (by decide) ?_
      obtain ⟨y10, ey10, hf⟩ := bnd_some hf
      refine k_X9_found X h hA ey10 k_X9_103 dX9_minutes_19 hl.1 ⟨(Nat.le_of_ble_eq_true rfl), (Nat.le_of_ble_eq_true rfl)⟩ (Nat.le_of_ble_eq_true rfl) ⟨Nat.zero_le _, Nat.zero_le _⟩ (fun H locs h => ?_)
      exact e0_i (Wf := cw G la) X.1 hr hlocks hf h dX9_minutes_22
  · have hf := if_t c6 hf
    refine lv_iconst (v := (-1)) hx hb dX9_minutes_7 (by decide) ?_
    exact e0_i (Wf := cw G la) X.1 hr hlocks hf h dX9_minutes_8
theorem m_X9_minutes : Cond.instanceMethod yX9_minutes ∈ lw_good ∧ Cond.selects RX9 yX9_minutes yX9_minutes ∈ lw_good ∧ Cond.initialized RX9 ∈ lw_good ∧ Cond.code yX9_minutes cX9_minutes 5 (some .int) ∈ lw_good := by decide +kernel
theorem k_X9_minutes {p : Program} {l : Launch} {e : Env} {R : Room} {s : State} {m : MethodId} {args : Array Value} {below : List Frame} {meth : Method} {c : Code} {H : Heap} {locs : List Loc} {cells slots : Nat} {Q : State → Prop} {cc : ByteArray} {nL pc idx : Nat} {ls : Array Slot} {rest : List Value} {own : String} {G : Gm} {A : Nat → Prop} {H0 : Heap} {la : Nat} {w : CW} {x1 : Int32} {y : Int32 × CW} (X : CX own cc nL G p s m args c) (h : CH G (cw G la w) A H0 H locs) (hA : ∀ q, H0.size ≤ q → A q) (hf : f_X9_minutes x1 w = some y) (hlk : Cond.methodLink own idx yX9_minutes ∈ lw_good) (hd : decode cc pc = .ok (.invokevirtual idx, 3)) (hsz : ls.size = nL) (hR : 3 ≤ R.frames ∧ 66 ≤ R.locals) (hrest : (rest.map fun v => v.category).sum ≤ 8) (hk : cells ≤ R.cells ∧ slots ≤ R.slots) (k : ∀ (H : Heap) (locs : List Loc), CH G (cw G la y.2) A H0 H locs → W p l e R s m args below meth c H locs cells slots Q (F0 m (pc + 3) ls (.int y.1 :: rest))) : W p l e R s m args below meth c H locs cells slots Q (F0 m pc ls (.int x1 :: .ref (gq G 0) :: rest)) :=
  fin_i (n := 0) (runV (As := [.int x1]) X.1 1 (t_X9_minutes l G la w x1 y.1 y.2 hf _) rfl rfl hlk m_X9_minutes (by decide +kernel) ⟨hR.1, hR.2⟩ ⟨blindM, va_recv X.2.1 h.1 (ci := 8) (q0 := 0) rfl rfl, preM X.2 h⟩ rfl hsz hrest hd hk) h hA (fun _ H locs h => k H locs h)
