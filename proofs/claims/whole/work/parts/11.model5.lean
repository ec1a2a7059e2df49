def f_X10_digest_l159_body (kself : (Int64 → Int32 → MW → Option (Int64 × MW))) (x1 : Int64) (x3 : Int32) (w : MW) : Option (Int64 × MW) :=
 chk (inb ((11345 : Int32)) 11360) (
 if (w 1 ((11345 : Int32)).toNatClampNeg) ≤ x3 then
 (some (x1, w))
 else
 (chk (inb ((((8844 : Int32)) + (((5 : Int32)) * x3)) + ((3 : Int32))) 11360) (
 (some ((x1 * ((31 : Int64))) + ((w 1 ((((8844 : Int32)) + (((5 : Int32)) * x3)) + ((3 : Int32))).toNatClampNeg).toInt64))).bind fun z4 =>
 kself z4 (x3 + (1 : Int32)) w)))
def f_X10_digest_l159 : Nat → Int64 → Int32 → MW → Option (Int64 × MW)
  | 0, _, _, _ => none
  | n + 1, x1, x3, w => f_X10_digest_l159_body (f_X10_digest_l159 n) x1 x3 w
def f_X10_digest_l123_body (kself : (Int64 → Int32 → MW → Option (Int64 × MW))) (x1 : Int64) (x3 : Int32) (w : MW) : Option (Int64 × MW) :=
 if ((12 : Int32)) ≤ x3 then
 (f_X10_digest_l159 FU x1 ((0 : Int32)) w)
 else
 (chk (inb ((((8720 : Int32)) + (((2 : Int32)) * x3)) + ((1 : Int32))) 11360) (
 (some ((x1 * ((31 : Int64))) + ((w 1 ((((8720 : Int32)) + (((2 : Int32)) * x3)) + ((1 : Int32))).toNatClampNeg).toInt64))).bind fun z7 =>
 kself z7 (x3 + (1 : Int32)) w))
def f_X10_digest_l123 : Nat → Int64 → Int32 → MW → Option (Int64 × MW)
  | 0, _, _, _ => none
  | n + 1, x1, x3, w => f_X10_digest_l123_body (f_X10_digest_l123 n) x1 x3 w
def f_X10_digest_b115 (k21 : (Int64 → Int32 → MW → Option (Int64 × MW))) (x1 : Int64) (x3 : Int32) (w : MW) : Option (Int64 × MW) :=
 k21 x1 (x3 + (1 : Int32)) w
def f_X10_digest_l21_body (kself : (Int64 → Int32 → MW → Option (Int64 × MW))) (x1 : Int64) (x3 : Int32) (w : MW) : Option (Int64 × MW) :=
 if ((60 : Int32)) ≤ x3 then
 (f_X10_digest_l123 FU x1 ((0 : Int32)) w)
 else
 ((f_X10_kindOf x3 w).bind fun y9 =>
 (f_X10_isThere x3 w).bind fun y10 =>
 if y10 = 0 then
 (f_X10_digest_b115 kself ((x1 * ((31 : Int64))) + y9.toInt64) x3 w)
 else
 ((f_X10_of x3 ((5 : Int32)) w).bind fun y12 =>
 (some ((((x1 * ((31 : Int64))) + y9.toInt64) * ((31 : Int64))) + y12.toInt64)).bind fun z13 =>
 (f_X10_of x3 ((4 : Int32)) w).bind fun y14 =>
 (f_X10_leftOf x3 w).bind fun y15 =>
 (some ((((z13 * ((31 : Int64))) + y14.toInt64) * ((31 : Int64))) + y15.toInt64)).bind fun z16 =>
 (f_X10_loadsIn x3 w).bind fun y17 =>
 (f_X10_creditOf x3 w).bind fun y18 =>
 (some ((((z16 * ((31 : Int64))) + y17.toInt64) * ((31 : Int64))) + y18.toInt64)).bind fun z19 =>
 f_X10_digest_b115 kself z19 x3 w))
def f_X10_digest_l21 : Nat → Int64 → Int32 → MW → Option (Int64 × MW)
  | 0, _, _, _ => none
  | n + 1, x1, x3, w => f_X10_digest_l21_body (f_X10_digest_l21 n) x1 x3 w
def f_X10_digest (w : MW) : Option (Int64 × MW) :=
 chk (inb ((11344 : Int32)) 11360) (
 (some (((527 : Int64)) + (((mst w 0 0 ((0 : Int32))) 1 ((11344 : Int32)).toNatClampNeg).toInt64))).bind fun z21 =>
 f_X10_digest_l21 FU z21 ((0 : Int32)) (mst w 0 0 ((0 : Int32))))
set_option maxHeartbeats 4000000 in
set_option maxRecDepth 100000 in
theorem t_X10_digest (l : Launch) (G : Gm) (w0 : MW) (r : Int64) (w' : MW) (hf : f_X10_digest w0 = some (r, w')) : MetL l yX10_digest cX10_digest 4 (some .long) 2 45 G (mw G w0) [.ref (gq G 0)] r (fun _ => mw G (w')) 0 := by
  intro sz
  refine ent (own := RX10) (As := [.ref (gq G 0)]) (by decide +kernel) rfl (Nat.le_of_ble_eq_true rfl) (fun _ _ h => h.1) ?_
  intro p e s m args below meth c ls B hr hlocks hv hl
  obtain ⟨-, hsz, hP, hKK, hD⟩ := hv
  subst hsz
  have X : CX RX10 cX10_digest 4 G p s m args c := ⟨B, hKK⟩
  obtain ⟨hx, hb, hml, hown, hts⟩ := id B
  have hA : ∀ q : Nat, s.heap.size ≤ q → va_A (mw G w0) s.heap.size q := fun q z => Or.inr z
  have h : CH G (mw G w0) (va_A (mw G w0) s.heap.size) s.heap s.heap [] := ⟨hP, hD.self, va_S.rf⟩
  have L159 : ∀ (n159 : Nat) (x1 : Int64) (x3 : Int32) (w : MW) (H : Heap) (locs : List Loc) (ls : Array Slot), f_X10_digest_l159 n159 x1 x3 w = some (r, w') → CH G (mw G w) (va_A (mw G w0) s.heap.size) s.heap H locs → lv_has ls 4 [(0, .ref (gq G 0)), (1, .long x1), (3, .int x3)] → W p l e { frames := 2, cells := 0, slots := 4096 * 0, locals := 45 } s m args below meth c H locs 0 (4096 * 0) (MQ below (QL G (mw G w0) s.heap.size r (fun _ => mw G (w'))) args s 0 (4096 * 0) (va_A (mw G w0) s.heap.size)) (F0 m 159 ls []) := by
    intro n159
    induction n159 with
    | zero =>
      intro x1 x3 w H locs ls hf h hl
      cases (show (none : Option (Int64 × MW)) = some _ from hf)
    | succ n159 ih159 =>
      intro x1 x3 w H locs ls hf h hl
      have hf : f_X10_digest_l159_body (f_X10_digest_l159 n159) x1 x3 w = _ := hf
      unfold f_X10_digest_l159_body at hf
      refine lv_iload_n hx hb dX10_digest_159 rfl (lv_at hl 2 rfl) ?_
      refine lv_aload_n hx hb dX10_digest_160 rfl (lv_at hl 0 rfl) ?_
      refine GM_0_1 X h k_X10_7 dX10_digest_161 ?_
      refine lv_sipush (v := 11345) hx hb dX10_digest_164 (by decide) ?_
      obtain ⟨c1, hf⟩ := chk_some hf
      refine LM_1 X h c1 dX10_digest_167 ?_
      refine lv_icmp_ge (tgt := 199) hx hb dX10_digest_168 (by decide) (fun c2 => ?_) (fun c2 => ?_)
      · have hf := if_t c2 hf
        refine lv_lload_n hx hb dX10_digest_199 rfl (lv_at hl 1 rfl) ?_
        exact e0_l (Wf := mw G) X.1 hr hlocks hf h dX10_digest_200
      · have hf := if_f c2 hf
        refine lv_lload_n hx hb dX10_digest_171 rfl (lv_at hl 1 rfl) ?_
        refine lv_ldc2 (v := 31) hx hb hown (hts _ k_X10_196) dX10_digest_172 ?_
        refine lv_lmul hx hb dX10_digest_175 ?_
        refine lv_aload_n hx hb dX10_digest_176 rfl (lv_at hl 0 rfl) ?_
        refine GM_0_1 X h k_X10_7 dX10_digest_177 ?_
        refine lv_sipush (v := 8844) hx hb dX10_digest_180 (by decide) ?_
        refine lv_iconst (v := 5) hx hb dX10_digest_183 (by decide) ?_
        refine lv_iload_n hx hb dX10_digest_184 rfl (lv_at hl 2 rfl) ?_
        refine lv_imul hx hb dX10_digest_185 ?_
        refine lv_iadd hx hb dX10_digest_186 ?_
        refine lv_iconst (v := 3) hx hb dX10_digest_187 (by decide) ?_
        refine lv_iadd hx hb dX10_digest_188 ?_
        obtain ⟨c3, hf⟩ := chk_some hf
        refine LM_1 X h c3 dX10_digest_189 ?_
        refine lv_i2l hx hb dX10_digest_190 rfl ?_
        refine lv_ladd hx hb dX10_digest_191 ?_
        obtain ⟨z4, ez4, hf⟩ := bnd_some hf
        refine nm_l (Option.some.inj ez4) ?_
        refine lv_lstore_n (lv' := [(1, .long z4), (0, .ref (gq G 0)), (3, .int x3)]) hx hb dX10_digest_192 rfl hl (by decide) rfl (fun ls hl => ?_)
        refine lv_iinc (v := x3 + (1 : Int32)) (lv' := [(3, .int (x3 + (1 : Int32))), (1, .long z4), (0, .ref (gq G 0))]) hx hb dX10_digest_193 hl (k := 2) rfl (by rfl) (by decide) rfl (fun ls hl => ?_)
        refine lv_goto (tgt := 159) hx hb dX10_digest_196 (by decide) ?_
        exact ih159 _ _ _ _ _ _ hf h (lv_sub hl [2, 1, 0] rfl)
  have L123 : ∀ (n123 : Nat) (x1 : Int64) (x3 : Int32) (w : MW) (H : Heap) (locs : List Loc) (ls : Array Slot), f_X10_digest_l123 n123 x1 x3 w = some (r, w') → CH G (mw G w) (va_A (mw G w0) s.heap.size) s.heap H locs → lv_has ls 4 [(0, .ref (gq G 0)), (1, .long x1), (3, .int x3)] → W p l e { frames := 2, cells := 0, slots := 4096 * 0, locals := 45 } s m args below meth c H locs 0 (4096 * 0) (MQ below (QL G (mw G w0) s.heap.size r (fun _ => mw G (w'))) args s 0 (4096 * 0) (va_A (mw G w0) s.heap.size)) (F0 m 123 ls []) := by
    intro n123
    induction n123 with
    | zero =>
      intro x1 x3 w H locs ls hf h hl
      cases (show (none : Option (Int64 × MW)) = some _ from hf)
    | succ n123 ih123 =>
      intro x1 x3 w H locs ls hf h hl
      have hf : f_X10_digest_l123_body (f_X10_digest_l123 n123) x1 x3 w = _ := hf
      unfold f_X10_digest_l123_body at hf
      refine lv_iload_n hx hb dX10_digest_123 rfl (lv_at hl 2 rfl) ?_
      refine lv_bipush (v := 12) hx hb dX10_digest_124 (by decide) ?_
      refine lv_icmp_ge (tgt := 157) hx hb dX10_digest_126 (by decide) (fun c5 => ?_) (fun c5 => ?_)
      · have hf := if_t c5 hf
        refine lv_iconst (v := 0) hx hb dX10_digest_157 (by decide) ?_
        refine lv_istore_n (lv' := [(3, .int ((0 : Int32))), (0, .ref (gq G 0)), (1, .long x1)]) hx hb dX10_digest_158 rfl hl (by decide) rfl (fun ls hl => ?_)
        exact L159 FU _ _ _ _ _ _ hf h (lv_sub hl [1, 2, 0] rfl)
      · have hf := if_f c5 hf
        refine lv_lload_n hx hb dX10_digest_129 rfl (lv_at hl 1 rfl) ?_
        refine lv_ldc2 (v := 31) hx hb hown (hts _ k_X10_196) dX10_digest_130 ?_
        refine lv_lmul hx hb dX10_digest_133 ?_
        refine lv_aload_n hx hb dX10_digest_134 rfl (lv_at hl 0 rfl) ?_
        refine GM_0_1 X h k_X10_7 dX10_digest_135 ?_
        refine lv_sipush (v := 8720) hx hb dX10_digest_138 (by decide) ?_
        refine lv_iconst (v := 2) hx hb dX10_digest_141 (by decide) ?_
        refine lv_iload_n hx hb dX10_digest_142 rfl (lv_at hl 2 rfl) ?_
        refine lv_imul hx hb dX10_digest_143 ?_
        refine lv_iadd hx hb dX10_digest_144 ?_
        refine lv_iconst (v := 1) hx hb dX10_digest_145 (by decide) ?_
        refine lv_iadd hx hb dX10_digest_146 ?_
        obtain ⟨c6, hf⟩ := chk_some hf
        refine LM_1 X h c6 dX10_digest_147 ?_
        refine lv_i2l hx hb dX10_digest_148 rfl ?_
        refine lv_ladd hx hb dX10_digest_149 ?_
        obtain ⟨z7, ez7, hf⟩ := bnd_some hf
        refine nm_l (Option.some.inj ez7) ?_
        refine lv_lstore_n (lv' := [(1, .long z7), (0, .ref (gq G 0)), (3, .int x3)]) hx hb dX10_digest_150 rfl hl (by decide) rfl (fun ls hl => ?_)
        refine lv_iinc (v := x3 + (1 : Int32)) (lv' := [(3, .int (x3 + (1 : Int32))), (1, .long z7), (0, .ref (gq G 0))]) hx hb dX10_digest_151 hl (k := 2) rfl (by rfl) (by decide) rfl (fun ls hl => ?_)
        refine lv_goto (tgt := 123) hx hb dX10_digest_154 (by decide) ?_
        exact ih123 _ _ _ _ _ _ hf h (lv_sub hl [2, 1, 0] rfl)
  have L21 : ∀ (n21 : Nat) (x1 : Int64) (x3 : Int32) (w : MW) (H : Heap) (locs : List Loc) (ls : Array Slot), f_X10_digest_l21 n21 x1 x3 w = some (r, w') → CH G (mw G w) (va_A (mw G w0) s.heap.size) s.heap H locs → lv_has ls 4 [(0, .ref (gq G 0)), (1, .long x1), (3, .int x3)] → W p l e { frames := 2, cells := 0, slots := 4096 * 0, locals := 45 } s m args below meth c H locs 0 (4096 * 0) (MQ below (QL G (mw G w0) s.heap.size r (fun _ => mw G (w'))) args s 0 (4096 * 0) (va_A (mw G w0) s.heap.size)) (F0 m 21 ls []) := by
    intro n21
    induction n21 with
    | zero =>
      intro x1 x3 w H locs ls hf h hl
      cases (show (none : Option (Int64 × MW)) = some _ from hf)
    | succ n21 ih21 =>
      have J115 : ∀ (x1 : Int64) (x3 : Int32) (w : MW) (H : Heap) (locs : List Loc) (ls : Array Slot), f_X10_digest_b115 (f_X10_digest_l21 n21) x1 x3 w = some (r, w') → CH G (mw G w) (va_A (mw G w0) s.heap.size) s.heap H locs → lv_has ls 4 [(0, .ref (gq G 0)), (1, .long x1), (3, .int x3)] → W p l e { frames := 2, cells := 0, slots := 4096 * 0, locals := 45 } s m args below meth c H locs 0 (4096 * 0) (MQ below (QL G (mw G w0) s.heap.size r (fun _ => mw G (w'))) args s 0 (4096 * 0) (va_A (mw G w0) s.heap.size)) (F0 m 115 ls []) := by
        intro x1 x3 w H locs ls hf h hl
        unfold f_X10_digest_b115 at hf
        refine lv_iinc (v := x3 + (1 : Int32)) (lv' := [(3, .int (x3 + (1 : Int32))), (0, .ref (gq G 0)), (1, .long x1)]) hx hb dX10_digest_115 hl (k := 2) rfl (by rfl) (by decide) rfl (fun ls hl => ?_)
        refine lv_goto (tgt := 21) hx hb dX10_digest_118 (by decide) ?_
        exact ih21 _ _ _ _ _ _ hf h (lv_sub hl [1, 2, 0] rfl)
      intro x1 x3 w H locs ls hf h hl
      have hf : f_X10_digest_l21_body (f_X10_digest_l21 n21) x1 x3 w = _ := hf
      unfold f_X10_digest_l21_body at hf
      refine lv_iload_n hx hb dX10_digest_21 rfl (lv_at hl 2 rfl) ?_
      refine lv_bipush (v := 60) hx hb dX10_digest_22 (by decide) ?_
      refine lv_icmp_ge (tgt := 121) hx hb dX10_digest_24 (by decide) (fun c8 => ?_) (fun c8 => ?_)
      · have hf := if_t c8 hf
        refine lv_iconst (v := 0) hx hb dX10_digest_121 (by decide) ?_
        refine lv_istore_n (lv' := [(3, .int ((0 : Int32))), (0, .ref (gq G 0)), (1, .long x1)]) hx hb dX10_digest_122 rfl hl (by decide) rfl (fun ls hl => ?_)
        exact L123 FU _ _ _ _ _ _ hf h (lv_sub hl [1, 2, 0] rfl)
      · have hf := if_f c8 hf
        refine lv_lload_n hx hb dX10_digest_27 rfl (lv_at hl 1 rfl) ?_
        refine lv_ldc2 (v := 31) hx hb hown (hts _ k_X10_196) dX10_digest_28 ?_
        refine lv_lmul hx hb dX10_digest_31 ?_
        refine lv_aload_n hx hb dX10_digest_32 rfl (lv_at hl 0 rfl) ?_
        refine lv_iload_n hx hb dX10_digest_33 rfl (lv_at hl 2 rfl) ?_
        obtain ⟨y9, ey9, hf⟩ := bnd_some hf
        refine k_X10_kindOf X h ey9 k_X10_79 dX10_digest_34 hl.1 ⟨(Nat.le_of_ble_eq_true rfl), (Nat.le_of_ble_eq_true rfl)⟩ (Nat.le_of_ble_eq_true rfl) ⟨Nat.zero_le _, Nat.zero_le _⟩ ?_
        refine lv_i2l hx hb dX10_digest_37 rfl ?_
        refine lv_ladd hx hb dX10_digest_38 ?_
        refine lv_lstore_n (lv' := [(1, .long ((x1 * ((31 : Int64))) + y9.toInt64)), (0, .ref (gq G 0)), (3, .int x3)]) hx hb dX10_digest_39 rfl hl (by decide) rfl (fun ls hl => ?_)
        refine lv_aload_n hx hb dX10_digest_40 rfl (lv_at hl 1 rfl) ?_
        refine lv_iload_n hx hb dX10_digest_41 rfl (lv_at hl 2 rfl) ?_
        obtain ⟨y10, ey10, hf⟩ := bnd_some hf
        refine k_X10_isThere X h ey10 k_X10_110 dX10_digest_42 hl.1 ⟨(Nat.le_of_ble_eq_true rfl), (Nat.le_of_ble_eq_true rfl)⟩ (Nat.le_of_ble_eq_true rfl) ⟨Nat.zero_le _, Nat.zero_le _⟩ ?_
        refine lv_if_eq (tgt := 115) hx hb dX10_digest_45 (by decide) (fun c11 => ?_) (fun c11 => ?_)
        · have hf := if_t c11 hf
          exact J115 _ _ _ _ _ _ hf h (lv_sub hl [1, 0, 2] rfl)
        · have hf := if_f c11 hf
          refine lv_lload_n hx hb dX10_digest_48 rfl (lv_at hl 0 rfl) ?_
          refine lv_ldc2 (v := 31) hx hb hown (hts _ k_X10_196) dX10_digest_49 ?_
          refine lv_lmul hx hb dX10_digest_52 ?_
          refine lv_aload_n hx hb dX10_digest_53 rfl (lv_at hl 1 rfl) ?_
          refine lv_iload_n hx hb dX10_digest_54 rfl (lv_at hl 2 rfl) ?_
          refine lv_iconst (v := 5) hx hb dX10_digest_55 (by decide) ?_
          obtain ⟨y12, ey12, hf⟩ := bnd_some hf
          refine k_X10_of X h ey12 k_X10_75 dX10_digest_56 hl.1 ⟨(Nat.le_of_ble_eq_true rfl), (Nat.le_of_ble_eq_true rfl)⟩ (Nat.le_of_ble_eq_true rfl) ⟨Nat.zero_le _, Nat.zero_le _⟩ ?_
          refine lv_i2l hx hb dX10_digest_59 rfl ?_
          refine lv_ladd hx hb dX10_digest_60 ?_
          obtain ⟨z13, ez13, hf⟩ := bnd_some hf
          refine nm_l (Option.some.inj ez13) ?_
          refine lv_lstore_n (lv' := [(1, .long z13), (0, .ref (gq G 0)), (3, .int x3)]) hx hb dX10_digest_61 rfl hl (by decide) rfl (fun ls hl => ?_)
          refine lv_lload_n hx hb dX10_digest_62 rfl (lv_at hl 0 rfl) ?_
          refine lv_ldc2 (v := 31) hx hb hown (hts _ k_X10_196) dX10_digest_63 ?_
          refine lv_lmul hx hb dX10_digest_66 ?_
          refine lv_aload_n hx hb dX10_digest_67 rfl (lv_at hl 1 rfl) ?_
          refine lv_iload_n hx hb dX10_digest_68 rfl (lv_at hl 2 rfl) ?_
          refine lv_iconst (v := 4) hx hb dX10_digest_69 (by decide) ?_
          obtain ⟨y14, ey14, hf⟩ := bnd_some hf
          refine k_X10_of X h ey14 k_X10_75 dX10_digest_70 hl.1 ⟨(Nat.le_of_ble_eq_true rfl), (Nat.le_of_ble_eq_true rfl)⟩ (Nat.le_of_ble_eq_true rfl) ⟨Nat.zero_le _, Nat.zero_le _⟩ ?_
          refine lv_i2l hx hb dX10_digest_73 rfl ?_
          refine lv_ladd hx hb dX10_digest_74 ?_
          refine lv_lstore_n (lv' := [(1, .long ((z13 * ((31 : Int64))) + y14.toInt64)), (0, .ref (gq G 0)), (3, .int x3)]) hx hb dX10_digest_75 rfl hl (by decide) rfl (fun ls hl => ?_)
          refine lv_lload_n hx hb dX10_digest_76 rfl (lv_at hl 0 rfl) ?_
          refine lv_ldc2 (v := 31) hx hb hown (hts _ k_X10_196) dX10_digest_77 ?_
          refine lv_lmul hx hb dX10_digest_80 ?_
          refine lv_aload_n hx hb dX10_digest_81 rfl (lv_at hl 1 rfl) ?_
          refine lv_iload_n hx hb dX10_digest_82 rfl (lv_at hl 2 rfl) ?_
          obtain ⟨y15, ey15, hf⟩ := bnd_some hf
          refine k_X10_leftOf X h ey15 k_X10_190 dX10_digest_83 hl.1 ⟨(Nat.le_of_ble_eq_true rfl), (Nat.le_of_ble_eq_true rfl)⟩ (Nat.le_of_ble_eq_true rfl) ⟨Nat.zero_le _, Nat.zero_le _⟩ ?_
          refine lv_i2l hx hb dX10_digest_86 rfl ?_
          refine lv_ladd hx hb dX10_digest_87 ?_
          obtain ⟨z16, ez16, hf⟩ := bnd_some hf
          refine nm_l (Option.some.inj ez16) ?_
          refine lv_lstore_n (lv' := [(1, .long z16), (0, .ref (gq G 0)), (3, .int x3)]) hx hb dX10_digest_88 rfl hl (by decide) rfl (fun ls hl => ?_)
          refine lv_lload_n hx hb dX10_digest_89 rfl (lv_at hl 0 rfl) ?_
          refine lv_ldc2 (v := 31) hx hb hown (hts _ k_X10_196) dX10_digest_90 ?_
          refine lv_lmul hx hb dX10_digest_93 ?_
          refine lv_aload_n hx hb dX10_digest_94 rfl (lv_at hl 1 rfl) ?_
          refine lv_iload_n hx hb dX10_digest_95 rfl (lv_at hl 2 rfl) ?_
          obtain ⟨y17, ey17, hf⟩ := bnd_some hf
          refine k_X10_loadsIn X h ey17 k_X10_120 dX10_digest_96 hl.1 ⟨(Nat.le_of_ble_eq_true rfl), (Nat.le_of_ble_eq_true rfl)⟩ (Nat.le_of_ble_eq_true rfl) ⟨Nat.zero_le _, Nat.zero_le _⟩ ?_
          refine lv_i2l hx hb dX10_digest_99 rfl ?_
          refine lv_ladd hx hb dX10_digest_100 ?_
          refine lv_lstore_n (lv' := [(1, .long ((z16 * ((31 : Int64))) + y17.toInt64)), (0, .ref (gq G 0)), (3, .int x3)]) hx hb dX10_digest_101 rfl hl (by decide) rfl (fun ls hl => ?_)
          refine lv_lload_n hx hb dX10_digest_102 rfl (lv_at hl 0 rfl) ?_
          refine lv_ldc2 (v := 31) hx hb hown (hts _ k_X10_196) dX10_digest_103 ?_
          refine lv_lmul hx hb dX10_digest_106 ?_
          refine lv_aload_n hx hb dX10_digest_107 rfl (lv_at hl 1 rfl) ?_
          refine lv_iload_n hx hb dX10_digest_108 rfl (lv_at hl 2 rfl) ?_
          obtain ⟨y18, ey18, hf⟩ := bnd_some hf
          refine k_X10_creditOf X h ey18 k_X10_123 dX10_digest_109 hl.1 ⟨(Nat.le_of_ble_eq_true rfl), (Nat.le_of_ble_eq_true rfl)⟩ (Nat.le_of_ble_eq_true rfl) ⟨Nat.zero_le _, Nat.zero_le _⟩ ?_
          refine lv_i2l hx hb dX10_digest_112 rfl ?_
          refine lv_ladd hx hb dX10_digest_113 ?_
          obtain ⟨z19, ez19, hf⟩ := bnd_some hf
          refine nm_l (Option.some.inj ez19) ?_
          refine lv_lstore_n (lv' := [(1, .long z19), (0, .ref (gq G 0)), (3, .int x3)]) hx hb dX10_digest_114 rfl hl (by decide) rfl (fun ls hl => ?_)
          exact J115 _ _ _ _ _ _ hf h (lv_sub hl [1, 0, 2] rfl)
  obtain ⟨w, rfl⟩ : ∃ z, z = w0 := ⟨_, rfl⟩
  have hl : lv_has ls 4 [(0, .ref (gq G 0))] := hl
  unfold f_X10_digest at hf
  refine lv_aload_n hx hb dX10_digest_0 rfl (lv_at hl 0 rfl) ?_
  refine lv_iconst (v := 0) hx hb dX10_digest_1 (by decide) ?_
  refine PM_0_0 X h k_X10_53 dX10_digest_2 (fun H locs h => ?_)
  refine lv_ldc2 (v := 527) hx hb hown (hts _ k_X10_194) dX10_digest_5 ?_
  refine lv_aload_n hx hb dX10_digest_8 rfl (lv_at hl 0 rfl) ?_
  refine GM_0_1 X h k_X10_7 dX10_digest_9 ?_
  refine lv_sipush (v := 11344) hx hb dX10_digest_12 (by decide) ?_
  obtain ⟨c20, hf⟩ := chk_some hf
  refine LM_1 X h c20 dX10_digest_15 ?_
  refine lv_i2l hx hb dX10_digest_16 rfl ?_
  refine lv_ladd hx hb dX10_digest_17 ?_
  obtain ⟨z21, ez21, hf⟩ := bnd_some hf
  refine nm_l (Option.some.inj ez21) ?_
  refine lv_lstore_n (lv' := [(1, .long z21), (0, .ref (gq G 0))]) hx hb dX10_digest_18 rfl hl (by decide) rfl (fun ls hl => ?_)
  refine lv_iconst (v := 0) hx hb dX10_digest_19 (by decide) ?_
  refine lv_istore_n (lv' := [(3, .int ((0 : Int32))), (1, .long z21), (0, .ref (gq G 0))]) hx hb dX10_digest_20 rfl hl (by decide) rfl (fun ls hl => ?_)
  exact L21 FU _ _ _ _ _ _ hf h (lv_sub hl [2, 1, 0] rfl)
theorem m_X10_digest : Cond.instanceMethod yX10_digest ∈ lw_good ∧ Cond.selects RX10 yX10_digest yX10_digest ∈ lw_good ∧ Cond.initialized RX10 ∈ lw_good ∧ Cond.code yX10_digest cX10_digest 4 (some .long) ∈ lw_good := by decide +kernel
theorem k_X10_digest {p : Program} {l : Launch} {e : Env} {R : Room} {s : State} {m : MethodId} {args : Array Value} {below : List Frame} {meth : Method} {c : Code} {H : Heap} {locs : List Loc} {cells slots : Nat} {Q : State → Prop} {cc : ByteArray} {nL pc idx : Nat} {ls : Array Slot} {rest : List Value} {own : String} {G : Gm} {A : Nat → Prop} {H0 : Heap} {w : MW} {y : Int64 × MW} (X : CX own cc nL G p s m args c) (h : CH G (mw G w) A H0 H locs) (hA : ∀ q, H0.size ≤ q → A q) (hf : f_X10_digest w = some y) (hlk : Cond.methodLink own idx yX10_digest ∈ lw_good) (hd : decode cc pc = .ok (.invokevirtual idx, 3)) (hsz : ls.size = nL) (hR : 3 ≤ R.frames ∧ 68 ≤ R.locals) (hrest : (rest.map fun v => v.category).sum ≤ 8) (hk : cells ≤ R.cells ∧ slots ≤ R.slots) (k : ∀ (H : Heap) (locs : List Loc), CH G (mw G y.2) A H0 H locs → W p l e R s m args below meth c H locs cells slots Q (F0 m (pc + 3) ls (.long y.1 :: rest))) : W p l e R s m args below meth c H locs cells slots Q (F0 m pc ls (.ref (gq G 0) :: rest)) :=
  fin_l (n := 0) (runV (As := []) X.1 0 (t_X10_digest l G w y.1 y.2 hf _) rfl rfl hlk m_X10_digest (by decide +kernel) ⟨hR.1, hR.2⟩ ⟨blindM, va_recv X.2.1 h.1 (ci := 9) (q0 := 0) rfl rfl, preM X.2 h⟩ rfl hsz hrest hd hk) h hA (fun _ H locs h => k H locs h)
def f_X10_status (w : MW) : Option (Int32 × MW) :=
 some ((mst w 0 0 ((0 : Int32))) 0 9, mst w 0 0 ((0 : Int32)))
set_option maxHeartbeats 4000000 in
set_option maxRecDepth 100000 in
theorem t_X10_status (l : Launch) (G : Gm) (w0 : MW) (r : Int32) (w' : MW) (hf : f_X10_status w0 = some (r, w')) : MetI l yX10_status cX10_status 1 (some .int) 0 0 G (mw G w0) [.ref (gq G 0)] r (fun _ => mw G (w')) 0 := by
  intro sz
  refine ent (own := RX10) (As := [.ref (gq G 0)]) (by decide +kernel) rfl (Nat.le_of_ble_eq_true rfl) (fun _ _ h => h.1) ?_
  intro p e s m args below meth c ls B hr hlocks hv hl
  obtain ⟨-, hsz, hP, hKK, hD⟩ := hv
  subst hsz
  have X : CX RX10 cX10_status 1 G p s m args c := ⟨B, hKK⟩
  obtain ⟨hx, hb, hml, hown, hts⟩ := id B
  have hA : ∀ q : Nat, s.heap.size ≤ q → va_A (mw G w0) s.heap.size q := fun q z => Or.inr z
  have h : CH G (mw G w0) (va_A (mw G w0) s.heap.size) s.heap s.heap [] := ⟨hP, hD.self, va_S.rf⟩
  obtain ⟨w, rfl⟩ : ∃ z, z = w0 := ⟨_, rfl⟩
  have hl : lv_has ls 1 [(0, .ref (gq G 0))] := hl
  unfold f_X10_status at hf
  refine lv_aload_n hx hb dX10_status_0 rfl (lv_at hl 0 rfl) ?_
  refine lv_iconst (v := 0) hx hb dX10_status_1 (by decide) ?_
  refine PM_0_0 X h k_X10_53 dX10_status_2 (fun H locs h => ?_)
  refine lv_aload_n hx hb dX10_status_5 rfl (lv_at hl 0 rfl) ?_
  refine GM_0_9 X h k_X10_61 dX10_status_6 ?_
  exact e0_i (Wf := mw G) X.1 hr hlocks hf h dX10_status_9
theorem m_X10_status : Cond.instanceMethod yX10_status ∈ lw_good ∧ Cond.selects RX10 yX10_status yX10_status ∈ lw_good ∧ Cond.initialized RX10 ∈ lw_good ∧ Cond.code yX10_status cX10_status 1 (some .int) ∈ lw_good := by decide +kernel
theorem k_X10_status {p : Program} {l : Launch} {e : Env} {R : Room} {s : State} {m : MethodId} {args : Array Value} {below : List Frame} {meth : Method} {c : Code} {H : Heap} {locs : List Loc} {cells slots : Nat} {Q : State → Prop} {cc : ByteArray} {nL pc idx : Nat} {ls : Array Slot} {rest : List Value} {own : String} {G : Gm} {A : Nat → Prop} {H0 : Heap} {w : MW} {y : Int32 × MW} (X : CX own cc nL G p s m args c) (h : CH G (mw G w) A H0 H locs) (hA : ∀ q, H0.size ≤ q → A q) (hf : f_X10_status w = some y) (hlk : Cond.methodLink own idx yX10_status ∈ lw_good) (hd : decode cc pc = .ok (.invokevirtual idx, 3)) (hsz : ls.size = nL) (hR : 1 ≤ R.frames ∧ 20 ≤ R.locals) (hrest : (rest.map fun v => v.category).sum ≤ 8) (hk : cells ≤ R.cells ∧ slots ≤ R.slots) (k : ∀ (H : Heap) (locs : List Loc), CH G (mw G y.2) A H0 H locs → W p l e R s m args below meth c H locs cells slots Q (F0 m (pc + 3) ls (.int y.1 :: rest))) : W p l e R s m args below meth c H locs cells slots Q (F0 m pc ls (.ref (gq G 0) :: rest)) :=
  fin_i (n := 0) (runV (As := []) X.1 0 (t_X10_status l G w y.1 y.2 hf _) rfl rfl hlk m_X10_status (by decide +kernel) ⟨hR.1, hR.2⟩ ⟨blindM, va_recv X.2.1 h.1 (ci := 9) (q0 := 0) rfl rfl, preM X.2 h⟩ rfl hsz hrest hd hk) h hA (fun _ H locs h => k H locs h)
