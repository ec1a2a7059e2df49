def f_X9_goOn_b86 (x1 : Int32) (w : CW) : Option (CW × Nat) :=
 bnc (f_X9_grow x1 ((27 : Int32)) ((1 : Int32)) w) fun y1 =>
 bnc (f_X9_write x1 ((6 : Int32)) ((0 : Int32)) y1) fun y2 =>
 bnc (f_X9_write x1 ((3 : Int32)) ((2 : Int32)) y2) fun y3 =>
 bnc (f_X9_grow x1 ((12 : Int32)) ((-1 : Int32)) y3) fun y4 =>
 (f_X9_read x1 ((11 : Int32)) y4).bind fun y5 =>
 (f_X9_read x1 ((12 : Int32)) y4).bind fun y6 =>
 if y6 = 0 then
 ((f_X9_read x1 ((10 : Int32)) y4).bind fun y8 =>
 if y8 ≤ (y5 + ((1 : Int32))) then
 (some (y4, 0))
 else
 (bnc (f_X9_write x1 ((11 : Int32)) (y5 + ((1 : Int32))) y4) fun y10 =>
 (f_X9_read x1 (((48 : Int32)) + (y5 + ((1 : Int32)))) y10).bind fun y11 =>
 (f_X9_minutesOf y11).bind fun y12 =>
 bnc (f_X9_write x1 ((12 : Int32)) y12 y10) fun y13 =>
 some (y13, 0)))
 else
 (some (y4, 0))
def f_X9_goOn_b65 (x1 : Int32) (x2 : Int32) (w : CW) : Option (CW × Nat) :=
 if x2 = ((1 : Int32)) then
 ((f_X9_kindAt x1 w).bind fun y15 =>
 chk (y15 < 5) (
 (fv_wear y15 ((1 : Int32)) w).bind fun y16 =>
 bnc (f_X9_grow x1 ((32 : Int32)) y16.1 y16.2) fun y18 =>
 f_X9_goOn_b86 x1 y18))
 else
 (f_X9_goOn_b86 x1 w)
def f_X9_goOn_l2_body (kself : (Int32 → Int32 → Int32 → CW → Option (CW × Nat))) (x1 : Int32) (x2 : Int32) (x3 : Int32) (w : CW) : Option (CW × Nat) :=
 if ((2 : Int32)) < x3 then
 (chk (inb ((0 : Int32)) 3) (
 bnc (f_X9_grow x1 ((4 : Int32)) (w.1 9 ((0 : Int32)).toNatClampNeg) w) fun y21 =>
 if x2 = ((3 : Int32)) then
 (bnc (f_X9_drainOff x1 y21) fun y23 =>
 f_X9_goOn_b65 x1 x2 y23)
 else
 (f_X9_goOn_b65 x1 x2 y21)))
 else
 (chk (inb x3 3) (
 chk (inb x3 3) (
 chk (inb x3 3) (
 chk (inb x3 3) (
 bnc (f_X9_grow x1 (((29 : Int32)) + x3) ((cs w 10 x3.toNatClampNeg ((w.1 10 x3.toNatClampNeg) + (w.1 9 x3.toNatClampNeg))).1 9 x3.toNatClampNeg) (cs w 10 x3.toNatClampNeg ((w.1 10 x3.toNatClampNeg) + (w.1 9 x3.toNatClampNeg)))) fun y28 =>
 kself x1 x2 (x3 + (1 : Int32)) y28)))))
def f_X9_goOn_l2 : Nat → Int32 → Int32 → Int32 → CW → Option (CW × Nat)
  | 0, _, _, _, _ => none
  | n + 1, x1, x2, x3, w => f_X9_goOn_l2_body (f_X9_goOn_l2 n) x1 x2 x3 w
def f_X9_goOn (x1 : Int32) (x2 : Int32) (w : CW) : Option (CW × Nat) :=
 f_X9_goOn_l2 FU x1 x2 ((0 : Int32)) w
set_option maxHeartbeats 4000000 in
set_option maxRecDepth 100000 in
theorem t_X9_goOn (l : Launch) (G : Gm) (la0 : Nat) (w0 : CW) (x1 : Int32) (x2 : Int32) (w' : CW) (N : Nat) (hf : f_X9_goOn x1 x2 w0 = some (w', N)) : MetV l yX9_goOn cX9_goOn 4 6 158 G (cw G la0 w0) [.ref (gq G 0), .int x1, .int x2] (fun u => cw G u w') N := by
  intro sz
  refine ent (own := RX9) (As := [.ref (gq G 0), .int x1, .int x2]) (by decide +kernel) rfl (Nat.le_of_ble_eq_true rfl) (fun _ _ h => h.1) ?_
  intro p e s m args below meth c ls B hr hlocks hv hl
  obtain ⟨-, hsz, hP, hKK, hD⟩ := hv
  subst hsz
  have X : CX RX9 cX9_goOn 4 G p s m args c := ⟨B, hKK⟩
  obtain ⟨hx, hb, hml, hown, hts⟩ := id B
  have hA : ∀ q : Nat, s.heap.size ≤ q → va_A (cw G la0 w0) s.heap.size q := fun q z => Or.inr z
  have h : CH G (cw G la0 w0) (va_A (cw G la0 w0) s.heap.size) s.heap s.heap [] := ⟨hP, hD.self, va_S.rf⟩
  have hc : 0 + N = N := Nat.zero_add N
  have J86 : ∀ (x1 : Int32) (w : CW) (la : Nat) (H : Heap) (locs : List Loc) (ls : Array Slot) (k n : Nat), f_X9_goOn_b86 x1 w = some (w', n) → CH G (cw G la w) (va_A (cw G la0 w0) s.heap.size) s.heap H locs → lv_has ls 4 [(0, .ref (gq G 0)), (1, .int x1)] → k + n = N → W p l e { frames := 6, cells := N, slots := 4096 * N, locals := 158 } s m args below meth c H locs k (4096 * k) (MQ below (QV G (cw G la0 w0) s.heap.size (fun u => cw G u w')) args s N (4096 * N) (va_A (cw G la0 w0) s.heap.size)) (F0 m 86 ls []) := by
    intro x1 w la H locs ls k n hf h hl hc
    unfold f_X9_goOn_b86 at hf
    refine lv_aload_n hx hb dX9_goOn_86 rfl (lv_at hl 0 rfl) ?_
    refine lv_iload_n hx hb dX9_goOn_87 rfl (lv_at hl 1 rfl) ?_
    refine lv_bipush (v := 27) hx hb dX9_goOn_88 (by decide) ?_
    refine lv_iconst (v := 1) hx hb dX9_goOn_90 (by decide) ?_
    obtain ⟨y1, ny1, my1, ey1, hf, jy1⟩ := bnc_some hf
    refine k_X9_grow X h hA ey1 k_X9_190 dX9_goOn_91 hl.1 ⟨(Nat.le_of_ble_eq_true rfl), (Nat.le_of_ble_eq_true rfl)⟩ (Nat.le_of_ble_eq_true rfl) (rmm1 hc jy1) (fun la H locs h => ?_)
    have hc := rmm2 hc jy1
    refine lv_aload_n hx hb dX9_goOn_94 rfl (lv_at hl 0 rfl) ?_
    refine lv_iload_n hx hb dX9_goOn_95 rfl (lv_at hl 1 rfl) ?_
    refine lv_bipush (v := 6) hx hb dX9_goOn_96 (by decide) ?_
    refine lv_iconst (v := 0) hx hb dX9_goOn_98 (by decide) ?_
    obtain ⟨y2, ny2, my2, ey2, hf, jy2⟩ := bnc_some hf
    refine k_X9_write X h hA ey2 k_X9_99 dX9_goOn_99 hl.1 ⟨(Nat.le_of_ble_eq_true rfl), (Nat.le_of_ble_eq_true rfl)⟩ (Nat.le_of_ble_eq_true rfl) (rmm1 hc jy2) (fun la H locs h => ?_)
    have hc := rmm2 hc jy2
    refine lv_aload_n hx hb dX9_goOn_102 rfl (lv_at hl 0 rfl) ?_
    refine lv_iload_n hx hb dX9_goOn_103 rfl (lv_at hl 1 rfl) ?_
    refine lv_iconst (v := 3) hx hb dX9_goOn_104 (by decide) ?_
    refine lv_iconst (v := 2) hx hb dX9_goOn_105 (by decide) ?_
    obtain ⟨y3, ny3, my3, ey3, hf, jy3⟩ := bnc_some hf
    refine k_X9_write X h hA ey3 k_X9_99 dX9_goOn_106 hl.1 ⟨(Nat.le_of_ble_eq_true rfl), (Nat.le_of_ble_eq_true rfl)⟩ (Nat.le_of_ble_eq_true rfl) (rmm1 hc jy3) (fun la H locs h => ?_)
    have hc := rmm2 hc jy3
    refine lv_aload_n hx hb dX9_goOn_109 rfl (lv_at hl 0 rfl) ?_
    refine lv_iload_n hx hb dX9_goOn_110 rfl (lv_at hl 1 rfl) ?_
    refine lv_bipush (v := 12) hx hb dX9_goOn_111 (by decide) ?_
    refine lv_iconst (v := (-1)) hx hb dX9_goOn_113 (by decide) ?_
    obtain ⟨y4, ny4, my4, ey4, hf, jy4⟩ := bnc_some hf
    refine k_X9_grow X h hA ey4 k_X9_190 dX9_goOn_114 hl.1 ⟨(Nat.le_of_ble_eq_true rfl), (Nat.le_of_ble_eq_true rfl)⟩ (Nat.le_of_ble_eq_true rfl) (rmm1 hc jy4) (fun la H locs h => ?_)
    have hc := rmm2 hc jy4
    refine lv_aload_n hx hb dX9_goOn_117 rfl (lv_at hl 0 rfl) ?_
    refine lv_iload_n hx hb dX9_goOn_118 rfl (lv_at hl 1 rfl) ?_
    refine lv_bipush (v := 11) hx hb dX9_goOn_119 (by decide) ?_
    obtain ⟨y5, ey5, hf⟩ := bnd_some hf
    refine k_X9_read X h ey5 k_X9_110 dX9_goOn_121 hl.1 ⟨(Nat.le_of_ble_eq_true rfl), (Nat.le_of_ble_eq_true rfl)⟩ (Nat.le_of_ble_eq_true rfl) (rmm0 hc) ?_
    refine lv_iconst (v := 1) hx hb dX9_goOn_124 (by decide) ?_
    refine lv_iadd hx hb dX9_goOn_125 ?_
    refine lv_istore_n (lv' := [(3, .int (y5 + ((1 : Int32)))), (0, .ref (gq G 0)), (1, .int x1)]) hx hb dX9_goOn_126 rfl hl (by decide) rfl (fun ls hl => ?_)
    refine lv_aload_n hx hb dX9_goOn_127 rfl (lv_at hl 1 rfl) ?_
    refine lv_iload_n hx hb dX9_goOn_128 rfl (lv_at hl 2 rfl) ?_
    refine lv_bipush (v := 12) hx hb dX9_goOn_129 (by decide) ?_
    obtain ⟨y6, ey6, hf⟩ := bnd_some hf
    refine k_X9_read X h ey6 k_X9_110 dX9_goOn_131 hl.1 ⟨(Nat.le_of_ble_eq_true rfl), (Nat.le_of_ble_eq_true rfl)⟩ (Nat.le_of_ble_eq_true rfl) (rmm0 hc) ?_
    refine lv_if_ne (tgt := 175) hx hb dX9_goOn_134 (by decide) (fun c7 => ?_) (fun c7 => ?_)
    · have hf := if_f c7 hf
      exact e1_v X.1 hr hlocks hf h hc dX9_goOn_175
    · have hf := if_t c7 hf
      refine lv_iload_n hx hb dX9_goOn_137 rfl (lv_at hl 0 rfl) ?_
      refine lv_aload_n hx hb dX9_goOn_138 rfl (lv_at hl 1 rfl) ?_
      refine lv_iload_n hx hb dX9_goOn_139 rfl (lv_at hl 2 rfl) ?_
      refine lv_bipush (v := 10) hx hb dX9_goOn_140 (by decide) ?_
      obtain ⟨y8, ey8, hf⟩ := bnd_some hf
      refine k_X9_read X h ey8 k_X9_110 dX9_goOn_142 hl.1 ⟨(Nat.le_of_ble_eq_true rfl), (Nat.le_of_ble_eq_true rfl)⟩ (Nat.le_of_ble_eq_true rfl) (rmm0 hc) ?_
      refine lv_icmp_ge (tgt := 175) hx hb dX9_goOn_145 (by decide) (fun c9 => ?_) (fun c9 => ?_)
      · have hf := if_t c9 hf
        exact e1_v X.1 hr hlocks hf h hc dX9_goOn_175
      · have hf := if_f c9 hf
        refine lv_aload_n hx hb dX9_goOn_148 rfl (lv_at hl 1 rfl) ?_
        refine lv_iload_n hx hb dX9_goOn_149 rfl (lv_at hl 2 rfl) ?_
        refine lv_bipush (v := 11) hx hb dX9_goOn_150 (by decide) ?_
        refine lv_iload_n hx hb dX9_goOn_152 rfl (lv_at hl 0 rfl) ?_
        obtain ⟨y10, ny10, my10, ey10, hf, jy10⟩ := bnc_some hf
        refine k_X9_write X h hA ey10 k_X9_99 dX9_goOn_153 hl.1 ⟨(Nat.le_of_ble_eq_true rfl), (Nat.le_of_ble_eq_true rfl)⟩ (Nat.le_of_ble_eq_true rfl) (rmm1 hc jy10) (fun la H locs h => ?_)
        have hc := rmm2 hc jy10
        refine lv_aload_n hx hb dX9_goOn_156 rfl (lv_at hl 1 rfl) ?_
        refine lv_iload_n hx hb dX9_goOn_157 rfl (lv_at hl 2 rfl) ?_
        refine lv_bipush (v := 12) hx hb dX9_goOn_158 (by decide) ?_
        refine lv_aload_n hx hb dX9_goOn_160 rfl (lv_at hl 1 rfl) ?_
        refine lv_iload_n hx hb dX9_goOn_161 rfl (lv_at hl 2 rfl) ?_
        refine lv_bipush (v := 48) hx hb dX9_goOn_162 (by decide) ?_
        refine lv_iload_n hx hb dX9_goOn_164 rfl (lv_at hl 0 rfl) ?_
        refine lv_iadd hx hb dX9_goOn_165 ?_
        obtain ⟨y11, ey11, hf⟩ := bnd_some hf
        refine k_X9_read X h ey11 k_X9_110 dX9_goOn_166 hl.1 ⟨(Nat.le_of_ble_eq_true rfl), (Nat.le_of_ble_eq_true rfl)⟩ (Nat.le_of_ble_eq_true rfl) (rmm0 hc) ?_
        obtain ⟨y12, ey12, hf⟩ := bnd_some hf
        refine k_X9_minutesOf X.1 ey12 k_X9_178 dX9_goOn_169 hl.1 ⟨(Nat.le_of_ble_eq_true rfl), (Nat.le_of_ble_eq_true rfl)⟩ (Nat.le_of_ble_eq_true rfl) (rmm0 hc) ?_
        obtain ⟨y13, ny13, my13, ey13, hf, jy13⟩ := bnc_some hf
        refine k_X9_write X h hA ey13 k_X9_99 dX9_goOn_172 hl.1 ⟨(Nat.le_of_ble_eq_true rfl), (Nat.le_of_ble_eq_true rfl)⟩ (Nat.le_of_ble_eq_true rfl) (rmm1 hc jy13) (fun la H locs h => ?_)
        have hc := rmm2 hc jy13
        exact e1_v X.1 hr hlocks hf h hc dX9_goOn_175
  have J65 : ∀ (x1 : Int32) (x2 : Int32) (w : CW) (la : Nat) (H : Heap) (locs : List Loc) (ls : Array Slot) (k n : Nat), f_X9_goOn_b65 x1 x2 w = some (w', n) → CH G (cw G la w) (va_A (cw G la0 w0) s.heap.size) s.heap H locs → lv_has ls 4 [(0, .ref (gq G 0)), (1, .int x1), (2, .int x2)] → k + n = N → W p l e { frames := 6, cells := N, slots := 4096 * N, locals := 158 } s m args below meth c H locs k (4096 * k) (MQ below (QV G (cw G la0 w0) s.heap.size (fun u => cw G u w')) args s N (4096 * N) (va_A (cw G la0 w0) s.heap.size)) (F0 m 65 ls []) := by
    intro x1 x2 w la H locs ls k n hf h hl hc
    unfold f_X9_goOn_b65 at hf
    refine lv_iload_n hx hb dX9_goOn_65 rfl (lv_at hl 2 rfl) ?_
    refine lv_iconst (v := 1) hx hb dX9_goOn_66 (by decide) ?_
    refine lv_icmp_ne (tgt := 86) hx hb dX9_goOn_67 (by decide) (fun c14 => ?_) (fun c14 => ?_)
    · have hf := if_f c14 hf
      exact J86 _ _ _ _ _ _ _ _ hf h (lv_sub hl [0, 1] rfl) hc
    · have hf := if_t c14 hf
      refine lv_aload_n hx hb dX9_goOn_70 rfl (lv_at hl 0 rfl) ?_
      refine lv_iload_n hx hb dX9_goOn_71 rfl (lv_at hl 1 rfl) ?_
      refine lv_bipush (v := 32) hx hb dX9_goOn_72 (by decide) ?_
      refine lv_aload_n hx hb dX9_goOn_74 rfl (lv_at hl 0 rfl) ?_
      refine lv_iload_n hx hb dX9_goOn_75 rfl (lv_at hl 1 rfl) ?_
      obtain ⟨y15, ey15, hf⟩ := bnd_some hf
      refine k_X9_kindAt X h ey15 k_X9_123 dX9_goOn_76 hl.1 ⟨(Nat.le_of_ble_eq_true rfl), (Nat.le_of_ble_eq_true rfl)⟩ (Nat.le_of_ble_eq_true rfl) (rmm0 hc) ?_
      refine lv_iconst (v := 1) hx hb dX9_goOn_79 (by decide) ?_
      obtain ⟨c17, hf⟩ := chk_some hf
      obtain ⟨y16, ey16, hf⟩ := bnd_some hf
      refine kv_wear X h hA c17 ey16 k_X9_154 dX9_goOn_80 hl.1 ⟨(Nat.le_of_ble_eq_true rfl), (Nat.le_of_ble_eq_true rfl)⟩ (Nat.le_of_ble_eq_true rfl) (rmm0 hc) (fun H locs h => ?_)
      obtain ⟨y18, ny18, my18, ey18, hf, jy18⟩ := bnc_some hf
      refine k_X9_grow X h hA ey18 k_X9_190 dX9_goOn_83 hl.1 ⟨(Nat.le_of_ble_eq_true rfl), (Nat.le_of_ble_eq_true rfl)⟩ (Nat.le_of_ble_eq_true rfl) (rmm1 hc jy18) (fun la H locs h => ?_)
      have hc := rmm2 hc jy18
      exact J86 _ _ _ _ _ _ _ _ hf h (lv_sub hl [0, 1] rfl) hc
  have L2 : ∀ (n2 : Nat) (x1 : Int32) (x2 : Int32) (x3 : Int32) (w : CW) (la : Nat) (H : Heap) (locs : List Loc) (ls : Array Slot) (k n : Nat), f_X9_goOn_l2 n2 x1 x2 x3 w = some (w', n) → CH G (cw G la w) (va_A (cw G la0 w0) s.heap.size) s.heap H locs → lv_has ls 4 [(0, .ref (gq G 0)), (1, .int x1), (2, .int x2), (3, .int x3)] → k + n = N → W p l e { frames := 6, cells := N, slots := 4096 * N, locals := 158 } s m args below meth c H locs k (4096 * k) (MQ below (QV G (cw G la0 w0) s.heap.size (fun u => cw G u w')) args s N (4096 * N) (va_A (cw G la0 w0) s.heap.size)) (F0 m 2 ls []) := by
    intro n2
    induction n2 with
    | zero =>
      intro x1 x2 x3 w la H locs ls k n hf h hl hc
      cases (show (none : Option (CW × Nat)) = some _ from hf)
    | succ n2 ih2 =>
      intro x1 x2 x3 w la H locs ls k n hf h hl hc
      have hf : f_X9_goOn_l2_body (f_X9_goOn_l2 n2) x1 x2 x3 w = _ := hf
      unfold f_X9_goOn_l2_body at hf
      refine lv_iload_n hx hb dX9_goOn_2 rfl (lv_at hl 3 rfl) ?_
      refine lv_iconst (v := 2) hx hb dX9_goOn_3 (by decide) ?_
      refine lv_icmp_gt (tgt := 43) hx hb dX9_goOn_4 (by decide) (fun c19 => ?_) (fun c19 => ?_)
      · have hf := if_t c19 hf
        refine lv_aload_n hx hb dX9_goOn_43 rfl (lv_at hl 0 rfl) ?_
        refine lv_iload_n hx hb dX9_goOn_44 rfl (lv_at hl 1 rfl) ?_
        refine lv_iconst (v := 4) hx hb dX9_goOn_45 (by decide) ?_
        refine lv_aload_n hx hb dX9_goOn_46 rfl (lv_at hl 0 rfl) ?_
        refine GC_0_8 X h k_X9_68 dX9_goOn_47 ?_
        refine lv_iconst (v := 0) hx hb dX9_goOn_50 (by decide) ?_
        obtain ⟨c20, hf⟩ := chk_some hf
        refine LC_9 X h c20 dX9_goOn_51 ?_
        obtain ⟨y21, ny21, my21, ey21, hf, jy21⟩ := bnc_some hf
        refine k_X9_grow X h hA ey21 k_X9_190 dX9_goOn_52 hl.1 ⟨(Nat.le_of_ble_eq_true rfl), (Nat.le_of_ble_eq_true rfl)⟩ (Nat.le_of_ble_eq_true rfl) (rmm1 hc jy21) (fun la H locs h => ?_)
        have hc := rmm2 hc jy21
        refine lv_iload_n hx hb dX9_goOn_55 rfl (lv_at hl 2 rfl) ?_
        refine lv_iconst (v := 3) hx hb dX9_goOn_56 (by decide) ?_
        refine lv_icmp_ne (tgt := 65) hx hb dX9_goOn_57 (by decide) (fun c22 => ?_) (fun c22 => ?_)
        · have hf := if_f c22 hf
          exact J65 _ _ _ _ _ _ _ _ _ hf h (lv_sub hl [0, 1, 2] rfl) hc
        · have hf := if_t c22 hf
          refine lv_aload_n hx hb dX9_goOn_60 rfl (lv_at hl 0 rfl) ?_
          refine lv_iload_n hx hb dX9_goOn_61 rfl (lv_at hl 1 rfl) ?_
          obtain ⟨y23, ny23, my23, ey23, hf, jy23⟩ := bnc_some hf
          refine k_X9_drainOff X h hA ey23 k_X9_302 dX9_goOn_62 hl.1 ⟨(Nat.le_of_ble_eq_true rfl), (Nat.le_of_ble_eq_true rfl)⟩ (Nat.le_of_ble_eq_true rfl) (rmm1 hc jy23) (fun la H locs h => ?_)
          have hc := rmm2 hc jy23
          exact J65 _ _ _ _ _ _ _ _ _ hf h (lv_sub hl [0, 1, 2] rfl) hc
      · have hf := if_f c19 hf
        refine lv_aload_n hx hb dX9_goOn_7 rfl (lv_at hl 0 rfl) ?_
        refine GC_0_9 X h k_X9_71 dX9_goOn_8 ?_
        refine lv_iload_n hx hb dX9_goOn_11 rfl (lv_at hl 3 rfl) ?_
        refine lv_dup2_11 hx hb dX9_goOn_12 rfl rfl ?_
        obtain ⟨c24, hf⟩ := chk_some hf
        refine LC_10 X h c24 dX9_goOn_13 ?_
        refine lv_aload_n hx hb dX9_goOn_14 rfl (lv_at hl 0 rfl) ?_
        refine GC_0_8 X h k_X9_68 dX9_goOn_15 ?_
        refine lv_iload_n hx hb dX9_goOn_18 rfl (lv_at hl 3 rfl) ?_
        obtain ⟨c25, hf⟩ := chk_some hf
        refine LC_9 X h c25 dX9_goOn_19 ?_
        refine lv_iadd hx hb dX9_goOn_20 ?_
        obtain ⟨c26, hf⟩ := chk_some hf
        refine SC_10 X h c26 dX9_goOn_21 (fun H locs h => ?_)
        refine lv_aload_n hx hb dX9_goOn_22 rfl (lv_at hl 0 rfl) ?_
        refine lv_iload_n hx hb dX9_goOn_23 rfl (lv_at hl 1 rfl) ?_
        refine lv_bipush (v := 29) hx hb dX9_goOn_24 (by decide) ?_
        refine lv_iload_n hx hb dX9_goOn_26 rfl (lv_at hl 3 rfl) ?_
        refine lv_iadd hx hb dX9_goOn_27 ?_
        refine lv_aload_n hx hb dX9_goOn_28 rfl (lv_at hl 0 rfl) ?_
        refine GC_0_8 X h k_X9_68 dX9_goOn_29 ?_
        refine lv_iload_n hx hb dX9_goOn_32 rfl (lv_at hl 3 rfl) ?_
        obtain ⟨c27, hf⟩ := chk_some hf
        refine LC_9 X h c27 dX9_goOn_33 ?_
        obtain ⟨y28, ny28, my28, ey28, hf, jy28⟩ := bnc_some hf
        refine k_X9_grow X h hA ey28 k_X9_190 dX9_goOn_34 hl.1 ⟨(Nat.le_of_ble_eq_true rfl), (Nat.le_of_ble_eq_true rfl)⟩ (Nat.le_of_ble_eq_true rfl) (rmm1 hc jy28) (fun la H locs h => ?_)
        have hc := rmm2 hc jy28
        refine lv_iinc (v := x3 + (1 : Int32)) (lv' := [(3, .int (x3 + (1 : Int32))), (0, .ref (gq G 0)), (1, .int x1), (2, .int x2)]) hx hb dX9_goOn_37 hl (k := 3) rfl (by rfl) (by decide) rfl (fun ls hl => ?_)
        refine lv_goto (tgt := 2) hx hb dX9_goOn_40 (by decide) ?_
        exact ih2 _ _ _ _ _ _ _ _ _ _ hf h (lv_sub hl [1, 2, 3, 0] rfl) hc
  obtain ⟨la, rfl⟩ : ∃ z, z = la0 := ⟨_, rfl⟩
  obtain ⟨w, rfl⟩ : ∃ z, z = w0 := ⟨_, rfl⟩
  have hl : lv_has ls 4 [(0, .ref (gq G 0)), (1, .int x1), (2, .int x2)] := hl
  unfold f_X9_goOn at hf
  refine wid0 ?_
  refine lv_iconst (v := 0) hx hb dX9_goOn_0 (by decide) ?_
  refine lv_istore_n (lv' := [(3, .int ((0 : Int32))), (0, .ref (gq G 0)), (1, .int x1), (2, .int x2)]) hx hb dX9_goOn_1 rfl hl (by decide) rfl (fun ls hl => ?_)
  exact L2 FU _ _ _ _ _ _ _ _ _ _ hf h (lv_sub hl [1, 2, 3, 0] rfl) hc
theorem m_X9_goOn : Cond.instanceMethod yX9_goOn ∈ lw_good ∧ Cond.selects RX9 yX9_goOn yX9_goOn ∈ lw_good ∧ Cond.initialized RX9 ∈ lw_good ∧ Cond.code yX9_goOn cX9_goOn 4 none ∈ lw_good := by decide +kernel
theorem k_X9_goOn {p : Program} {l : Launch} {e : Env} {R : Room} {s : State} {m : MethodId} {args : Array Value} {below : List Frame} {meth : Method} {c : Code} {H : Heap} {locs : List Loc} {cells : Nat} {Q : State → Prop} {cc : ByteArray} {nL pc idx : Nat} {ls : Array Slot} {rest : List Value} {own : String} {G : Gm} {A : Nat → Prop} {H0 : Heap} {la : Nat} {w : CW} {x1 : Int32} {x2 : Int32} {w' : CW} {n : Nat} (X : CX own cc nL G p s m args c) (h : CH G (cw G la w) A H0 H locs) (hA : ∀ q, H0.size ≤ q → A q) (hf : f_X9_goOn x1 x2 w = some (w', n)) (hlk : Cond.methodLink own idx yX9_goOn ∈ lw_good) (hd : decode cc pc = .ok (.invokevirtual idx, 3)) (hsz : ls.size = nL) (hR : 7 ≤ R.frames ∧ 181 ≤ R.locals) (hrest : (rest.map fun v => v.category).sum ≤ 8) (hk : cells + n ≤ R.cells ∧ 4096 * cells + 4096 * n ≤ R.slots) (k : ∀ (la : Nat) (H : Heap) (locs : List Loc), CH G (cw G la (w')) A H0 H locs → W p l e R s m args below meth c H locs (cells + n) (4096 * (cells + n)) Q (F0 m (pc + 3) ls (rest))) : W p l e R s m args below meth c H locs cells (4096 * cells) Q (F0 m pc ls (.int x2 :: .int x1 :: .ref (gq G 0) :: rest)) :=
  fin_v (n := n) (runV (As := [.int x1, .int x2]) X.1 2 (t_X9_goOn l G la w x1 x2 w' n hf _) rfl rfl hlk m_X9_goOn (by decide +kernel) ⟨hR.1, hR.2⟩ ⟨blindM, va_recv X.2.1 h.1 (ci := 8) (q0 := 0) rfl rfl, preM X.2 h⟩ rfl hsz hrest hd hk) h hA (fun la H locs h => by rw [← Nat.mul_add]; exact k la H locs h)
def f_X9_waitOn (x1 : Int32) (w : CW) : Option (CW × Nat) :=
 bnc (f_X9_grow x1 ((6 : Int32)) ((1 : Int32)) w) fun y1 =>
 bnc (f_X9_grow x1 ((28 : Int32)) ((1 : Int32)) y1) fun y2 =>
 bnc (f_X9_write x1 ((3 : Int32)) ((3 : Int32)) y2) fun y3 =>
 some (y3, 0)
set_option maxHeartbeats 4000000 in
set_option maxRecDepth 100000 in
theorem t_X9_waitOn (l : Launch) (G : Gm) (la0 : Nat) (w0 : CW) (x1 : Int32) (w' : CW) (N : Nat) (hf : f_X9_waitOn x1 w0 = some (w', N)) : MetV l yX9_waitOn cX9_waitOn 2 6 158 G (cw G la0 w0) [.ref (gq G 0), .int x1] (fun u => cw G u w') N := by
  intro sz
  refine ent (own := RX9) (As := [.ref (gq G 0), .int x1]) (by decide +kernel) rfl (Nat.le_of_ble_eq_true rfl) (fun _ _ h => h.1) ?_
  intro p e s m args below meth c ls B hr hlocks hv hl
  obtain ⟨-, hsz, hP, hKK, hD⟩ := hv
  subst hsz
  have X : CX RX9 cX9_waitOn 2 G p s m args c := ⟨B, hKK⟩
  obtain ⟨hx, hb, hml, hown, hts⟩ := id B
  have hA : ∀ q : Nat, s.heap.size ≤ q → va_A (cw G la0 w0) s.heap.size q := fun q z => Or.inr z
  have h : CH G (cw G la0 w0) (va_A (cw G la0 w0) s.heap.size) s.heap s.heap [] := ⟨hP, hD.self, va_S.rf⟩
  have hc : 0 + N = N := Nat.zero_add N
  obtain ⟨la, rfl⟩ : ∃ z, z = la0 := ⟨_, rfl⟩
  obtain ⟨w, rfl⟩ : ∃ z, z = w0 := ⟨_, rfl⟩
  have hl : lv_has ls 2 [(0, .ref (gq G 0)), (1, .int x1)] := hl
  unfold f_X9_waitOn at hf
  refine wid0 ?_
  refine lv_aload_n hx hb dX9_waitOn_0 rfl (lv_at hl 0 rfl) ?_
  refine lv_iload_n hx hb dX9_waitOn_1 rfl (lv_at hl 1 rfl) ?_
  refine lv_bipush (v := 6) hx hb dX9_waitOn_2 (by decide) ?_
  refine lv_iconst (v := 1) hx hb dX9_waitOn_4 (by decide) ?_
  obtain ⟨y1, ny1, my1, ey1, hf, jy1⟩ := bnc_some hf
  refine k_X9_grow X h hA ey1 k_X9_190 dX9_waitOn_5 hl.1 ⟨(Nat.le_of_ble_eq_true rfl), (Nat.le_of_ble_eq_true rfl)⟩ (Nat.le_of_ble_eq_true rfl) (rmm1 hc jy1) (fun la H locs h => ?_)
  have hc := rmm2 hc jy1
  refine lv_aload_n hx hb dX9_waitOn_8 rfl (lv_at hl 0 rfl) ?_
  refine lv_iload_n hx hb dX9_waitOn_9 rfl (lv_at hl 1 rfl) ?_
  refine lv_bipush (v := 28) hx hb dX9_waitOn_10 (by decide) ?_
  refine lv_iconst (v := 1) hx hb dX9_waitOn_12 (by decide) ?_
  obtain ⟨y2, ny2, my2, ey2, hf, jy2⟩ := bnc_some hf
  refine k_X9_grow X h hA ey2 k_X9_190 dX9_waitOn_13 hl.1 ⟨(Nat.le_of_ble_eq_true rfl), (Nat.le_of_ble_eq_true rfl)⟩ (Nat.le_of_ble_eq_true rfl) (rmm1 hc jy2) (fun la H locs h => ?_)
  have hc := rmm2 hc jy2
  refine lv_aload_n hx hb dX9_waitOn_16 rfl (lv_at hl 0 rfl) ?_
  refine lv_iload_n hx hb dX9_waitOn_17 rfl (lv_at hl 1 rfl) ?_
  refine lv_iconst (v := 3) hx hb dX9_waitOn_18 (by decide) ?_
  refine lv_iconst (v := 3) hx hb dX9_waitOn_19 (by decide) ?_
  obtain ⟨y3, ny3, my3, ey3, hf, jy3⟩ := bnc_some hf
  refine k_X9_write X h hA ey3 k_X9_99 dX9_waitOn_20 hl.1 ⟨(Nat.le_of_ble_eq_true rfl), (Nat.le_of_ble_eq_true rfl)⟩ (Nat.le_of_ble_eq_true rfl) (rmm1 hc jy3) (fun la H locs h => ?_)
  have hc := rmm2 hc jy3
  exact e1_v X.1 hr hlocks hf h hc dX9_waitOn_23
theorem m_X9_waitOn : Cond.instanceMethod yX9_waitOn ∈ lw_good ∧ Cond.selects RX9 yX9_waitOn yX9_waitOn ∈ lw_good ∧ Cond.initialized RX9 ∈ lw_good ∧ Cond.code yX9_waitOn cX9_waitOn 2 none ∈ lw_good := by decide +kernel
theorem k_X9_waitOn {p : Program} {l : Launch} {e : Env} {R : Room} {s : State} {m : MethodId} {args : Array Value} {below : List Frame} {meth : Method} {c : Code} {H : Heap} {locs : List Loc} {cells : Nat} {Q : State → Prop} {cc : ByteArray} {nL pc idx : Nat} {ls : Array Slot} {rest : List Value} {own : String} {G : Gm} {A : Nat → Prop} {H0 : Heap} {la : Nat} {w : CW} {x1 : Int32} {w' : CW} {n : Nat} (X : CX own cc nL G p s m args c) (h : CH G (cw G la w) A H0 H locs) (hA : ∀ q, H0.size ≤ q → A q) (hf : f_X9_waitOn x1 w = some (w', n)) (hlk : Cond.methodLink own idx yX9_waitOn ∈ lw_good) (hd : decode cc pc = .ok (.invokevirtual idx, 3)) (hsz : ls.size = nL) (hR : 7 ≤ R.frames ∧ 179 ≤ R.locals) (hrest : (rest.map fun v => v.category).sum ≤ 8) (hk : cells + n ≤ R.cells ∧ 4096 * cells + 4096 * n ≤ R.slots) (k : ∀ (la : Nat) (H : Heap) (locs : List Loc), CH G (cw G la (w')) A H0 H locs → W p l e R s m args below meth c H locs (cells + n) (4096 * (cells + n)) Q (F0 m (pc + 3) ls (rest))) : W p l e R s m args below meth c H locs cells (4096 * cells) Q (F0 m pc ls (.int x1 :: .ref (gq G 0) :: rest)) :=
  fin_v (n := n) (runV (As := [.int x1]) X.1 1 (t_X9_waitOn l G la w x1 w' n hf _) rfl rfl hlk m_X9_waitOn (by decide +kernel) ⟨hR.1, hR.2⟩ ⟨blindM, va_recv X.2.1 h.1 (ci := 8) (q0 := 0) rfl rfl, preM X.2 h⟩ rfl hsz hrest hd hk) h hA (fun la H locs h => by rw [← Nat.mul_add]; exact k la H locs h)
def f_X9_serveRuns_l107_body (kself : (Int32 → CW → Option (CW × Nat))) (x2 : Int32) (w : CW) : Option (CW × Nat) :=
 if ((2 : Int32)) < x2 then
 (some (w, 0))
 else
 (chk (inb x2 3) (
 bnc (f_X1_set (((8547 : Int32)) + x2) (w.1 10 x2.toNatClampNeg) w) fun y3 =>
 kself (x2 + (1 : Int32)) y3))
def f_X9_serveRuns_l107 : Nat → Int32 → CW → Option (CW × Nat)
  | 0, _, _ => none
  | n + 1, x2, w => f_X9_serveRuns_l107_body (f_X9_serveRuns_l107 n) x2 w
def f_X9_serveRuns_b94 (k15 : (Int32 → Int32 → CW → Option (CW × Nat))) (x1 : Int32) (x2 : Int32) (x3 : Int32) (w : CW) : Option (CW × Nat) :=
 (f_X9_leave x3 w).bind fun y4 =>
 k15 x1 (x2 + (1 : Int32)) y4
def f_X9_serveRuns_b81 (k15 : (Int32 → Int32 → CW → Option (CW × Nat))) (x1 : Int32) (x2 : Int32) (x3 : Int32) (w : CW) : Option (CW × Nat) :=
 (f_X9_hasRun x3 w).bind fun y5 =>
 if y5 = 0 then
 (bnc (f_X9_endRun x3 w) fun y7 =>
 f_X9_serveRuns_b94 k15 x1 x2 x3 y7)
 else
 (f_X9_serveRuns_b94 k15 x1 x2 x3 w)
def f_X9_serveRuns_l15_body (kself : (Int32 → Int32 → CW → Option (CW × Nat))) (x1 : Int32) (x2 : Int32) (w : CW) : Option (CW × Nat) :=
 if x1 ≤ x2 then
 (f_X9_serveRuns_l107 FU ((0 : Int32)) w)
 else
 (chk (inb x2 60) (
 (f_X9_read (w.1 7 x2.toNatClampNeg) ((11 : Int32)) w).bind fun y10 =>
 (f_X9_read (w.1 7 x2.toNatClampNeg) (((48 : Int32)) + y10) w).bind fun y11 =>
 (f_X9_kindOf y11).bind fun y12 =>
 (f_X9_enter (w.1 7 x2.toNatClampNeg) w).bind fun y13 =>
 (f_X9_askWishes (w.1 7 x2.toNatClampNeg) y12 y13).bind fun y14 =>
 (f_X9_fitsBounds y14).bind fun y15 =>
 if y15 = 0 then
 (bnc (f_X9_waitOn (w.1 7 x2.toNatClampNeg) y14) fun y17 =>
 f_X9_serveRuns_b81 kself x1 x2 (w.1 7 x2.toNatClampNeg) y17)
 else
 (bnc (f_X9_goOn (w.1 7 x2.toNatClampNeg) y12 y14) fun y18 =>
 f_X9_serveRuns_b81 kself x1 x2 (w.1 7 x2.toNatClampNeg) y18)))
def f_X9_serveRuns_l15 : Nat → Int32 → Int32 → CW → Option (CW × Nat)
  | 0, _, _, _ => none
  | n + 1, x1, x2, w => f_X9_serveRuns_l15_body (f_X9_serveRuns_l15 n) x1 x2 w
def f_X9_serveRuns (w : CW) : Option (CW × Nat) :=
 (f_X9_lineUpRuns w).bind fun y19 =>
 (f_J7_fill_53178 10 3 ((0 : Int32)) y19.2).bind fun y20 =>
 f_X9_serveRuns_l15 FU y19.1 ((0 : Int32)) y20
set_option maxHeartbeats 4000000 in
set_option maxRecDepth 100000 in
theorem t_X9_serveRuns (l : Launch) (G : Gm) (la0 : Nat) (w0 : CW) (w' : CW) (N : Nat) (hf : f_X9_serveRuns w0 = some (w', N)) : MetV l yX9_serveRuns cX9_serveRuns 5 7 181 G (cw G la0 w0) [.ref (gq G 0)] (fun u => cw G u w') N := by
  intro sz
  refine ent (own := RX9) (As := [.ref (gq G 0)]) (by decide +kernel) rfl (Nat.le_of_ble_eq_true rfl) (fun _ _ h => h.1) ?_
  intro p e s m args below meth c ls B hr hlocks hv hl
  obtain ⟨-, hsz, hP, hKK, hD⟩ := hv
  subst hsz
  have X : CX RX9 cX9_serveRuns 5 G p s m args c := ⟨B, hKK⟩
  obtain ⟨hx, hb, hml, hown, hts⟩ := id B
  have hA : ∀ q : Nat, s.heap.size ≤ q → va_A (cw G la0 w0) s.heap.size q := fun q z => Or.inr z
  have h : CH G (cw G la0 w0) (va_A (cw G la0 w0) s.heap.size) s.heap s.heap [] := ⟨hP, hD.self, va_S.rf⟩
  have hc : 0 + N = N := Nat.zero_add N
  have L107 : ∀ (n107 : Nat) (x2 : Int32) (w : CW) (la : Nat) (H : Heap) (locs : List Loc) (ls : Array Slot) (k n : Nat), f_X9_serveRuns_l107 n107 x2 w = some (w', n) → CH G (cw G la w) (va_A (cw G la0 w0) s.heap.size) s.heap H locs → lv_has ls 5 [(0, .ref (gq G 0)), (2, .int x2)] → k + n = N → W p l e { frames := 7, cells := N, slots := 4096 * N, locals := 181 } s m args below meth c H locs k (4096 * k) (MQ below (QV G (cw G la0 w0) s.heap.size (fun u => cw G u w')) args s N (4096 * N) (va_A (cw G la0 w0) s.heap.size)) (F0 m 107 ls []) := by
    intro n107
    induction n107 with
    | zero =>
      intro x2 w la H locs ls k n hf h hl hc
      cases (show (none : Option (CW × Nat)) = some _ from hf)
    | succ n107 ih107 =>
      intro x2 w la H locs ls k n hf h hl hc
      have hf : f_X9_serveRuns_l107_body (f_X9_serveRuns_l107 n107) x2 w = _ := hf
      unfold f_X9_serveRuns_l107_body at hf
      refine lv_iload_n hx hb dX9_serveRuns_107 rfl (lv_at hl 1 rfl) ?_
      refine lv_iconst (v := 2) hx hb dX9_serveRuns_108 (by decide) ?_
      refine lv_icmp_gt (tgt := 136) hx hb dX9_serveRuns_109 (by decide) (fun c1 => ?_) (fun c1 => ?_)
      · have hf := if_t c1 hf
        exact e1_v X.1 hr hlocks hf h hc dX9_serveRuns_136
      · have hf := if_f c1 hf
        refine lv_aload_n hx hb dX9_serveRuns_112 rfl (lv_at hl 0 rfl) ?_
        refine GC_0_0 X h k_X9_12 dX9_serveRuns_113 ?_
        refine lv_sipush (v := 8547) hx hb dX9_serveRuns_116 (by decide) ?_
        refine lv_iload_n hx hb dX9_serveRuns_119 rfl (lv_at hl 1 rfl) ?_
        refine lv_iadd hx hb dX9_serveRuns_120 ?_
        refine lv_aload_n hx hb dX9_serveRuns_121 rfl (lv_at hl 0 rfl) ?_
        refine GC_0_9 X h k_X9_71 dX9_serveRuns_122 ?_
        refine lv_iload_n hx hb dX9_serveRuns_125 rfl (lv_at hl 1 rfl) ?_
        obtain ⟨c2, hf⟩ := chk_some hf
        refine LC_10 X h c2 dX9_serveRuns_126 ?_
        obtain ⟨y3, ny3, my3, ey3, hf, jy3⟩ := bnc_some hf
        refine k_X1_set X h hA ey3 k_X9_84 dX9_serveRuns_127 hl.1 ⟨(Nat.le_of_ble_eq_true rfl), (Nat.le_of_ble_eq_true rfl)⟩ (Nat.le_of_ble_eq_true rfl) (rmm1 hc jy3) (fun la H locs h => ?_)
        have hc := rmm2 hc jy3
        refine lv_iinc (v := x2 + (1 : Int32)) (lv' := [(2, .int (x2 + (1 : Int32))), (0, .ref (gq G 0))]) hx hb dX9_serveRuns_130 hl (k := 1) rfl (by rfl) (by decide) rfl (fun ls hl => ?_)
        refine lv_goto (tgt := 107) hx hb dX9_serveRuns_133 (by decide) ?_
        exact ih107 _ _ _ _ _ _ _ _ hf h (lv_sub hl [1, 0] rfl) hc
  have L15 : ∀ (n15 : Nat) (x1 : Int32) (x2 : Int32) (w : CW) (la : Nat) (H : Heap) (locs : List Loc) (ls : Array Slot) (k n : Nat), f_X9_serveRuns_l15 n15 x1 x2 w = some (w', n) → CH G (cw G la w) (va_A (cw G la0 w0) s.heap.size) s.heap H locs → lv_has ls 5 [(0, .ref (gq G 0)), (1, .int x1), (2, .int x2)] → k + n = N → W p l e { frames := 7, cells := N, slots := 4096 * N, locals := 181 } s m args below meth c H locs k (4096 * k) (MQ below (QV G (cw G la0 w0) s.heap.size (fun u => cw G u w')) args s N (4096 * N) (va_A (cw G la0 w0) s.heap.size)) (F0 m 15 ls []) := by
    intro n15
    induction n15 with
    | zero =>
      intro x1 x2 w la H locs ls k n hf h hl hc
      cases (show (none : Option (CW × Nat)) = some _ from hf)
    | succ n15 ih15 =>
      have J94 : ∀ (x1 : Int32) (x2 : Int32) (x3 : Int32) (w : CW) (la : Nat) (H : Heap) (locs : List Loc) (ls : Array Slot) (k n : Nat), f_X9_serveRuns_b94 (f_X9_serveRuns_l15 n15) x1 x2 x3 w = some (w', n) → CH G (cw G la w) (va_A (cw G la0 w0) s.heap.size) s.heap H locs → lv_has ls 5 [(0, .ref (gq G 0)), (1, .int x1), (2, .int x2), (3, .int x3)] → k + n = N → W p l e { frames := 7, cells := N, slots := 4096 * N, locals := 181 } s m args below meth c H locs k (4096 * k) (MQ below (QV G (cw G la0 w0) s.heap.size (fun u => cw G u w')) args s N (4096 * N) (va_A (cw G la0 w0) s.heap.size)) (F0 m 94 ls []) := by
        intro x1 x2 x3 w la H locs ls k n hf h hl hc
        unfold f_X9_serveRuns_b94 at hf
        refine lv_aload_n hx hb dX9_serveRuns_94 rfl (lv_at hl 0 rfl) ?_
        refine lv_iload_n hx hb dX9_serveRuns_95 rfl (lv_at hl 3 rfl) ?_
        obtain ⟨y4, ey4, hf⟩ := bnd_some hf
        refine k_X9_leave X h hA ey4 k_X9_203 dX9_serveRuns_96 hl.1 ⟨(Nat.le_of_ble_eq_true rfl), (Nat.le_of_ble_eq_true rfl)⟩ (Nat.le_of_ble_eq_true rfl) (rmm0 hc) (fun H locs h => ?_)
        refine lv_iinc (v := x2 + (1 : Int32)) (lv' := [(2, .int (x2 + (1 : Int32))), (0, .ref (gq G 0)), (1, .int x1), (3, .int x3)]) hx hb dX9_serveRuns_99 hl (k := 2) rfl (by rfl) (by decide) rfl (fun ls hl => ?_)
        refine lv_goto (tgt := 15) hx hb dX9_serveRuns_102 (by decide) ?_
        exact ih15 _ _ _ _ _ _ _ _ _ hf h (lv_sub hl [1, 2, 0] rfl) hc
      have J81 : ∀ (x1 : Int32) (x2 : Int32) (x3 : Int32) (w : CW) (la : Nat) (H : Heap) (locs : List Loc) (ls : Array Slot) (k n : Nat), f_X9_serveRuns_b81 (f_X9_serveRuns_l15 n15) x1 x2 x3 w = some (w', n) → CH G (cw G la w) (va_A (cw G la0 w0) s.heap.size) s.heap H locs → lv_has ls 5 [(0, .ref (gq G 0)), (1, .int x1), (2, .int x2), (3, .int x3)] → k + n = N → W p l e { frames := 7, cells := N, slots := 4096 * N, locals := 181 } s m args below meth c H locs k (4096 * k) (MQ below (QV G (cw G la0 w0) s.heap.size (fun u => cw G u w')) args s N (4096 * N) (va_A (cw G la0 w0) s.heap.size)) (F0 m 81 ls []) := by
        intro x1 x2 x3 w la H locs ls k n hf h hl hc
        unfold f_X9_serveRuns_b81 at hf
        refine lv_aload_n hx hb dX9_serveRuns_81 rfl (lv_at hl 0 rfl) ?_
        refine lv_iload_n hx hb dX9_serveRuns_82 rfl (lv_at hl 3 rfl) ?_
        obtain ⟨y5, ey5, hf⟩ := bnd_some hf
        refine k_X9_hasRun X h ey5 k_X9_114 dX9_serveRuns_83 hl.1 ⟨(Nat.le_of_ble_eq_true rfl), (Nat.le_of_ble_eq_true rfl)⟩ (Nat.le_of_ble_eq_true rfl) (rmm0 hc) ?_
        refine lv_if_ne (tgt := 94) hx hb dX9_serveRuns_86 (by decide) (fun c6 => ?_) (fun c6 => ?_)
        · have hf := if_f c6 hf
          exact J94 _ _ _ _ _ _ _ _ _ _ hf h (lv_sub hl [0, 1, 2, 3] rfl) hc
        · have hf := if_t c6 hf
          refine lv_aload_n hx hb dX9_serveRuns_89 rfl (lv_at hl 0 rfl) ?_
          refine lv_iload_n hx hb dX9_serveRuns_90 rfl (lv_at hl 3 rfl) ?_
          obtain ⟨y7, ny7, my7, ey7, hf, jy7⟩ := bnc_some hf
          refine k_X9_endRun X h hA ey7 k_X9_275 dX9_serveRuns_91 hl.1 ⟨(Nat.le_of_ble_eq_true rfl), (Nat.le_of_ble_eq_true rfl)⟩ (Nat.le_of_ble_eq_true rfl) (rmm1 hc jy7) (fun la H locs h => ?_)
          have hc := rmm2 hc jy7
          exact J94 _ _ _ _ _ _ _ _ _ _ hf h (lv_sub hl [0, 1, 2, 3] rfl) hc
      intro x1 x2 w la H locs ls k n hf h hl hc
      have hf : f_X9_serveRuns_l15_body (f_X9_serveRuns_l15 n15) x1 x2 w = _ := hf
      unfold f_X9_serveRuns_l15_body at hf
      refine lv_iload_n hx hb dX9_serveRuns_15 rfl (lv_at hl 2 rfl) ?_
      refine lv_iload_n hx hb dX9_serveRuns_16 rfl (lv_at hl 1 rfl) ?_
      refine lv_icmp_ge (tgt := 105) hx hb dX9_serveRuns_17 (by decide) (fun c8 => ?_) (fun c8 => ?_)
      · have hf := if_t c8 hf
        refine lv_iconst (v := 0) hx hb dX9_serveRuns_105 (by decide) ?_
        refine lv_istore_n (lv' := [(2, .int ((0 : Int32))), (0, .ref (gq G 0)), (1, .int x1)]) hx hb dX9_serveRuns_106 rfl hl (by decide) rfl (fun ls hl => ?_)
        exact L107 FU _ _ _ _ _ _ _ _ hf h (lv_sub hl [1, 0] rfl) hc
      · have hf := if_f c8 hf
        refine lv_aload_n hx hb dX9_serveRuns_20 rfl (lv_at hl 0 rfl) ?_
        refine GC_0_6 X h k_X9_62 dX9_serveRuns_21 ?_
        refine lv_iload_n hx hb dX9_serveRuns_24 rfl (lv_at hl 2 rfl) ?_
        obtain ⟨c9, hf⟩ := chk_some hf
        refine LC_7 X h c9 dX9_serveRuns_25 ?_
        refine lv_istore_n (lv' := [(3, .int (w.1 7 x2.toNatClampNeg)), (0, .ref (gq G 0)), (1, .int x1), (2, .int x2)]) hx hb dX9_serveRuns_26 rfl hl (by decide) rfl (fun ls hl => ?_)
        refine lv_aload_n hx hb dX9_serveRuns_27 rfl (lv_at hl 1 rfl) ?_
        refine lv_iload_n hx hb dX9_serveRuns_28 rfl (lv_at hl 0 rfl) ?_
        refine lv_bipush (v := 48) hx hb dX9_serveRuns_29 (by decide) ?_
        refine lv_aload_n hx hb dX9_serveRuns_31 rfl (lv_at hl 1 rfl) ?_
        refine lv_iload_n hx hb dX9_serveRuns_32 rfl (lv_at hl 0 rfl) ?_
        refine lv_bipush (v := 11) hx hb dX9_serveRuns_33 (by decide) ?_
        obtain ⟨y10, ey10, hf⟩ := bnd_some hf
        refine k_X9_read X h ey10 k_X9_110 dX9_serveRuns_35 hl.1 ⟨(Nat.le_of_ble_eq_true rfl), (Nat.le_of_ble_eq_true rfl)⟩ (Nat.le_of_ble_eq_true rfl) (rmm0 hc) ?_
        refine lv_iadd hx hb dX9_serveRuns_38 ?_
        obtain ⟨y11, ey11, hf⟩ := bnd_some hf
        refine k_X9_read X h ey11 k_X9_110 dX9_serveRuns_39 hl.1 ⟨(Nat.le_of_ble_eq_true rfl), (Nat.le_of_ble_eq_true rfl)⟩ (Nat.le_of_ble_eq_true rfl) (rmm0 hc) ?_
        obtain ⟨y12, ey12, hf⟩ := bnd_some hf
        refine k_X9_kindOf X.1 ey12 k_X9_263 dX9_serveRuns_42 hl.1 ⟨(Nat.le_of_ble_eq_true rfl), (Nat.le_of_ble_eq_true rfl)⟩ (Nat.le_of_ble_eq_true rfl) (rmm0 hc) ?_
        refine lv_istore (lv' := [(4, .int y12), (3, .int (w.1 7 x2.toNatClampNeg)), (0, .ref (gq G 0)), (1, .int x1), (2, .int x2)]) hx hb dX9_serveRuns_45 hl (by decide) rfl (fun ls hl => ?_)
        refine lv_aload_n hx hb dX9_serveRuns_47 rfl (lv_at hl 2 rfl) ?_
        refine lv_iload_n hx hb dX9_serveRuns_48 rfl (lv_at hl 1 rfl) ?_
        obtain ⟨y13, ey13, hf⟩ := bnd_some hf
        refine k_X9_enter X h hA ey13 k_X9_196 dX9_serveRuns_49 hl.1 ⟨(Nat.le_of_ble_eq_true rfl), (Nat.le_of_ble_eq_true rfl)⟩ (Nat.le_of_ble_eq_true rfl) (rmm0 hc) (fun H locs h => ?_)
        refine lv_aload_n hx hb dX9_serveRuns_52 rfl (lv_at hl 2 rfl) ?_
        refine lv_iload_n hx hb dX9_serveRuns_53 rfl (lv_at hl 1 rfl) ?_
        refine lv_iload hx hb dX9_serveRuns_54 (lv_at hl 0 rfl) ?_
        obtain ⟨y14, ey14, hf⟩ := bnd_some hf
        refine k_X9_askWishes X h hA ey14 k_X9_269 dX9_serveRuns_56 hl.1 ⟨(Nat.le_of_ble_eq_true rfl), (Nat.le_of_ble_eq_true rfl)⟩ (Nat.le_of_ble_eq_true rfl) (rmm0 hc) (fun H locs h => ?_)
        refine lv_aload_n hx hb dX9_serveRuns_59 rfl (lv_at hl 2 rfl) ?_
        obtain ⟨y15, ey15, hf⟩ := bnd_some hf
        refine k_X9_fitsBounds X h ey15 k_X9_272 dX9_serveRuns_60 hl.1 ⟨(Nat.le_of_ble_eq_true rfl), (Nat.le_of_ble_eq_true rfl)⟩ (Nat.le_of_ble_eq_true rfl) (rmm0 hc) ?_
        refine lv_if_eq (tgt := 76) hx hb dX9_serveRuns_63 (by decide) (fun c16 => ?_) (fun c16 => ?_)
        · have hf := if_t c16 hf
          refine lv_aload_n hx hb dX9_serveRuns_76 rfl (lv_at hl 2 rfl) ?_
          refine lv_iload_n hx hb dX9_serveRuns_77 rfl (lv_at hl 1 rfl) ?_
          obtain ⟨y17, ny17, my17, ey17, hf, jy17⟩ := bnc_some hf
          refine k_X9_waitOn X h hA ey17 k_X9_299 dX9_serveRuns_78 hl.1 ⟨(Nat.le_of_ble_eq_true rfl), (Nat.le_of_ble_eq_true rfl)⟩ (Nat.le_of_ble_eq_true rfl) (rmm1 hc jy17) (fun la H locs h => ?_)
          have hc := rmm2 hc jy17
          exact J81 _ _ _ _ _ _ _ _ _ _ hf h (lv_sub hl [2, 3, 4, 1] rfl) hc
        · have hf := if_f c16 hf
          refine lv_aload_n hx hb dX9_serveRuns_66 rfl (lv_at hl 2 rfl) ?_
          refine lv_iload_n hx hb dX9_serveRuns_67 rfl (lv_at hl 1 rfl) ?_
          refine lv_iload hx hb dX9_serveRuns_68 (lv_at hl 0 rfl) ?_
          obtain ⟨y18, ny18, my18, ey18, hf, jy18⟩ := bnc_some hf
          refine k_X9_goOn X h hA ey18 k_X9_296 dX9_serveRuns_70 hl.1 ⟨(Nat.le_of_ble_eq_true rfl), (Nat.le_of_ble_eq_true rfl)⟩ (Nat.le_of_ble_eq_true rfl) (rmm1 hc jy18) (fun la H locs h => ?_)
          have hc := rmm2 hc jy18
          refine lv_goto (tgt := 81) hx hb dX9_serveRuns_73 (by decide) ?_
          exact J81 _ _ _ _ _ _ _ _ _ _ hf h (lv_sub hl [2, 3, 4, 1] rfl) hc
  obtain ⟨la, rfl⟩ : ∃ z, z = la0 := ⟨_, rfl⟩
  obtain ⟨w, rfl⟩ : ∃ z, z = w0 := ⟨_, rfl⟩
  have hl : lv_has ls 5 [(0, .ref (gq G 0))] := hl
  unfold f_X9_serveRuns at hf
  refine wid0 ?_
  refine lv_aload_n hx hb dX9_serveRuns_0 rfl (lv_at hl 0 rfl) ?_
  obtain ⟨y19, ey19, hf⟩ := bnd_some hf
  refine k_X9_lineUpRuns X h hA ey19 k_X9_293 dX9_serveRuns_1 hl.1 ⟨(Nat.le_of_ble_eq_true rfl), (Nat.le_of_ble_eq_true rfl)⟩ (Nat.le_of_ble_eq_true rfl) (rmm0 hc) (fun H locs h => ?_)
  refine lv_istore_n (lv' := [(1, .int y19.1), (0, .ref (gq G 0))]) hx hb dX9_serveRuns_4 rfl hl (by decide) rfl (fun ls hl => ?_)
  refine lv_aload_n hx hb dX9_serveRuns_5 rfl (lv_at hl 1 rfl) ?_
  refine GC_0_9 X h k_X9_71 dX9_serveRuns_6 ?_
  refine lv_iconst (v := 0) hx hb dX9_serveRuns_9 (by decide) ?_
  obtain ⟨y20, ey20, hf⟩ := bnd_some hf
  refine k_J7_fill_53178 X h hA (by unfold arrP; omega) ey20 k_X9_248 dX9_serveRuns_10 hl.1 ⟨(Nat.le_of_ble_eq_true rfl), (Nat.le_of_ble_eq_true rfl)⟩ (Nat.le_of_ble_eq_true rfl) (rmm0 hc) (fun H locs h => ?_)
  refine lv_iconst (v := 0) hx hb dX9_serveRuns_13 (by decide) ?_
  refine lv_istore_n (lv' := [(2, .int ((0 : Int32))), (1, .int y19.1), (0, .ref (gq G 0))]) hx hb dX9_serveRuns_14 rfl hl (by decide) rfl (fun ls hl => ?_)
  exact L15 FU _ _ _ _ _ _ _ _ _ hf h (lv_sub hl [2, 1, 0] rfl) hc
theorem m_X9_serveRuns : Cond.instanceMethod yX9_serveRuns ∈ lw_good ∧ Cond.selects RX9 yX9_serveRuns yX9_serveRuns ∈ lw_good ∧ Cond.initialized RX9 ∈ lw_good ∧ Cond.code yX9_serveRuns cX9_serveRuns 5 none ∈ lw_good := by decide +kernel
theorem k_X9_serveRuns {p : Program} {l : Launch} {e : Env} {R : Room} {s : State} {m : MethodId} {args : Array Value} {below : List Frame} {meth : Method} {c : Code} {H : Heap} {locs : List Loc} {cells : Nat} {Q : State → Prop} {cc : ByteArray} {nL pc idx : Nat} {ls : Array Slot} {rest : List Value} {own : String} {G : Gm} {A : Nat → Prop} {H0 : Heap} {la : Nat} {w : CW} {w' : CW} {n : Nat} (X : CX own cc nL G p s m args c) (h : CH G (cw G la w) A H0 H locs) (hA : ∀ q, H0.size ≤ q → A q) (hf : f_X9_serveRuns w = some (w', n)) (hlk : Cond.methodLink own idx yX9_serveRuns ∈ lw_good) (hd : decode cc pc = .ok (.invokevirtual idx, 3)) (hsz : ls.size = nL) (hR : 8 ≤ R.frames ∧ 205 ≤ R.locals) (hrest : (rest.map fun v => v.category).sum ≤ 8) (hk : cells + n ≤ R.cells ∧ 4096 * cells + 4096 * n ≤ R.slots) (k : ∀ (la : Nat) (H : Heap) (locs : List Loc), CH G (cw G la (w')) A H0 H locs → W p l e R s m args below meth c H locs (cells + n) (4096 * (cells + n)) Q (F0 m (pc + 3) ls (rest))) : W p l e R s m args below meth c H locs cells (4096 * cells) Q (F0 m pc ls (.ref (gq G 0) :: rest)) :=
  fin_v (n := n) (runV (As := []) X.1 0 (t_X9_serveRuns l G la w w' n hf _) rfl rfl hlk m_X9_serveRuns (by decide +kernel) ⟨hR.1, hR.2⟩ ⟨blindM, va_recv X.2.1 h.1 (ci := 8) (q0 := 0) rfl rfl, preM X.2 h⟩ rfl hsz hrest hd hk) h hA (fun la H locs h => by rw [← Nat.mul_add]; exact k la H locs h)
def f_X1_slotOf (x0 : Int32) : Option Int32 :=
 (f_J9_floorMod_7cf53 x0 ((301 : Int32))).bind fun y1 =>
 some y1
set_option maxHeartbeats 4000000 in
set_option maxRecDepth 100000 in
theorem t_X1_slotOf (l : Launch) (x0 : Int32) (r : Int32) (hf : f_X1_slotOf x0 = some r) : MetP l yX1_slotOf cX1_slotOf 1 (some .int) 1 22 [.int x0] (.int r) := by
  refine ent (own := RX1) (As := [.int x0]) (by decide +kernel) rfl (Nat.le_of_ble_eq_true rfl) (fun _ _ h => h.1) ?_
  intro p e s m args below meth c ls B hr hlocks hv hl
  obtain ⟨hx, hb, hml, hown, hts⟩ := id B
  have hl : lv_has ls 1 [(0, .int x0)] := hl
  unfold f_X1_slotOf at hf
  refine lv_iload_n hx hb dX1_slotOf_0 rfl (lv_at hl 0 rfl) ?_
  refine lv_sipush (v := 301) hx hb dX1_slotOf_1 (by decide) ?_
  obtain ⟨y1, ey1, hf⟩ := bnd_some hf
  refine k_J9_floorMod_7cf53 B ey1 k_X1_71 dX1_slotOf_4 hl.1 ⟨(Nat.le_of_ble_eq_true rfl), (Nat.le_of_ble_eq_true rfl)⟩ (Nat.le_of_ble_eq_true rfl) ⟨Nat.zero_le _, Nat.zero_le _⟩ ?_
  cases hf
  exact rr_i B hr hlocks dX1_slotOf_7
theorem m_X1_slotOf : Cond.static yX1_slotOf ∈ lw_good ∧ Cond.initialized yX1_slotOf.cls ∈ lw_good ∧ Cond.code yX1_slotOf cX1_slotOf 1 (some .int) ∈ lw_good := by decide +kernel
theorem k_X1_slotOf {p : Program} {l : Launch} {e : Env} {R : Room} {s : State} {m : MethodId} {args : Array Value} {below : List Frame} {meth : Method} {c : Code} {H : Heap} {locs : List Loc} {cells slots : Nat} {Q : State → Prop} {cc : ByteArray} {nL pc idx : Nat} {ls : Array Slot} {rest : List Value} {own : String} {x0 : Int32} {r : Int32} (B : CB own cc nL p s m args c) (hf : f_X1_slotOf x0 = some r) (hlk : Cond.methodLink own idx yX1_slotOf ∈ lw_good) (hd : decode cc pc = .ok (.invokestatic idx, 3)) (hsz : ls.size = nL) (hR : 2 ≤ R.frames ∧ 42 ≤ R.locals) (hrest : (rest.map fun v => v.category).sum ≤ 8) (hk : cells ≤ R.cells ∧ slots ≤ R.slots) (k : W p l e R s m args below meth c H locs cells slots Q (F0 m (pc + 3) ls (.int r :: rest))) : W p l e R s m args below meth c H locs cells slots Q (F0 m pc ls (.int x0 :: rest)) :=
  fin_r (runS (As := [.int x0]) B 1 (t_X1_slotOf l x0 r hf) rfl rfl hlk m_X1_slotOf (by decide +kernel) ⟨hR.1, hR.2⟩ ⟨blindP, preP⟩ rfl hsz hrest hd hk) k
def f_X1_endMinute (w : CW) : Option CW :=
 (some (cs w 1 6 (if (w.1 1 6) < ((w.1 1 5) - ((300 : Int32))) then ((w.1 1 5) - ((300 : Int32))) else (w.1 1 6)))).bind fun w1 =>
 (f_X1_slotOf (w1.1 1 5)).bind fun y2 =>
 chk (inb y2 301) (
 (f_X1_slotOf ((cs w1 12 y2.toNatClampNeg (w1.1 1 4)).1 1 6)).bind fun y4 =>
 chk (inb y4 301) (
 (some (cs (cs w1 12 y2.toNatClampNeg (w1.1 1 4)) 1 3 ((cs w1 12 y2.toNatClampNeg (w1.1 1 4)).1 12 y4.toNatClampNeg))).bind fun w6 =>
 some w6))
set_option maxHeartbeats 4000000 in
set_option maxRecDepth 100000 in
theorem t_X1_endMinute (l : Launch) (G : Gm) (la : Nat) (w0 : CW) (w' : CW) (hf : f_X1_endMinute w0 = some w') : MetV l yX1_endMinute cX1_endMinute 1 2 42 G (cw G la w0) [.ref (gq G 1)] (fun _ => cw G la (w')) 0 := by
  intro sz
  refine ent (own := RX1) (As := [.ref (gq G 1)]) (by decide +kernel) rfl (Nat.le_of_ble_eq_true rfl) (fun _ _ h => h.1) ?_
  intro p e s m args below meth c ls B hr hlocks hv hl
  obtain ⟨-, hsz, hP, hKK, hD⟩ := hv
  subst hsz
  have X : CX RX1 cX1_endMinute 1 G p s m args c := ⟨B, hKK⟩
  obtain ⟨hx, hb, hml, hown, hts⟩ := id B
  have hA : ∀ q : Nat, s.heap.size ≤ q → va_A (cw G la w0) s.heap.size q := fun q z => Or.inr z
  have h : CH G (cw G la w0) (va_A (cw G la w0) s.heap.size) s.heap s.heap [] := ⟨hP, hD.self, va_S.rf⟩
  obtain ⟨w, rfl⟩ : ∃ z, z = w0 := ⟨_, rfl⟩
  have hl : lv_has ls 1 [(0, .ref (gq G 1))] := hl
  unfold f_X1_endMinute at hf
  refine lv_aload_n hx hb dX1_endMinute_0 rfl (lv_at hl 0 rfl) ?_
  refine lv_aload_n hx hb dX1_endMinute_1 rfl (lv_at hl 0 rfl) ?_
  refine GC_1_6 X h k_X1_31 dX1_endMinute_2 ?_
  refine lv_aload_n hx hb dX1_endMinute_5 rfl (lv_at hl 0 rfl) ?_
  refine GC_1_5 X h k_X1_28 dX1_endMinute_6 ?_
  refine lv_sipush (v := 300) hx hb dX1_endMinute_9 (by decide) ?_
  refine lv_isub hx hb dX1_endMinute_12 ?_
  refine m_max X.1 hl.1 k_X1_45 mx_w ⟨(Nat.le_of_ble_eq_true rfl), (Nat.le_of_ble_eq_true rfl)⟩ ⟨Nat.zero_le _, Nat.zero_le _⟩ dX1_endMinute_13 ?_
  refine PC_1_6 X h k_X1_31 dX1_endMinute_16 (fun H locs h => ?_)
  obtain ⟨w1, ew1, hf⟩ := bnd_some hf
  have h := (Option.some.inj ew1) ▸ h
  refine lv_aload_n hx hb dX1_endMinute_19 rfl (lv_at hl 0 rfl) ?_
  refine GC_1_1 X h k_X1_15 dX1_endMinute_20 ?_
  refine lv_aload_n hx hb dX1_endMinute_23 rfl (lv_at hl 0 rfl) ?_
  refine GC_1_5 X h k_X1_28 dX1_endMinute_24 ?_
  obtain ⟨y2, ey2, hf⟩ := bnd_some hf
  refine k_X1_slotOf X.1 ey2 k_X1_51 dX1_endMinute_27 hl.1 ⟨(Nat.le_of_ble_eq_true rfl), (Nat.le_of_ble_eq_true rfl)⟩ (Nat.le_of_ble_eq_true rfl) ⟨Nat.zero_le _, Nat.zero_le _⟩ ?_
  refine lv_aload_n hx hb dX1_endMinute_30 rfl (lv_at hl 0 rfl) ?_
  refine GC_1_4 X h k_X1_25 dX1_endMinute_31 ?_
  obtain ⟨c3, hf⟩ := chk_some hf
  refine SC_12 X h c3 dX1_endMinute_34 (fun H locs h => ?_)
  refine lv_aload_n hx hb dX1_endMinute_35 rfl (lv_at hl 0 rfl) ?_
  refine lv_aload_n hx hb dX1_endMinute_36 rfl (lv_at hl 0 rfl) ?_
  refine GC_1_1 X h k_X1_15 dX1_endMinute_37 ?_
  refine lv_aload_n hx hb dX1_endMinute_40 rfl (lv_at hl 0 rfl) ?_
  refine GC_1_6 X h k_X1_31 dX1_endMinute_41 ?_
  obtain ⟨y4, ey4, hf⟩ := bnd_some hf
  refine k_X1_slotOf X.1 ey4 k_X1_51 dX1_endMinute_44 hl.1 ⟨(Nat.le_of_ble_eq_true rfl), (Nat.le_of_ble_eq_true rfl)⟩ (Nat.le_of_ble_eq_true rfl) ⟨Nat.zero_le _, Nat.zero_le _⟩ ?_
  obtain ⟨c5, hf⟩ := chk_some hf
  refine LC_12 X h c5 dX1_endMinute_47 ?_
  refine PC_1_3 X h k_X1_21 dX1_endMinute_48 (fun H locs h => ?_)
  obtain ⟨w6, ew6, hf⟩ := bnd_some hf
  have h := (Option.some.inj ew6) ▸ h
  exact e0_v (Wf := cw G la) X.1 hr hlocks hf h dX1_endMinute_51
theorem m_X1_endMinute : Cond.instanceMethod yX1_endMinute ∈ lw_good ∧ Cond.selects RX1 yX1_endMinute yX1_endMinute ∈ lw_good ∧ Cond.initialized RX1 ∈ lw_good ∧ Cond.code yX1_endMinute cX1_endMinute 1 none ∈ lw_good := by decide +kernel
theorem k_X1_endMinute {p : Program} {l : Launch} {e : Env} {R : Room} {s : State} {m : MethodId} {args : Array Value} {below : List Frame} {meth : Method} {c : Code} {H : Heap} {locs : List Loc} {cells slots : Nat} {Q : State → Prop} {cc : ByteArray} {nL pc idx : Nat} {ls : Array Slot} {rest : List Value} {own : String} {G : Gm} {A : Nat → Prop} {H0 : Heap} {la : Nat} {w : CW} {w' : CW} (X : CX own cc nL G p s m args c) (h : CH G (cw G la w) A H0 H locs) (hA : ∀ q, H0.size ≤ q → A q) (hf : f_X1_endMinute w = some w') (hlk : Cond.methodLink own idx yX1_endMinute ∈ lw_good) (hd : decode cc pc = .ok (.invokevirtual idx, 3)) (hsz : ls.size = nL) (hR : 3 ≤ R.frames ∧ 62 ≤ R.locals) (hrest : (rest.map fun v => v.category).sum ≤ 8) (hk : cells ≤ R.cells ∧ slots ≤ R.slots) (k : ∀ (H : Heap) (locs : List Loc), CH G (cw G la (w')) A H0 H locs → W p l e R s m args below meth c H locs cells slots Q (F0 m (pc + 3) ls (rest))) : W p l e R s m args below meth c H locs cells slots Q (F0 m pc ls (.ref (gq G 1) :: rest)) :=
  fin_v (n := 0) (runV (As := []) X.1 0 (t_X1_endMinute l G la w w' hf _) rfl rfl hlk m_X1_endMinute (by decide +kernel) ⟨hR.1, hR.2⟩ ⟨blindM, va_recv X.2.1 h.1 (ci := 1) (q0 := 1) rfl rfl, preM X.2 h⟩ rfl hsz hrest hd hk) h hA (fun _ H locs h => k H locs h)
def f_X9_minute_l15_body (kself : (Int32 → Int32 → CW → Option ((Int32 × CW) × Nat))) (x1 : Int32) (x2 : Int32) (w : CW) : Option ((Int32 × CW) × Nat) :=
 if x1 ≤ x2 then
 ((f_X1_time w).bind fun y2 =>
 some ((y2, w), 0))
 else
 ((f_X1_beginMinute w).bind fun y3 =>
 bnc (f_X9_breakDown y3) fun y4 =>
 bnc (f_X9_serveRuns y4) fun y5 =>
 (f_X1_endMinute y5).bind fun y6 =>
 kself x1 (x2 + (1 : Int32)) y6)
def f_X9_minute_l15 : Nat → Int32 → Int32 → CW → Option ((Int32 × CW) × Nat)
  | 0, _, _, _ => none
  | n + 1, x1, x2, w => f_X9_minute_l15_body (f_X9_minute_l15 n) x1 x2 w
def f_X9_minute (x1 : Int32) (w : CW) : Option ((Int32 × CW) × Nat) :=
 (f_X9_within x1 ((1 : Int32)) ((60 : Int32))).bind fun y7 =>
 if y7 = 0 then
 (some (((-2 : Int32), w), 0))
 else
 (f_X9_minute_l15 FU x1 ((0 : Int32)) w)
set_option maxHeartbeats 4000000 in
set_option maxRecDepth 100000 in
theorem t_X9_minute (l : Launch) (G : Gm) (la0 : Nat) (w0 : CW) (x1 : Int32) (r : Int32) (w' : CW) (N : Nat) (hf : f_X9_minute x1 w0 = some ((r, w'), N)) : MetI l yX9_minute cX9_minute 3 (some .int) 8 205 G (cw G la0 w0) [.ref (gq G 0), .int x1] r (fun u => cw G u w') N := by
  intro sz
  refine ent (own := RX9) (As := [.ref (gq G 0), .int x1]) (by decide +kernel) rfl (Nat.le_of_ble_eq_true rfl) (fun _ _ h => h.1) ?_
  intro p e s m args below meth c ls B hr hlocks hv hl
  obtain ⟨-, hsz, hP, hKK, hD⟩ := hv
  subst hsz
  have X : CX RX9 cX9_minute 3 G p s m args c := ⟨B, hKK⟩
  obtain ⟨hx, hb, hml, hown, hts⟩ := id B
  have hA : ∀ q : Nat, s.heap.size ≤ q → va_A (cw G la0 w0) s.heap.size q := fun q z => Or.inr z
  have h : CH G (cw G la0 w0) (va_A (cw G la0 w0) s.heap.size) s.heap s.heap [] := ⟨hP, hD.self, va_S.rf⟩
  have hc : 0 + N = N := Nat.zero_add N
  have L15 : ∀ (n15 : Nat) (x1 : Int32) (x2 : Int32) (w : CW) (la : Nat) (H : Heap) (locs : List Loc) (ls : Array Slot) (k n : Nat), f_X9_minute_l15 n15 x1 x2 w = some ((r, w'), n) → CH G (cw G la w) (va_A (cw G la0 w0) s.heap.size) s.heap H locs → lv_has ls 3 [(0, .ref (gq G 0)), (1, .int x1), (2, .int x2)] → k + n = N → W p l e { frames := 8, cells := N, slots := 4096 * N, locals := 205 } s m args below meth c H locs k (4096 * k) (MQ below (QI G (cw G la0 w0) s.heap.size r (fun u => cw G u w')) args s N (4096 * N) (va_A (cw G la0 w0) s.heap.size)) (F0 m 15 ls []) := by
    intro n15
    induction n15 with
    | zero =>
      intro x1 x2 w la H locs ls k n hf h hl hc
      cases (show (none : Option ((Int32 × CW) × Nat)) = some _ from hf)
    | succ n15 ih15 =>
      intro x1 x2 w la H locs ls k n hf h hl hc
      have hf : f_X9_minute_l15_body (f_X9_minute_l15 n15) x1 x2 w = _ := hf
      unfold f_X9_minute_l15_body at hf
      refine lv_iload_n hx hb dX9_minute_15 rfl (lv_at hl 2 rfl) ?_
      refine lv_iload_n hx hb dX9_minute_16 rfl (lv_at hl 1 rfl) ?_
      refine lv_icmp_ge (tgt := 48) hx hb dX9_minute_17 (by decide) (fun c1 => ?_) (fun c1 => ?_)
      · have hf := if_t c1 hf
        refine lv_aload_n hx hb dX9_minute_48 rfl (lv_at hl 0 rfl) ?_
        refine GC_0_0 X h k_X9_12 dX9_minute_49 ?_
        obtain ⟨y2, ey2, hf⟩ := bnd_some hf
        refine k_X1_time X h ey2 k_X9_290 dX9_minute_52 hl.1 ⟨(Nat.le_of_ble_eq_true rfl), (Nat.le_of_ble_eq_true rfl)⟩ (Nat.le_of_ble_eq_true rfl) (rmm0 hc) ?_
        exact e1_i X.1 hr hlocks hf h hc dX9_minute_55
      · have hf := if_f c1 hf
        refine lv_aload_n hx hb dX9_minute_20 rfl (lv_at hl 0 rfl) ?_
        refine GC_0_0 X h k_X9_12 dX9_minute_21 ?_
        obtain ⟨y3, ey3, hf⟩ := bnd_some hf
        refine k_X1_beginMinute X h hA ey3 k_X9_278 dX9_minute_24 hl.1 ⟨(Nat.le_of_ble_eq_true rfl), (Nat.le_of_ble_eq_true rfl)⟩ (Nat.le_of_ble_eq_true rfl) (rmm0 hc) (fun H locs h => ?_)
        refine lv_aload_n hx hb dX9_minute_27 rfl (lv_at hl 0 rfl) ?_
        obtain ⟨y4, ny4, my4, ey4, hf, jy4⟩ := bnc_some hf
        refine k_X9_breakDown X h hA ey4 k_X9_281 dX9_minute_28 hl.1 ⟨(Nat.le_of_ble_eq_true rfl), (Nat.le_of_ble_eq_true rfl)⟩ (Nat.le_of_ble_eq_true rfl) (rmm1 hc jy4) (fun la H locs h => ?_)
        have hc := rmm2 hc jy4
        refine lv_aload_n hx hb dX9_minute_31 rfl (lv_at hl 0 rfl) ?_
        obtain ⟨y5, ny5, my5, ey5, hf, jy5⟩ := bnc_some hf
        refine k_X9_serveRuns X h hA ey5 k_X9_284 dX9_minute_32 hl.1 ⟨(Nat.le_of_ble_eq_true rfl), (Nat.le_of_ble_eq_true rfl)⟩ (Nat.le_of_ble_eq_true rfl) (rmm1 hc jy5) (fun la H locs h => ?_)
        have hc := rmm2 hc jy5
        refine lv_aload_n hx hb dX9_minute_35 rfl (lv_at hl 0 rfl) ?_
        refine GC_0_0 X h k_X9_12 dX9_minute_36 ?_
        obtain ⟨y6, ey6, hf⟩ := bnd_some hf
        refine k_X1_endMinute X h hA ey6 k_X9_287 dX9_minute_39 hl.1 ⟨(Nat.le_of_ble_eq_true rfl), (Nat.le_of_ble_eq_true rfl)⟩ (Nat.le_of_ble_eq_true rfl) (rmm0 hc) (fun H locs h => ?_)
        refine lv_iinc (v := x2 + (1 : Int32)) (lv' := [(2, .int (x2 + (1 : Int32))), (0, .ref (gq G 0)), (1, .int x1)]) hx hb dX9_minute_42 hl (k := 2) rfl (by rfl) (by decide) rfl (fun ls hl => ?_)
        refine lv_goto (tgt := 15) hx hb dX9_minute_45 (by decide) ?_
        exact ih15 _ _ _ _ _ _ _ _ _ hf h (lv_sub hl [1, 2, 0] rfl) hc
  obtain ⟨la, rfl⟩ : ∃ z, z = la0 := ⟨_, rfl⟩
  obtain ⟨w, rfl⟩ : ∃ z, z = w0 := ⟨_, rfl⟩
  have hl : lv_has ls 3 [(0, .ref (gq G 0)), (1, .int x1)] := hl
  unfold f_X9_minute at hf
  refine wid0 ?_
  refine lv_iload_n hx hb dX9_minute_0 rfl (lv_at hl 1 rfl) ?_
  refine lv_iconst (v := 1) hx hb dX9_minute_1 (by decide) ?_
  refine lv_bipush (v := 60) hx hb dX9_minute_2 (by decide) ?_
  obtain ⟨y7, ey7, hf⟩ := bnd_some hf
  refine k_X9_within X.1 ey7 k_X9_92 dX9_minute_4 hl.1 ⟨(Nat.le_of_ble_eq_true rfl), (Nat.le_of_ble_eq_true rfl)⟩ (Nat.le_of_ble_eq_true rfl) (rmm0 hc) ?_
  refine lv_if_ne (tgt := 13) hx hb dX9_minute_7 (by decide) (fun c8 => ?_) (fun c8 => ?_)
  · have hf := if_f c8 hf
    refine lv_iconst (v := 0) hx hb dX9_minute_13 (by decide) ?_
    refine lv_istore_n (lv' := [(2, .int ((0 : Int32))), (0, .ref (gq G 0)), (1, .int x1)]) hx hb dX9_minute_14 rfl hl (by decide) rfl (fun ls hl => ?_)
    exact L15 FU _ _ _ _ _ _ _ _ _ hf h (lv_sub hl [1, 2, 0] rfl) hc
  · have hf := if_t c8 hf
    refine lv_bipush (v := (-2)) hx hb dX9_minute_10 (by decide) ?_
    exact e1_i X.1 hr hlocks hf h hc dX9_minute_12
theorem m_X9_minute : Cond.instanceMethod yX9_minute ∈ lw_good ∧ Cond.selects RX9 yX9_minute yX9_minute ∈ lw_good ∧ Cond.initialized RX9 ∈ lw_good ∧ Cond.code yX9_minute cX9_minute 3 (some .int) ∈ lw_good := by decide +kernel
theorem k_X9_minute {p : Program} {l : Launch} {e : Env} {R : Room} {s : State} {m : MethodId} {args : Array Value} {below : List Frame} {meth : Method} {c : Code} {H : Heap} {locs : List Loc} {cells : Nat} {Q : State → Prop} {cc : ByteArray} {nL pc idx : Nat} {ls : Array Slot} {rest : List Value} {own : String} {G : Gm} {A : Nat → Prop} {H0 : Heap} {la : Nat} {w : CW} {x1 : Int32} {y : Int32 × CW} {n : Nat} (X : CX own cc nL G p s m args c) (h : CH G (cw G la w) A H0 H locs) (hA : ∀ q, H0.size ≤ q → A q) (hf : f_X9_minute x1 w = some (y, n)) (hlk : Cond.methodLink own idx yX9_minute ∈ lw_good) (hd : decode cc pc = .ok (.invokevirtual idx, 3)) (hsz : ls.size = nL) (hR : 9 ≤ R.frames ∧ 227 ≤ R.locals) (hrest : (rest.map fun v => v.category).sum ≤ 8) (hk : cells + n ≤ R.cells ∧ 4096 * cells + 4096 * n ≤ R.slots) (k : ∀ (la : Nat) (H : Heap) (locs : List Loc), CH G (cw G la y.2) A H0 H locs → W p l e R s m args below meth c H locs (cells + n) (4096 * (cells + n)) Q (F0 m (pc + 3) ls (.int y.1 :: rest))) : W p l e R s m args below meth c H locs cells (4096 * cells) Q (F0 m pc ls (.int x1 :: .ref (gq G 0) :: rest)) :=
  fin_i (n := n) (runV (As := [.int x1]) X.1 1 (t_X9_minute l G la w x1 y.1 y.2 n hf _) rfl rfl hlk m_X9_minute (by decide +kernel) ⟨hR.1, hR.2⟩ ⟨blindM, va_recv X.2.1 h.1 (ci := 8) (q0 := 0) rfl rfl, preM X.2 h⟩ rfl hsz hrest hd hk) h hA (fun la H locs h => by rw [← Nat.mul_add]; exact k la H locs h)
def f_X9_minutesLeft_l27_body (kself : (Int32 → Int32 → Int32 → Int32 → CW → Option Int32)) (x1 : Int32) (x2 : Int32) (x3 : Int32) (x4 : Int32) (w : CW) : Option Int32 :=
 if x3 ≤ x4 then
 (some x2)
 else
 ((f_X9_read x1 (((48 : Int32)) + x4) w).bind fun y2 =>
 (f_X9_minutesOf y2).bind fun y3 =>
 kself x1 (x2 + y3) x3 (x4 + (1 : Int32)) w)
def f_X9_minutesLeft_l27 : Nat → Int32 → Int32 → Int32 → Int32 → CW → Option Int32
  | 0, _, _, _, _, _ => none
  | n + 1, x1, x2, x3, x4, w => f_X9_minutesLeft_l27_body (f_X9_minutesLeft_l27 n) x1 x2 x3 x4 w
def f_X9_minutesLeft (x1 : Int32) (w : CW) : Option Int32 :=
 (f_X9_read x1 ((12 : Int32)) w).bind fun y4 =>
 (f_X9_read x1 ((10 : Int32)) w).bind fun y5 =>
 (f_X9_read x1 ((11 : Int32)) w).bind fun y6 =>
 f_X9_minutesLeft_l27 FU x1 y4 y5 (y6 + ((1 : Int32))) w
set_option maxHeartbeats 4000000 in
set_option maxRecDepth 100000 in
theorem t_X9_minutesLeft (l : Launch) (G : Gm) (la : Nat) (w : CW) (x1 : Int32) (r : Int32) (hf : f_X9_minutesLeft x1 w = some r) : MetR l yX9_minutesLeft cX9_minutesLeft 5 (some .int) 2 43 G (cw G la w) [.ref (gq G 0), .int x1] (.int r) := by
  refine ent (own := RX9) (As := [.ref (gq G 0), .int x1]) (by decide +kernel) rfl (Nat.le_of_ble_eq_true rfl) (fun _ _ h => h.1) ?_
  intro p e s m args below meth c ls B hr hlocks hv hl
  obtain ⟨-, hP, hKK, hD⟩ := hv
  have X : CX RX9 cX9_minutesLeft 5 G p s m args c := ⟨B, hKK⟩
  obtain ⟨hx, hb, hml, hown, hts⟩ := id B
  have h : CH G (cw G la w) (fun _ => True) s.heap s.heap [] := ⟨hP, hD, va_S.rf⟩
  have L27 : ∀ (n27 : Nat) (x1 : Int32) (x2 : Int32) (x3 : Int32) (x4 : Int32) (ls : Array Slot), f_X9_minutesLeft_l27 n27 x1 x2 x3 x4 w = some r → lv_has ls 5 [(0, .ref (gq G 0)), (1, .int x1), (2, .int x2), (3, .int x3), (4, .int x4)] → W p l e { frames := 2, cells := 0, slots := 0, locals := 43 } s m args below meth c s.heap [] 0 0 (MQ below (QcV (.int r)) args s 0 0 (fun _ => False)) (F0 m 27 ls []) := by
    intro n27
    induction n27 with
    | zero =>
      intro x1 x2 x3 x4 ls hf hl
      cases (show (none : Option Int32) = some _ from hf)
    | succ n27 ih27 =>
      intro x1 x2 x3 x4 ls hf hl
      have hf : f_X9_minutesLeft_l27_body (f_X9_minutesLeft_l27 n27) x1 x2 x3 x4 w = _ := hf
      unfold f_X9_minutesLeft_l27_body at hf
      refine lv_iload hx hb dX9_minutesLeft_27 (lv_at hl 4 rfl) ?_
      refine lv_iload_n hx hb dX9_minutesLeft_29 rfl (lv_at hl 3 rfl) ?_
      refine lv_icmp_ge (tgt := 55) hx hb dX9_minutesLeft_30 (by decide) (fun c1 => ?_) (fun c1 => ?_)
      · have hf := if_t c1 hf
        refine lv_iload_n hx hb dX9_minutesLeft_55 rfl (lv_at hl 2 rfl) ?_
        cases hf
        exact rr_i X.1 hr hlocks dX9_minutesLeft_56
      · have hf := if_f c1 hf
        refine lv_iload_n hx hb dX9_minutesLeft_33 rfl (lv_at hl 2 rfl) ?_
        refine lv_aload_n hx hb dX9_minutesLeft_34 rfl (lv_at hl 0 rfl) ?_
        refine lv_iload_n hx hb dX9_minutesLeft_35 rfl (lv_at hl 1 rfl) ?_
        refine lv_bipush (v := 48) hx hb dX9_minutesLeft_36 (by decide) ?_
        refine lv_iload hx hb dX9_minutesLeft_38 (lv_at hl 4 rfl) ?_
        refine lv_iadd hx hb dX9_minutesLeft_40 ?_
        obtain ⟨y2, ey2, hf⟩ := bnd_some hf
        refine k_X9_read X h ey2 k_X9_110 dX9_minutesLeft_41 hl.1 ⟨(Nat.le_of_ble_eq_true rfl), (Nat.le_of_ble_eq_true rfl)⟩ (Nat.le_of_ble_eq_true rfl) ⟨Nat.zero_le _, Nat.zero_le _⟩ ?_
        obtain ⟨y3, ey3, hf⟩ := bnd_some hf
        refine k_X9_minutesOf X.1 ey3 k_X9_178 dX9_minutesLeft_44 hl.1 ⟨(Nat.le_of_ble_eq_true rfl), (Nat.le_of_ble_eq_true rfl)⟩ (Nat.le_of_ble_eq_true rfl) ⟨Nat.zero_le _, Nat.zero_le _⟩ ?_
        refine lv_iadd hx hb dX9_minutesLeft_47 ?_
        refine lv_istore_n (lv' := [(2, .int (x2 + y3)), (0, .ref (gq G 0)), (1, .int x1), (3, .int x3), (4, .int x4)]) hx hb dX9_minutesLeft_48 rfl hl (by decide) rfl (fun ls hl => ?_)
        refine lv_iinc (v := x4 + (1 : Int32)) (lv' := [(4, .int (x4 + (1 : Int32))), (2, .int (x2 + y3)), (0, .ref (gq G 0)), (1, .int x1), (3, .int x3)]) hx hb dX9_minutesLeft_49 hl (k := 4) rfl (by rfl) (by decide) rfl (fun ls hl => ?_)
        refine lv_goto (tgt := 27) hx hb dX9_minutesLeft_52 (by decide) ?_
        exact ih27 _ _ _ _ _ hf (lv_sub hl [2, 3, 1, 4, 0] rfl)
  have hl : lv_has ls 5 [(0, .ref (gq G 0)), (1, .int x1)] := hl
  unfold f_X9_minutesLeft at hf
  refine lv_aload_n hx hb dX9_minutesLeft_0 rfl (lv_at hl 0 rfl) ?_
  refine lv_iload_n hx hb dX9_minutesLeft_1 rfl (lv_at hl 1 rfl) ?_
  refine lv_bipush (v := 12) hx hb dX9_minutesLeft_2 (by decide) ?_
  obtain ⟨y4, ey4, hf⟩ := bnd_some hf
  refine k_X9_read X h ey4 k_X9_110 dX9_minutesLeft_4 hl.1 ⟨(Nat.le_of_ble_eq_true rfl), (Nat.le_of_ble_eq_true rfl)⟩ (Nat.le_of_ble_eq_true rfl) ⟨Nat.zero_le _, Nat.zero_le _⟩ ?_
  refine lv_istore_n (lv' := [(2, .int y4), (0, .ref (gq G 0)), (1, .int x1)]) hx hb dX9_minutesLeft_7 rfl hl (by decide) rfl (fun ls hl => ?_)
  refine lv_aload_n hx hb dX9_minutesLeft_8 rfl (lv_at hl 1 rfl) ?_
  refine lv_iload_n hx hb dX9_minutesLeft_9 rfl (lv_at hl 2 rfl) ?_
  refine lv_bipush (v := 10) hx hb dX9_minutesLeft_10 (by decide) ?_
  obtain ⟨y5, ey5, hf⟩ := bnd_some hf
  refine k_X9_read X h ey5 k_X9_110 dX9_minutesLeft_12 hl.1 ⟨(Nat.le_of_ble_eq_true rfl), (Nat.le_of_ble_eq_true rfl)⟩ (Nat.le_of_ble_eq_true rfl) ⟨Nat.zero_le _, Nat.zero_le _⟩ ?_
  refine lv_istore_n (lv' := [(3, .int y5), (2, .int y4), (0, .ref (gq G 0)), (1, .int x1)]) hx hb dX9_minutesLeft_15 rfl hl (by decide) rfl (fun ls hl => ?_)
  refine lv_aload_n hx hb dX9_minutesLeft_16 rfl (lv_at hl 2 rfl) ?_
  refine lv_iload_n hx hb dX9_minutesLeft_17 rfl (lv_at hl 3 rfl) ?_
  refine lv_bipush (v := 11) hx hb dX9_minutesLeft_18 (by decide) ?_
  obtain ⟨y6, ey6, hf⟩ := bnd_some hf
  refine k_X9_read X h ey6 k_X9_110 dX9_minutesLeft_20 hl.1 ⟨(Nat.le_of_ble_eq_true rfl), (Nat.le_of_ble_eq_true rfl)⟩ (Nat.le_of_ble_eq_true rfl) ⟨Nat.zero_le _, Nat.zero_le _⟩ ?_
  refine lv_iconst (v := 1) hx hb dX9_minutesLeft_23 (by decide) ?_
  refine lv_iadd hx hb dX9_minutesLeft_24 ?_
  refine lv_istore (lv' := [(4, .int (y6 + ((1 : Int32)))), (3, .int y5), (2, .int y4), (0, .ref (gq G 0)), (1, .int x1)]) hx hb dX9_minutesLeft_25 hl (by decide) rfl (fun ls hl => ?_)
  exact L27 FU _ _ _ _ _ hf (lv_sub hl [3, 4, 2, 1, 0] rfl)
theorem m_X9_minutesLeft : Cond.instanceMethod yX9_minutesLeft ∈ lw_good ∧ Cond.selects RX9 yX9_minutesLeft yX9_minutesLeft ∈ lw_good ∧ Cond.initialized RX9 ∈ lw_good ∧ Cond.code yX9_minutesLeft cX9_minutesLeft 5 (some .int) ∈ lw_good := by decide +kernel
theorem k_X9_minutesLeft {p : Program} {l : Launch} {e : Env} {R : Room} {s : State} {m : MethodId} {args : Array Value} {below : List Frame} {meth : Method} {c : Code} {H : Heap} {locs : List Loc} {cells slots : Nat} {Q : State → Prop} {cc : ByteArray} {nL pc idx : Nat} {ls : Array Slot} {rest : List Value} {own : String} {G : Gm} {A : Nat → Prop} {H0 : Heap} {la : Nat} {w : CW} {x1 : Int32} {r : Int32} (X : CX own cc nL G p s m args c) (h : CH G (cw G la w) A H0 H locs) (hf : f_X9_minutesLeft x1 w = some r) (hlk : Cond.methodLink own idx yX9_minutesLeft ∈ lw_good) (hd : decode cc pc = .ok (.invokevirtual idx, 3)) (hsz : ls.size = nL) (hR : 3 ≤ R.frames ∧ 67 ≤ R.locals) (hrest : (rest.map fun v => v.category).sum ≤ 8) (hk : cells ≤ R.cells ∧ slots ≤ R.slots) (k : W p l e R s m args below meth c H locs cells slots Q (F0 m (pc + 3) ls (.int r :: rest))) : W p l e R s m args below meth c H locs cells slots Q (F0 m pc ls (.int x1 :: .ref (gq G 0) :: rest)) :=
  fin_r (runV (As := [.int x1]) X.1 1 (t_X9_minutesLeft l G la w x1 r hf) rfl rfl hlk m_X9_minutesLeft (by decide +kernel) ⟨hR.1, hR.2⟩ ⟨blindR, va_recv X.2.1 h.1 (ci := 8) (q0 := 0) rfl rfl, preR X.2 h⟩ rfl hsz hrest hd hk) k
def f_X9_left (x1 : Int32) (w : CW) : Option (Int32 × CW) :=
 (f_X9_isPlace x1).bind fun y1 =>
 if y1 = 0 then
 (some ((-1 : Int32), w))
 else
 ((f_X9_hasMachine x1 w).bind fun y3 =>
 if y3 = 0 then
 ((f_X9_found ((1 : Int32)) w).bind fun y5 =>
 some (y5.1, y5.2))
 else
 ((f_X9_minutesLeft x1 w).bind fun y6 =>
 some (y6, w)))
set_option maxHeartbeats 4000000 in
set_option maxRecDepth 100000 in
theorem t_X9_left (l : Launch) (G : Gm) (la : Nat) (w0 : CW) (x1 : Int32) (r : Int32) (w' : CW) (hf : f_X9_left x1 w0 = some (r, w')) : MetI l yX9_left cX9_left 2 (some .int) 3 67 G (cw G la w0) [.ref (gq G 0), .int x1] r (fun _ => cw G la (w')) 0 := by
  intro sz
  refine ent (own := RX9) (As := [.ref (gq G 0), .int x1]) (by decide +kernel) rfl (Nat.le_of_ble_eq_true rfl) (fun _ _ h => h.1) ?_
  intro p e s m args below meth c ls B hr hlocks hv hl
  obtain ⟨-, hsz, hP, hKK, hD⟩ := hv
  subst hsz
  have X : CX RX9 cX9_left 2 G p s m args c := ⟨B, hKK⟩
  obtain ⟨hx, hb, hml, hown, hts⟩ := id B
  have hA : ∀ q : Nat, s.heap.size ≤ q → va_A (cw G la w0) s.heap.size q := fun q z => Or.inr z
  have h : CH G (cw G la w0) (va_A (cw G la w0) s.heap.size) s.heap s.heap [] := ⟨hP, hD.self, va_S.rf⟩
  obtain ⟨w, rfl⟩ : ∃ z, z = w0 := ⟨_, rfl⟩
  have hl : lv_has ls 2 [(0, .ref (gq G 0)), (1, .int x1)] := hl
  unfold f_X9_left at hf
  refine lv_iload_n hx hb dX9_left_0 rfl (lv_at hl 1 rfl) ?_
  obtain ⟨y1, ey1, hf⟩ := bnd_some hf
  refine k_X9_isPlace X.1 ey1 k_X9_88 dX9_left_1 hl.1 ⟨(Nat.le_of_ble_eq_true rfl), (Nat.le_of_ble_eq_true rfl)⟩ (Nat.le_of_ble_eq_true rfl) ⟨Nat.zero_le _, Nat.zero_le _⟩ ?_
  refine lv_if_ne (tgt := 9) hx hb dX9_left_4 (by decide) (fun c2 => ?_) (fun c2 => ?_)
  · have hf := if_f c2 hf
    refine lv_aload_n hx hb dX9_left_9 rfl (lv_at hl 0 rfl) ?_
    refine lv_iload_n hx hb dX9_left_10 rfl (lv_at hl 1 rfl) ?_
    obtain ⟨y3, ey3, hf⟩ := bnd_some hf
    refine k_X9_hasMachine X h ey3 k_X9_96 dX9_left_11 hl.1 ⟨(Nat.le_of_ble_eq_true rfl), (Nat.le_of_ble_eq_true rfl)⟩ (Nat.le_of_ble_eq_true rfl) ⟨Nat.zero_le _, Nat.zero_le _⟩ ?_
    refine lv_if_eq (tgt := 25) hx hb dX9_left_14 (by decide) (fun c4 => ?_) (fun c4 => ?_)
    · have hf := if_t c4 hf
      refine lv_aload_n hx hb dX9_left_25 rfl (lv_at hl 0 rfl) ?_
      refine lv_iconst (v := 1) hx hb dX9_left_26 (by decide) ?_
      obtain ⟨y5, ey5, hf⟩ := bnd_some hf
      refine k_X9_found X h hA ey5 k_X9_103 dX9_left_27 hl.1 ⟨(Nat.le_of_ble_eq_true rfl), (Nat.le_of_ble_eq_true rfl)⟩ (Nat.le_of_ble_eq_true rfl) ⟨Nat.zero_le _, Nat.zero_le _⟩ (fun H locs h => ?_)
      exact e0_i (Wf := cw G la) X.1 hr hlocks hf h dX9_left_30
    · have hf := if_f c4 hf
      refine lv_aload_n hx hb dX9_left_17 rfl (lv_at hl 0 rfl) ?_
      refine lv_iload_n hx hb dX9_left_18 rfl (lv_at hl 1 rfl) ?_
      obtain ⟨y6, ey6, hf⟩ := bnd_some hf
      refine k_X9_minutesLeft X h ey6 k_X9_305 dX9_left_19 hl.1 ⟨(Nat.le_of_ble_eq_true rfl), (Nat.le_of_ble_eq_true rfl)⟩ (Nat.le_of_ble_eq_true rfl) ⟨Nat.zero_le _, Nat.zero_le _⟩ ?_
      refine lv_goto (tgt := 30) hx hb dX9_left_22 (by decide) ?_
      exact e0_i (Wf := cw G la) X.1 hr hlocks hf h dX9_left_30
  · have hf := if_t c2 hf
    refine lv_iconst (v := (-1)) hx hb dX9_left_7 (by decide) ?_
    exact e0_i (Wf := cw G la) X.1 hr hlocks hf h dX9_left_8
theorem m_X9_left : Cond.instanceMethod yX9_left ∈ lw_good ∧ Cond.selects RX9 yX9_left yX9_left ∈ lw_good ∧ Cond.initialized RX9 ∈ lw_good ∧ Cond.code yX9_left cX9_left 2 (some .int) ∈ lw_good := by decide +kernel
theorem k_X9_left {p : Program} {l : Launch} {e : Env} {R : Room} {s : State} {m : MethodId} {args : Array Value} {below : List Frame} {meth : Method} {c : Code} {H : Heap} {locs : List Loc} {cells slots : Nat} {Q : State → Prop} {cc : ByteArray} {nL pc idx : Nat} {ls : Array Slot} {rest : List Value} {own : String} {G : Gm} {A : Nat → Prop} {H0 : Heap} {la : Nat} {w : CW} {x1 : Int32} {y : Int32 × CW} (X : CX own cc nL G p s m args c) (h : CH G (cw G la w) A H0 H locs) (hA : ∀ q, H0.size ≤ q → A q) (hf : f_X9_left x1 w = some y) (hlk : Cond.methodLink own idx yX9_left ∈ lw_good) (hd : decode cc pc = .ok (.invokevirtual idx, 3)) (hsz : ls.size = nL) (hR : 4 ≤ R.frames ∧ 88 ≤ R.locals) (hrest : (rest.map fun v => v.category).sum ≤ 8) (hk : cells ≤ R.cells ∧ slots ≤ R.slots) (k : ∀ (H : Heap) (locs : List Loc), CH G (cw G la y.2) A H0 H locs → W p l e R s m args below meth c H locs cells slots Q (F0 m (pc + 3) ls (.int y.1 :: rest))) : W p l e R s m args below meth c H locs cells slots Q (F0 m pc ls (.int x1 :: .ref (gq G 0) :: rest)) :=
  fin_i (n := 0) (runV (As := [.int x1]) X.1 1 (t_X9_left l G la w x1 y.1 y.2 hf _) rfl rfl hlk m_X9_left (by decide +kernel) ⟨hR.1, hR.2⟩ ⟨blindM, va_recv X.2.1 h.1 (ci := 8) (q0 := 0) rfl rfl, preM X.2 h⟩ rfl hsz hrest hd hk) h hA (fun _ H locs h => k H locs h)
def f_X9_stop_b58 (x1 : Int32) (x2 : Int32) (w : CW) : Option ((Int32 × CW) × Nat) :=
 (f_X9_leave x1 w).bind fun y1 =>
 some ((x2, y1), 0)
def f_X9_stop (x1 : Int32) (w : CW) : Option ((Int32 × CW) × Nat) :=
 (f_X9_isPlace x1).bind fun y2 =>
 if y2 = 0 then
 (some (((-1 : Int32), w), 0))
 else
 ((f_X9_hasMachine x1 w).bind fun y4 =>
 if y4 = 0 then
 ((f_X9_found ((1 : Int32)) w).bind fun y12 =>
 some ((y12.1, y12.2), 0))
 else
 ((f_X9_enter x1 w).bind fun y6 =>
 (f_X9_hasRun x1 y6).bind fun y7 =>
 if y7 = 0 then
 (f_X9_stop_b58 x1 ((-3 : Int32)) y6)
 else
 ((f_X9_minutesLeft x1 y6).bind fun y9 =>
 bnc (f_X9_grow x1 ((34 : Int32)) ((1 : Int32)) y6) fun y10 =>
 bnc (f_X9_endRun x1 y10) fun y11 =>
 f_X9_stop_b58 x1 y9 y11)))
set_option maxHeartbeats 4000000 in
set_option maxRecDepth 100000 in
theorem t_X9_stop (l : Launch) (G : Gm) (la0 : Nat) (w0 : CW) (x1 : Int32) (r : Int32) (w' : CW) (N : Nat) (hf : f_X9_stop x1 w0 = some ((r, w'), N)) : MetI l yX9_stop cX9_stop 3 (some .int) 7 178 G (cw G la0 w0) [.ref (gq G 0), .int x1] r (fun u => cw G u w') N := by
  intro sz
  refine ent (own := RX9) (As := [.ref (gq G 0), .int x1]) (by decide +kernel) rfl (Nat.le_of_ble_eq_true rfl) (fun _ _ h => h.1) ?_
  intro p e s m args below meth c ls B hr hlocks hv hl
  obtain ⟨-, hsz, hP, hKK, hD⟩ := hv
  subst hsz
  have X : CX RX9 cX9_stop 3 G p s m args c := ⟨B, hKK⟩
  obtain ⟨hx, hb, hml, hown, hts⟩ := id B
  have hA : ∀ q : Nat, s.heap.size ≤ q → va_A (cw G la0 w0) s.heap.size q := fun q z => Or.inr z
  have h : CH G (cw G la0 w0) (va_A (cw G la0 w0) s.heap.size) s.heap s.heap [] := ⟨hP, hD.self, va_S.rf⟩
  have hc : 0 + N = N := Nat.zero_add N
  have J58 : ∀ (x1 : Int32) (x2 : Int32) (w : CW) (la : Nat) (H : Heap) (locs : List Loc) (ls : Array Slot) (k n : Nat), f_X9_stop_b58 x1 x2 w = some ((r, w'), n) → CH G (cw G la w) (va_A (cw G la0 w0) s.heap.size) s.heap H locs → lv_has ls 3 [(0, .ref (gq G 0)), (1, .int x1), (2, .int x2)] → k + n = N → W p l e { frames := 7, cells := N, slots := 4096 * N, locals := 178 } s m args below meth c H locs k (4096 * k) (MQ below (QI G (cw G la0 w0) s.heap.size r (fun u => cw G u w')) args s N (4096 * N) (va_A (cw G la0 w0) s.heap.size)) (F0 m 58 ls []) := by
    intro x1 x2 w la H locs ls k n hf h hl hc
    unfold f_X9_stop_b58 at hf
    refine lv_aload_n hx hb dX9_stop_58 rfl (lv_at hl 0 rfl) ?_
    refine lv_iload_n hx hb dX9_stop_59 rfl (lv_at hl 1 rfl) ?_
    obtain ⟨y1, ey1, hf⟩ := bnd_some hf
    refine k_X9_leave X h hA ey1 k_X9_203 dX9_stop_60 hl.1 ⟨(Nat.le_of_ble_eq_true rfl), (Nat.le_of_ble_eq_true rfl)⟩ (Nat.le_of_ble_eq_true rfl) (rmm0 hc) (fun H locs h => ?_)
    refine lv_iload_n hx hb dX9_stop_63 rfl (lv_at hl 2 rfl) ?_
    exact e1_i X.1 hr hlocks hf h hc dX9_stop_64
  obtain ⟨la, rfl⟩ : ∃ z, z = la0 := ⟨_, rfl⟩
  obtain ⟨w, rfl⟩ : ∃ z, z = w0 := ⟨_, rfl⟩
  have hl : lv_has ls 3 [(0, .ref (gq G 0)), (1, .int x1)] := hl
  unfold f_X9_stop at hf
  refine wid0 ?_
  refine lv_iload_n hx hb dX9_stop_0 rfl (lv_at hl 1 rfl) ?_
  obtain ⟨y2, ey2, hf⟩ := bnd_some hf
  refine k_X9_isPlace X.1 ey2 k_X9_88 dX9_stop_1 hl.1 ⟨(Nat.le_of_ble_eq_true rfl), (Nat.le_of_ble_eq_true rfl)⟩ (Nat.le_of_ble_eq_true rfl) (rmm0 hc) ?_
  refine lv_if_ne (tgt := 9) hx hb dX9_stop_4 (by decide) (fun c3 => ?_) (fun c3 => ?_)
  · have hf := if_f c3 hf
    refine lv_aload_n hx hb dX9_stop_9 rfl (lv_at hl 0 rfl) ?_
    refine lv_iload_n hx hb dX9_stop_10 rfl (lv_at hl 1 rfl) ?_
    obtain ⟨y4, ey4, hf⟩ := bnd_some hf
    refine k_X9_hasMachine X h ey4 k_X9_96 dX9_stop_11 hl.1 ⟨(Nat.le_of_ble_eq_true rfl), (Nat.le_of_ble_eq_true rfl)⟩ (Nat.le_of_ble_eq_true rfl) (rmm0 hc) ?_
    refine lv_if_ne (tgt := 23) hx hb dX9_stop_14 (by decide) (fun c5 => ?_) (fun c5 => ?_)
    · have hf := if_f c5 hf
      refine lv_aload_n hx hb dX9_stop_23 rfl (lv_at hl 0 rfl) ?_
      refine lv_iload_n hx hb dX9_stop_24 rfl (lv_at hl 1 rfl) ?_
      obtain ⟨y6, ey6, hf⟩ := bnd_some hf
      refine k_X9_enter X h hA ey6 k_X9_196 dX9_stop_25 hl.1 ⟨(Nat.le_of_ble_eq_true rfl), (Nat.le_of_ble_eq_true rfl)⟩ (Nat.le_of_ble_eq_true rfl) (rmm0 hc) (fun H locs h => ?_)
      refine lv_bipush (v := (-3)) hx hb dX9_stop_28 (by decide) ?_
      refine lv_istore_n (lv' := [(2, .int ((-3 : Int32))), (0, .ref (gq G 0)), (1, .int x1)]) hx hb dX9_stop_30 rfl hl (by decide) rfl (fun ls hl => ?_)
      refine lv_aload_n hx hb dX9_stop_31 rfl (lv_at hl 1 rfl) ?_
      refine lv_iload_n hx hb dX9_stop_32 rfl (lv_at hl 2 rfl) ?_
      obtain ⟨y7, ey7, hf⟩ := bnd_some hf
      refine k_X9_hasRun X h ey7 k_X9_114 dX9_stop_33 hl.1 ⟨(Nat.le_of_ble_eq_true rfl), (Nat.le_of_ble_eq_true rfl)⟩ (Nat.le_of_ble_eq_true rfl) (rmm0 hc) ?_
      refine lv_if_eq (tgt := 58) hx hb dX9_stop_36 (by decide) (fun c8 => ?_) (fun c8 => ?_)
      · have hf := if_t c8 hf
        exact J58 _ _ _ _ _ _ _ _ _ hf h (lv_sub hl [1, 2, 0] rfl) hc
      · have hf := if_f c8 hf
        refine lv_aload_n hx hb dX9_stop_39 rfl (lv_at hl 1 rfl) ?_
        refine lv_iload_n hx hb dX9_stop_40 rfl (lv_at hl 2 rfl) ?_
        obtain ⟨y9, ey9, hf⟩ := bnd_some hf
        refine k_X9_minutesLeft X h ey9 k_X9_305 dX9_stop_41 hl.1 ⟨(Nat.le_of_ble_eq_true rfl), (Nat.le_of_ble_eq_true rfl)⟩ (Nat.le_of_ble_eq_true rfl) (rmm0 hc) ?_
        refine lv_istore_n (lv' := [(2, .int y9), (0, .ref (gq G 0)), (1, .int x1)]) hx hb dX9_stop_44 rfl hl (by decide) rfl (fun ls hl => ?_)
        refine lv_aload_n hx hb dX9_stop_45 rfl (lv_at hl 1 rfl) ?_
        refine lv_iload_n hx hb dX9_stop_46 rfl (lv_at hl 2 rfl) ?_
        refine lv_bipush (v := 34) hx hb dX9_stop_47 (by decide) ?_
        refine lv_iconst (v := 1) hx hb dX9_stop_49 (by decide) ?_
        obtain ⟨y10, ny10, my10, ey10, hf, jy10⟩ := bnc_some hf
        refine k_X9_grow X h hA ey10 k_X9_190 dX9_stop_50 hl.1 ⟨(Nat.le_of_ble_eq_true rfl), (Nat.le_of_ble_eq_true rfl)⟩ (Nat.le_of_ble_eq_true rfl) (rmm1 hc jy10) (fun la H locs h => ?_)
        have hc := rmm2 hc jy10
        refine lv_aload_n hx hb dX9_stop_53 rfl (lv_at hl 1 rfl) ?_
        refine lv_iload_n hx hb dX9_stop_54 rfl (lv_at hl 2 rfl) ?_
        obtain ⟨y11, ny11, my11, ey11, hf, jy11⟩ := bnc_some hf
        refine k_X9_endRun X h hA ey11 k_X9_275 dX9_stop_55 hl.1 ⟨(Nat.le_of_ble_eq_true rfl), (Nat.le_of_ble_eq_true rfl)⟩ (Nat.le_of_ble_eq_true rfl) (rmm1 hc jy11) (fun la H locs h => ?_)
        have hc := rmm2 hc jy11
        exact J58 _ _ _ _ _ _ _ _ _ hf h (lv_sub hl [1, 2, 0] rfl) hc
    · have hf := if_t c5 hf
      refine lv_aload_n hx hb dX9_stop_17 rfl (lv_at hl 0 rfl) ?_
      refine lv_iconst (v := 1) hx hb dX9_stop_18 (by decide) ?_
      obtain ⟨y12, ey12, hf⟩ := bnd_some hf
      refine k_X9_found X h hA ey12 k_X9_103 dX9_stop_19 hl.1 ⟨(Nat.le_of_ble_eq_true rfl), (Nat.le_of_ble_eq_true rfl)⟩ (Nat.le_of_ble_eq_true rfl) (rmm0 hc) (fun H locs h => ?_)
      exact e1_i X.1 hr hlocks hf h hc dX9_stop_22
  · have hf := if_t c3 hf
    refine lv_iconst (v := (-1)) hx hb dX9_stop_7 (by decide) ?_
    exact e1_i X.1 hr hlocks hf h hc dX9_stop_8
theorem m_X9_stop : Cond.instanceMethod yX9_stop ∈ lw_good ∧ Cond.selects RX9 yX9_stop yX9_stop ∈ lw_good ∧ Cond.initialized RX9 ∈ lw_good ∧ Cond.code yX9_stop cX9_stop 3 (some .int) ∈ lw_good := by decide +kernel
theorem k_X9_stop {p : Program} {l : Launch} {e : Env} {R : Room} {s : State} {m : MethodId} {args : Array Value} {below : List Frame} {meth : Method} {c : Code} {H : Heap} {locs : List Loc} {cells : Nat} {Q : State → Prop} {cc : ByteArray} {nL pc idx : Nat} {ls : Array Slot} {rest : List Value} {own : String} {G : Gm} {A : Nat → Prop} {H0 : Heap} {la : Nat} {w : CW} {x1 : Int32} {y : Int32 × CW} {n : Nat} (X : CX own cc nL G p s m args c) (h : CH G (cw G la w) A H0 H locs) (hA : ∀ q, H0.size ≤ q → A q) (hf : f_X9_stop x1 w = some (y, n)) (hlk : Cond.methodLink own idx yX9_stop ∈ lw_good) (hd : decode cc pc = .ok (.invokevirtual idx, 3)) (hsz : ls.size = nL) (hR : 8 ≤ R.frames ∧ 200 ≤ R.locals) (hrest : (rest.map fun v => v.category).sum ≤ 8) (hk : cells + n ≤ R.cells ∧ 4096 * cells + 4096 * n ≤ R.slots) (k : ∀ (la : Nat) (H : Heap) (locs : List Loc), CH G (cw G la y.2) A H0 H locs → W p l e R s m args below meth c H locs (cells + n) (4096 * (cells + n)) Q (F0 m (pc + 3) ls (.int y.1 :: rest))) : W p l e R s m args below meth c H locs cells (4096 * cells) Q (F0 m pc ls (.int x1 :: .ref (gq G 0) :: rest)) :=
  fin_i (n := n) (runV (As := [.int x1]) X.1 1 (t_X9_stop l G la w x1 y.1 y.2 n hf _) rfl rfl hlk m_X9_stop (by decide +kernel) ⟨hR.1, hR.2⟩ ⟨blindM, va_recv X.2.1 h.1 (ci := 8) (q0 := 0) rfl rfl, preM X.2 h⟩ rfl hsz hrest hd hk) h hA (fun la H locs h => by rw [← Nat.mul_add]; exact k la H locs h)
def f_X9_breaks_b58 (xs1 : Int32) (xs2 : Int32) (xs3 : Int32) (w : CW) : Option ((Int32 × CW) × Nat) :=
 bnc (f_X9_write xs1 xs2 xs3 w) fun y1 =>
 some (((1 : Int32), y1), 0)
def f_X9_breaks (x1 : Int32) (x2 : Int32) (w : CW) : Option ((Int32 × CW) × Nat) :=
 (f_X9_isPlace x1).bind fun y2 =>
 if y2 = 0 then
 (some (((-1 : Int32), w), 0))
 else
 ((f_X9_within x2 ((0 : Int32)) ((1000 : Int32))).bind fun y4 =>
 if y4 = 0 then
 (some (((-2 : Int32), w), 0))
 else
 ((f_X9_hasMachine x1 w).bind fun y6 =>
 if y6 = 0 then
 ((f_X9_found ((1 : Int32)) w).bind fun y10 =>
 some ((y10.1, y10.2), 0))
 else
 (if x2 = 0 then
 (f_X9_breaks_b58 x1 ((7 : Int32)) ((0 : Int32)) w)
 else
 ((f_X1_time w).bind fun y9 =>
 f_X9_breaks_b58 x1 ((7 : Int32)) (y9 + x2) w))))
set_option maxHeartbeats 4000000 in
set_option maxRecDepth 100000 in
theorem t_X9_breaks (l : Launch) (G : Gm) (la0 : Nat) (w0 : CW) (x1 : Int32) (x2 : Int32) (r : Int32) (w' : CW) (N : Nat) (hf : f_X9_breaks x1 x2 w0 = some ((r, w'), N)) : MetI l yX9_breaks cX9_breaks 3 (some .int) 5 136 G (cw G la0 w0) [.ref (gq G 0), .int x1, .int x2] r (fun u => cw G u w') N := by
  intro sz
  refine ent (own := RX9) (As := [.ref (gq G 0), .int x1, .int x2]) (by decide +kernel) rfl (Nat.le_of_ble_eq_true rfl) (fun _ _ h => h.1) ?_
  intro p e s m args below meth c ls B hr hlocks hv hl
  obtain ⟨-, hsz, hP, hKK, hD⟩ := hv
  subst hsz
  have X : CX RX9 cX9_breaks 3 G p s m args c := ⟨B, hKK⟩
  obtain ⟨hx, hb, hml, hown, hts⟩ := id B
  have hA : ∀ q : Nat, s.heap.size ≤ q → va_A (cw G la0 w0) s.heap.size q := fun q z => Or.inr z
  have h : CH G (cw G la0 w0) (va_A (cw G la0 w0) s.heap.size) s.heap s.heap [] := ⟨hP, hD.self, va_S.rf⟩
  have hc : 0 + N = N := Nat.zero_add N
  have J58 : ∀ (xs1 : Int32) (xs2 : Int32) (xs3 : Int32) (w : CW) (la : Nat) (H : Heap) (locs : List Loc) (ls : Array Slot) (k n : Nat), f_X9_breaks_b58 xs1 xs2 xs3 w = some ((r, w'), n) → CH G (cw G la w) (va_A (cw G la0 w0) s.heap.size) s.heap H locs → lv_has ls 3 [] → k + n = N → W p l e { frames := 5, cells := N, slots := 4096 * N, locals := 136 } s m args below meth c H locs k (4096 * k) (MQ below (QI G (cw G la0 w0) s.heap.size r (fun u => cw G u w')) args s N (4096 * N) (va_A (cw G la0 w0) s.heap.size)) (F0 m 58 ls [.int xs3, .int xs2, .int xs1, .ref (gq G 0)]) := by
    intro xs1 xs2 xs3 w la H locs ls k n hf h hl hc
    unfold f_X9_breaks_b58 at hf
    obtain ⟨y1, ny1, my1, ey1, hf, jy1⟩ := bnc_some hf
    refine k_X9_write X h hA ey1 k_X9_99 dX9_breaks_58 hl.1 ⟨(Nat.le_of_ble_eq_true rfl), (Nat.le_of_ble_eq_true rfl)⟩ (Nat.le_of_ble_eq_true rfl) (rmm1 hc jy1) (fun la H locs h => ?_)
    have hc := rmm2 hc jy1
    refine lv_iconst (v := 1) hx hb dX9_breaks_61 (by decide) ?_
    exact e1_i X.1 hr hlocks hf h hc dX9_breaks_62
  obtain ⟨la, rfl⟩ : ∃ z, z = la0 := ⟨_, rfl⟩
  obtain ⟨w, rfl⟩ : ∃ z, z = w0 := ⟨_, rfl⟩
  have hl : lv_has ls 3 [(0, .ref (gq G 0)), (1, .int x1), (2, .int x2)] := hl
  unfold f_X9_breaks at hf
  refine wid0 ?_
  refine lv_iload_n hx hb dX9_breaks_0 rfl (lv_at hl 1 rfl) ?_
  obtain ⟨y2, ey2, hf⟩ := bnd_some hf
  refine k_X9_isPlace X.1 ey2 k_X9_88 dX9_breaks_1 hl.1 ⟨(Nat.le_of_ble_eq_true rfl), (Nat.le_of_ble_eq_true rfl)⟩ (Nat.le_of_ble_eq_true rfl) (rmm0 hc) ?_
  refine lv_if_ne (tgt := 9) hx hb dX9_breaks_4 (by decide) (fun c3 => ?_) (fun c3 => ?_)
  · have hf := if_f c3 hf
    refine lv_iload_n hx hb dX9_breaks_9 rfl (lv_at hl 2 rfl) ?_
    refine lv_iconst (v := 0) hx hb dX9_breaks_10 (by decide) ?_
    refine lv_sipush (v := 1000) hx hb dX9_breaks_11 (by decide) ?_
    obtain ⟨y4, ey4, hf⟩ := bnd_some hf
    refine k_X9_within X.1 ey4 k_X9_92 dX9_breaks_14 hl.1 ⟨(Nat.le_of_ble_eq_true rfl), (Nat.le_of_ble_eq_true rfl)⟩ (Nat.le_of_ble_eq_true rfl) (rmm0 hc) ?_
    refine lv_if_ne (tgt := 23) hx hb dX9_breaks_17 (by decide) (fun c5 => ?_) (fun c5 => ?_)
    · have hf := if_f c5 hf
      refine lv_aload_n hx hb dX9_breaks_23 rfl (lv_at hl 0 rfl) ?_
      refine lv_iload_n hx hb dX9_breaks_24 rfl (lv_at hl 1 rfl) ?_
      obtain ⟨y6, ey6, hf⟩ := bnd_some hf
      refine k_X9_hasMachine X h ey6 k_X9_96 dX9_breaks_25 hl.1 ⟨(Nat.le_of_ble_eq_true rfl), (Nat.le_of_ble_eq_true rfl)⟩ (Nat.le_of_ble_eq_true rfl) (rmm0 hc) ?_
      refine lv_if_ne (tgt := 37) hx hb dX9_breaks_28 (by decide) (fun c7 => ?_) (fun c7 => ?_)
      · have hf := if_f c7 hf
        refine lv_aload_n hx hb dX9_breaks_37 rfl (lv_at hl 0 rfl) ?_
        refine lv_iload_n hx hb dX9_breaks_38 rfl (lv_at hl 1 rfl) ?_
        refine lv_bipush (v := 7) hx hb dX9_breaks_39 (by decide) ?_
        refine lv_iload_n hx hb dX9_breaks_41 rfl (lv_at hl 2 rfl) ?_
        refine lv_if_ne (tgt := 49) hx hb dX9_breaks_42 (by decide) (fun c8 => ?_) (fun c8 => ?_)
        · have hf := if_f c8 hf
          refine lv_aload_n hx hb dX9_breaks_49 rfl (lv_at hl 0 rfl) ?_
          refine GC_0_0 X h k_X9_12 dX9_breaks_50 ?_
          obtain ⟨y9, ey9, hf⟩ := bnd_some hf
          refine k_X1_time X h ey9 k_X9_290 dX9_breaks_53 hl.1 ⟨(Nat.le_of_ble_eq_true rfl), (Nat.le_of_ble_eq_true rfl)⟩ (Nat.le_of_ble_eq_true rfl) (rmm0 hc) ?_
          refine lv_iload_n hx hb dX9_breaks_56 rfl (lv_at hl 2 rfl) ?_
          refine lv_iadd hx hb dX9_breaks_57 ?_
          exact J58 _ _ _ _ _ _ _ _ _ _ hf h (lv_sub hl [] rfl) hc
        · have hf := if_t c8 hf
          refine lv_iconst (v := 0) hx hb dX9_breaks_45 (by decide) ?_
          refine lv_goto (tgt := 58) hx hb dX9_breaks_46 (by decide) ?_
          exact J58 _ _ _ _ _ _ _ _ _ _ hf h (lv_sub hl [] rfl) hc
      · have hf := if_t c7 hf
        refine lv_aload_n hx hb dX9_breaks_31 rfl (lv_at hl 0 rfl) ?_
        refine lv_iconst (v := 1) hx hb dX9_breaks_32 (by decide) ?_
        obtain ⟨y10, ey10, hf⟩ := bnd_some hf
        refine k_X9_found X h hA ey10 k_X9_103 dX9_breaks_33 hl.1 ⟨(Nat.le_of_ble_eq_true rfl), (Nat.le_of_ble_eq_true rfl)⟩ (Nat.le_of_ble_eq_true rfl) (rmm0 hc) (fun H locs h => ?_)
        exact e1_i X.1 hr hlocks hf h hc dX9_breaks_36
    · have hf := if_t c5 hf
      refine lv_bipush (v := (-2)) hx hb dX9_breaks_20 (by decide) ?_
      exact e1_i X.1 hr hlocks hf h hc dX9_breaks_22
  · have hf := if_t c3 hf
    refine lv_iconst (v := (-1)) hx hb dX9_breaks_7 (by decide) ?_
    exact e1_i X.1 hr hlocks hf h hc dX9_breaks_8
theorem m_X9_breaks : Cond.instanceMethod yX9_breaks ∈ lw_good ∧ Cond.selects RX9 yX9_breaks yX9_breaks ∈ lw_good ∧ Cond.initialized RX9 ∈ lw_good ∧ Cond.code yX9_breaks cX9_breaks 3 (some .int) ∈ lw_good := by decide +kernel
theorem k_X9_breaks {p : Program} {l : Launch} {e : Env} {R : Room} {s : State} {m : MethodId} {args : Array Value} {below : List Frame} {meth : Method} {c : Code} {H : Heap} {locs : List Loc} {cells : Nat} {Q : State → Prop} {cc : ByteArray} {nL pc idx : Nat} {ls : Array Slot} {rest : List Value} {own : String} {G : Gm} {A : Nat → Prop} {H0 : Heap} {la : Nat} {w : CW} {x1 : Int32} {x2 : Int32} {y : Int32 × CW} {n : Nat} (X : CX own cc nL G p s m args c) (h : CH G (cw G la w) A H0 H locs) (hA : ∀ q, H0.size ≤ q → A q) (hf : f_X9_breaks x1 x2 w = some (y, n)) (hlk : Cond.methodLink own idx yX9_breaks ∈ lw_good) (hd : decode cc pc = .ok (.invokevirtual idx, 3)) (hsz : ls.size = nL) (hR : 6 ≤ R.frames ∧ 158 ≤ R.locals) (hrest : (rest.map fun v => v.category).sum ≤ 8) (hk : cells + n ≤ R.cells ∧ 4096 * cells + 4096 * n ≤ R.slots) (k : ∀ (la : Nat) (H : Heap) (locs : List Loc), CH G (cw G la y.2) A H0 H locs → W p l e R s m args below meth c H locs (cells + n) (4096 * (cells + n)) Q (F0 m (pc + 3) ls (.int y.1 :: rest))) : W p l e R s m args below meth c H locs cells (4096 * cells) Q (F0 m pc ls (.int x2 :: .int x1 :: .ref (gq G 0) :: rest)) :=
  fin_i (n := n) (runV (As := [.int x1, .int x2]) X.1 2 (t_X9_breaks l G la w x1 x2 y.1 y.2 n hf _) rfl rfl hlk m_X9_breaks (by decide +kernel) ⟨hR.1, hR.2⟩ ⟨blindM, va_recv X.2.1 h.1 (ci := 8) (q0 := 0) rfl rfl, preM X.2 h⟩ rfl hsz hrest hd hk) h hA (fun la H locs h => by rw [← Nat.mul_add]; exact k la H locs h)
def f_X9_mend_b55 (x1 : Int32) (x2 : Int32) (w : CW) : Option ((Int32 × CW) × Nat) :=
 (f_X9_leave x1 w).bind fun y1 =>
 if x2 = 0 then
 (some (((0 : Int32), y1), 0))
 else
 (some (((1 : Int32), y1), 0))
def f_X9_mend_b43 (x1 : Int32) (xs0 : Int32) (w : CW) : Option ((Int32 × CW) × Nat) :=
 if xs0 = 0 then
 (f_X9_mend_b55 x1 xs0 w)
 else
 (bnc (f_X9_write x1 ((3 : Int32)) ((1 : Int32)) w) fun y4 =>
 f_X9_mend_b55 x1 xs0 y4)
def f_X9_mend (x1 : Int32) (w : CW) : Option ((Int32 × CW) × Nat) :=
 (f_X9_isPlace x1).bind fun y5 =>
 if y5 = 0 then
 (some (((-1 : Int32), w), 0))
 else
 ((f_X9_hasMachine x1 w).bind fun y7 =>
 if y7 = 0 then
 ((f_X9_found ((1 : Int32)) w).bind fun y12 =>
 some ((y12.1, y12.2), 0))
 else
 ((f_X9_enter x1 w).bind fun y9 =>
 (f_X9_read x1 ((3 : Int32)) y9).bind fun y10 =>
 if y10 = ((4 : Int32)) then
 (f_X9_mend_b43 x1 ((1 : Int32)) y9)
 else
 (f_X9_mend_b43 x1 ((0 : Int32)) y9)))
set_option maxHeartbeats 4000000 in
set_option maxRecDepth 100000 in
theorem t_X9_mend (l : Launch) (G : Gm) (la0 : Nat) (w0 : CW) (x1 : Int32) (r : Int32) (w' : CW) (N : Nat) (hf : f_X9_mend x1 w0 = some ((r, w'), N)) : MetI l yX9_mend cX9_mend 3 (some .int) 5 136 G (cw G la0 w0) [.ref (gq G 0), .int x1] r (fun u => cw G u w') N := by
  intro sz
  refine ent (own := RX9) (As := [.ref (gq G 0), .int x1]) (by decide +kernel) rfl (Nat.le_of_ble_eq_true rfl) (fun _ _ h => h.1) ?_
  intro p e s m args below meth c ls B hr hlocks hv hl
  obtain ⟨-, hsz, hP, hKK, hD⟩ := hv
  subst hsz
  have X : CX RX9 cX9_mend 3 G p s m args c := ⟨B, hKK⟩
  obtain ⟨hx, hb, hml, hown, hts⟩ := id B
  have hA : ∀ q : Nat, s.heap.size ≤ q → va_A (cw G la0 w0) s.heap.size q := fun q z => Or.inr z
  have h : CH G (cw G la0 w0) (va_A (cw G la0 w0) s.heap.size) s.heap s.heap [] := ⟨hP, hD.self, va_S.rf⟩
  have hc : 0 + N = N := Nat.zero_add N
  have J55 : ∀ (x1 : Int32) (x2 : Int32) (w : CW) (la : Nat) (H : Heap) (locs : List Loc) (ls : Array Slot) (k n : Nat), f_X9_mend_b55 x1 x2 w = some ((r, w'), n) → CH G (cw G la w) (va_A (cw G la0 w0) s.heap.size) s.heap H locs → lv_has ls 3 [(0, .ref (gq G 0)), (1, .int x1), (2, .int x2)] → k + n = N → W p l e { frames := 5, cells := N, slots := 4096 * N, locals := 136 } s m args below meth c H locs k (4096 * k) (MQ below (QI G (cw G la0 w0) s.heap.size r (fun u => cw G u w')) args s N (4096 * N) (va_A (cw G la0 w0) s.heap.size)) (F0 m 55 ls []) := by
    intro x1 x2 w la H locs ls k n hf h hl hc
    unfold f_X9_mend_b55 at hf
    refine lv_aload_n hx hb dX9_mend_55 rfl (lv_at hl 0 rfl) ?_
    refine lv_iload_n hx hb dX9_mend_56 rfl (lv_at hl 1 rfl) ?_
    obtain ⟨y1, ey1, hf⟩ := bnd_some hf
    refine k_X9_leave X h hA ey1 k_X9_203 dX9_mend_57 hl.1 ⟨(Nat.le_of_ble_eq_true rfl), (Nat.le_of_ble_eq_true rfl)⟩ (Nat.le_of_ble_eq_true rfl) (rmm0 hc) (fun H locs h => ?_)
    refine lv_iload_n hx hb dX9_mend_60 rfl (lv_at hl 2 rfl) ?_
    refine lv_if_eq (tgt := 68) hx hb dX9_mend_61 (by decide) (fun c2 => ?_) (fun c2 => ?_)
    · have hf := if_t c2 hf
      refine lv_iconst (v := 0) hx hb dX9_mend_68 (by decide) ?_
      exact e1_i X.1 hr hlocks hf h hc dX9_mend_69
    · have hf := if_f c2 hf
      refine lv_iconst (v := 1) hx hb dX9_mend_64 (by decide) ?_
      refine lv_goto (tgt := 69) hx hb dX9_mend_65 (by decide) ?_
      exact e1_i X.1 hr hlocks hf h hc dX9_mend_69
  have J43 : ∀ (x1 : Int32) (xs0 : Int32) (w : CW) (la : Nat) (H : Heap) (locs : List Loc) (ls : Array Slot) (k n : Nat), f_X9_mend_b43 x1 xs0 w = some ((r, w'), n) → CH G (cw G la w) (va_A (cw G la0 w0) s.heap.size) s.heap H locs → lv_has ls 3 [(0, .ref (gq G 0)), (1, .int x1)] → k + n = N → W p l e { frames := 5, cells := N, slots := 4096 * N, locals := 136 } s m args below meth c H locs k (4096 * k) (MQ below (QI G (cw G la0 w0) s.heap.size r (fun u => cw G u w')) args s N (4096 * N) (va_A (cw G la0 w0) s.heap.size)) (F0 m 43 ls [.int xs0]) := by
    intro x1 xs0 w la H locs ls k n hf h hl hc
    unfold f_X9_mend_b43 at hf
    refine lv_istore_n (lv' := [(2, .int xs0), (0, .ref (gq G 0)), (1, .int x1)]) hx hb dX9_mend_43 rfl hl (by decide) rfl (fun ls hl => ?_)
    refine lv_iload_n hx hb dX9_mend_44 rfl (lv_at hl 0 rfl) ?_
    refine lv_if_eq (tgt := 55) hx hb dX9_mend_45 (by decide) (fun c3 => ?_) (fun c3 => ?_)
    · have hf := if_t c3 hf
      exact J55 _ _ _ _ _ _ _ _ _ hf h (lv_sub hl [1, 2, 0] rfl) hc
    · have hf := if_f c3 hf
      refine lv_aload_n hx hb dX9_mend_48 rfl (lv_at hl 1 rfl) ?_
      refine lv_iload_n hx hb dX9_mend_49 rfl (lv_at hl 2 rfl) ?_
      refine lv_iconst (v := 3) hx hb dX9_mend_50 (by decide) ?_
      refine lv_iconst (v := 1) hx hb dX9_mend_51 (by decide) ?_
      obtain ⟨y4, ny4, my4, ey4, hf, jy4⟩ := bnc_some hf
      refine k_X9_write X h hA ey4 k_X9_99 dX9_mend_52 hl.1 ⟨(Nat.le_of_ble_eq_true rfl), (Nat.le_of_ble_eq_true rfl)⟩ (Nat.le_of_ble_eq_true rfl) (rmm1 hc jy4) (fun la H locs h => ?_)
      have hc := rmm2 hc jy4
      exact J55 _ _ _ _ _ _ _ _ _ hf h (lv_sub hl [1, 2, 0] rfl) hc
  obtain ⟨la, rfl⟩ : ∃ z, z = la0 := ⟨_, rfl⟩
  obtain ⟨w, rfl⟩ : ∃ z, z = w0 := ⟨_, rfl⟩
  have hl : lv_has ls 3 [(0, .ref (gq G 0)), (1, .int x1)] := hl
  unfold f_X9_mend at hf
  refine wid0 ?_
  refine lv_iload_n hx hb dX9_mend_0 rfl (lv_at hl 1 rfl) ?_
  obtain ⟨y5, ey5, hf⟩ := bnd_some hf
  refine k_X9_isPlace X.1 ey5 k_X9_88 dX9_mend_1 hl.1 ⟨(Nat.le_of_ble_eq_true rfl), (Nat.le_of_ble_eq_true rfl)⟩ (Nat.le_of_ble_eq_true rfl) (rmm0 hc) ?_
  refine lv_if_ne (tgt := 9) hx hb dX9_mend_4 (by decide) (fun c6 => ?_) (fun c6 => ?_)
  · have hf := if_f c6 hf
    refine lv_aload_n hx hb dX9_mend_9 rfl (lv_at hl 0 rfl) ?_
    refine lv_iload_n hx hb dX9_mend_10 rfl (lv_at hl 1 rfl) ?_
    obtain ⟨y7, ey7, hf⟩ := bnd_some hf
    refine k_X9_hasMachine X h ey7 k_X9_96 dX9_mend_11 hl.1 ⟨(Nat.le_of_ble_eq_true rfl), (Nat.le_of_ble_eq_true rfl)⟩ (Nat.le_of_ble_eq_true rfl) (rmm0 hc) ?_
    refine lv_if_ne (tgt := 23) hx hb dX9_mend_14 (by decide) (fun c8 => ?_) (fun c8 => ?_)
    · have hf := if_f c8 hf
      refine lv_aload_n hx hb dX9_mend_23 rfl (lv_at hl 0 rfl) ?_
      refine lv_iload_n hx hb dX9_mend_24 rfl (lv_at hl 1 rfl) ?_
      obtain ⟨y9, ey9, hf⟩ := bnd_some hf
      refine k_X9_enter X h hA ey9 k_X9_196 dX9_mend_25 hl.1 ⟨(Nat.le_of_ble_eq_true rfl), (Nat.le_of_ble_eq_true rfl)⟩ (Nat.le_of_ble_eq_true rfl) (rmm0 hc) (fun H locs h => ?_)
      refine lv_aload_n hx hb dX9_mend_28 rfl (lv_at hl 0 rfl) ?_
      refine lv_iload_n hx hb dX9_mend_29 rfl (lv_at hl 1 rfl) ?_
      refine lv_iconst (v := 3) hx hb dX9_mend_30 (by decide) ?_
      obtain ⟨y10, ey10, hf⟩ := bnd_some hf
      refine k_X9_read X h ey10 k_X9_110 dX9_mend_31 hl.1 ⟨(Nat.le_of_ble_eq_true rfl), (Nat.le_of_ble_eq_true rfl)⟩ (Nat.le_of_ble_eq_true rfl) (rmm0 hc) ?_
      refine lv_iconst (v := 4) hx hb dX9_mend_34 (by decide) ?_
      refine lv_icmp_ne (tgt := 42) hx hb dX9_mend_35 (by decide) (fun c11 => ?_) (fun c11 => ?_)
      · have hf := if_f c11 hf
        refine lv_iconst (v := 0) hx hb dX9_mend_42 (by decide) ?_
        exact J43 _ _ _ _ _ _ _ _ _ hf h (lv_sub hl [0, 1] rfl) hc
      · have hf := if_t c11 hf
        refine lv_iconst (v := 1) hx hb dX9_mend_38 (by decide) ?_
        refine lv_goto (tgt := 43) hx hb dX9_mend_39 (by decide) ?_
        exact J43 _ _ _ _ _ _ _ _ _ hf h (lv_sub hl [0, 1] rfl) hc
    · have hf := if_t c8 hf
      refine lv_aload_n hx hb dX9_mend_17 rfl (lv_at hl 0 rfl) ?_
      refine lv_iconst (v := 1) hx hb dX9_mend_18 (by decide) ?_
      obtain ⟨y12, ey12, hf⟩ := bnd_some hf
      refine k_X9_found X h hA ey12 k_X9_103 dX9_mend_19 hl.1 ⟨(Nat.le_of_ble_eq_true rfl), (Nat.le_of_ble_eq_true rfl)⟩ (Nat.le_of_ble_eq_true rfl) (rmm0 hc) (fun H locs h => ?_)
      exact e1_i X.1 hr hlocks hf h hc dX9_mend_22
  · have hf := if_t c6 hf
    refine lv_iconst (v := (-1)) hx hb dX9_mend_7 (by decide) ?_
    exact e1_i X.1 hr hlocks hf h hc dX9_mend_8
theorem m_X9_mend : Cond.instanceMethod yX9_mend ∈ lw_good ∧ Cond.selects RX9 yX9_mend yX9_mend ∈ lw_good ∧ Cond.initialized RX9 ∈ lw_good ∧ Cond.code yX9_mend cX9_mend 3 (some .int) ∈ lw_good := by decide +kernel
theorem k_X9_mend {p : Program} {l : Launch} {e : Env} {R : Room} {s : State} {m : MethodId} {args : Array Value} {below : List Frame} {meth : Method} {c : Code} {H : Heap} {locs : List Loc} {cells : Nat} {Q : State → Prop} {cc : ByteArray} {nL pc idx : Nat} {ls : Array Slot} {rest : List Value} {own : String} {G : Gm} {A : Nat → Prop} {H0 : Heap} {la : Nat} {w : CW} {x1 : Int32} {y : Int32 × CW} {n : Nat} (X : CX own cc nL G p s m args c) (h : CH G (cw G la w) A H0 H locs) (hA : ∀ q, H0.size ≤ q → A q) (hf : f_X9_mend x1 w = some (y, n)) (hlk : Cond.methodLink own idx yX9_mend ∈ lw_good) (hd : decode cc pc = .ok (.invokevirtual idx, 3)) (hsz : ls.size = nL) (hR : 6 ≤ R.frames ∧ 158 ≤ R.locals) (hrest : (rest.map fun v => v.category).sum ≤ 8) (hk : cells + n ≤ R.cells ∧ 4096 * cells + 4096 * n ≤ R.slots) (k : ∀ (la : Nat) (H : Heap) (locs : List Loc), CH G (cw G la y.2) A H0 H locs → W p l e R s m args below meth c H locs (cells + n) (4096 * (cells + n)) Q (F0 m (pc + 3) ls (.int y.1 :: rest))) : W p l e R s m args below meth c H locs cells (4096 * cells) Q (F0 m pc ls (.int x1 :: .ref (gq G 0) :: rest)) :=
  fin_i (n := n) (runV (As := [.int x1]) X.1 1 (t_X9_mend l G la w x1 y.1 y.2 n hf _) rfl rfl hlk m_X9_mend (by decide +kernel) ⟨hR.1, hR.2⟩ ⟨blindM, va_recv X.2.1 h.1 (ci := 8) (q0 := 0) rfl rfl, preM X.2 h⟩ rfl hsz hrest hd hk) h hA (fun la H locs h => by rw [← Nat.mul_add]; exact k la H locs h)
def f_X9_bound (x1 : Int32) (x2 : Int32) (x3 : Int32) (w : CW) : Option ((Int32 × CW) × Nat) :=
 (f_X9_within x1 ((0 : Int32)) ((10000 : Int32))).bind fun y1 =>
 if y1 = 0 then
 (some (((-2 : Int32), w), 0))
 else
 ((f_X9_within x2 ((0 : Int32)) ((10000 : Int32))).bind fun y3 =>
 if y3 = 0 then
 (some (((-2 : Int32), w), 0))
 else
 ((f_X9_within x3 ((0 : Int32)) ((10000 : Int32))).bind fun y5 =>
 if y5 = 0 then
 (some (((-2 : Int32), w), 0))
 else
 ((f_X1_get ((8551 : Int32)) w).bind fun y7 =>
 if y7 = ((1 : Int32)) then
 (some (((-3 : Int32), w), 0))
 else
 (bnc (f_X1_set ((8544 : Int32)) x1 w) fun y9 =>
 bnc (f_X1_set ((8545 : Int32)) x2 y9) fun y10 =>
 bnc (f_X1_set ((8546 : Int32)) x3 y10) fun y11 =>
 some (((1 : Int32), y11), 0)))))
set_option maxHeartbeats 4000000 in
set_option maxRecDepth 100000 in
theorem t_X9_bound (l : Launch) (G : Gm) (la0 : Nat) (w0 : CW) (x1 : Int32) (x2 : Int32) (x3 : Int32) (r : Int32) (w' : CW) (N : Nat) (hf : f_X9_bound x1 x2 x3 w0 = some ((r, w'), N)) : MetI l yX9_bound cX9_bound 4 (some .int) 4 113 G (cw G la0 w0) [.ref (gq G 0), .int x1, .int x2, .int x3] r (fun u => cw G u w') N := by
  intro sz
  refine ent (own := RX9) (As := [.ref (gq G 0), .int x1, .int x2, .int x3]) (by decide +kernel) rfl (Nat.le_of_ble_eq_true rfl) (fun _ _ h => h.1) ?_
  intro p e s m args below meth c ls B hr hlocks hv hl
  obtain ⟨-, hsz, hP, hKK, hD⟩ := hv
  subst hsz
  have X : CX RX9 cX9_bound 4 G p s m args c := ⟨B, hKK⟩
  obtain ⟨hx, hb, hml, hown, hts⟩ := id B
  have hA : ∀ q : Nat, s.heap.size ≤ q → va_A (cw G la0 w0) s.heap.size q := fun q z => Or.inr z
  have h : CH G (cw G la0 w0) (va_A (cw G la0 w0) s.heap.size) s.heap s.heap [] := ⟨hP, hD.self, va_S.rf⟩
  have hc : 0 + N = N := Nat.zero_add N
  obtain ⟨la, rfl⟩ : ∃ z, z = la0 := ⟨_, rfl⟩
  obtain ⟨w, rfl⟩ : ∃ z, z = w0 := ⟨_, rfl⟩
  have hl : lv_has ls 4 [(0, .ref (gq G 0)), (1, .int x1), (2, .int x2), (3, .int x3)] := hl
  unfold f_X9_bound at hf
  refine wid0 ?_
  refine lv_iload_n hx hb dX9_bound_0 rfl (lv_at hl 1 rfl) ?_
  refine lv_iconst (v := 0) hx hb dX9_bound_1 (by decide) ?_
  refine lv_sipush (v := 10000) hx hb dX9_bound_2 (by decide) ?_
  obtain ⟨y1, ey1, hf⟩ := bnd_some hf
  refine k_X9_within X.1 ey1 k_X9_92 dX9_bound_5 hl.1 ⟨(Nat.le_of_ble_eq_true rfl), (Nat.le_of_ble_eq_true rfl)⟩ (Nat.le_of_ble_eq_true rfl) (rmm0 hc) ?_
  refine lv_if_eq (tgt := 33) hx hb dX9_bound_8 (by decide) (fun c2 => ?_) (fun c2 => ?_)
  · have hf := if_t c2 hf
    refine lv_bipush (v := (-2)) hx hb dX9_bound_33 (by decide) ?_
    exact e1_i X.1 hr hlocks hf h hc dX9_bound_35
  · have hf := if_f c2 hf
    refine lv_iload_n hx hb dX9_bound_11 rfl (lv_at hl 2 rfl) ?_
    refine lv_iconst (v := 0) hx hb dX9_bound_12 (by decide) ?_
    refine lv_sipush (v := 10000) hx hb dX9_bound_13 (by decide) ?_
    obtain ⟨y3, ey3, hf⟩ := bnd_some hf
    refine k_X9_within X.1 ey3 k_X9_92 dX9_bound_16 hl.1 ⟨(Nat.le_of_ble_eq_true rfl), (Nat.le_of_ble_eq_true rfl)⟩ (Nat.le_of_ble_eq_true rfl) (rmm0 hc) ?_
    refine lv_if_eq (tgt := 33) hx hb dX9_bound_19 (by decide) (fun c4 => ?_) (fun c4 => ?_)
    · have hf := if_t c4 hf
      refine lv_bipush (v := (-2)) hx hb dX9_bound_33 (by decide) ?_
      exact e1_i X.1 hr hlocks hf h hc dX9_bound_35
    · have hf := if_f c4 hf
      refine lv_iload_n hx hb dX9_bound_22 rfl (lv_at hl 3 rfl) ?_
      refine lv_iconst (v := 0) hx hb dX9_bound_23 (by decide) ?_
      refine lv_sipush (v := 10000) hx hb dX9_bound_24 (by decide) ?_
      obtain ⟨y5, ey5, hf⟩ := bnd_some hf
      refine k_X9_within X.1 ey5 k_X9_92 dX9_bound_27 hl.1 ⟨(Nat.le_of_ble_eq_true rfl), (Nat.le_of_ble_eq_true rfl)⟩ (Nat.le_of_ble_eq_true rfl) (rmm0 hc) ?_
      refine lv_if_ne (tgt := 36) hx hb dX9_bound_30 (by decide) (fun c6 => ?_) (fun c6 => ?_)
      · have hf := if_f c6 hf
        refine lv_aload_n hx hb dX9_bound_36 rfl (lv_at hl 0 rfl) ?_
        refine GC_0_0 X h k_X9_12 dX9_bound_37 ?_
        refine lv_sipush (v := 8551) hx hb dX9_bound_40 (by decide) ?_
        obtain ⟨y7, ey7, hf⟩ := bnd_some hf
        refine k_X1_get X h ey7 k_X9_175 dX9_bound_43 hl.1 ⟨(Nat.le_of_ble_eq_true rfl), (Nat.le_of_ble_eq_true rfl)⟩ (Nat.le_of_ble_eq_true rfl) (rmm0 hc) ?_
        refine lv_iconst (v := 1) hx hb dX9_bound_46 (by decide) ?_
        refine lv_icmp_ne (tgt := 53) hx hb dX9_bound_47 (by decide) (fun c8 => ?_) (fun c8 => ?_)
        · have hf := if_f c8 hf
          refine lv_aload_n hx hb dX9_bound_53 rfl (lv_at hl 0 rfl) ?_
          refine GC_0_0 X h k_X9_12 dX9_bound_54 ?_
          refine lv_sipush (v := 8544) hx hb dX9_bound_57 (by decide) ?_
          refine lv_iload_n hx hb dX9_bound_60 rfl (lv_at hl 1 rfl) ?_
          obtain ⟨y9, ny9, my9, ey9, hf, jy9⟩ := bnc_some hf
          refine k_X1_set X h hA ey9 k_X9_84 dX9_bound_61 hl.1 ⟨(Nat.le_of_ble_eq_true rfl), (Nat.le_of_ble_eq_true rfl)⟩ (Nat.le_of_ble_eq_true rfl) (rmm1 hc jy9) (fun la H locs h => ?_)
          have hc := rmm2 hc jy9
          refine lv_aload_n hx hb dX9_bound_64 rfl (lv_at hl 0 rfl) ?_
          refine GC_0_0 X h k_X9_12 dX9_bound_65 ?_
          refine lv_sipush (v := 8545) hx hb dX9_bound_68 (by decide) ?_
          refine lv_iload_n hx hb dX9_bound_71 rfl (lv_at hl 2 rfl) ?_
          obtain ⟨y10, ny10, my10, ey10, hf, jy10⟩ := bnc_some hf
          refine k_X1_set X h hA ey10 k_X9_84 dX9_bound_72 hl.1 ⟨(Nat.le_of_ble_eq_true rfl), (Nat.le_of_ble_eq_true rfl)⟩ (Nat.le_of_ble_eq_true rfl) (rmm1 hc jy10) (fun la H locs h => ?_)
          have hc := rmm2 hc jy10
          refine lv_aload_n hx hb dX9_bound_75 rfl (lv_at hl 0 rfl) ?_
          refine GC_0_0 X h k_X9_12 dX9_bound_76 ?_
          refine lv_sipush (v := 8546) hx hb dX9_bound_79 (by decide) ?_
          refine lv_iload_n hx hb dX9_bound_82 rfl (lv_at hl 3 rfl) ?_
          obtain ⟨y11, ny11, my11, ey11, hf, jy11⟩ := bnc_some hf
          refine k_X1_set X h hA ey11 k_X9_84 dX9_bound_83 hl.1 ⟨(Nat.le_of_ble_eq_true rfl), (Nat.le_of_ble_eq_true rfl)⟩ (Nat.le_of_ble_eq_true rfl) (rmm1 hc jy11) (fun la H locs h => ?_)
          have hc := rmm2 hc jy11
          refine lv_iconst (v := 1) hx hb dX9_bound_86 (by decide) ?_
          exact e1_i X.1 hr hlocks hf h hc dX9_bound_87
        · have hf := if_t c8 hf
          refine lv_bipush (v := (-3)) hx hb dX9_bound_50 (by decide) ?_
          exact e1_i X.1 hr hlocks hf h hc dX9_bound_52
      · have hf := if_t c6 hf
        refine lv_bipush (v := (-2)) hx hb dX9_bound_33 (by decide) ?_
        exact e1_i X.1 hr hlocks hf h hc dX9_bound_35
theorem m_X9_bound : Cond.instanceMethod yX9_bound ∈ lw_good ∧ Cond.selects RX9 yX9_bound yX9_bound ∈ lw_good ∧ Cond.initialized RX9 ∈ lw_good ∧ Cond.code yX9_bound cX9_bound 4 (some .int) ∈ lw_good := by decide +kernel
theorem k_X9_bound {p : Program} {l : Launch} {e : Env} {R : Room} {s : State} {m : MethodId} {args : Array Value} {below : List Frame} {meth : Method} {c : Code} {H : Heap} {locs : List Loc} {cells : Nat} {Q : State → Prop} {cc : ByteArray} {nL pc idx : Nat} {ls : Array Slot} {rest : List Value} {own : String} {G : Gm} {A : Nat → Prop} {H0 : Heap} {la : Nat} {w : CW} {x1 : Int32} {x2 : Int32} {x3 : Int32} {y : Int32 × CW} {n : Nat} (X : CX own cc nL G p s m args c) (h : CH G (cw G la w) A H0 H locs) (hA : ∀ q, H0.size ≤ q → A q) (hf : f_X9_bound x1 x2 x3 w = some (y, n)) (hlk : Cond.methodLink own idx yX9_bound ∈ lw_good) (hd : decode cc pc = .ok (.invokevirtual idx, 3)) (hsz : ls.size = nL) (hR : 5 ≤ R.frames ∧ 136 ≤ R.locals) (hrest : (rest.map fun v => v.category).sum ≤ 8) (hk : cells + n ≤ R.cells ∧ 4096 * cells + 4096 * n ≤ R.slots) (k : ∀ (la : Nat) (H : Heap) (locs : List Loc), CH G (cw G la y.2) A H0 H locs → W p l e R s m args below meth c H locs (cells + n) (4096 * (cells + n)) Q (F0 m (pc + 3) ls (.int y.1 :: rest))) : W p l e R s m args below meth c H locs cells (4096 * cells) Q (F0 m pc ls (.int x3 :: .int x2 :: .int x1 :: .ref (gq G 0) :: rest)) :=
  fin_i (n := n) (runV (As := [.int x1, .int x2, .int x3]) X.1 3 (t_X9_bound l G la w x1 x2 x3 y.1 y.2 n hf _) rfl rfl hlk m_X9_bound (by decide +kernel) ⟨hR.1, hR.2⟩ ⟨blindM, va_recv X.2.1 h.1 (ci := 8) (q0 := 0) rfl rfl, preM X.2 h⟩ rfl hsz hrest hd hk) h hA (fun la H locs h => by rw [← Nat.mul_add]; exact k la H locs h)
def f_X9_used_b36 (xs1 : Int32) (w : CW) : Option Int32 :=
 (f_X1_get xs1 w).bind fun y1 =>
 some y1
def f_X9_used (x1 : Int32) (w : CW) : Option Int32 :=
 (f_X9_within x1 ((0 : Int32)) ((5 : Int32))).bind fun y2 =>
 if y2 = 0 then
 (some ((-2 : Int32)))
 else
 (if ((2 : Int32)) < x1 then
 (f_X9_used_b36 ((((8544 : Int32)) + x1) - ((3 : Int32))) w)
 else
 (f_X9_used_b36 (((8547 : Int32)) + x1) w))
set_option maxHeartbeats 4000000 in
set_option maxRecDepth 100000 in
theorem t_X9_used (l : Launch) (G : Gm) (la : Nat) (w : CW) (x1 : Int32) (r : Int32) (hf : f_X9_used x1 w = some r) : MetR l yX9_used cX9_used 2 (some .int) 1 22 G (cw G la w) [.ref (gq G 0), .int x1] (.int r) := by
  refine ent (own := RX9) (As := [.ref (gq G 0), .int x1]) (by decide +kernel) rfl (Nat.le_of_ble_eq_true rfl) (fun _ _ h => h.1) ?_
  intro p e s m args below meth c ls B hr hlocks hv hl
  obtain ⟨-, hP, hKK, hD⟩ := hv
  have X : CX RX9 cX9_used 2 G p s m args c := ⟨B, hKK⟩
  obtain ⟨hx, hb, hml, hown, hts⟩ := id B
  have h : CH G (cw G la w) (fun _ => True) s.heap s.heap [] := ⟨hP, hD, va_S.rf⟩
  have J36 : ∀ (xs1 : Int32) (ls : Array Slot), f_X9_used_b36 xs1 w = some r → lv_has ls 2 [] → W p l e { frames := 1, cells := 0, slots := 0, locals := 22 } s m args below meth c s.heap [] 0 0 (MQ below (QcV (.int r)) args s 0 0 (fun _ => False)) (F0 m 36 ls [.int xs1, .ref (gq G 1)]) := by
    intro xs1 ls hf hl
    unfold f_X9_used_b36 at hf
    obtain ⟨y1, ey1, hf⟩ := bnd_some hf
    refine k_X1_get X h ey1 k_X9_175 dX9_used_36 hl.1 ⟨(Nat.le_of_ble_eq_true rfl), (Nat.le_of_ble_eq_true rfl)⟩ (Nat.le_of_ble_eq_true rfl) ⟨Nat.zero_le _, Nat.zero_le _⟩ ?_
    cases hf
    exact rr_i X.1 hr hlocks dX9_used_39
  have hl : lv_has ls 2 [(0, .ref (gq G 0)), (1, .int x1)] := hl
  unfold f_X9_used at hf
  refine lv_iload_n hx hb dX9_used_0 rfl (lv_at hl 1 rfl) ?_
  refine lv_iconst (v := 0) hx hb dX9_used_1 (by decide) ?_
  refine lv_iconst (v := 5) hx hb dX9_used_2 (by decide) ?_
  obtain ⟨y2, ey2, hf⟩ := bnd_some hf
  refine k_X9_within X.1 ey2 k_X9_92 dX9_used_3 hl.1 ⟨(Nat.le_of_ble_eq_true rfl), (Nat.le_of_ble_eq_true rfl)⟩ (Nat.le_of_ble_eq_true rfl) ⟨Nat.zero_le _, Nat.zero_le _⟩ ?_
  refine lv_if_ne (tgt := 12) hx hb dX9_used_6 (by decide) (fun c3 => ?_) (fun c3 => ?_)
  · have hf := if_f c3 hf
    refine lv_aload_n hx hb dX9_used_12 rfl (lv_at hl 0 rfl) ?_
    refine GC_0_0 X h k_X9_12 dX9_used_13 ?_
    refine lv_iload_n hx hb dX9_used_16 rfl (lv_at hl 1 rfl) ?_
    refine lv_iconst (v := 2) hx hb dX9_used_17 (by decide) ?_
    refine lv_icmp_gt (tgt := 29) hx hb dX9_used_18 (by decide) (fun c4 => ?_) (fun c4 => ?_)
    · have hf := if_t c4 hf
      refine lv_sipush (v := 8544) hx hb dX9_used_29 (by decide) ?_
      refine lv_iload_n hx hb dX9_used_32 rfl (lv_at hl 1 rfl) ?_
      refine lv_iadd hx hb dX9_used_33 ?_
      refine lv_iconst (v := 3) hx hb dX9_used_34 (by decide) ?_
      refine lv_isub hx hb dX9_used_35 ?_
      exact J36 _ _ hf (lv_sub hl [] rfl)
    · have hf := if_f c4 hf
      refine lv_sipush (v := 8547) hx hb dX9_used_21 (by decide) ?_
      refine lv_iload_n hx hb dX9_used_24 rfl (lv_at hl 1 rfl) ?_
      refine lv_iadd hx hb dX9_used_25 ?_
      refine lv_goto (tgt := 36) hx hb dX9_used_26 (by decide) ?_
      exact J36 _ _ hf (lv_sub hl [] rfl)
  · have hf := if_t c3 hf
    refine lv_bipush (v := (-2)) hx hb dX9_used_9 (by decide) ?_
    cases hf
    exact rr_i X.1 hr hlocks dX9_used_11
theorem m_X9_used : Cond.instanceMethod yX9_used ∈ lw_good ∧ Cond.selects RX9 yX9_used yX9_used ∈ lw_good ∧ Cond.initialized RX9 ∈ lw_good ∧ Cond.code yX9_used cX9_used 2 (some .int) ∈ lw_good := by decide +kernel
theorem k_X9_used {p : Program} {l : Launch} {e : Env} {R : Room} {s : State} {m : MethodId} {args : Array Value} {below : List Frame} {meth : Method} {c : Code} {H : Heap} {locs : List Loc} {cells slots : Nat} {Q : State → Prop} {cc : ByteArray} {nL pc idx : Nat} {ls : Array Slot} {rest : List Value} {own : String} {G : Gm} {A : Nat → Prop} {H0 : Heap} {la : Nat} {w : CW} {x1 : Int32} {r : Int32} (X : CX own cc nL G p s m args c) (h : CH G (cw G la w) A H0 H locs) (hf : f_X9_used x1 w = some r) (hlk : Cond.methodLink own idx yX9_used ∈ lw_good) (hd : decode cc pc = .ok (.invokevirtual idx, 3)) (hsz : ls.size = nL) (hR : 2 ≤ R.frames ∧ 43 ≤ R.locals) (hrest : (rest.map fun v => v.category).sum ≤ 8) (hk : cells ≤ R.cells ∧ slots ≤ R.slots) (k : W p l e R s m args below meth c H locs cells slots Q (F0 m (pc + 3) ls (.int r :: rest))) : W p l e R s m args below meth c H locs cells slots Q (F0 m pc ls (.int x1 :: .ref (gq G 0) :: rest)) :=
  fin_r (runV (As := [.int x1]) X.1 1 (t_X9_used l G la w x1 r hf) rfl rfl hlk m_X9_used (by decide +kernel) ⟨hR.1, hR.2⟩ ⟨blindR, va_recv X.2.1 h.1 (ci := 8) (q0 := 0) rfl rfl, preR X.2 h⟩ rfl hsz hrest hd hk) k
def f_X9_book (x1 : Int32) (x2 : Int32) (w : CW) : Option (Int32 × CW) :=
 (f_X9_isPlace x1).bind fun y1 =>
 if y1 = 0 then
 (some ((-1 : Int32), w))
 else
 ((f_X9_within x2 ((0 : Int32)) ((8 : Int32))).bind fun y3 =>
 if y3 = 0 then
 (some ((-2 : Int32), w))
 else
 ((f_X9_hasMachine x1 w).bind fun y5 =>
 if y5 = 0 then
 ((f_X9_found ((1 : Int32)) w).bind fun y7 =>
 some (y7.1, y7.2))
 else
 ((f_X9_read x1 (((27 : Int32)) + x2) w).bind fun y8 =>
 some (y8, w))))
set_option maxHeartbeats 4000000 in
set_option maxRecDepth 100000 in
theorem t_X9_book (l : Launch) (G : Gm) (la : Nat) (w0 : CW) (x1 : Int32) (x2 : Int32) (r : Int32) (w' : CW) (hf : f_X9_book x1 x2 w0 = some (r, w')) : MetI l yX9_book cX9_book 3 (some .int) 3 64 G (cw G la w0) [.ref (gq G 0), .int x1, .int x2] r (fun _ => cw G la (w')) 0 := by
  intro sz
  refine ent (own := RX9) (As := [.ref (gq G 0), .int x1, .int x2]) (by decide +kernel) rfl (Nat.le_of_ble_eq_true rfl) (fun _ _ h => h.1) ?_
  intro p e s m args below meth c ls B hr hlocks hv hl
  obtain ⟨-, hsz, hP, hKK, hD⟩ := hv
  subst hsz
  have X : CX RX9 cX9_book 3 G p s m args c := ⟨B, hKK⟩
  obtain ⟨hx, hb, hml, hown, hts⟩ := id B
  have hA : ∀ q : Nat, s.heap.size ≤ q → va_A (cw G la w0) s.heap.size q := fun q z => Or.inr z
  have h : CH G (cw G la w0) (va_A (cw G la w0) s.heap.size) s.heap s.heap [] := ⟨hP, hD.self, va_S.rf⟩
  obtain ⟨w, rfl⟩ : ∃ z, z = w0 := ⟨_, rfl⟩
  have hl : lv_has ls 3 [(0, .ref (gq G 0)), (1, .int x1), (2, .int x2)] := hl
  unfold f_X9_book at hf
  refine lv_iload_n hx hb dX9_book_0 rfl (lv_at hl 1 rfl) ?_
  obtain ⟨y1, ey1, hf⟩ := bnd_some hf
  refine k_X9_isPlace X.1 ey1 k_X9_88 dX9_book_1 hl.1 ⟨(Nat.le_of_ble_eq_true rfl), (Nat.le_of_ble_eq_true rfl)⟩ (Nat.le_of_ble_eq_true rfl) ⟨Nat.zero_le _, Nat.zero_le _⟩ ?_
  refine lv_if_ne (tgt := 9) hx hb dX9_book_4 (by decide) (fun c2 => ?_) (fun c2 => ?_)
  · have hf := if_f c2 hf
    refine lv_iload_n hx hb dX9_book_9 rfl (lv_at hl 2 rfl) ?_
    refine lv_iconst (v := 0) hx hb dX9_book_10 (by decide) ?_
    refine lv_bipush (v := 8) hx hb dX9_book_11 (by decide) ?_
    obtain ⟨y3, ey3, hf⟩ := bnd_some hf
    refine k_X9_within X.1 ey3 k_X9_92 dX9_book_13 hl.1 ⟨(Nat.le_of_ble_eq_true rfl), (Nat.le_of_ble_eq_true rfl)⟩ (Nat.le_of_ble_eq_true rfl) ⟨Nat.zero_le _, Nat.zero_le _⟩ ?_
    refine lv_if_ne (tgt := 22) hx hb dX9_book_16 (by decide) (fun c4 => ?_) (fun c4 => ?_)
    · have hf := if_f c4 hf
      refine lv_aload_n hx hb dX9_book_22 rfl (lv_at hl 0 rfl) ?_
      refine lv_iload_n hx hb dX9_book_23 rfl (lv_at hl 1 rfl) ?_
      obtain ⟨y5, ey5, hf⟩ := bnd_some hf
      refine k_X9_hasMachine X h ey5 k_X9_96 dX9_book_24 hl.1 ⟨(Nat.le_of_ble_eq_true rfl), (Nat.le_of_ble_eq_true rfl)⟩ (Nat.le_of_ble_eq_true rfl) ⟨Nat.zero_le _, Nat.zero_le _⟩ ?_
      refine lv_if_eq (tgt := 42) hx hb dX9_book_27 (by decide) (fun c6 => ?_) (fun c6 => ?_)
      · have hf := if_t c6 hf
        refine lv_aload_n hx hb dX9_book_42 rfl (lv_at hl 0 rfl) ?_
        refine lv_iconst (v := 1) hx hb dX9_book_43 (by decide) ?_
        obtain ⟨y7, ey7, hf⟩ := bnd_some hf
        refine k_X9_found X h hA ey7 k_X9_103 dX9_book_44 hl.1 ⟨(Nat.le_of_ble_eq_true rfl), (Nat.le_of_ble_eq_true rfl)⟩ (Nat.le_of_ble_eq_true rfl) ⟨Nat.zero_le _, Nat.zero_le _⟩ (fun H locs h => ?_)
        exact e0_i (Wf := cw G la) X.1 hr hlocks hf h dX9_book_47
      · have hf := if_f c6 hf
        refine lv_aload_n hx hb dX9_book_30 rfl (lv_at hl 0 rfl) ?_
        refine lv_iload_n hx hb dX9_book_31 rfl (lv_at hl 1 rfl) ?_
        refine lv_bipush (v := 27) hx hb dX9_book_32 (by decide) ?_
        refine lv_iload_n hx hb dX9_book_34 rfl (lv_at hl 2 rfl) ?_
        refine lv_iadd hx hb dX9_book_35 ?_
        obtain ⟨y8, ey8, hf⟩ := bnd_some hf
        refine k_X9_read X h ey8 k_X9_110 dX9_book_36 hl.1 ⟨(Nat.le_of_ble_eq_true rfl), (Nat.le_of_ble_eq_true rfl)⟩ (Nat.le_of_ble_eq_true rfl) ⟨Nat.zero_le _, Nat.zero_le _⟩ ?_
        refine lv_goto (tgt := 47) hx hb dX9_book_39 (by decide) ?_
        exact e0_i (Wf := cw G la) X.1 hr hlocks hf h dX9_book_47
    · have hf := if_t c4 hf
      refine lv_bipush (v := (-2)) hx hb dX9_book_19 (by decide) ?_
      exact e0_i (Wf := cw G la) X.1 hr hlocks hf h dX9_book_21
  · have hf := if_t c2 hf
    refine lv_iconst (v := (-1)) hx hb dX9_book_7 (by decide) ?_
    exact e0_i (Wf := cw G la) X.1 hr hlocks hf h dX9_book_8
theorem m_X9_book : Cond.instanceMethod yX9_book ∈ lw_good ∧ Cond.selects RX9 yX9_book yX9_book ∈ lw_good ∧ Cond.initialized RX9 ∈ lw_good ∧ Cond.code yX9_book cX9_book 3 (some .int) ∈ lw_good := by decide +kernel
theorem k_X9_book {p : Program} {l : Launch} {e : Env} {R : Room} {s : State} {m : MethodId} {args : Array Value} {below : List Frame} {meth : Method} {c : Code} {H : Heap} {locs : List Loc} {cells slots : Nat} {Q : State → Prop} {cc : ByteArray} {nL pc idx : Nat} {ls : Array Slot} {rest : List Value} {own : String} {G : Gm} {A : Nat → Prop} {H0 : Heap} {la : Nat} {w : CW} {x1 : Int32} {x2 : Int32} {y : Int32 × CW} (X : CX own cc nL G p s m args c) (h : CH G (cw G la w) A H0 H locs) (hA : ∀ q, H0.size ≤ q → A q) (hf : f_X9_book x1 x2 w = some y) (hlk : Cond.methodLink own idx yX9_book ∈ lw_good) (hd : decode cc pc = .ok (.invokevirtual idx, 3)) (hsz : ls.size = nL) (hR : 4 ≤ R.frames ∧ 86 ≤ R.locals) (hrest : (rest.map fun v => v.category).sum ≤ 8) (hk : cells ≤ R.cells ∧ slots ≤ R.slots) (k : ∀ (H : Heap) (locs : List Loc), CH G (cw G la y.2) A H0 H locs → W p l e R s m args below meth c H locs cells slots Q (F0 m (pc + 3) ls (.int y.1 :: rest))) : W p l e R s m args below meth c H locs cells slots Q (F0 m pc ls (.int x2 :: .int x1 :: .ref (gq G 0) :: rest)) :=
  fin_i (n := 0) (runV (As := [.int x1, .int x2]) X.1 2 (t_X9_book l G la w x1 x2 y.1 y.2 hf _) rfl rfl hlk m_X9_book (by decide +kernel) ⟨hR.1, hR.2⟩ ⟨blindM, va_recv X.2.1 h.1 (ci := 8) (q0 := 0) rfl rfl, preM X.2 h⟩ rfl hsz hrest hd hk) h hA (fun _ H locs h => k H locs h)
def f_X9_cost_l28_body (kself : (Int32 → Int32 → Int32 → Int32 → CW → Option (Int32 × CW))) (x1 : Int32) (x2 : Int32) (x3 : Int32) (x4 : Int32) (w : CW) : Option (Int32 × CW) :=
 if ((60 : Int32)) ≤ x4 then
 (if x3 = 0 then
 ((f_X9_found ((6 : Int32)) w).bind fun y4 =>
 some (y4.1, y4.2))
 else
 ((f_X9_shareOf x2 x1 w).bind fun y3 =>
 some (y3, w)))
 else
 ((f_X9_read x4 ((27 : Int32)) w).bind fun y5 =>
 chk (inb x4 60) (
 chk (inb x4 60) (
 (some (x3 + ((cs w 8 x4.toNatClampNeg y5).1 8 x4.toNatClampNeg))).bind fun z8 =>
 kself x1 x2 z8 (x4 + (1 : Int32)) (cs w 8 x4.toNatClampNeg y5))))
def f_X9_cost_l28 : Nat → Int32 → Int32 → Int32 → Int32 → CW → Option (Int32 × CW)
  | 0, _, _, _, _, _ => none
  | n + 1, x1, x2, x3, x4, w => f_X9_cost_l28_body (f_X9_cost_l28 n) x1 x2 x3 x4 w
def f_X9_cost (x1 : Int32) (x2 : Int32) (w : CW) : Option (Int32 × CW) :=
 (f_X9_isPlace x1).bind fun y9 =>
 if y9 = 0 then
 (some ((-1 : Int32), w))
 else
 ((f_X9_within x2 ((0 : Int32)) ((1000000 : Int32))).bind fun y11 =>
 if y11 = 0 then
 (some ((-2 : Int32), w))
 else
 (f_X9_cost_l28 FU x1 x2 ((0 : Int32)) ((0 : Int32)) w))
set_option maxHeartbeats 4000000 in
set_option maxRecDepth 100000 in
theorem t_X9_cost (l : Launch) (G : Gm) (la : Nat) (w0 : CW) (x1 : Int32) (x2 : Int32) (r : Int32) (w' : CW) (hf : f_X9_cost x1 x2 w0 = some (r, w')) : MetI l yX9_cost cX9_cost 5 (some .int) 3 75 G (cw G la w0) [.ref (gq G 0), .int x1, .int x2] r (fun _ => cw G la (w')) 0 := by
  intro sz
  refine ent (own := RX9) (As := [.ref (gq G 0), .int x1, .int x2]) (by decide +kernel) rfl (Nat.le_of_ble_eq_true rfl) (fun _ _ h => h.1) ?_
  intro p e s m args below meth c ls B hr hlocks hv hl
  obtain ⟨-, hsz, hP, hKK, hD⟩ := hv
  subst hsz
  have X : CX RX9 cX9_cost 5 G p s m args c := ⟨B, hKK⟩
  obtain ⟨hx, hb, hml, hown, hts⟩ := id B
  have hA : ∀ q : Nat, s.heap.size ≤ q → va_A (cw G la w0) s.heap.size q := fun q z => Or.inr z
  have h : CH G (cw G la w0) (va_A (cw G la w0) s.heap.size) s.heap s.heap [] := ⟨hP, hD.self, va_S.rf⟩
  have L28 : ∀ (n28 : Nat) (x1 : Int32) (x2 : Int32) (x3 : Int32) (x4 : Int32) (w : CW) (H : Heap) (locs : List Loc) (ls : Array Slot), f_X9_cost_l28 n28 x1 x2 x3 x4 w = some (r, w') → CH G (cw G la w) (va_A (cw G la w0) s.heap.size) s.heap H locs → lv_has ls 5 [(0, .ref (gq G 0)), (1, .int x1), (2, .int x2), (3, .int x3), (4, .int x4)] → W p l e { frames := 3, cells := 0, slots := 4096 * 0, locals := 75 } s m args below meth c H locs 0 (4096 * 0) (MQ below (QI G (cw G la w0) s.heap.size r (fun _ => cw G la (w'))) args s 0 (4096 * 0) (va_A (cw G la w0) s.heap.size)) (F0 m 28 ls []) := by
    intro n28
    induction n28 with
    | zero =>
      intro x1 x2 x3 x4 w H locs ls hf h hl
      cases (show (none : Option (Int32 × CW)) = some _ from hf)
    | succ n28 ih28 =>
      intro x1 x2 x3 x4 w H locs ls hf h hl
      have hf : f_X9_cost_l28_body (f_X9_cost_l28 n28) x1 x2 x3 x4 w = _ := hf
      unfold f_X9_cost_l28_body at hf
      refine lv_iload hx hb dX9_cost_28 (lv_at hl 4 rfl) ?_
      refine lv_bipush (v := 60) hx hb dX9_cost_30 (by decide) ?_
      refine lv_icmp_ge (tgt := 66) hx hb dX9_cost_32 (by decide) (fun c1 => ?_) (fun c1 => ?_)
      · have hf := if_t c1 hf
        refine lv_iload_n hx hb dX9_cost_66 rfl (lv_at hl 3 rfl) ?_
        refine lv_if_ne (tgt := 79) hx hb dX9_cost_67 (by decide) (fun c2 => ?_) (fun c2 => ?_)
        · have hf := if_f c2 hf
          refine lv_aload_n hx hb dX9_cost_79 rfl (lv_at hl 0 rfl) ?_
          refine lv_iload_n hx hb dX9_cost_80 rfl (lv_at hl 2 rfl) ?_
          refine lv_iload_n hx hb dX9_cost_81 rfl (lv_at hl 1 rfl) ?_
          obtain ⟨y3, ey3, hf⟩ := bnd_some hf
          refine k_X9_shareOf X h ey3 k_X9_254 dX9_cost_82 hl.1 ⟨(Nat.le_of_ble_eq_true rfl), (Nat.le_of_ble_eq_true rfl)⟩ (Nat.le_of_ble_eq_true rfl) ⟨Nat.zero_le _, Nat.zero_le _⟩ ?_
          exact e0_i (Wf := cw G la) X.1 hr hlocks hf h dX9_cost_85
        · have hf := if_t c2 hf
          refine lv_aload_n hx hb dX9_cost_70 rfl (lv_at hl 0 rfl) ?_
          refine lv_bipush (v := 6) hx hb dX9_cost_71 (by decide) ?_
          obtain ⟨y4, ey4, hf⟩ := bnd_some hf
          refine k_X9_found X h hA ey4 k_X9_103 dX9_cost_73 hl.1 ⟨(Nat.le_of_ble_eq_true rfl), (Nat.le_of_ble_eq_true rfl)⟩ (Nat.le_of_ble_eq_true rfl) ⟨Nat.zero_le _, Nat.zero_le _⟩ (fun H locs h => ?_)
          refine lv_goto (tgt := 85) hx hb dX9_cost_76 (by decide) ?_
          exact e0_i (Wf := cw G la) X.1 hr hlocks hf h dX9_cost_85
      · have hf := if_f c1 hf
        refine lv_aload_n hx hb dX9_cost_35 rfl (lv_at hl 0 rfl) ?_
        refine GC_0_7 X h k_X9_65 dX9_cost_36 ?_
        refine lv_iload hx hb dX9_cost_39 (lv_at hl 4 rfl) ?_
        refine lv_aload_n hx hb dX9_cost_41 rfl (lv_at hl 0 rfl) ?_
        refine lv_iload hx hb dX9_cost_42 (lv_at hl 4 rfl) ?_
        refine lv_bipush (v := 27) hx hb dX9_cost_44 (by decide) ?_
        obtain ⟨y5, ey5, hf⟩ := bnd_some hf
        refine k_X9_read X h ey5 k_X9_110 dX9_cost_46 hl.1 ⟨(Nat.le_of_ble_eq_true rfl), (Nat.le_of_ble_eq_true rfl)⟩ (Nat.le_of_ble_eq_true rfl) ⟨Nat.zero_le _, Nat.zero_le _⟩ ?_
        obtain ⟨c6, hf⟩ := chk_some hf
        refine SC_8 X h c6 dX9_cost_49 (fun H locs h => ?_)
        refine lv_iload_n hx hb dX9_cost_50 rfl (lv_at hl 3 rfl) ?_
        refine lv_aload_n hx hb dX9_cost_51 rfl (lv_at hl 0 rfl) ?_
        refine GC_0_7 X h k_X9_65 dX9_cost_52 ?_
        refine lv_iload hx hb dX9_cost_55 (lv_at hl 4 rfl) ?_
        obtain ⟨c7, hf⟩ := chk_some hf
        refine LC_8 X h c7 dX9_cost_57 ?_
        refine lv_iadd hx hb dX9_cost_58 ?_
        obtain ⟨z8, ez8, hf⟩ := bnd_some hf
        refine nm_i (Option.some.inj ez8) ?_
        refine lv_istore_n (lv' := [(3, .int z8), (0, .ref (gq G 0)), (1, .int x1), (2, .int x2), (4, .int x4)]) hx hb dX9_cost_59 rfl hl (by decide) rfl (fun ls hl => ?_)
        refine lv_iinc (v := x4 + (1 : Int32)) (lv' := [(4, .int (x4 + (1 : Int32))), (3, .int z8), (0, .ref (gq G 0)), (1, .int x1), (2, .int x2)]) hx hb dX9_cost_60 hl (k := 4) rfl (by rfl) (by decide) rfl (fun ls hl => ?_)
        refine lv_goto (tgt := 28) hx hb dX9_cost_63 (by decide) ?_
        exact ih28 _ _ _ _ _ _ _ _ hf h (lv_sub hl [2, 3, 4, 1, 0] rfl)
  obtain ⟨w, rfl⟩ : ∃ z, z = w0 := ⟨_, rfl⟩
  have hl : lv_has ls 5 [(0, .ref (gq G 0)), (1, .int x1), (2, .int x2)] := hl
  unfold f_X9_cost at hf
  refine lv_iload_n hx hb dX9_cost_0 rfl (lv_at hl 1 rfl) ?_
  obtain ⟨y9, ey9, hf⟩ := bnd_some hf
  refine k_X9_isPlace X.1 ey9 k_X9_88 dX9_cost_1 hl.1 ⟨(Nat.le_of_ble_eq_true rfl), (Nat.le_of_ble_eq_true rfl)⟩ (Nat.le_of_ble_eq_true rfl) ⟨Nat.zero_le _, Nat.zero_le _⟩ ?_
  refine lv_if_ne (tgt := 9) hx hb dX9_cost_4 (by decide) (fun c10 => ?_) (fun c10 => ?_)
  · have hf := if_f c10 hf
    refine lv_iload_n hx hb dX9_cost_9 rfl (lv_at hl 2 rfl) ?_
    refine lv_iconst (v := 0) hx hb dX9_cost_10 (by decide) ?_
    refine lv_ldcw (v := 1000000) hx hb hown (hts _ k_X9_308) dX9_cost_11 ?_
    obtain ⟨y11, ey11, hf⟩ := bnd_some hf
    refine k_X9_within X.1 ey11 k_X9_92 dX9_cost_14 hl.1 ⟨(Nat.le_of_ble_eq_true rfl), (Nat.le_of_ble_eq_true rfl)⟩ (Nat.le_of_ble_eq_true rfl) ⟨Nat.zero_le _, Nat.zero_le _⟩ ?_
    refine lv_if_ne (tgt := 23) hx hb dX9_cost_17 (by decide) (fun c12 => ?_) (fun c12 => ?_)
    · have hf := if_f c12 hf
      refine lv_iconst (v := 0) hx hb dX9_cost_23 (by decide) ?_
      refine lv_istore_n (lv' := [(3, .int ((0 : Int32))), (0, .ref (gq G 0)), (1, .int x1), (2, .int x2)]) hx hb dX9_cost_24 rfl hl (by decide) rfl (fun ls hl => ?_)
      refine lv_iconst (v := 0) hx hb dX9_cost_25 (by decide) ?_
      refine lv_istore (lv' := [(4, .int ((0 : Int32))), (3, .int ((0 : Int32))), (0, .ref (gq G 0)), (1, .int x1), (2, .int x2)]) hx hb dX9_cost_26 hl (by decide) rfl (fun ls hl => ?_)
      exact L28 FU _ _ _ _ _ _ _ _ hf h (lv_sub hl [2, 3, 4, 1, 0] rfl)
    · have hf := if_t c12 hf
      refine lv_bipush (v := (-2)) hx hb dX9_cost_20 (by decide) ?_
      exact e0_i (Wf := cw G la) X.1 hr hlocks hf h dX9_cost_22
  · have hf := if_t c10 hf
    refine lv_iconst (v := (-1)) hx hb dX9_cost_7 (by decide) ?_
    exact e0_i (Wf := cw G la) X.1 hr hlocks hf h dX9_cost_8
theorem m_X9_cost : Cond.instanceMethod yX9_cost ∈ lw_good ∧ Cond.selects RX9 yX9_cost yX9_cost ∈ lw_good ∧ Cond.initialized RX9 ∈ lw_good ∧ Cond.code yX9_cost cX9_cost 5 (some .int) ∈ lw_good := by decide +kernel
theorem k_X9_cost {p : Program} {l : Launch} {e : Env} {R : Room} {s : State} {m : MethodId} {args : Array Value} {below : List Frame} {meth : Method} {c : Code} {H : Heap} {locs : List Loc} {cells slots : Nat} {Q : State → Prop} {cc : ByteArray} {nL pc idx : Nat} {ls : Array Slot} {rest : List Value} {own : String} {G : Gm} {A : Nat → Prop} {H0 : Heap} {la : Nat} {w : CW} {x1 : Int32} {x2 : Int32} {y : Int32 × CW} (X : CX own cc nL G p s m args c) (h : CH G (cw G la w) A H0 H locs) (hA : ∀ q, H0.size ≤ q → A q) (hf : f_X9_cost x1 x2 w = some y) (hlk : Cond.methodLink own idx yX9_cost ∈ lw_good) (hd : decode cc pc = .ok (.invokevirtual idx, 3)) (hsz : ls.size = nL) (hR : 4 ≤ R.frames ∧ 99 ≤ R.locals) (hrest : (rest.map fun v => v.category).sum ≤ 8) (hk : cells ≤ R.cells ∧ slots ≤ R.slots) (k : ∀ (H : Heap) (locs : List Loc), CH G (cw G la y.2) A H0 H locs → W p l e R s m args below meth c H locs cells slots Q (F0 m (pc + 3) ls (.int y.1 :: rest))) : W p l e R s m args below meth c H locs cells slots Q (F0 m pc ls (.int x2 :: .int x1 :: .ref (gq G 0) :: rest)) :=
  fin_i (n := 0) (runV (As := [.int x1, .int x2]) X.1 2 (t_X9_cost l G la w x1 x2 y.1 y.2 hf _) rfl rfl hlk m_X9_cost (by decide +kernel) ⟨hR.1, hR.2⟩ ⟨blindM, va_recv X.2.1 h.1 (ci := 8) (q0 := 0) rfl rfl, preM X.2 h⟩ rfl hsz hrest hd hk) h hA (fun _ H locs h => k H locs h)
def f_X9_countMachines_b24 (k4 : (Int32 → Int32 → CW → Option Int32)) (x2 : Int32) (xs0 : Int32) (xs1 : Int32) (w : CW) : Option Int32 :=
 k4 (xs0 + xs1) (x2 + (1 : Int32)) w
def f_X9_countMachines_l4_body (kself : (Int32 → Int32 → CW → Option Int32)) (x1 : Int32) (x2 : Int32) (w : CW) : Option Int32 :=
 if ((60 : Int32)) ≤ x2 then
 (some x1)
 else
 ((f_X9_hasMachine x2 w).bind fun y2 =>
 if y2 = 0 then
 (f_X9_countMachines_b24 kself x2 x1 ((0 : Int32)) w)
 else
 (f_X9_countMachines_b24 kself x2 x1 ((1 : Int32)) w))
def f_X9_countMachines_l4 : Nat → Int32 → Int32 → CW → Option Int32
  | 0, _, _, _ => none
  | n + 1, x1, x2, w => f_X9_countMachines_l4_body (f_X9_countMachines_l4 n) x1 x2 w
def f_X9_countMachines (w : CW) : Option Int32 :=
 f_X9_countMachines_l4 FU ((0 : Int32)) ((0 : Int32)) w
set_option maxHeartbeats 4000000 in
set_option maxRecDepth 100000 in
theorem t_X9_countMachines (l : Launch) (G : Gm) (la : Nat) (w : CW) (r : Int32) (hf : f_X9_countMachines w = some r) : MetR l yX9_countMachines cX9_countMachines 3 (some .int) 3 64 G (cw G la w) [.ref (gq G 0)] (.int r) := by
  refine ent (own := RX9) (As := [.ref (gq G 0)]) (by decide +kernel) rfl (Nat.le_of_ble_eq_true rfl) (fun _ _ h => h.1) ?_
  intro p e s m args below meth c ls B hr hlocks hv hl
  obtain ⟨-, hP, hKK, hD⟩ := hv
  have X : CX RX9 cX9_countMachines 3 G p s m args c := ⟨B, hKK⟩
  obtain ⟨hx, hb, hml, hown, hts⟩ := id B
  have h : CH G (cw G la w) (fun _ => True) s.heap s.heap [] := ⟨hP, hD, va_S.rf⟩
  have L4 : ∀ (n4 : Nat) (x1 : Int32) (x2 : Int32) (ls : Array Slot), f_X9_countMachines_l4 n4 x1 x2 w = some r → lv_has ls 3 [(0, .ref (gq G 0)), (1, .int x1), (2, .int x2)] → W p l e { frames := 3, cells := 0, slots := 0, locals := 64 } s m args below meth c s.heap [] 0 0 (MQ below (QcV (.int r)) args s 0 0 (fun _ => False)) (F0 m 4 ls []) := by
    intro n4
    induction n4 with
    | zero =>
      intro x1 x2 ls hf hl
      cases (show (none : Option Int32) = some _ from hf)
    | succ n4 ih4 =>
      have J24 : ∀ (x2 : Int32) (xs0 : Int32) (xs1 : Int32) (ls : Array Slot), f_X9_countMachines_b24 (f_X9_countMachines_l4 n4) x2 xs0 xs1 w = some r → lv_has ls 3 [(0, .ref (gq G 0)), (2, .int x2)] → W p l e { frames := 3, cells := 0, slots := 0, locals := 64 } s m args below meth c s.heap [] 0 0 (MQ below (QcV (.int r)) args s 0 0 (fun _ => False)) (F0 m 24 ls [.int xs1, .int xs0]) := by
        intro x2 xs0 xs1 ls hf hl
        unfold f_X9_countMachines_b24 at hf
        refine lv_iadd hx hb dX9_countMachines_24 ?_
        refine lv_istore_n (lv' := [(1, .int (xs0 + xs1)), (0, .ref (gq G 0)), (2, .int x2)]) hx hb dX9_countMachines_25 rfl hl (by decide) rfl (fun ls hl => ?_)
        refine lv_iinc (v := x2 + (1 : Int32)) (lv' := [(2, .int (x2 + (1 : Int32))), (1, .int (xs0 + xs1)), (0, .ref (gq G 0))]) hx hb dX9_countMachines_26 hl (k := 2) rfl (by rfl) (by decide) rfl (fun ls hl => ?_)
        refine lv_goto (tgt := 4) hx hb dX9_countMachines_29 (by decide) ?_
        exact ih4 _ _ _ hf (lv_sub hl [2, 1, 0] rfl)
      intro x1 x2 ls hf hl
      have hf : f_X9_countMachines_l4_body (f_X9_countMachines_l4 n4) x1 x2 w = _ := hf
      unfold f_X9_countMachines_l4_body at hf
      refine lv_iload_n hx hb dX9_countMachines_4 rfl (lv_at hl 2 rfl) ?_
      refine lv_bipush (v := 60) hx hb dX9_countMachines_5 (by decide) ?_
      refine lv_icmp_ge (tgt := 32) hx hb dX9_countMachines_7 (by decide) (fun c1 => ?_) (fun c1 => ?_)
      · have hf := if_t c1 hf
        refine lv_iload_n hx hb dX9_countMachines_32 rfl (lv_at hl 1 rfl) ?_
        cases hf
        exact rr_i X.1 hr hlocks dX9_countMachines_33
      · have hf := if_f c1 hf
        refine lv_iload_n hx hb dX9_countMachines_10 rfl (lv_at hl 1 rfl) ?_
        refine lv_aload_n hx hb dX9_countMachines_11 rfl (lv_at hl 0 rfl) ?_
        refine lv_iload_n hx hb dX9_countMachines_12 rfl (lv_at hl 2 rfl) ?_
        obtain ⟨y2, ey2, hf⟩ := bnd_some hf
        refine k_X9_hasMachine X h ey2 k_X9_96 dX9_countMachines_13 hl.1 ⟨(Nat.le_of_ble_eq_true rfl), (Nat.le_of_ble_eq_true rfl)⟩ (Nat.le_of_ble_eq_true rfl) ⟨Nat.zero_le _, Nat.zero_le _⟩ ?_
        refine lv_if_eq (tgt := 23) hx hb dX9_countMachines_16 (by decide) (fun c3 => ?_) (fun c3 => ?_)
        · have hf := if_t c3 hf
          refine lv_iconst (v := 0) hx hb dX9_countMachines_23 (by decide) ?_
          exact J24 _ _ _ _ hf (lv_sub hl [0, 2] rfl)
        · have hf := if_f c3 hf
          refine lv_iconst (v := 1) hx hb dX9_countMachines_19 (by decide) ?_
          refine lv_goto (tgt := 24) hx hb dX9_countMachines_20 (by decide) ?_
          exact J24 _ _ _ _ hf (lv_sub hl [0, 2] rfl)
  have hl : lv_has ls 3 [(0, .ref (gq G 0))] := hl
  unfold f_X9_countMachines at hf
  refine lv_iconst (v := 0) hx hb dX9_countMachines_0 (by decide) ?_
  refine lv_istore_n (lv' := [(1, .int ((0 : Int32))), (0, .ref (gq G 0))]) hx hb dX9_countMachines_1 rfl hl (by decide) rfl (fun ls hl => ?_)
  refine lv_iconst (v := 0) hx hb dX9_countMachines_2 (by decide) ?_
  refine lv_istore_n (lv' := [(2, .int ((0 : Int32))), (1, .int ((0 : Int32))), (0, .ref (gq G 0))]) hx hb dX9_countMachines_3 rfl hl (by decide) rfl (fun ls hl => ?_)
  exact L4 FU _ _ _ hf (lv_sub hl [2, 1, 0] rfl)
theorem m_X9_countMachines : Cond.instanceMethod yX9_countMachines ∈ lw_good ∧ Cond.selects RX9 yX9_countMachines yX9_countMachines ∈ lw_good ∧ Cond.initialized RX9 ∈ lw_good ∧ Cond.code yX9_countMachines cX9_countMachines 3 (some .int) ∈ lw_good := by decide +kernel
theorem k_X9_countMachines {p : Program} {l : Launch} {e : Env} {R : Room} {s : State} {m : MethodId} {args : Array Value} {below : List Frame} {meth : Method} {c : Code} {H : Heap} {locs : List Loc} {cells slots : Nat} {Q : State → Prop} {cc : ByteArray} {nL pc idx : Nat} {ls : Array Slot} {rest : List Value} {own : String} {G : Gm} {A : Nat → Prop} {H0 : Heap} {la : Nat} {w : CW} {r : Int32} (X : CX own cc nL G p s m args c) (h : CH G (cw G la w) A H0 H locs) (hf : f_X9_countMachines w = some r) (hlk : Cond.methodLink own idx yX9_countMachines ∈ lw_good) (hd : decode cc pc = .ok (.invokevirtual idx, 3)) (hsz : ls.size = nL) (hR : 4 ≤ R.frames ∧ 86 ≤ R.locals) (hrest : (rest.map fun v => v.category).sum ≤ 8) (hk : cells ≤ R.cells ∧ slots ≤ R.slots) (k : W p l e R s m args below meth c H locs cells slots Q (F0 m (pc + 3) ls (.int r :: rest))) : W p l e R s m args below meth c H locs cells slots Q (F0 m pc ls (.ref (gq G 0) :: rest)) :=
  fin_r (runV (As := []) X.1 0 (t_X9_countMachines l G la w r hf) rfl rfl hlk m_X9_countMachines (by decide +kernel) ⟨hR.1, hR.2⟩ ⟨blindR, va_recv X.2.1 h.1 (ci := 8) (q0 := 0) rfl rfl, preR X.2 h⟩ rfl hsz hrest hd hk) k
def f_X9_countPrograms_b24 (k4 : (Int32 → Int32 → CW → Option Int32)) (x2 : Int32) (xs0 : Int32) (xs1 : Int32) (w : CW) : Option Int32 :=
 k4 (xs0 + xs1) (x2 + (1 : Int32)) w
def f_X9_countPrograms_l4_body (kself : (Int32 → Int32 → CW → Option Int32)) (x1 : Int32) (x2 : Int32) (w : CW) : Option Int32 :=
 if ((40 : Int32)) ≤ x2 then
 (some x1)
 else
 ((f_X9_hasProgram x2 w).bind fun y2 =>
 if y2 = 0 then
 (f_X9_countPrograms_b24 kself x2 x1 ((0 : Int32)) w)
 else
 (f_X9_countPrograms_b24 kself x2 x1 ((1 : Int32)) w))
def f_X9_countPrograms_l4 : Nat → Int32 → Int32 → CW → Option Int32
  | 0, _, _, _ => none
  | n + 1, x1, x2, w => f_X9_countPrograms_l4_body (f_X9_countPrograms_l4 n) x1 x2 w
def f_X9_countPrograms (w : CW) : Option Int32 :=
 f_X9_countPrograms_l4 FU ((0 : Int32)) ((0 : Int32)) w
set_option maxHeartbeats 4000000 in
set_option maxRecDepth 100000 in
theorem t_X9_countPrograms (l : Launch) (G : Gm) (la : Nat) (w : CW) (r : Int32) (hf : f_X9_countPrograms w = some r) : MetR l yX9_countPrograms cX9_countPrograms 3 (some .int) 2 42 G (cw G la w) [.ref (gq G 0)] (.int r) := by
  refine ent (own := RX9) (As := [.ref (gq G 0)]) (by decide +kernel) rfl (Nat.le_of_ble_eq_true rfl) (fun _ _ h => h.1) ?_
  intro p e s m args below meth c ls B hr hlocks hv hl
  obtain ⟨-, hP, hKK, hD⟩ := hv
  have X : CX RX9 cX9_countPrograms 3 G p s m args c := ⟨B, hKK⟩
  obtain ⟨hx, hb, hml, hown, hts⟩ := id B
  have h : CH G (cw G la w) (fun _ => True) s.heap s.heap [] := ⟨hP, hD, va_S.rf⟩
  have L4 : ∀ (n4 : Nat) (x1 : Int32) (x2 : Int32) (ls : Array Slot), f_X9_countPrograms_l4 n4 x1 x2 w = some r → lv_has ls 3 [(0, .ref (gq G 0)), (1, .int x1), (2, .int x2)] → W p l e { frames := 2, cells := 0, slots := 0, locals := 42 } s m args below meth c s.heap [] 0 0 (MQ below (QcV (.int r)) args s 0 0 (fun _ => False)) (F0 m 4 ls []) := by
    intro n4
    induction n4 with
    | zero =>
      intro x1 x2 ls hf hl
      cases (show (none : Option Int32) = some _ from hf)
    | succ n4 ih4 =>
      have J24 : ∀ (x2 : Int32) (xs0 : Int32) (xs1 : Int32) (ls : Array Slot), f_X9_countPrograms_b24 (f_X9_countPrograms_l4 n4) x2 xs0 xs1 w = some r → lv_has ls 3 [(0, .ref (gq G 0)), (2, .int x2)] → W p l e { frames := 2, cells := 0, slots := 0, locals := 42 } s m args below meth c s.heap [] 0 0 (MQ below (QcV (.int r)) args s 0 0 (fun _ => False)) (F0 m 24 ls [.int xs1, .int xs0]) := by
        intro x2 xs0 xs1 ls hf hl
        unfold f_X9_countPrograms_b24 at hf
        refine lv_iadd hx hb dX9_countPrograms_24 ?_
        refine lv_istore_n (lv' := [(1, .int (xs0 + xs1)), (0, .ref (gq G 0)), (2, .int x2)]) hx hb dX9_countPrograms_25 rfl hl (by decide) rfl (fun ls hl => ?_)
        refine lv_iinc (v := x2 + (1 : Int32)) (lv' := [(2, .int (x2 + (1 : Int32))), (1, .int (xs0 + xs1)), (0, .ref (gq G 0))]) hx hb dX9_countPrograms_26 hl (k := 2) rfl (by rfl) (by decide) rfl (fun ls hl => ?_)
        refine lv_goto (tgt := 4) hx hb dX9_countPrograms_29 (by decide) ?_
        exact ih4 _ _ _ hf (lv_sub hl [2, 1, 0] rfl)
      intro x1 x2 ls hf hl
      have hf : f_X9_countPrograms_l4_body (f_X9_countPrograms_l4 n4) x1 x2 w = _ := hf
      unfold f_X9_countPrograms_l4_body at hf
      refine lv_iload_n hx hb dX9_countPrograms_4 rfl (lv_at hl 2 rfl) ?_
      refine lv_bipush (v := 40) hx hb dX9_countPrograms_5 (by decide) ?_
      refine lv_icmp_ge (tgt := 32) hx hb dX9_countPrograms_7 (by decide) (fun c1 => ?_) (fun c1 => ?_)
      · have hf := if_t c1 hf
        refine lv_iload_n hx hb dX9_countPrograms_32 rfl (lv_at hl 1 rfl) ?_
        cases hf
        exact rr_i X.1 hr hlocks dX9_countPrograms_33
      · have hf := if_f c1 hf
        refine lv_iload_n hx hb dX9_countPrograms_10 rfl (lv_at hl 1 rfl) ?_
        refine lv_aload_n hx hb dX9_countPrograms_11 rfl (lv_at hl 0 rfl) ?_
        refine lv_iload_n hx hb dX9_countPrograms_12 rfl (lv_at hl 2 rfl) ?_
        obtain ⟨y2, ey2, hf⟩ := bnd_some hf
        refine k_X9_hasProgram X h ey2 k_X9_169 dX9_countPrograms_13 hl.1 ⟨(Nat.le_of_ble_eq_true rfl), (Nat.le_of_ble_eq_true rfl)⟩ (Nat.le_of_ble_eq_true rfl) ⟨Nat.zero_le _, Nat.zero_le _⟩ ?_
        refine lv_if_eq (tgt := 23) hx hb dX9_countPrograms_16 (by decide) (fun c3 => ?_) (fun c3 => ?_)
        · have hf := if_t c3 hf
          refine lv_iconst (v := 0) hx hb dX9_countPrograms_23 (by decide) ?_
          exact J24 _ _ _ _ hf (lv_sub hl [0, 2] rfl)
        · have hf := if_f c3 hf
          refine lv_iconst (v := 1) hx hb dX9_countPrograms_19 (by decide) ?_
          refine lv_goto (tgt := 24) hx hb dX9_countPrograms_20 (by decide) ?_
          exact J24 _ _ _ _ hf (lv_sub hl [0, 2] rfl)
  have hl : lv_has ls 3 [(0, .ref (gq G 0))] := hl
  unfold f_X9_countPrograms at hf
  refine lv_iconst (v := 0) hx hb dX9_countPrograms_0 (by decide) ?_
  refine lv_istore_n (lv' := [(1, .int ((0 : Int32))), (0, .ref (gq G 0))]) hx hb dX9_countPrograms_1 rfl hl (by decide) rfl (fun ls hl => ?_)
  refine lv_iconst (v := 0) hx hb dX9_countPrograms_2 (by decide) ?_
  refine lv_istore_n (lv' := [(2, .int ((0 : Int32))), (1, .int ((0 : Int32))), (0, .ref (gq G 0))]) hx hb dX9_countPrograms_3 rfl hl (by decide) rfl (fun ls hl => ?_)
  exact L4 FU _ _ _ hf (lv_sub hl [2, 1, 0] rfl)
theorem m_X9_countPrograms : Cond.instanceMethod yX9_countPrograms ∈ lw_good ∧ Cond.selects RX9 yX9_countPrograms yX9_countPrograms ∈ lw_good ∧ Cond.initialized RX9 ∈ lw_good ∧ Cond.code yX9_countPrograms cX9_countPrograms 3 (some .int) ∈ lw_good := by decide +kernel
theorem k_X9_countPrograms {p : Program} {l : Launch} {e : Env} {R : Room} {s : State} {m : MethodId} {args : Array Value} {below : List Frame} {meth : Method} {c : Code} {H : Heap} {locs : List Loc} {cells slots : Nat} {Q : State → Prop} {cc : ByteArray} {nL pc idx : Nat} {ls : Array Slot} {rest : List Value} {own : String} {G : Gm} {A : Nat → Prop} {H0 : Heap} {la : Nat} {w : CW} {r : Int32} (X : CX own cc nL G p s m args c) (h : CH G (cw G la w) A H0 H locs) (hf : f_X9_countPrograms w = some r) (hlk : Cond.methodLink own idx yX9_countPrograms ∈ lw_good) (hd : decode cc pc = .ok (.invokevirtual idx, 3)) (hsz : ls.size = nL) (hR : 3 ≤ R.frames ∧ 64 ≤ R.locals) (hrest : (rest.map fun v => v.category).sum ≤ 8) (hk : cells ≤ R.cells ∧ slots ≤ R.slots) (k : W p l e R s m args below meth c H locs cells slots Q (F0 m (pc + 3) ls (.int r :: rest))) : W p l e R s m args below meth c H locs cells slots Q (F0 m pc ls (.ref (gq G 0) :: rest)) :=
  fin_r (runV (As := []) X.1 0 (t_X9_countPrograms l G la w r hf) rfl rfl hlk m_X9_countPrograms (by decide +kernel) ⟨hR.1, hR.2⟩ ⟨blindR, va_recv X.2.1 h.1 (ci := 8) (q0 := 0) rfl rfl, preR X.2 h⟩ rfl hsz hrest hd hk) k
def f_X9_countRuns_b24 (k4 : (Int32 → Int32 → CW → Option Int32)) (x2 : Int32) (xs0 : Int32) (xs1 : Int32) (w : CW) : Option Int32 :=
 k4 (xs0 + xs1) (x2 + (1 : Int32)) w
def f_X9_countRuns_l4_body (kself : (Int32 → Int32 → CW → Option Int32)) (x1 : Int32) (x2 : Int32) (w : CW) : Option Int32 :=
 if ((60 : Int32)) ≤ x2 then
 (some x1)
 else
 ((f_X9_hasRun x2 w).bind fun y2 =>
 if y2 = 0 then
 (f_X9_countRuns_b24 kself x2 x1 ((0 : Int32)) w)
 else
 (f_X9_countRuns_b24 kself x2 x1 ((1 : Int32)) w))
def f_X9_countRuns_l4 : Nat → Int32 → Int32 → CW → Option Int32
  | 0, _, _, _ => none
  | n + 1, x1, x2, w => f_X9_countRuns_l4_body (f_X9_countRuns_l4 n) x1 x2 w
def f_X9_countRuns (w : CW) : Option Int32 :=
 f_X9_countRuns_l4 FU ((0 : Int32)) ((0 : Int32)) w
set_option maxHeartbeats 4000000 in
set_option maxRecDepth 100000 in
theorem t_X9_countRuns (l : Launch) (G : Gm) (la : Nat) (w : CW) (r : Int32) (hf : f_X9_countRuns w = some r) : MetR l yX9_countRuns cX9_countRuns 3 (some .int) 3 64 G (cw G la w) [.ref (gq G 0)] (.int r) := by
  refine ent (own := RX9) (As := [.ref (gq G 0)]) (by decide +kernel) rfl (Nat.le_of_ble_eq_true rfl) (fun _ _ h => h.1) ?_
  intro p e s m args below meth c ls B hr hlocks hv hl
  obtain ⟨-, hP, hKK, hD⟩ := hv
  have X : CX RX9 cX9_countRuns 3 G p s m args c := ⟨B, hKK⟩
  obtain ⟨hx, hb, hml, hown, hts⟩ := id B
  have h : CH G (cw G la w) (fun _ => True) s.heap s.heap [] := ⟨hP, hD, va_S.rf⟩
  have L4 : ∀ (n4 : Nat) (x1 : Int32) (x2 : Int32) (ls : Array Slot), f_X9_countRuns_l4 n4 x1 x2 w = some r → lv_has ls 3 [(0, .ref (gq G 0)), (1, .int x1), (2, .int x2)] → W p l e { frames := 3, cells := 0, slots := 0, locals := 64 } s m args below meth c s.heap [] 0 0 (MQ below (QcV (.int r)) args s 0 0 (fun _ => False)) (F0 m 4 ls []) := by
    intro n4
    induction n4 with
    | zero =>
      intro x1 x2 ls hf hl
      cases (show (none : Option Int32) = some _ from hf)
    | succ n4 ih4 =>
      have J24 : ∀ (x2 : Int32) (xs0 : Int32) (xs1 : Int32) (ls : Array Slot), f_X9_countRuns_b24 (f_X9_countRuns_l4 n4) x2 xs0 xs1 w = some r → lv_has ls 3 [(0, .ref (gq G 0)), (2, .int x2)] → W p l e { frames := 3, cells := 0, slots := 0, locals := 64 } s m args below meth c s.heap [] 0 0 (MQ below (QcV (.int r)) args s 0 0 (fun _ => False)) (F0 m 24 ls [.int xs1, .int xs0]) := by
        intro x2 xs0 xs1 ls hf hl
        unfold f_X9_countRuns_b24 at hf
        refine lv_iadd hx hb dX9_countRuns_24 ?_
        refine lv_istore_n (lv' := [(1, .int (xs0 + xs1)), (0, .ref (gq G 0)), (2, .int x2)]) hx hb dX9_countRuns_25 rfl hl (by decide) rfl (fun ls hl => ?_)
        refine lv_iinc (v := x2 + (1 : Int32)) (lv' := [(2, .int (x2 + (1 : Int32))), (1, .int (xs0 + xs1)), (0, .ref (gq G 0))]) hx hb dX9_countRuns_26 hl (k := 2) rfl (by rfl) (by decide) rfl (fun ls hl => ?_)
        refine lv_goto (tgt := 4) hx hb dX9_countRuns_29 (by decide) ?_
        exact ih4 _ _ _ hf (lv_sub hl [2, 1, 0] rfl)
      intro x1 x2 ls hf hl
      have hf : f_X9_countRuns_l4_body (f_X9_countRuns_l4 n4) x1 x2 w = _ := hf
      unfold f_X9_countRuns_l4_body at hf
      refine lv_iload_n hx hb dX9_countRuns_4 rfl (lv_at hl 2 rfl) ?_
      refine lv_bipush (v := 60) hx hb dX9_countRuns_5 (by decide) ?_
      refine lv_icmp_ge (tgt := 32) hx hb dX9_countRuns_7 (by decide) (fun c1 => ?_) (fun c1 => ?_)
      · have hf := if_t c1 hf
        refine lv_iload_n hx hb dX9_countRuns_32 rfl (lv_at hl 1 rfl) ?_
        cases hf
        exact rr_i X.1 hr hlocks dX9_countRuns_33
      · have hf := if_f c1 hf
        refine lv_iload_n hx hb dX9_countRuns_10 rfl (lv_at hl 1 rfl) ?_
        refine lv_aload_n hx hb dX9_countRuns_11 rfl (lv_at hl 0 rfl) ?_
        refine lv_iload_n hx hb dX9_countRuns_12 rfl (lv_at hl 2 rfl) ?_
        obtain ⟨y2, ey2, hf⟩ := bnd_some hf
        refine k_X9_hasRun X h ey2 k_X9_114 dX9_countRuns_13 hl.1 ⟨(Nat.le_of_ble_eq_true rfl), (Nat.le_of_ble_eq_true rfl)⟩ (Nat.le_of_ble_eq_true rfl) ⟨Nat.zero_le _, Nat.zero_le _⟩ ?_
        refine lv_if_eq (tgt := 23) hx hb dX9_countRuns_16 (by decide) (fun c3 => ?_) (fun c3 => ?_)
        · have hf := if_t c3 hf
          refine lv_iconst (v := 0) hx hb dX9_countRuns_23 (by decide) ?_
          exact J24 _ _ _ _ hf (lv_sub hl [0, 2] rfl)
        · have hf := if_f c3 hf
          refine lv_iconst (v := 1) hx hb dX9_countRuns_19 (by decide) ?_
          refine lv_goto (tgt := 24) hx hb dX9_countRuns_20 (by decide) ?_
          exact J24 _ _ _ _ hf (lv_sub hl [0, 2] rfl)
  have hl : lv_has ls 3 [(0, .ref (gq G 0))] := hl
  unfold f_X9_countRuns at hf
  refine lv_iconst (v := 0) hx hb dX9_countRuns_0 (by decide) ?_
  refine lv_istore_n (lv' := [(1, .int ((0 : Int32))), (0, .ref (gq G 0))]) hx hb dX9_countRuns_1 rfl hl (by decide) rfl (fun ls hl => ?_)
  refine lv_iconst (v := 0) hx hb dX9_countRuns_2 (by decide) ?_
  refine lv_istore_n (lv' := [(2, .int ((0 : Int32))), (1, .int ((0 : Int32))), (0, .ref (gq G 0))]) hx hb dX9_countRuns_3 rfl hl (by decide) rfl (fun ls hl => ?_)
  exact L4 FU _ _ _ hf (lv_sub hl [2, 1, 0] rfl)
theorem m_X9_countRuns : Cond.instanceMethod yX9_countRuns ∈ lw_good ∧ Cond.selects RX9 yX9_countRuns yX9_countRuns ∈ lw_good ∧ Cond.initialized RX9 ∈ lw_good ∧ Cond.code yX9_countRuns cX9_countRuns 3 (some .int) ∈ lw_good := by decide +kernel
theorem k_X9_countRuns {p : Program} {l : Launch} {e : Env} {R : Room} {s : State} {m : MethodId} {args : Array Value} {below : List Frame} {meth : Method} {c : Code} {H : Heap} {locs : List Loc} {cells slots : Nat} {Q : State → Prop} {cc : ByteArray} {nL pc idx : Nat} {ls : Array Slot} {rest : List Value} {own : String} {G : Gm} {A : Nat → Prop} {H0 : Heap} {la : Nat} {w : CW} {r : Int32} (X : CX own cc nL G p s m args c) (h : CH G (cw G la w) A H0 H locs) (hf : f_X9_countRuns w = some r) (hlk : Cond.methodLink own idx yX9_countRuns ∈ lw_good) (hd : decode cc pc = .ok (.invokevirtual idx, 3)) (hsz : ls.size = nL) (hR : 4 ≤ R.frames ∧ 86 ≤ R.locals) (hrest : (rest.map fun v => v.category).sum ≤ 8) (hk : cells ≤ R.cells ∧ slots ≤ R.slots) (k : W p l e R s m args below meth c H locs cells slots Q (F0 m (pc + 3) ls (.int r :: rest))) : W p l e R s m args below meth c H locs cells slots Q (F0 m pc ls (.ref (gq G 0) :: rest)) :=
  fin_r (runV (As := []) X.1 0 (t_X9_countRuns l G la w r hf) rfl rfl hlk m_X9_countRuns (by decide +kernel) ⟨hR.1, hR.2⟩ ⟨blindR, va_recv X.2.1 h.1 (ci := 8) (q0 := 0) rfl rfl, preR X.2 h⟩ rfl hsz hrest hd hk) k
def f_X6_moneyInside_l4_body (kself : (Int32 → Int32 → CW → Option Int32)) (x1 : Int32) (x2 : Int32) (w : CW) : Option Int32 :=
 if ((12 : Int32)) ≤ x2 then
 (some x1)
 else
 ((f_X1_get (((8420 : Int32)) + x2) w).bind fun y2 =>
 (f_X1_get (((8432 : Int32)) + x2) w).bind fun y3 =>
 kself (x1 + (y2 * y3)) (x2 + (1 : Int32)) w)
def f_X6_moneyInside_l4 : Nat → Int32 → Int32 → CW → Option Int32
  | 0, _, _, _ => none
  | n + 1, x1, x2, w => f_X6_moneyInside_l4_body (f_X6_moneyInside_l4 n) x1 x2 w
def f_X6_moneyInside (w : CW) : Option Int32 :=
 f_X6_moneyInside_l4 FU ((0 : Int32)) ((0 : Int32)) w
set_option maxHeartbeats 4000000 in
set_option maxRecDepth 100000 in
theorem t_X6_moneyInside (l : Launch) (G : Gm) (la : Nat) (w : CW) (r : Int32) (hf : f_X6_moneyInside w = some r) : MetR l yX6_moneyInside cX6_moneyInside 3 (some .int) 1 21 G (cw G la w) [.ref (gq G 2)] (.int r) := by
  refine ent (own := RX6) (As := [.ref (gq G 2)]) (by decide +kernel) rfl (Nat.le_of_ble_eq_true rfl) (fun _ _ h => h.1) ?_
  intro p e s m args below meth c ls B hr hlocks hv hl
  obtain ⟨-, hP, hKK, hD⟩ := hv
  have X : CX RX6 cX6_moneyInside 3 G p s m args c := ⟨B, hKK⟩
  obtain ⟨hx, hb, hml, hown, hts⟩ := id B
  have h : CH G (cw G la w) (fun _ => True) s.heap s.heap [] := ⟨hP, hD, va_S.rf⟩
  have L4 : ∀ (n4 : Nat) (x1 : Int32) (x2 : Int32) (ls : Array Slot), f_X6_moneyInside_l4 n4 x1 x2 w = some r → lv_has ls 3 [(0, .ref (gq G 2)), (1, .int x1), (2, .int x2)] → W p l e { frames := 1, cells := 0, slots := 0, locals := 21 } s m args below meth c s.heap [] 0 0 (MQ below (QcV (.int r)) args s 0 0 (fun _ => False)) (F0 m 4 ls []) := by
    intro n4
    induction n4 with
    | zero =>
      intro x1 x2 ls hf hl
      cases (show (none : Option Int32) = some _ from hf)
    | succ n4 ih4 =>
      intro x1 x2 ls hf hl
      have hf : f_X6_moneyInside_l4_body (f_X6_moneyInside_l4 n4) x1 x2 w = _ := hf
      unfold f_X6_moneyInside_l4_body at hf
      refine lv_iload_n hx hb dX6_moneyInside_4 rfl (lv_at hl 2 rfl) ?_
      refine lv_bipush (v := 12) hx hb dX6_moneyInside_5 (by decide) ?_
      refine lv_icmp_ge (tgt := 44) hx hb dX6_moneyInside_7 (by decide) (fun c1 => ?_) (fun c1 => ?_)
      · have hf := if_t c1 hf
        refine lv_iload_n hx hb dX6_moneyInside_44 rfl (lv_at hl 1 rfl) ?_
        cases hf
        exact rr_i X.1 hr hlocks dX6_moneyInside_45
      · have hf := if_f c1 hf
        refine lv_iload_n hx hb dX6_moneyInside_10 rfl (lv_at hl 1 rfl) ?_
        refine lv_aload_n hx hb dX6_moneyInside_11 rfl (lv_at hl 0 rfl) ?_
        refine GC_2_0 X h k_X6_29 dX6_moneyInside_12 ?_
        refine lv_sipush (v := 8420) hx hb dX6_moneyInside_15 (by decide) ?_
        refine lv_iload_n hx hb dX6_moneyInside_18 rfl (lv_at hl 2 rfl) ?_
        refine lv_iadd hx hb dX6_moneyInside_19 ?_
        obtain ⟨y2, ey2, hf⟩ := bnd_some hf
        refine k_X1_get X h ey2 k_X6_41 dX6_moneyInside_20 hl.1 ⟨(Nat.le_of_ble_eq_true rfl), (Nat.le_of_ble_eq_true rfl)⟩ (Nat.le_of_ble_eq_true rfl) ⟨Nat.zero_le _, Nat.zero_le _⟩ ?_
        refine lv_aload_n hx hb dX6_moneyInside_23 rfl (lv_at hl 0 rfl) ?_
        refine GC_2_0 X h k_X6_29 dX6_moneyInside_24 ?_
        refine lv_sipush (v := 8432) hx hb dX6_moneyInside_27 (by decide) ?_
        refine lv_iload_n hx hb dX6_moneyInside_30 rfl (lv_at hl 2 rfl) ?_
        refine lv_iadd hx hb dX6_moneyInside_31 ?_
        obtain ⟨y3, ey3, hf⟩ := bnd_some hf
        refine k_X1_get X h ey3 k_X6_41 dX6_moneyInside_32 hl.1 ⟨(Nat.le_of_ble_eq_true rfl), (Nat.le_of_ble_eq_true rfl)⟩ (Nat.le_of_ble_eq_true rfl) ⟨Nat.zero_le _, Nat.zero_le _⟩ ?_
        refine lv_imul hx hb dX6_moneyInside_35 ?_
        refine lv_iadd hx hb dX6_moneyInside_36 ?_
        refine lv_istore_n (lv' := [(1, .int (x1 + (y2 * y3))), (0, .ref (gq G 2)), (2, .int x2)]) hx hb dX6_moneyInside_37 rfl hl (by decide) rfl (fun ls hl => ?_)
        refine lv_iinc (v := x2 + (1 : Int32)) (lv' := [(2, .int (x2 + (1 : Int32))), (1, .int (x1 + (y2 * y3))), (0, .ref (gq G 2))]) hx hb dX6_moneyInside_38 hl (k := 2) rfl (by rfl) (by decide) rfl (fun ls hl => ?_)
        refine lv_goto (tgt := 4) hx hb dX6_moneyInside_41 (by decide) ?_
        exact ih4 _ _ _ hf (lv_sub hl [2, 1, 0] rfl)
  have hl : lv_has ls 3 [(0, .ref (gq G 2))] := hl
  unfold f_X6_moneyInside at hf
  refine lv_iconst (v := 0) hx hb dX6_moneyInside_0 (by decide) ?_
  refine lv_istore_n (lv' := [(1, .int ((0 : Int32))), (0, .ref (gq G 2))]) hx hb dX6_moneyInside_1 rfl hl (by decide) rfl (fun ls hl => ?_)
  refine lv_iconst (v := 0) hx hb dX6_moneyInside_2 (by decide) ?_
  refine lv_istore_n (lv' := [(2, .int ((0 : Int32))), (1, .int ((0 : Int32))), (0, .ref (gq G 2))]) hx hb dX6_moneyInside_3 rfl hl (by decide) rfl (fun ls hl => ?_)
  exact L4 FU _ _ _ hf (lv_sub hl [2, 1, 0] rfl)
theorem m_X6_moneyInside : Cond.instanceMethod yX6_moneyInside ∈ lw_good ∧ Cond.selects RX6 yX6_moneyInside yX6_moneyInside ∈ lw_good ∧ Cond.initialized RX6 ∈ lw_good ∧ Cond.code yX6_moneyInside cX6_moneyInside 3 (some .int) ∈ lw_good := by decide +kernel
theorem k_X6_moneyInside {p : Program} {l : Launch} {e : Env} {R : Room} {s : State} {m : MethodId} {args : Array Value} {below : List Frame} {meth : Method} {c : Code} {H : Heap} {locs : List Loc} {cells slots : Nat} {Q : State → Prop} {cc : ByteArray} {nL pc idx : Nat} {ls : Array Slot} {rest : List Value} {own : String} {G : Gm} {A : Nat → Prop} {H0 : Heap} {la : Nat} {w : CW} {r : Int32} (X : CX own cc nL G p s m args c) (h : CH G (cw G la w) A H0 H locs) (hf : f_X6_moneyInside w = some r) (hlk : Cond.methodLink own idx yX6_moneyInside ∈ lw_good) (hd : decode cc pc = .ok (.invokevirtual idx, 3)) (hsz : ls.size = nL) (hR : 2 ≤ R.frames ∧ 43 ≤ R.locals) (hrest : (rest.map fun v => v.category).sum ≤ 8) (hk : cells ≤ R.cells ∧ slots ≤ R.slots) (k : W p l e R s m args below meth c H locs cells slots Q (F0 m (pc + 3) ls (.int r :: rest))) : W p l e R s m args below meth c H locs cells slots Q (F0 m pc ls (.ref (gq G 2) :: rest)) :=
  fin_r (runV (As := []) X.1 0 (t_X6_moneyInside l G la w r hf) rfl rfl hlk m_X6_moneyInside (by decide +kernel) ⟨hR.1, hR.2⟩ ⟨blindR, va_recv X.2.1 h.1 (ci := 5) (q0 := 2) rfl rfl, preR X.2 h⟩ rfl hsz hrest hd hk) k
def f_X1_keptMinutes (w : CW) : Option Int32 :=
 some ((w.1 1 5) - (w.1 1 6))
set_option maxHeartbeats 4000000 in
set_option maxRecDepth 100000 in
theorem t_X1_keptMinutes (l : Launch) (G : Gm) (la : Nat) (w : CW) (r : Int32) (hf : f_X1_keptMinutes w = some r) : MetR l yX1_keptMinutes cX1_keptMinutes 1 (some .int) 0 0 G (cw G la w) [.ref (gq G 1)] (.int r) := by
  refine ent (own := RX1) (As := [.ref (gq G 1)]) (by decide +kernel) rfl (Nat.le_of_ble_eq_true rfl) (fun _ _ h => h.1) ?_
  intro p e s m args below meth c ls B hr hlocks hv hl
  obtain ⟨-, hP, hKK, hD⟩ := hv
  have X : CX RX1 cX1_keptMinutes 1 G p s m args c := ⟨B, hKK⟩
  obtain ⟨hx, hb, hml, hown, hts⟩ := id B
  have h : CH G (cw G la w) (fun _ => True) s.heap s.heap [] := ⟨hP, hD, va_S.rf⟩
  have hl : lv_has ls 1 [(0, .ref (gq G 1))] := hl
  unfold f_X1_keptMinutes at hf
  refine lv_aload_n hx hb dX1_keptMinutes_0 rfl (lv_at hl 0 rfl) ?_
  refine GC_1_5 X h k_X1_28 dX1_keptMinutes_1 ?_
  refine lv_aload_n hx hb dX1_keptMinutes_4 rfl (lv_at hl 0 rfl) ?_
  refine GC_1_6 X h k_X1_31 dX1_keptMinutes_5 ?_
  refine lv_isub hx hb dX1_keptMinutes_8 ?_
  cases hf
  exact rr_i X.1 hr hlocks dX1_keptMinutes_9
theorem m_X1_keptMinutes : Cond.instanceMethod yX1_keptMinutes ∈ lw_good ∧ Cond.selects RX1 yX1_keptMinutes yX1_keptMinutes ∈ lw_good ∧ Cond.initialized RX1 ∈ lw_good ∧ Cond.code yX1_keptMinutes cX1_keptMinutes 1 (some .int) ∈ lw_good := by decide +kernel
theorem k_X1_keptMinutes {p : Program} {l : Launch} {e : Env} {R : Room} {s : State} {m : MethodId} {args : Array Value} {below : List Frame} {meth : Method} {c : Code} {H : Heap} {locs : List Loc} {cells slots : Nat} {Q : State → Prop} {cc : ByteArray} {nL pc idx : Nat} {ls : Array Slot} {rest : List Value} {own : String} {G : Gm} {A : Nat → Prop} {H0 : Heap} {la : Nat} {w : CW} {r : Int32} (X : CX own cc nL G p s m args c) (h : CH G (cw G la w) A H0 H locs) (hf : f_X1_keptMinutes w = some r) (hlk : Cond.methodLink own idx yX1_keptMinutes ∈ lw_good) (hd : decode cc pc = .ok (.invokevirtual idx, 3)) (hsz : ls.size = nL) (hR : 1 ≤ R.frames ∧ 20 ≤ R.locals) (hrest : (rest.map fun v => v.category).sum ≤ 8) (hk : cells ≤ R.cells ∧ slots ≤ R.slots) (k : W p l e R s m args below meth c H locs cells slots Q (F0 m (pc + 3) ls (.int r :: rest))) : W p l e R s m args below meth c H locs cells slots Q (F0 m pc ls (.ref (gq G 1) :: rest)) :=
  fin_r (runV (As := []) X.1 0 (t_X1_keptMinutes l G la w r hf) rfl rfl hlk m_X1_keptMinutes (by decide +kernel) ⟨hR.1, hR.2⟩ ⟨blindR, va_recv X.2.1 h.1 (ci := 1) (q0 := 1) rfl rfl, preR X.2 h⟩ rfl hsz hrest hd hk) k
def f_X9_count (x1 : Int32) (w : CW) : Option Int32 :=
 if x1 = (0 : Int32) then
 ((f_X1_time w).bind fun y2 =>
 some y2)
 else
 (if x1 = (1 : Int32) then
 ((f_X9_countMachines w).bind fun y4 =>
 some y4)
 else
 (if x1 = (2 : Int32) then
 ((f_X9_countPrograms w).bind fun y6 =>
 some y6)
 else
 (if x1 = (3 : Int32) then
 ((f_X1_get ((8550 : Int32)) w).bind fun y8 =>
 some y8)
 else
 (if x1 = (4 : Int32) then
 (some (w.1 0 10))
 else
 (if x1 = (5 : Int32) then
 ((f_X9_countRuns w).bind fun y11 =>
 some y11)
 else
 (if x1 = (6 : Int32) then
 ((f_X6_moneyInside w).bind fun y13 =>
 some y13)
 else
 (if x1 = (7 : Int32) then
 ((f_X1_get ((8552 : Int32)) w).bind fun y15 =>
 some y15)
 else
 (if x1 = (8 : Int32) then
 ((f_X1_get ((8553 : Int32)) w).bind fun y17 =>
 some y17)
 else
 (if x1 = (9 : Int32) then
 ((f_X1_get ((8554 : Int32)) w).bind fun y19 =>
 some y19)
 else
 (if x1 = (10 : Int32) then
 ((f_X1_get ((8555 : Int32)) w).bind fun y21 =>
 some y21)
 else
 (if x1 = (11 : Int32) then
 ((f_X1_keptMinutes w).bind fun y23 =>
 some y23)
 else
 (if x1 = (12 : Int32) then
 (some (w.1 0 11))
 else
 (some ((-2 : Int32)))))))))))))))
set_option maxHeartbeats 4000000 in
set_option maxRecDepth 100000 in
theorem t_X9_count (l : Launch) (G : Gm) (la : Nat) (w : CW) (x1 : Int32) (r : Int32) (hf : f_X9_count x1 w = some r) : MetR l yX9_count cX9_count 2 (some .int) 4 86 G (cw G la w) [.ref (gq G 0), .int x1] (.int r) := by
  refine ent (own := RX9) (As := [.ref (gq G 0), .int x1]) (by decide +kernel) rfl (Nat.le_of_ble_eq_true rfl) (fun _ _ h => h.1) ?_
  intro p e s m args below meth c ls B hr hlocks hv hl
  obtain ⟨-, hP, hKK, hD⟩ := hv
  have X : CX RX9 cX9_count 2 G p s m args c := ⟨B, hKK⟩
  obtain ⟨hx, hb, hml, hown, hts⟩ := id B
  have h : CH G (cw G la w) (fun _ => True) s.heap s.heap [] := ⟨hP, hD, va_S.rf⟩
  have hl : lv_has ls 2 [(0, .ref (gq G 0)), (1, .int x1)] := hl
  unfold f_X9_count at hf
  refine lv_iload_n hx hb dX9_count_0 rfl (lv_at hl 1 rfl) ?_
  by_cases c1 : x1 = (0 : Int32)
  · have hf := if_t c1 hf
    refine lv_tableIn (tgt := 68) hx hb dX9_count_1 (by rw [c1]; decide) (by rw [c1]; decide) (by rw [c1]; rfl) (by decide) ?_
    refine lv_aload_n hx hb dX9_count_68 rfl (lv_at hl 0 rfl) ?_
    refine GC_0_0 X h k_X9_12 dX9_count_69 ?_
    obtain ⟨y2, ey2, hf⟩ := bnd_some hf
    refine k_X1_time X h ey2 k_X9_290 dX9_count_72 hl.1 ⟨(Nat.le_of_ble_eq_true rfl), (Nat.le_of_ble_eq_true rfl)⟩ (Nat.le_of_ble_eq_true rfl) ⟨Nat.zero_le _, Nat.zero_le _⟩ ?_
    cases hf
    exact rr_i X.1 hr hlocks dX9_count_75
  · have hf := if_f c1 hf
    have nc1 := lv_neT (a := 0) c1 (by decide)
    by_cases c3 : x1 = (1 : Int32)
    · have hf := if_t c3 hf
      refine lv_tableIn (tgt := 76) hx hb dX9_count_1 (by rw [c3]; decide) (by rw [c3]; decide) (by rw [c3]; rfl) (by decide) ?_
      refine lv_aload_n hx hb dX9_count_76 rfl (lv_at hl 0 rfl) ?_
      obtain ⟨y4, ey4, hf⟩ := bnd_some hf
      refine k_X9_countMachines X h ey4 k_X9_309 dX9_count_77 hl.1 ⟨(Nat.le_of_ble_eq_true rfl), (Nat.le_of_ble_eq_true rfl)⟩ (Nat.le_of_ble_eq_true rfl) ⟨Nat.zero_le _, Nat.zero_le _⟩ ?_
      cases hf
      exact rr_i X.1 hr hlocks dX9_count_80
    · have hf := if_f c3 hf
      have nc3 := lv_neT (a := 1) c3 (by decide)
      by_cases c5 : x1 = (2 : Int32)
      · have hf := if_t c5 hf
        refine lv_tableIn (tgt := 81) hx hb dX9_count_1 (by rw [c5]; decide) (by rw [c5]; decide) (by rw [c5]; rfl) (by decide) ?_
        refine lv_aload_n hx hb dX9_count_81 rfl (lv_at hl 0 rfl) ?_
        obtain ⟨y6, ey6, hf⟩ := bnd_some hf
        refine k_X9_countPrograms X h ey6 k_X9_312 dX9_count_82 hl.1 ⟨(Nat.le_of_ble_eq_true rfl), (Nat.le_of_ble_eq_true rfl)⟩ (Nat.le_of_ble_eq_true rfl) ⟨Nat.zero_le _, Nat.zero_le _⟩ ?_
        cases hf
        exact rr_i X.1 hr hlocks dX9_count_85
      · have hf := if_f c5 hf
        have nc5 := lv_neT (a := 2) c5 (by decide)
        by_cases c7 : x1 = (3 : Int32)
        · have hf := if_t c7 hf
          refine lv_tableIn (tgt := 86) hx hb dX9_count_1 (by rw [c7]; decide) (by rw [c7]; decide) (by rw [c7]; rfl) (by decide) ?_
          refine lv_aload_n hx hb dX9_count_86 rfl (lv_at hl 0 rfl) ?_
          refine GC_0_0 X h k_X9_12 dX9_count_87 ?_
          refine lv_sipush (v := 8550) hx hb dX9_count_90 (by decide) ?_
          obtain ⟨y8, ey8, hf⟩ := bnd_some hf
          refine k_X1_get X h ey8 k_X9_175 dX9_count_93 hl.1 ⟨(Nat.le_of_ble_eq_true rfl), (Nat.le_of_ble_eq_true rfl)⟩ (Nat.le_of_ble_eq_true rfl) ⟨Nat.zero_le _, Nat.zero_le _⟩ ?_
          cases hf
          exact rr_i X.1 hr hlocks dX9_count_96
        · have hf := if_f c7 hf
          have nc7 := lv_neT (a := 3) c7 (by decide)
          by_cases c9 : x1 = (4 : Int32)
          · have hf := if_t c9 hf
            refine lv_tableIn (tgt := 97) hx hb dX9_count_1 (by rw [c9]; decide) (by rw [c9]; decide) (by rw [c9]; rfl) (by decide) ?_
            refine lv_aload_n hx hb dX9_count_97 rfl (lv_at hl 0 rfl) ?_
            refine GC_0_10 X h k_X9_74 dX9_count_98 ?_
            cases hf
            exact rr_i X.1 hr hlocks dX9_count_101
          · have hf := if_f c9 hf
            have nc9 := lv_neT (a := 4) c9 (by decide)
            by_cases c10 : x1 = (5 : Int32)
            · have hf := if_t c10 hf
              refine lv_tableIn (tgt := 102) hx hb dX9_count_1 (by rw [c10]; decide) (by rw [c10]; decide) (by rw [c10]; rfl) (by decide) ?_
              refine lv_aload_n hx hb dX9_count_102 rfl (lv_at hl 0 rfl) ?_
              obtain ⟨y11, ey11, hf⟩ := bnd_some hf
              refine k_X9_countRuns X h ey11 k_X9_315 dX9_count_103 hl.1 ⟨(Nat.le_of_ble_eq_true rfl), (Nat.le_of_ble_eq_true rfl)⟩ (Nat.le_of_ble_eq_true rfl) ⟨Nat.zero_le _, Nat.zero_le _⟩ ?_
              cases hf
              exact rr_i X.1 hr hlocks dX9_count_106
            · have hf := if_f c10 hf
              have nc10 := lv_neT (a := 5) c10 (by decide)
              by_cases c12 : x1 = (6 : Int32)
              · have hf := if_t c12 hf
                refine lv_tableIn (tgt := 107) hx hb dX9_count_1 (by rw [c12]; decide) (by rw [c12]; decide) (by rw [c12]; rfl) (by decide) ?_
                refine lv_aload_n hx hb dX9_count_107 rfl (lv_at hl 0 rfl) ?_
                refine GC_0_1 X h k_X9_21 dX9_count_108 ?_
                obtain ⟨y13, ey13, hf⟩ := bnd_some hf
                refine k_X6_moneyInside X h ey13 k_X9_318 dX9_count_111 hl.1 ⟨(Nat.le_of_ble_eq_true rfl), (Nat.le_of_ble_eq_true rfl)⟩ (Nat.le_of_ble_eq_true rfl) ⟨Nat.zero_le _, Nat.zero_le _⟩ ?_
                cases hf
                exact rr_i X.1 hr hlocks dX9_count_114
              · have hf := if_f c12 hf
                have nc12 := lv_neT (a := 6) c12 (by decide)
                by_cases c14 : x1 = (7 : Int32)
                · have hf := if_t c14 hf
                  refine lv_tableIn (tgt := 115) hx hb dX9_count_1 (by rw [c14]; decide) (by rw [c14]; decide) (by rw [c14]; rfl) (by decide) ?_
                  refine lv_aload_n hx hb dX9_count_115 rfl (lv_at hl 0 rfl) ?_
                  refine GC_0_0 X h k_X9_12 dX9_count_116 ?_
                  refine lv_sipush (v := 8552) hx hb dX9_count_119 (by decide) ?_
                  obtain ⟨y15, ey15, hf⟩ := bnd_some hf
                  refine k_X1_get X h ey15 k_X9_175 dX9_count_122 hl.1 ⟨(Nat.le_of_ble_eq_true rfl), (Nat.le_of_ble_eq_true rfl)⟩ (Nat.le_of_ble_eq_true rfl) ⟨Nat.zero_le _, Nat.zero_le _⟩ ?_
                  cases hf
                  exact rr_i X.1 hr hlocks dX9_count_125
                · have hf := if_f c14 hf
                  have nc14 := lv_neT (a := 7) c14 (by decide)
                  by_cases c16 : x1 = (8 : Int32)
                  · have hf := if_t c16 hf
                    refine lv_tableIn (tgt := 126) hx hb dX9_count_1 (by rw [c16]; decide) (by rw [c16]; decide) (by rw [c16]; rfl) (by decide) ?_
                    refine lv_aload_n hx hb dX9_count_126 rfl (lv_at hl 0 rfl) ?_
                    refine GC_0_0 X h k_X9_12 dX9_count_127 ?_
                    refine lv_sipush (v := 8553) hx hb dX9_count_130 (by decide) ?_
                    obtain ⟨y17, ey17, hf⟩ := bnd_some hf
                    refine k_X1_get X h ey17 k_X9_175 dX9_count_133 hl.1 ⟨(Nat.le_of_ble_eq_true rfl), (Nat.le_of_ble_eq_true rfl)⟩ (Nat.le_of_ble_eq_true rfl) ⟨Nat.zero_le _, Nat.zero_le _⟩ ?_
                    cases hf
                    exact rr_i X.1 hr hlocks dX9_count_136
                  · have hf := if_f c16 hf
                    have nc16 := lv_neT (a := 8) c16 (by decide)
                    by_cases c18 : x1 = (9 : Int32)
                    · have hf := if_t c18 hf
                      refine lv_tableIn (tgt := 137) hx hb dX9_count_1 (by rw [c18]; decide) (by rw [c18]; decide) (by rw [c18]; rfl) (by decide) ?_
                      refine lv_aload_n hx hb dX9_count_137 rfl (lv_at hl 0 rfl) ?_
                      refine GC_0_0 X h k_X9_12 dX9_count_138 ?_
                      refine lv_sipush (v := 8554) hx hb dX9_count_141 (by decide) ?_
                      obtain ⟨y19, ey19, hf⟩ := bnd_some hf
                      refine k_X1_get X h ey19 k_X9_175 dX9_count_144 hl.1 ⟨(Nat.le_of_ble_eq_true rfl), (Nat.le_of_ble_eq_true rfl)⟩ (Nat.le_of_ble_eq_true rfl) ⟨Nat.zero_le _, Nat.zero_le _⟩ ?_
                      cases hf
                      exact rr_i X.1 hr hlocks dX9_count_147
                    · have hf := if_f c18 hf
                      have nc18 := lv_neT (a := 9) c18 (by decide)
                      by_cases c20 : x1 = (10 : Int32)
                      · have hf := if_t c20 hf
                        refine lv_tableIn (tgt := 148) hx hb dX9_count_1 (by rw [c20]; decide) (by rw [c20]; decide) (by rw [c20]; rfl) (by decide) ?_
                        refine lv_aload_n hx hb dX9_count_148 rfl (lv_at hl 0 rfl) ?_
                        refine GC_0_0 X h k_X9_12 dX9_count_149 ?_
                        refine lv_sipush (v := 8555) hx hb dX9_count_152 (by decide) ?_
                        obtain ⟨y21, ey21, hf⟩ := bnd_some hf
                        refine k_X1_get X h ey21 k_X9_175 dX9_count_155 hl.1 ⟨(Nat.le_of_ble_eq_true rfl), (Nat.le_of_ble_eq_true rfl)⟩ (Nat.le_of_ble_eq_true rfl) ⟨Nat.zero_le _, Nat.zero_le _⟩ ?_
                        cases hf
                        exact rr_i X.1 hr hlocks dX9_count_158
                      · have hf := if_f c20 hf
                        have nc20 := lv_neT (a := 10) c20 (by decide)
                        by_cases c22 : x1 = (11 : Int32)
                        · have hf := if_t c22 hf
                          refine lv_tableIn (tgt := 159) hx hb dX9_count_1 (by rw [c22]; decide) (by rw [c22]; decide) (by rw [c22]; rfl) (by decide) ?_
                          refine lv_aload_n hx hb dX9_count_159 rfl (lv_at hl 0 rfl) ?_
                          refine GC_0_0 X h k_X9_12 dX9_count_160 ?_
                          obtain ⟨y23, ey23, hf⟩ := bnd_some hf
                          refine k_X1_keptMinutes X h ey23 k_X9_321 dX9_count_163 hl.1 ⟨(Nat.le_of_ble_eq_true rfl), (Nat.le_of_ble_eq_true rfl)⟩ (Nat.le_of_ble_eq_true rfl) ⟨Nat.zero_le _, Nat.zero_le _⟩ ?_
                          cases hf
                          exact rr_i X.1 hr hlocks dX9_count_166
                        · have hf := if_f c22 hf
                          have nc22 := lv_neT (a := 11) c22 (by decide)
                          by_cases c24 : x1 = (12 : Int32)
                          · have hf := if_t c24 hf
                            refine lv_tableIn (tgt := 167) hx hb dX9_count_1 (by rw [c24]; decide) (by rw [c24]; decide) (by rw [c24]; rfl) (by decide) ?_
                            refine lv_aload_n hx hb dX9_count_167 rfl (lv_at hl 0 rfl) ?_
                            refine GC_0_11 X h k_X9_78 dX9_count_168 ?_
                            cases hf
                            exact rr_i X.1 hr hlocks dX9_count_171
                          · have hf := if_f c24 hf
                            have nc24 := lv_neT (a := 12) c24 (by decide)
                            refine lv_tableOut (tgt := 172) hx hb dX9_count_1 (by omega) (by decide) ?_
                            refine lv_bipush (v := (-2)) hx hb dX9_count_172 (by decide) ?_
                            cases hf
                            exact rr_i X.1 hr hlocks dX9_count_174
theorem m_X9_count : Cond.instanceMethod yX9_count ∈ lw_good ∧ Cond.selects RX9 yX9_count yX9_count ∈ lw_good ∧ Cond.initialized RX9 ∈ lw_good ∧ Cond.code yX9_count cX9_count 2 (some .int) ∈ lw_good := by decide +kernel
theorem k_X9_count {p : Program} {l : Launch} {e : Env} {R : Room} {s : State} {m : MethodId} {args : Array Value} {below : List Frame} {meth : Method} {c : Code} {H : Heap} {locs : List Loc} {cells slots : Nat} {Q : State → Prop} {cc : ByteArray} {nL pc idx : Nat} {ls : Array Slot} {rest : List Value} {own : String} {G : Gm} {A : Nat → Prop} {H0 : Heap} {la : Nat} {w : CW} {x1 : Int32} {r : Int32} (X : CX own cc nL G p s m args c) (h : CH G (cw G la w) A H0 H locs) (hf : f_X9_count x1 w = some r) (hlk : Cond.methodLink own idx yX9_count ∈ lw_good) (hd : decode cc pc = .ok (.invokevirtual idx, 3)) (hsz : ls.size = nL) (hR : 5 ≤ R.frames ∧ 107 ≤ R.locals) (hrest : (rest.map fun v => v.category).sum ≤ 8) (hk : cells ≤ R.cells ∧ slots ≤ R.slots) (k : W p l e R s m args below meth c H locs cells slots Q (F0 m (pc + 3) ls (.int r :: rest))) : W p l e R s m args below meth c H locs cells slots Q (F0 m pc ls (.int x1 :: .ref (gq G 0) :: rest)) :=
  fin_r (runV (As := [.int x1]) X.1 1 (t_X9_count l G la w x1 r hf) rfl rfl hlk m_X9_count (by decide +kernel) ⟨hR.1, hR.2⟩ ⟨blindR, va_recv X.2.1 h.1 (ci := 8) (q0 := 0) rfl rfl, preR X.2 h⟩ rfl hsz hrest hd hk) k
def f_X1_undoMinutes_b91 (k23 : (Int32 → CW → Option CW)) (x2 : Int32) (w : CW) : Option CW :=
 k23 x2 w
def f_X1_undoMinutes_l23_body (kself : (Int32 → CW → Option CW)) (x2 : Int32) (w : CW) : Option CW :=
 if (w.1 1 4) ≤ x2 then
 (some w)
 else
 (if (w.1 1 4) < ((2 : Int32)) then
 (some w)
 else
 (chk (inb ((cs w 1 4 ((w.1 1 4) - ((2 : Int32)))).1 1 4) (cs w 1 4 ((w.1 1 4) - ((2 : Int32)))).2) (
 (some ((cs w 1 4 ((w.1 1 4) - ((2 : Int32)))).1 13 ((cs w 1 4 ((w.1 1 4) - ((2 : Int32)))).1 1 4).toNatClampNeg)).bind fun z4 =>
 (f_X9_within z4 ((0 : Int32)) ((Int32.ofNat 8556) - ((1 : Int32)))).bind fun y5 =>
 if y5 = 0 then
 (f_X1_undoMinutes_b91 kself x2 (cs w 1 4 ((w.1 1 4) - ((2 : Int32)))))
 else
 (chk (inb (((cs w 1 4 ((w.1 1 4) - ((2 : Int32)))).1 1 4) + ((1 : Int32))) (cs w 1 4 ((w.1 1 4) - ((2 : Int32)))).2) (
 chk (inb z4 8556) (
 (some (cs (cs w 1 4 ((w.1 1 4) - ((2 : Int32)))) 11 z4.toNatClampNeg ((cs w 1 4 ((w.1 1 4) - ((2 : Int32)))).1 13 (((cs w 1 4 ((w.1 1 4) - ((2 : Int32)))).1 1 4) + ((1 : Int32))).toNatClampNeg))).bind fun w9 =>
 f_X1_undoMinutes_b91 kself x2 w9))))))
def f_X1_undoMinutes_l23 : Nat → Int32 → CW → Option CW
  | 0, _, _ => none
  | n + 1, x2, w => f_X1_undoMinutes_l23_body (f_X1_undoMinutes_l23 n) x2 w
def f_X1_undoMinutes (x1 : Int32) (w : CW) : Option CW :=
 (f_X1_slotOf ((cs w 1 5 ((w.1 1 5) - x1)).1 1 5)).bind fun y10 =>
 chk (inb y10 301) (
 (some ((cs w 1 5 ((w.1 1 5) - x1)).1 12 y10.toNatClampNeg)).bind fun z12 =>
 f_X1_undoMinutes_l23 FU z12 (cs w 1 5 ((w.1 1 5) - x1)))
set_option maxHeartbeats 4000000 in
set_option maxRecDepth 100000 in
theorem t_X1_undoMinutes (l : Launch) (G : Gm) (la : Nat) (w0 : CW) (x1 : Int32) (w' : CW) (hf : f_X1_undoMinutes x1 w0 = some w') : MetV l yX1_undoMinutes cX1_undoMinutes 4 2 42 G (cw G la w0) [.ref (gq G 1), .int x1] (fun _ => cw G la (w')) 0 := by
  intro sz
  refine ent (own := RX1) (As := [.ref (gq G 1), .int x1]) (by decide +kernel) rfl (Nat.le_of_ble_eq_true rfl) (fun _ _ h => h.1) ?_
  intro p e s m args below meth c ls B hr hlocks hv hl
  obtain ⟨-, hsz, hP, hKK, hD⟩ := hv
  subst hsz
  have X : CX RX1 cX1_undoMinutes 4 G p s m args c := ⟨B, hKK⟩
  obtain ⟨hx, hb, hml, hown, hts⟩ := id B
  have hA : ∀ q : Nat, s.heap.size ≤ q → va_A (cw G la w0) s.heap.size q := fun q z => Or.inr z
  have h : CH G (cw G la w0) (va_A (cw G la w0) s.heap.size) s.heap s.heap [] := ⟨hP, hD.self, va_S.rf⟩
  have L23 : ∀ (n23 : Nat) (x2 : Int32) (w : CW) (H : Heap) (locs : List Loc) (ls : Array Slot), f_X1_undoMinutes_l23 n23 x2 w = some w' → CH G (cw G la w) (va_A (cw G la w0) s.heap.size) s.heap H locs → lv_has ls 4 [(0, .ref (gq G 1)), (2, .int x2)] → W p l e { frames := 2, cells := 0, slots := 4096 * 0, locals := 42 } s m args below meth c H locs 0 (4096 * 0) (MQ below (QV G (cw G la w0) s.heap.size (fun _ => cw G la (w'))) args s 0 (4096 * 0) (va_A (cw G la w0) s.heap.size)) (F0 m 23 ls []) := by
    intro n23
    induction n23 with
    | zero =>
      intro x2 w H locs ls hf h hl
      cases (show (none : Option CW) = some _ from hf)
    | succ n23 ih23 =>
      have J91 : ∀ (x2 : Int32) (w : CW) (H : Heap) (locs : List Loc) (ls : Array Slot), f_X1_undoMinutes_b91 (f_X1_undoMinutes_l23 n23) x2 w = some w' → CH G (cw G la w) (va_A (cw G la w0) s.heap.size) s.heap H locs → lv_has ls 4 [(0, .ref (gq G 1)), (2, .int x2)] → W p l e { frames := 2, cells := 0, slots := 4096 * 0, locals := 42 } s m args below meth c H locs 0 (4096 * 0) (MQ below (QV G (cw G la w0) s.heap.size (fun _ => cw G la (w'))) args s 0 (4096 * 0) (va_A (cw G la w0) s.heap.size)) (F0 m 91 ls []) := by
        intro x2 w H locs ls hf h hl
        unfold f_X1_undoMinutes_b91 at hf
        refine lv_goto (tgt := 23) hx hb dX1_undoMinutes_91 (by decide) ?_
        exact ih23 _ _ _ _ _ hf h (lv_sub hl [0, 1] rfl)
      intro x2 w H locs ls hf h hl
      have hf : f_X1_undoMinutes_l23_body (f_X1_undoMinutes_l23 n23) x2 w = _ := hf
      unfold f_X1_undoMinutes_l23_body at hf
      refine lv_aload_n hx hb dX1_undoMinutes_23 rfl (lv_at hl 0 rfl) ?_
      refine GC_1_4 X h k_X1_25 dX1_undoMinutes_24 ?_
      refine lv_iload_n hx hb dX1_undoMinutes_27 rfl (lv_at hl 1 rfl) ?_
      refine lv_icmp_le (tgt := 94) hx hb dX1_undoMinutes_28 (by decide) (fun c1 => ?_) (fun c1 => ?_)
      · have hf := if_t c1 hf
        exact e0_v (Wf := cw G la) X.1 hr hlocks hf h dX1_undoMinutes_94
      · have hf := if_f c1 hf
        refine lv_aload_n hx hb dX1_undoMinutes_31 rfl (lv_at hl 0 rfl) ?_
        refine GC_1_4 X h k_X1_25 dX1_undoMinutes_32 ?_
        refine lv_iconst (v := 2) hx hb dX1_undoMinutes_35 (by decide) ?_
        refine lv_icmp_lt (tgt := 94) hx hb dX1_undoMinutes_36 (by decide) (fun c2 => ?_) (fun c2 => ?_)
        · have hf := if_t c2 hf
          exact e0_v (Wf := cw G la) X.1 hr hlocks hf h dX1_undoMinutes_94
        · have hf := if_f c2 hf
          refine lv_aload_n hx hb dX1_undoMinutes_39 rfl (lv_at hl 0 rfl) ?_
          refine lv_dup hx hb dX1_undoMinutes_40 rfl ?_
          refine GC_1_4 X h k_X1_25 dX1_undoMinutes_41 ?_
          refine lv_iconst (v := 2) hx hb dX1_undoMinutes_44 (by decide) ?_
          refine lv_isub hx hb dX1_undoMinutes_45 ?_
          refine PC_1_4 X h k_X1_25 dX1_undoMinutes_46 (fun H locs h => ?_)
          refine lv_aload_n hx hb dX1_undoMinutes_49 rfl (lv_at hl 0 rfl) ?_
          refine GC_1_2 X h k_X1_18 dX1_undoMinutes_50 ?_
          refine lv_aload_n hx hb dX1_undoMinutes_53 rfl (lv_at hl 0 rfl) ?_
          refine GC_1_4 X h k_X1_25 dX1_undoMinutes_54 ?_
          obtain ⟨c3, hf⟩ := chk_some hf
          refine LC_13 X h c3 dX1_undoMinutes_57 ?_
          obtain ⟨z4, ez4, hf⟩ := bnd_some hf
          refine nm_i (Option.some.inj ez4) ?_
          refine lv_istore_n (lv' := [(3, .int z4), (0, .ref (gq G 1)), (2, .int x2)]) hx hb dX1_undoMinutes_58 rfl hl (by decide) rfl (fun ls hl => ?_)
          refine lv_iload_n hx hb dX1_undoMinutes_59 rfl (lv_at hl 0 rfl) ?_
          refine lv_iconst (v := 0) hx hb dX1_undoMinutes_60 (by decide) ?_
          refine lv_aload_n hx hb dX1_undoMinutes_61 rfl (lv_at hl 1 rfl) ?_
          refine GC_1_0 X h k_X1_9 dX1_undoMinutes_62 ?_
          refine NC_11 X h dX1_undoMinutes_65 ?_
          refine lv_iconst (v := 1) hx hb dX1_undoMinutes_66 (by decide) ?_
          refine lv_isub hx hb dX1_undoMinutes_67 ?_
          obtain ⟨y5, ey5, hf⟩ := bnd_some hf
          refine kn_X9_within X.1 ey5 (X.2.2 _ (by decide +kernel)) dX1_undoMinutes_68 hl.1 ⟨(Nat.le_of_ble_eq_true rfl), (Nat.le_of_ble_eq_true rfl)⟩ (Nat.le_of_ble_eq_true rfl) ⟨Nat.zero_le _, Nat.zero_le _⟩ ?_
          refine lv_if_eq (tgt := 91) hx hb dX1_undoMinutes_71 (by decide) (fun c6 => ?_) (fun c6 => ?_)
          · have hf := if_t c6 hf
            exact J91 _ _ _ _ _ hf h (lv_sub hl [1, 2] rfl)
          · have hf := if_f c6 hf
            refine lv_aload_n hx hb dX1_undoMinutes_74 rfl (lv_at hl 1 rfl) ?_
            refine GC_1_0 X h k_X1_9 dX1_undoMinutes_75 ?_
            refine lv_iload_n hx hb dX1_undoMinutes_78 rfl (lv_at hl 0 rfl) ?_
            refine lv_aload_n hx hb dX1_undoMinutes_79 rfl (lv_at hl 1 rfl) ?_
            refine GC_1_2 X h k_X1_18 dX1_undoMinutes_80 ?_
            refine lv_aload_n hx hb dX1_undoMinutes_83 rfl (lv_at hl 1 rfl) ?_
            refine GC_1_4 X h k_X1_25 dX1_undoMinutes_84 ?_
            refine lv_iconst (v := 1) hx hb dX1_undoMinutes_87 (by decide) ?_
            refine lv_iadd hx hb dX1_undoMinutes_88 ?_
            obtain ⟨c7, hf⟩ := chk_some hf
            refine LC_13 X h c7 dX1_undoMinutes_89 ?_
            obtain ⟨c8, hf⟩ := chk_some hf
            refine SC_11 X h c8 dX1_undoMinutes_90 (fun H locs h => ?_)
            obtain ⟨w9, ew9, hf⟩ := bnd_some hf
            have h := (Option.some.inj ew9) ▸ h
            exact J91 _ _ _ _ _ hf h (lv_sub hl [1, 2] rfl)
  obtain ⟨w, rfl⟩ : ∃ z, z = w0 := ⟨_, rfl⟩
  have hl : lv_has ls 4 [(0, .ref (gq G 1)), (1, .int x1)] := hl
  unfold f_X1_undoMinutes at hf
  refine lv_aload_n hx hb dX1_undoMinutes_0 rfl (lv_at hl 0 rfl) ?_
  refine lv_dup hx hb dX1_undoMinutes_1 rfl ?_
  refine GC_1_5 X h k_X1_28 dX1_undoMinutes_2 ?_
  refine lv_iload_n hx hb dX1_undoMinutes_5 rfl (lv_at hl 1 rfl) ?_
  refine lv_isub hx hb dX1_undoMinutes_6 ?_
  refine PC_1_5 X h k_X1_28 dX1_undoMinutes_7 (fun H locs h => ?_)
  refine lv_aload_n hx hb dX1_undoMinutes_10 rfl (lv_at hl 0 rfl) ?_
  refine GC_1_1 X h k_X1_15 dX1_undoMinutes_11 ?_
  refine lv_aload_n hx hb dX1_undoMinutes_14 rfl (lv_at hl 0 rfl) ?_
  refine GC_1_5 X h k_X1_28 dX1_undoMinutes_15 ?_
  obtain ⟨y10, ey10, hf⟩ := bnd_some hf
  refine k_X1_slotOf X.1 ey10 k_X1_51 dX1_undoMinutes_18 hl.1 ⟨(Nat.le_of_ble_eq_true rfl), (Nat.le_of_ble_eq_true rfl)⟩ (Nat.le_of_ble_eq_true rfl) ⟨Nat.zero_le _, Nat.zero_le _⟩ ?_
  obtain ⟨c11, hf⟩ := chk_some hf
  refine LC_12 X h c11 dX1_undoMinutes_21 ?_
  obtain ⟨z12, ez12, hf⟩ := bnd_some hf
  refine nm_i (Option.some.inj ez12) ?_
  refine lv_istore_n (lv' := [(2, .int z12), (0, .ref (gq G 1)), (1, .int x1)]) hx hb dX1_undoMinutes_22 rfl hl (by decide) rfl (fun ls hl => ?_)
  exact L23 FU _ _ _ _ _ hf h (lv_sub hl [1, 0] rfl)
theorem m_X1_undoMinutes : Cond.instanceMethod yX1_undoMinutes ∈ lw_good ∧ Cond.selects RX1 yX1_undoMinutes yX1_undoMinutes ∈ lw_good ∧ Cond.initialized RX1 ∈ lw_good ∧ Cond.code yX1_undoMinutes cX1_undoMinutes 4 none ∈ lw_good := by decide +kernel
theorem k_X1_undoMinutes {p : Program} {l : Launch} {e : Env} {R : Room} {s : State} {m : MethodId} {args : Array Value} {below : List Frame} {meth : Method} {c : Code} {H : Heap} {locs : List Loc} {cells slots : Nat} {Q : State → Prop} {cc : ByteArray} {nL pc idx : Nat} {ls : Array Slot} {rest : List Value} {own : String} {G : Gm} {A : Nat → Prop} {H0 : Heap} {la : Nat} {w : CW} {x1 : Int32} {w' : CW} (X : CX own cc nL G p s m args c) (h : CH G (cw G la w) A H0 H locs) (hA : ∀ q, H0.size ≤ q → A q) (hf : f_X1_undoMinutes x1 w = some w') (hlk : Cond.methodLink own idx yX1_undoMinutes ∈ lw_good) (hd : decode cc pc = .ok (.invokevirtual idx, 3)) (hsz : ls.size = nL) (hR : 3 ≤ R.frames ∧ 65 ≤ R.locals) (hrest : (rest.map fun v => v.category).sum ≤ 8) (hk : cells ≤ R.cells ∧ slots ≤ R.slots) (k : ∀ (H : Heap) (locs : List Loc), CH G (cw G la (w')) A H0 H locs → W p l e R s m args below meth c H locs cells slots Q (F0 m (pc + 3) ls (rest))) : W p l e R s m args below meth c H locs cells slots Q (F0 m pc ls (.int x1 :: .ref (gq G 1) :: rest)) :=
  fin_v (n := 0) (runV (As := [.int x1]) X.1 1 (t_X1_undoMinutes l G la w x1 w' hf _) rfl rfl hlk m_X1_undoMinutes (by decide +kernel) ⟨hR.1, hR.2⟩ ⟨blindM, va_recv X.2.1 h.1 (ci := 1) (q0 := 1) rfl rfl, preM X.2 h⟩ rfl hsz hrest hd hk) h hA (fun _ H locs h => k H locs h)
def f_X9_back (x1 : Int32) (w : CW) : Option (Int32 × CW) :=
 (f_X9_within x1 ((1 : Int32)) ((300 : Int32))).bind fun y1 =>
 if y1 = 0 then
 (some ((-2 : Int32), w))
 else
 ((f_X1_keptMinutes w).bind fun y3 =>
 if x1 ≤ y3 then
 ((f_X1_undoMinutes x1 w).bind fun y5 =>
 (f_X1_time y5).bind fun y6 =>
 some (y6, y5))
 else
 (some ((-3 : Int32), w)))
set_option maxHeartbeats 4000000 in
set_option maxRecDepth 100000 in
theorem t_X9_back (l : Launch) (G : Gm) (la : Nat) (w0 : CW) (x1 : Int32) (r : Int32) (w' : CW) (hf : f_X9_back x1 w0 = some (r, w')) : MetI l yX9_back cX9_back 2 (some .int) 3 65 G (cw G la w0) [.ref (gq G 0), .int x1] r (fun _ => cw G la (w')) 0 := by
  intro sz
  refine ent (own := RX9) (As := [.ref (gq G 0), .int x1]) (by decide +kernel) rfl (Nat.le_of_ble_eq_true rfl) (fun _ _ h => h.1) ?_
  intro p e s m args below meth c ls B hr hlocks hv hl
  obtain ⟨-, hsz, hP, hKK, hD⟩ := hv
  subst hsz
  have X : CX RX9 cX9_back 2 G p s m args c := ⟨B, hKK⟩
  obtain ⟨hx, hb, hml, hown, hts⟩ := id B
  have hA : ∀ q : Nat, s.heap.size ≤ q → va_A (cw G la w0) s.heap.size q := fun q z => Or.inr z
  have h : CH G (cw G la w0) (va_A (cw G la w0) s.heap.size) s.heap s.heap [] := ⟨hP, hD.self, va_S.rf⟩
  obtain ⟨w, rfl⟩ : ∃ z, z = w0 := ⟨_, rfl⟩
  have hl : lv_has ls 2 [(0, .ref (gq G 0)), (1, .int x1)] := hl
  unfold f_X9_back at hf
  refine lv_iload_n hx hb dX9_back_0 rfl (lv_at hl 1 rfl) ?_
  refine lv_iconst (v := 1) hx hb dX9_back_1 (by decide) ?_
  refine lv_sipush (v := 300) hx hb dX9_back_2 (by decide) ?_
  obtain ⟨y1, ey1, hf⟩ := bnd_some hf
  refine k_X9_within X.1 ey1 k_X9_92 dX9_back_5 hl.1 ⟨(Nat.le_of_ble_eq_true rfl), (Nat.le_of_ble_eq_true rfl)⟩ (Nat.le_of_ble_eq_true rfl) ⟨Nat.zero_le _, Nat.zero_le _⟩ ?_
  refine lv_if_ne (tgt := 14) hx hb dX9_back_8 (by decide) (fun c2 => ?_) (fun c2 => ?_)
  · have hf := if_f c2 hf
    refine lv_iload_n hx hb dX9_back_14 rfl (lv_at hl 1 rfl) ?_
    refine lv_aload_n hx hb dX9_back_15 rfl (lv_at hl 0 rfl) ?_
    refine GC_0_0 X h k_X9_12 dX9_back_16 ?_
    obtain ⟨y3, ey3, hf⟩ := bnd_some hf
    refine k_X1_keptMinutes X h ey3 k_X9_321 dX9_back_19 hl.1 ⟨(Nat.le_of_ble_eq_true rfl), (Nat.le_of_ble_eq_true rfl)⟩ (Nat.le_of_ble_eq_true rfl) ⟨Nat.zero_le _, Nat.zero_le _⟩ ?_
    refine lv_icmp_le (tgt := 28) hx hb dX9_back_22 (by decide) (fun c4 => ?_) (fun c4 => ?_)
    · have hf := if_t c4 hf
      refine lv_aload_n hx hb dX9_back_28 rfl (lv_at hl 0 rfl) ?_
      refine GC_0_0 X h k_X9_12 dX9_back_29 ?_
      refine lv_iload_n hx hb dX9_back_32 rfl (lv_at hl 1 rfl) ?_
      obtain ⟨y5, ey5, hf⟩ := bnd_some hf
      refine k_X1_undoMinutes X h hA ey5 k_X9_324 dX9_back_33 hl.1 ⟨(Nat.le_of_ble_eq_true rfl), (Nat.le_of_ble_eq_true rfl)⟩ (Nat.le_of_ble_eq_true rfl) ⟨Nat.zero_le _, Nat.zero_le _⟩ (fun H locs h => ?_)
      refine lv_aload_n hx hb dX9_back_36 rfl (lv_at hl 0 rfl) ?_
      refine GC_0_0 X h k_X9_12 dX9_back_37 ?_
      obtain ⟨y6, ey6, hf⟩ := bnd_some hf
      refine k_X1_time X h ey6 k_X9_290 dX9_back_40 hl.1 ⟨(Nat.le_of_ble_eq_true rfl), (Nat.le_of_ble_eq_true rfl)⟩ (Nat.le_of_ble_eq_true rfl) ⟨Nat.zero_le _, Nat.zero_le _⟩ ?_
      exact e0_i (Wf := cw G la) X.1 hr hlocks hf h dX9_back_43
    · have hf := if_f c4 hf
      refine lv_bipush (v := (-3)) hx hb dX9_back_25 (by decide) ?_
      exact e0_i (Wf := cw G la) X.1 hr hlocks hf h dX9_back_27
  · have hf := if_t c2 hf
    refine lv_bipush (v := (-2)) hx hb dX9_back_11 (by decide) ?_
    exact e0_i (Wf := cw G la) X.1 hr hlocks hf h dX9_back_13
theorem m_X9_back : Cond.instanceMethod yX9_back ∈ lw_good ∧ Cond.selects RX9 yX9_back yX9_back ∈ lw_good ∧ Cond.initialized RX9 ∈ lw_good ∧ Cond.code yX9_back cX9_back 2 (some .int) ∈ lw_good := by decide +kernel
theorem k_X9_back {p : Program} {l : Launch} {e : Env} {R : Room} {s : State} {m : MethodId} {args : Array Value} {below : List Frame} {meth : Method} {c : Code} {H : Heap} {locs : List Loc} {cells slots : Nat} {Q : State → Prop} {cc : ByteArray} {nL pc idx : Nat} {ls : Array Slot} {rest : List Value} {own : String} {G : Gm} {A : Nat → Prop} {H0 : Heap} {la : Nat} {w : CW} {x1 : Int32} {y : Int32 × CW} (X : CX own cc nL G p s m args c) (h : CH G (cw G la w) A H0 H locs) (hA : ∀ q, H0.size ≤ q → A q) (hf : f_X9_back x1 w = some y) (hlk : Cond.methodLink own idx yX9_back ∈ lw_good) (hd : decode cc pc = .ok (.invokevirtual idx, 3)) (hsz : ls.size = nL) (hR : 4 ≤ R.frames ∧ 86 ≤ R.locals) (hrest : (rest.map fun v => v.category).sum ≤ 8) (hk : cells ≤ R.cells ∧ slots ≤ R.slots) (k : ∀ (H : Heap) (locs : List Loc), CH G (cw G la y.2) A H0 H locs → W p l e R s m args below meth c H locs cells slots Q (F0 m (pc + 3) ls (.int y.1 :: rest))) : W p l e R s m args below meth c H locs cells slots Q (F0 m pc ls (.int x1 :: .ref (gq G 0) :: rest)) :=
  fin_i (n := 0) (runV (As := [.int x1]) X.1 1 (t_X9_back l G la w x1 y.1 y.2 hf _) rfl rfl hlk m_X9_back (by decide +kernel) ⟨hR.1, hR.2⟩ ⟨blindM, va_recv X.2.1 h.1 (ci := 8) (q0 := 0) rfl rfl, preM X.2 h⟩ rfl hsz hrest hd hk) h hA (fun _ H locs h => k H locs h)
def f_X9_digest_l177_body (kself : (Int64 → Int32 → Int32 → CW → Option Int64)) (x1 : Int64) (x3 : Int32) (x4 : Int32) (w : CW) : Option Int64 :=
 if x3 ≤ x4 then
 (some x1)
 else
 ((f_X9_loadCell x4 ((3 : Int32))).bind fun y2 =>
 (f_X1_get y2 w).bind fun y3 =>
 kself ((x1 * ((31 : Int64))) + y3.toInt64) x3 (x4 + (1 : Int32)) w)
def f_X9_digest_l177 : Nat → Int64 → Int32 → Int32 → CW → Option Int64
  | 0, _, _, _, _ => none
  | n + 1, x1, x3, x4, w => f_X9_digest_l177_body (f_X9_digest_l177 n) x1 x3 x4 w
def f_X9_digest_l131_body (kself : (Int64 → Int32 → CW → Option Int64)) (x1 : Int64) (x3 : Int32) (w : CW) : Option Int64 :=
 if ((12 : Int32)) ≤ x3 then
 ((f_X1_get ((8550 : Int32)) w).bind fun y5 =>
 f_X9_digest_l177 FU x1 y5 ((0 : Int32)) w)
 else
 ((f_X1_get (((8432 : Int32)) + x3) w).bind fun y6 =>
 kself ((x1 * ((31 : Int64))) + y6.toInt64) (x3 + (1 : Int32)) w)
def f_X9_digest_l131 : Nat → Int64 → Int32 → CW → Option Int64
  | 0, _, _, _ => none
  | n + 1, x1, x3, w => f_X9_digest_l131_body (f_X9_digest_l131 n) x1 x3 w
def f_X9_digest_b123 (k21 : (Int64 → Int32 → CW → Option Int64)) (x1 : Int64) (x3 : Int32) (w : CW) : Option Int64 :=
 k21 x1 (x3 + (1 : Int32)) w
def f_X9_digest_l21_body (kself : (Int64 → Int32 → CW → Option Int64)) (x1 : Int64) (x3 : Int32) (w : CW) : Option Int64 :=
 if ((60 : Int32)) ≤ x3 then
 (f_X9_digest_l131 FU x1 ((0 : Int32)) w)
 else
 ((f_X9_read x3 ((0 : Int32)) w).bind fun y8 =>
 (some ((x1 * ((31 : Int64))) + ((y8 - ((1 : Int32))).toInt64))).bind fun z9 =>
 (f_X9_hasMachine x3 w).bind fun y10 =>
 if y10 = 0 then
 (f_X9_digest_b123 kself z9 x3 w)
 else
 ((f_X9_read x3 ((4 : Int32)) w).bind fun y12 =>
 (f_X9_read x3 ((3 : Int32)) w).bind fun y13 =>
 (some ((((z9 * ((31 : Int64))) + y12.toInt64) * ((31 : Int64))) + y13.toInt64)).bind fun z14 =>
 (f_X9_minutesLeft x3 w).bind fun y15 =>
 (f_X9_read x3 ((9 : Int32)) w).bind fun y16 =>
 (some ((((z14 * ((31 : Int64))) + y15.toInt64) * ((31 : Int64))) + y16.toInt64)).bind fun z17 =>
 (f_X6_creditOf x3 w).bind fun y18 =>
 f_X9_digest_b123 kself ((z17 * ((31 : Int64))) + y18.toInt64) x3 w))
def f_X9_digest_l21 : Nat → Int64 → Int32 → CW → Option Int64
  | 0, _, _, _ => none
  | n + 1, x1, x3, w => f_X9_digest_l21_body (f_X9_digest_l21 n) x1 x3 w
def f_X9_digest (w : CW) : Option Int64 :=
 (f_X1_time w).bind fun y19 =>
 f_X9_digest_l21 FU ((((17 : Int64)) * ((31 : Int64))) + y19.toInt64) ((0 : Int32)) w
set_option maxHeartbeats 4000000 in
set_option maxRecDepth 100000 in
theorem t_X9_digest (l : Launch) (G : Gm) (la : Nat) (w : CW) (r : Int64) (hf : f_X9_digest w = some r) : MetR l yX9_digest cX9_digest 5 (some .long) 3 67 G (cw G la w) [.ref (gq G 0)] (.long r) := by
  refine ent (own := RX9) (As := [.ref (gq G 0)]) (by decide +kernel) rfl (Nat.le_of_ble_eq_true rfl) (fun _ _ h => h.1) ?_
  intro p e s m args below meth c ls B hr hlocks hv hl
  obtain ⟨-, hP, hKK, hD⟩ := hv
  have X : CX RX9 cX9_digest 5 G p s m args c := ⟨B, hKK⟩
  obtain ⟨hx, hb, hml, hown, hts⟩ := id B
  have h : CH G (cw G la w) (fun _ => True) s.heap s.heap [] := ⟨hP, hD, va_S.rf⟩
  have L177 : ∀ (n177 : Nat) (x1 : Int64) (x3 : Int32) (x4 : Int32) (ls : Array Slot), f_X9_digest_l177 n177 x1 x3 x4 w = some r → lv_has ls 5 [(0, .ref (gq G 0)), (1, .long x1), (3, .int x3), (4, .int x4)] → W p l e { frames := 3, cells := 0, slots := 0, locals := 67 } s m args below meth c s.heap [] 0 0 (MQ below (QcV (.long r)) args s 0 0 (fun _ => False)) (F0 m 177 ls []) := by
    intro n177
    induction n177 with
    | zero =>
      intro x1 x3 x4 ls hf hl
      cases (show (none : Option Int64) = some _ from hf)
    | succ n177 ih177 =>
      intro x1 x3 x4 ls hf hl
      have hf : f_X9_digest_l177_body (f_X9_digest_l177 n177) x1 x3 x4 w = _ := hf
      unfold f_X9_digest_l177_body at hf
      refine lv_iload hx hb dX9_digest_177 (lv_at hl 3 rfl) ?_
      refine lv_iload_n hx hb dX9_digest_179 rfl (lv_at hl 2 rfl) ?_
      refine lv_icmp_ge (tgt := 210) hx hb dX9_digest_180 (by decide) (fun c1 => ?_) (fun c1 => ?_)
      · have hf := if_t c1 hf
        refine lv_lload_n hx hb dX9_digest_210 rfl (lv_at hl 1 rfl) ?_
        cases hf
        exact rr_l X.1 hr hlocks dX9_digest_211
      · have hf := if_f c1 hf
        refine lv_lload_n hx hb dX9_digest_183 rfl (lv_at hl 1 rfl) ?_
        refine lv_ldc2 (v := 31) hx hb hown (hts _ k_X9_329) dX9_digest_184 ?_
        refine lv_lmul hx hb dX9_digest_187 ?_
        refine lv_aload_n hx hb dX9_digest_188 rfl (lv_at hl 0 rfl) ?_
        refine GC_0_0 X h k_X9_12 dX9_digest_189 ?_
        refine lv_iload hx hb dX9_digest_192 (lv_at hl 3 rfl) ?_
        refine lv_iconst (v := 3) hx hb dX9_digest_194 (by decide) ?_
        obtain ⟨y2, ey2, hf⟩ := bnd_some hf
        refine k_X9_loadCell X.1 ey2 k_X9_221 dX9_digest_195 hl.1 ⟨(Nat.le_of_ble_eq_true rfl), (Nat.le_of_ble_eq_true rfl)⟩ (Nat.le_of_ble_eq_true rfl) ⟨Nat.zero_le _, Nat.zero_le _⟩ ?_
        obtain ⟨y3, ey3, hf⟩ := bnd_some hf
        refine k_X1_get X h ey3 k_X9_175 dX9_digest_198 hl.1 ⟨(Nat.le_of_ble_eq_true rfl), (Nat.le_of_ble_eq_true rfl)⟩ (Nat.le_of_ble_eq_true rfl) ⟨Nat.zero_le _, Nat.zero_le _⟩ ?_
        refine lv_i2l hx hb dX9_digest_201 rfl ?_
        refine lv_ladd hx hb dX9_digest_202 ?_
        refine lv_lstore_n (lv' := [(1, .long ((x1 * ((31 : Int64))) + y3.toInt64)), (0, .ref (gq G 0)), (3, .int x3), (4, .int x4)]) hx hb dX9_digest_203 rfl hl (by decide) rfl (fun ls hl => ?_)
        refine lv_iinc (v := x4 + (1 : Int32)) (lv' := [(4, .int (x4 + (1 : Int32))), (1, .long ((x1 * ((31 : Int64))) + y3.toInt64)), (0, .ref (gq G 0)), (3, .int x3)]) hx hb dX9_digest_204 hl (k := 3) rfl (by rfl) (by decide) rfl (fun ls hl => ?_)
        refine lv_goto (tgt := 177) hx hb dX9_digest_207 (by decide) ?_
        exact ih177 _ _ _ _ hf (lv_sub hl [2, 1, 3, 0] rfl)
  have L131 : ∀ (n131 : Nat) (x1 : Int64) (x3 : Int32) (ls : Array Slot), f_X9_digest_l131 n131 x1 x3 w = some r → lv_has ls 5 [(0, .ref (gq G 0)), (1, .long x1), (3, .int x3)] → W p l e { frames := 3, cells := 0, slots := 0, locals := 67 } s m args below meth c s.heap [] 0 0 (MQ below (QcV (.long r)) args s 0 0 (fun _ => False)) (F0 m 131 ls []) := by
    intro n131
    induction n131 with
    | zero =>
      intro x1 x3 ls hf hl
      cases (show (none : Option Int64) = some _ from hf)
    | succ n131 ih131 =>
      intro x1 x3 ls hf hl
      have hf : f_X9_digest_l131_body (f_X9_digest_l131 n131) x1 x3 w = _ := hf
      unfold f_X9_digest_l131_body at hf
      refine lv_iload_n hx hb dX9_digest_131 rfl (lv_at hl 2 rfl) ?_
      refine lv_bipush (v := 12) hx hb dX9_digest_132 (by decide) ?_
      refine lv_icmp_ge (tgt := 163) hx hb dX9_digest_134 (by decide) (fun c4 => ?_) (fun c4 => ?_)
      · have hf := if_t c4 hf
        refine lv_aload_n hx hb dX9_digest_163 rfl (lv_at hl 0 rfl) ?_
        refine GC_0_0 X h k_X9_12 dX9_digest_164 ?_
        refine lv_sipush (v := 8550) hx hb dX9_digest_167 (by decide) ?_
        obtain ⟨y5, ey5, hf⟩ := bnd_some hf
        refine k_X1_get X h ey5 k_X9_175 dX9_digest_170 hl.1 ⟨(Nat.le_of_ble_eq_true rfl), (Nat.le_of_ble_eq_true rfl)⟩ (Nat.le_of_ble_eq_true rfl) ⟨Nat.zero_le _, Nat.zero_le _⟩ ?_
        refine lv_istore_n (lv' := [(3, .int y5), (0, .ref (gq G 0)), (1, .long x1)]) hx hb dX9_digest_173 rfl hl (by decide) rfl (fun ls hl => ?_)
        refine lv_iconst (v := 0) hx hb dX9_digest_174 (by decide) ?_
        refine lv_istore (lv' := [(4, .int ((0 : Int32))), (3, .int y5), (0, .ref (gq G 0)), (1, .long x1)]) hx hb dX9_digest_175 hl (by decide) rfl (fun ls hl => ?_)
        exact L177 FU _ _ _ _ hf (lv_sub hl [2, 3, 1, 0] rfl)
      · have hf := if_f c4 hf
        refine lv_lload_n hx hb dX9_digest_137 rfl (lv_at hl 1 rfl) ?_
        refine lv_ldc2 (v := 31) hx hb hown (hts _ k_X9_329) dX9_digest_138 ?_
        refine lv_lmul hx hb dX9_digest_141 ?_
        refine lv_aload_n hx hb dX9_digest_142 rfl (lv_at hl 0 rfl) ?_
        refine GC_0_0 X h k_X9_12 dX9_digest_143 ?_
        refine lv_sipush (v := 8432) hx hb dX9_digest_146 (by decide) ?_
        refine lv_iload_n hx hb dX9_digest_149 rfl (lv_at hl 2 rfl) ?_
        refine lv_iadd hx hb dX9_digest_150 ?_
        obtain ⟨y6, ey6, hf⟩ := bnd_some hf
        refine k_X1_get X h ey6 k_X9_175 dX9_digest_151 hl.1 ⟨(Nat.le_of_ble_eq_true rfl), (Nat.le_of_ble_eq_true rfl)⟩ (Nat.le_of_ble_eq_true rfl) ⟨Nat.zero_le _, Nat.zero_le _⟩ ?_
        refine lv_i2l hx hb dX9_digest_154 rfl ?_
        refine lv_ladd hx hb dX9_digest_155 ?_
        refine lv_lstore_n (lv' := [(1, .long ((x1 * ((31 : Int64))) + y6.toInt64)), (0, .ref (gq G 0)), (3, .int x3)]) hx hb dX9_digest_156 rfl hl (by decide) rfl (fun ls hl => ?_)
        refine lv_iinc (v := x3 + (1 : Int32)) (lv' := [(3, .int (x3 + (1 : Int32))), (1, .long ((x1 * ((31 : Int64))) + y6.toInt64)), (0, .ref (gq G 0))]) hx hb dX9_digest_157 hl (k := 2) rfl (by rfl) (by decide) rfl (fun ls hl => ?_)
        refine lv_goto (tgt := 131) hx hb dX9_digest_160 (by decide) ?_
        exact ih131 _ _ _ hf (lv_sub hl [2, 1, 0] rfl)
  have L21 : ∀ (n21 : Nat) (x1 : Int64) (x3 : Int32) (ls : Array Slot), f_X9_digest_l21 n21 x1 x3 w = some r → lv_has ls 5 [(0, .ref (gq G 0)), (1, .long x1), (3, .int x3)] → W p l e { frames := 3, cells := 0, slots := 0, locals := 67 } s m args below meth c s.heap [] 0 0 (MQ below (QcV (.long r)) args s 0 0 (fun _ => False)) (F0 m 21 ls []) := by
    intro n21
    induction n21 with
    | zero =>
      intro x1 x3 ls hf hl
      cases (show (none : Option Int64) = some _ from hf)
    | succ n21 ih21 =>
      have J123 : ∀ (x1 : Int64) (x3 : Int32) (ls : Array Slot), f_X9_digest_b123 (f_X9_digest_l21 n21) x1 x3 w = some r → lv_has ls 5 [(0, .ref (gq G 0)), (1, .long x1), (3, .int x3)] → W p l e { frames := 3, cells := 0, slots := 0, locals := 67 } s m args below meth c s.heap [] 0 0 (MQ below (QcV (.long r)) args s 0 0 (fun _ => False)) (F0 m 123 ls []) := by
        intro x1 x3 ls hf hl
        unfold f_X9_digest_b123 at hf
        refine lv_iinc (v := x3 + (1 : Int32)) (lv' := [(3, .int (x3 + (1 : Int32))), (0, .ref (gq G 0)), (1, .long x1)]) hx hb dX9_digest_123 hl (k := 2) rfl (by rfl) (by decide) rfl (fun ls hl => ?_)
        refine lv_goto (tgt := 21) hx hb dX9_digest_126 (by decide) ?_
        exact ih21 _ _ _ hf (lv_sub hl [1, 2, 0] rfl)
      intro x1 x3 ls hf hl
      have hf : f_X9_digest_l21_body (f_X9_digest_l21 n21) x1 x3 w = _ := hf
      unfold f_X9_digest_l21_body at hf
      refine lv_iload_n hx hb dX9_digest_21 rfl (lv_at hl 2 rfl) ?_
      refine lv_bipush (v := 60) hx hb dX9_digest_22 (by decide) ?_
      refine lv_icmp_ge (tgt := 129) hx hb dX9_digest_24 (by decide) (fun c7 => ?_) (fun c7 => ?_)
      · have hf := if_t c7 hf
        refine lv_iconst (v := 0) hx hb dX9_digest_129 (by decide) ?_
        refine lv_istore_n (lv' := [(3, .int ((0 : Int32))), (0, .ref (gq G 0)), (1, .long x1)]) hx hb dX9_digest_130 rfl hl (by decide) rfl (fun ls hl => ?_)
        exact L131 FU _ _ _ hf (lv_sub hl [1, 2, 0] rfl)
      · have hf := if_f c7 hf
        refine lv_lload_n hx hb dX9_digest_27 rfl (lv_at hl 1 rfl) ?_
        refine lv_ldc2 (v := 31) hx hb hown (hts _ k_X9_329) dX9_digest_28 ?_
        refine lv_lmul hx hb dX9_digest_31 ?_
        refine lv_aload_n hx hb dX9_digest_32 rfl (lv_at hl 0 rfl) ?_
        refine lv_iload_n hx hb dX9_digest_33 rfl (lv_at hl 2 rfl) ?_
        refine lv_iconst (v := 0) hx hb dX9_digest_34 (by decide) ?_
        obtain ⟨y8, ey8, hf⟩ := bnd_some hf
        refine k_X9_read X h ey8 k_X9_110 dX9_digest_35 hl.1 ⟨(Nat.le_of_ble_eq_true rfl), (Nat.le_of_ble_eq_true rfl)⟩ (Nat.le_of_ble_eq_true rfl) ⟨Nat.zero_le _, Nat.zero_le _⟩ ?_
        refine lv_iconst (v := 1) hx hb dX9_digest_38 (by decide) ?_
        refine lv_isub hx hb dX9_digest_39 ?_
        refine lv_i2l hx hb dX9_digest_40 rfl ?_
        refine lv_ladd hx hb dX9_digest_41 ?_
        obtain ⟨z9, ez9, hf⟩ := bnd_some hf
        refine nm_l (Option.some.inj ez9) ?_
        refine lv_lstore_n (lv' := [(1, .long z9), (0, .ref (gq G 0)), (3, .int x3)]) hx hb dX9_digest_42 rfl hl (by decide) rfl (fun ls hl => ?_)
        refine lv_aload_n hx hb dX9_digest_43 rfl (lv_at hl 1 rfl) ?_
        refine lv_iload_n hx hb dX9_digest_44 rfl (lv_at hl 2 rfl) ?_
        obtain ⟨y10, ey10, hf⟩ := bnd_some hf
        refine k_X9_hasMachine X h ey10 k_X9_96 dX9_digest_45 hl.1 ⟨(Nat.le_of_ble_eq_true rfl), (Nat.le_of_ble_eq_true rfl)⟩ (Nat.le_of_ble_eq_true rfl) ⟨Nat.zero_le _, Nat.zero_le _⟩ ?_
        refine lv_if_eq (tgt := 123) hx hb dX9_digest_48 (by decide) (fun c11 => ?_) (fun c11 => ?_)
        · have hf := if_t c11 hf
          exact J123 _ _ _ hf (lv_sub hl [1, 0, 2] rfl)
        · have hf := if_f c11 hf
          refine lv_lload_n hx hb dX9_digest_51 rfl (lv_at hl 0 rfl) ?_
          refine lv_ldc2 (v := 31) hx hb hown (hts _ k_X9_329) dX9_digest_52 ?_
          refine lv_lmul hx hb dX9_digest_55 ?_
          refine lv_aload_n hx hb dX9_digest_56 rfl (lv_at hl 1 rfl) ?_
          refine lv_iload_n hx hb dX9_digest_57 rfl (lv_at hl 2 rfl) ?_
          refine lv_iconst (v := 4) hx hb dX9_digest_58 (by decide) ?_
          obtain ⟨y12, ey12, hf⟩ := bnd_some hf
          refine k_X9_read X h ey12 k_X9_110 dX9_digest_59 hl.1 ⟨(Nat.le_of_ble_eq_true rfl), (Nat.le_of_ble_eq_true rfl)⟩ (Nat.le_of_ble_eq_true rfl) ⟨Nat.zero_le _, Nat.zero_le _⟩ ?_
          refine lv_i2l hx hb dX9_digest_62 rfl ?_
          refine lv_ladd hx hb dX9_digest_63 ?_
          refine lv_lstore_n (lv' := [(1, .long ((z9 * ((31 : Int64))) + y12.toInt64)), (0, .ref (gq G 0)), (3, .int x3)]) hx hb dX9_digest_64 rfl hl (by decide) rfl (fun ls hl => ?_)
          refine lv_lload_n hx hb dX9_digest_65 rfl (lv_at hl 0 rfl) ?_
          refine lv_ldc2 (v := 31) hx hb hown (hts _ k_X9_329) dX9_digest_66 ?_
          refine lv_lmul hx hb dX9_digest_69 ?_
          refine lv_aload_n hx hb dX9_digest_70 rfl (lv_at hl 1 rfl) ?_
          refine lv_iload_n hx hb dX9_digest_71 rfl (lv_at hl 2 rfl) ?_
          refine lv_iconst (v := 3) hx hb dX9_digest_72 (by decide) ?_
          obtain ⟨y13, ey13, hf⟩ := bnd_some hf
          refine k_X9_read X h ey13 k_X9_110 dX9_digest_73 hl.1 ⟨(Nat.le_of_ble_eq_true rfl), (Nat.le_of_ble_eq_true rfl)⟩ (Nat.le_of_ble_eq_true rfl) ⟨Nat.zero_le _, Nat.zero_le _⟩ ?_
          refine lv_i2l hx hb dX9_digest_76 rfl ?_
          refine lv_ladd hx hb dX9_digest_77 ?_
          obtain ⟨z14, ez14, hf⟩ := bnd_some hf
          refine nm_l (Option.some.inj ez14) ?_
          refine lv_lstore_n (lv' := [(1, .long z14), (0, .ref (gq G 0)), (3, .int x3)]) hx hb dX9_digest_78 rfl hl (by decide) rfl (fun ls hl => ?_)
          refine lv_lload_n hx hb dX9_digest_79 rfl (lv_at hl 0 rfl) ?_
          refine lv_ldc2 (v := 31) hx hb hown (hts _ k_X9_329) dX9_digest_80 ?_
          refine lv_lmul hx hb dX9_digest_83 ?_
          refine lv_aload_n hx hb dX9_digest_84 rfl (lv_at hl 1 rfl) ?_
          refine lv_iload_n hx hb dX9_digest_85 rfl (lv_at hl 2 rfl) ?_
          obtain ⟨y15, ey15, hf⟩ := bnd_some hf
          refine k_X9_minutesLeft X h ey15 k_X9_305 dX9_digest_86 hl.1 ⟨(Nat.le_of_ble_eq_true rfl), (Nat.le_of_ble_eq_true rfl)⟩ (Nat.le_of_ble_eq_true rfl) ⟨Nat.zero_le _, Nat.zero_le _⟩ ?_
          refine lv_i2l hx hb dX9_digest_89 rfl ?_
          refine lv_ladd hx hb dX9_digest_90 ?_
          refine lv_lstore_n (lv' := [(1, .long ((z14 * ((31 : Int64))) + y15.toInt64)), (0, .ref (gq G 0)), (3, .int x3)]) hx hb dX9_digest_91 rfl hl (by decide) rfl (fun ls hl => ?_)
          refine lv_lload_n hx hb dX9_digest_92 rfl (lv_at hl 0 rfl) ?_
          refine lv_ldc2 (v := 31) hx hb hown (hts _ k_X9_329) dX9_digest_93 ?_
          refine lv_lmul hx hb dX9_digest_96 ?_
          refine lv_aload_n hx hb dX9_digest_97 rfl (lv_at hl 1 rfl) ?_
          refine lv_iload_n hx hb dX9_digest_98 rfl (lv_at hl 2 rfl) ?_
          refine lv_bipush (v := 9) hx hb dX9_digest_99 (by decide) ?_
          obtain ⟨y16, ey16, hf⟩ := bnd_some hf
          refine k_X9_read X h ey16 k_X9_110 dX9_digest_101 hl.1 ⟨(Nat.le_of_ble_eq_true rfl), (Nat.le_of_ble_eq_true rfl)⟩ (Nat.le_of_ble_eq_true rfl) ⟨Nat.zero_le _, Nat.zero_le _⟩ ?_
          refine lv_i2l hx hb dX9_digest_104 rfl ?_
          refine lv_ladd hx hb dX9_digest_105 ?_
          obtain ⟨z17, ez17, hf⟩ := bnd_some hf
          refine nm_l (Option.some.inj ez17) ?_
          refine lv_lstore_n (lv' := [(1, .long z17), (0, .ref (gq G 0)), (3, .int x3)]) hx hb dX9_digest_106 rfl hl (by decide) rfl (fun ls hl => ?_)
          refine lv_lload_n hx hb dX9_digest_107 rfl (lv_at hl 0 rfl) ?_
          refine lv_ldc2 (v := 31) hx hb hown (hts _ k_X9_329) dX9_digest_108 ?_
          refine lv_lmul hx hb dX9_digest_111 ?_
          refine lv_aload_n hx hb dX9_digest_112 rfl (lv_at hl 1 rfl) ?_
          refine GC_0_1 X h k_X9_21 dX9_digest_113 ?_
          refine lv_iload_n hx hb dX9_digest_116 rfl (lv_at hl 2 rfl) ?_
          obtain ⟨y18, ey18, hf⟩ := bnd_some hf
          refine k_X6_creditOf X h ey18 k_X9_117 dX9_digest_117 hl.1 ⟨(Nat.le_of_ble_eq_true rfl), (Nat.le_of_ble_eq_true rfl)⟩ (Nat.le_of_ble_eq_true rfl) ⟨Nat.zero_le _, Nat.zero_le _⟩ ?_
          refine lv_i2l hx hb dX9_digest_120 rfl ?_
          refine lv_ladd hx hb dX9_digest_121 ?_
          refine lv_lstore_n (lv' := [(1, .long ((z17 * ((31 : Int64))) + y18.toInt64)), (0, .ref (gq G 0)), (3, .int x3)]) hx hb dX9_digest_122 rfl hl (by decide) rfl (fun ls hl => ?_)
          exact J123 _ _ _ hf (lv_sub hl [1, 0, 2] rfl)
  have hl : lv_has ls 5 [(0, .ref (gq G 0))] := hl
  unfold f_X9_digest at hf
  refine lv_ldc2 (v := 17) hx hb hown (hts _ k_X9_327) dX9_digest_0 ?_
  refine lv_lstore_n (lv' := [(1, .long ((17 : Int64))), (0, .ref (gq G 0))]) hx hb dX9_digest_3 rfl hl (by decide) rfl (fun ls hl => ?_)
  refine lv_lload_n hx hb dX9_digest_4 rfl (lv_at hl 0 rfl) ?_
  refine lv_ldc2 (v := 31) hx hb hown (hts _ k_X9_329) dX9_digest_5 ?_
  refine lv_lmul hx hb dX9_digest_8 ?_
  refine lv_aload_n hx hb dX9_digest_9 rfl (lv_at hl 1 rfl) ?_
  refine GC_0_0 X h k_X9_12 dX9_digest_10 ?_
  obtain ⟨y19, ey19, hf⟩ := bnd_some hf
  refine k_X1_time X h ey19 k_X9_290 dX9_digest_13 hl.1 ⟨(Nat.le_of_ble_eq_true rfl), (Nat.le_of_ble_eq_true rfl)⟩ (Nat.le_of_ble_eq_true rfl) ⟨Nat.zero_le _, Nat.zero_le _⟩ ?_
  refine lv_i2l hx hb dX9_digest_16 rfl ?_
  refine lv_ladd hx hb dX9_digest_17 ?_
  refine lv_lstore_n (lv' := [(1, .long ((((17 : Int64)) * ((31 : Int64))) + y19.toInt64)), (0, .ref (gq G 0))]) hx hb dX9_digest_18 rfl hl (by decide) rfl (fun ls hl => ?_)
  refine lv_iconst (v := 0) hx hb dX9_digest_19 (by decide) ?_
  refine lv_istore_n (lv' := [(3, .int ((0 : Int32))), (1, .long ((((17 : Int64)) * ((31 : Int64))) + y19.toInt64)), (0, .ref (gq G 0))]) hx hb dX9_digest_20 rfl hl (by decide) rfl (fun ls hl => ?_)
  exact L21 FU _ _ _ hf (lv_sub hl [2, 1, 0] rfl)
theorem m_X9_digest : Cond.instanceMethod yX9_digest ∈ lw_good ∧ Cond.selects RX9 yX9_digest yX9_digest ∈ lw_good ∧ Cond.initialized RX9 ∈ lw_good ∧ Cond.code yX9_digest cX9_digest 5 (some .long) ∈ lw_good := by decide +kernel
theorem k_X9_digest {p : Program} {l : Launch} {e : Env} {R : Room} {s : State} {m : MethodId} {args : Array Value} {below : List Frame} {meth : Method} {c : Code} {H : Heap} {locs : List Loc} {cells slots : Nat} {Q : State → Prop} {cc : ByteArray} {nL pc idx : Nat} {ls : Array Slot} {rest : List Value} {own : String} {G : Gm} {A : Nat → Prop} {H0 : Heap} {la : Nat} {w : CW} {r : Int64} (X : CX own cc nL G p s m args c) (h : CH G (cw G la w) A H0 H locs) (hf : f_X9_digest w = some r) (hlk : Cond.methodLink own idx yX9_digest ∈ lw_good) (hd : decode cc pc = .ok (.invokevirtual idx, 3)) (hsz : ls.size = nL) (hR : 4 ≤ R.frames ∧ 91 ≤ R.locals) (hrest : (rest.map fun v => v.category).sum ≤ 8) (hk : cells ≤ R.cells ∧ slots ≤ R.slots) (k : W p l e R s m args below meth c H locs cells slots Q (F0 m (pc + 3) ls (.long r :: rest))) : W p l e R s m args below meth c H locs cells slots Q (F0 m pc ls (.ref (gq G 0) :: rest)) :=
  fin_r (runV (As := []) X.1 0 (t_X9_digest l G la w r hf) rfl rfl hlk m_X9_digest (by decide +kernel) ⟨hR.1, hR.2⟩ ⟨blindR, va_recv X.2.1 h.1 (ci := 8) (q0 := 0) rfl rfl, preR X.2 h⟩ rfl hsz hrest hd hk) k
