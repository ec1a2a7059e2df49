abbrev mG (G : Gm) (q2 : Nat → Nat) : Gm := (G.1, gI G, gM G, gG G, q2)
def LW (s : State) (G G2 : Gm) (la : Nat) (w : CW) (wm : MW) (H : Heap) : Prop :=
  va_P G.1 vwCl (cw G la w) H ∧ va_P G.1 vwCl (mw G2 wm) H ∧ va_D (fun q => s.heap.size ≤ q) (cw G la w ++ mw G2 wm) ∧ va_S (fun q => s.heap.size ≤ q) s.heap H []
theorem ap_l {a b : va_W} {k : Nat} {q : Nat × va_E} (h : a[k]? = some q) : (a ++ b)[k]? = some q := by
  rw [List.getElem?_append_left (List.getElem?_eq_some_iff.mp h).1]; exact h
theorem ap_r {a b : va_W} {k : Nat} {q : Nat × va_E} (h : b[k]? = some q) : (a ++ b)[a.length + k]? = some q := by
  rw [List.getElem?_append_right (by omega), Nat.add_sub_cancel_left]; exact h
theorem vaD_l {A : Nat → Prop} {a b : va_W} (h : va_D A (a ++ b)) : va_D A a := ⟨fun i j p q h1 h2 e => h.1 i j p q (ap_l h1) (ap_l h2) e, fun k q hk => h.2 k q (ap_l hk)⟩
theorem vaD_r {A : Nat → Prop} {a b : va_W} (h : va_D A (a ++ b)) : va_D A b := ⟨fun i j p q h1 h2 e => by have := h.1 _ _ p q (ap_r h1) (ap_r h2) e; omega, fun k q hk => h.2 _ q (ap_r hk)⟩
theorem vaD_x {A : Nat → Prop} {a b : va_W} (h : va_D A (a ++ b)) {i j : Nat} {p q : Nat × va_E} (h1 : a[i]? = some p) (h2 : b[j]? = some q) : p.1 ≠ q.1 := fun e => by
  have := h.1 _ _ p q (ap_l h1) (ap_r h2) e
  have := (List.getElem?_eq_some_iff.mp h1).1
  omega
/-- one of two worlds is changed by a call -/
theorem two {D : va_G} {s : State} {A0 : Nat → Prop} {a b a' : va_W} {H H1 : Heap} {locs : List Loc} (hA0 : ∀ q, H.size ≤ q → A0 q) (hPb : va_P D vwCl b H) (hD : va_D A0 (a ++ b)) (hD1 : va_D (va_A a H.size) a') (hS : va_S (va_A a H.size) H H1 locs) :
    va_P D vwCl b H1 ∧ va_D A0 (a' ++ b) ∧ (∀ q ∈ locs, A0 q.base) ∧ (∀ q, q < H.size → ¬ A0 q → H1[q]? = H[q]?) := by
  have hF : ∀ q, va_A a H.size q → A0 q := by
    intro q hq
    rcases hq with ⟨k, e, hk⟩ | hq
    · exact (vaD_l hD).2 k _ hk
    · exact hA0 q hq
  have hn : ∀ (k : Nat) (q : Nat × va_E), b[k]? = some q → ¬ va_A a H.size q.1 := by
    intro k q hk hq
    have hlt := (hPb k q hk).lt
    rcases hq with ⟨j, e, hj⟩ | hq
    · exact vaD_x hD hj hk rfl
    · omega
  refine ⟨hPb.kept (fun k q hk => hS.2.1 q.1 ((hPb k q hk).lt) (hn k q hk)), ?_, fun q hq => hF _ (hS.2.2 q hq), fun q h1 h2 => hS.2.1 q h1 (fun z => h2 (hF q z))⟩
  exact va_D.app (hD1.weaken (fun _ _ _ z => hF _ z)) (vaD_r hD) (fun i j p q h1 h2 e => hn j q h2 (e ▸ hD1.2 i p h1))
theorem vaD_swap {A : Nat → Prop} {a b : va_W} (h : va_D A (a ++ b)) : va_D A (b ++ a) := va_D.app (vaD_r h) (vaD_l h) (fun _ _ _ _ h1 h2 e => vaD_x h h2 h1 e.symm)
theorem LW.c {s : State} {G G2 : Gm} {la : Nat} {w : CW} {wm : MW} {H : Heap} (h : LW s G G2 la w wm H) : CH G (cw G la w) (va_A (cw G la w) H.size) H H [] ∧ ∀ (u : Nat) (w' : CW) (H1 : Heap) (locs1 : List Loc), CH G (cw G u w') (va_A (cw G la w) H.size) H H1 locs1 → LW s G G2 u w' wm H1 ∧ ∀ q ∈ locs1, s.heap.size ≤ q.base := by
  obtain ⟨h1, h2, h3, h4⟩ := h
  refine ⟨⟨h1, (vaD_l h3).self, va_S.rf⟩, fun u w' H1 locs1 g => ?_⟩
  obtain ⟨k1, k2, k3, k4⟩ := two (s := s) (A0 := fun q => s.heap.size ≤ q) (fun q z => Nat.le_trans h4.1 z) h2 h3 g.2.1 g.2.2
  exact ⟨⟨g.1, k1, k2, Nat.le_trans h4.1 g.2.2.1, fun q z1 z2 => (k4 q (Nat.lt_of_lt_of_le z1 h4.1) z2).trans (h4.2.1 q z1 z2), fun _ z => by cases z⟩, k3⟩
theorem LW.m {s : State} {G : Gm} {q2 : Nat → Nat} {la : Nat} {w : CW} {wm : MW} {H : Heap} (h : LW s G (mG G q2) la w wm H) : CH (mG G q2) (mw (mG G q2) wm) (va_A (mw (mG G q2) wm) H.size) H H [] ∧ ∀ (wm' : MW) (H1 : Heap) (locs1 : List Loc), CH (mG G q2) (mw (mG G q2) wm') (va_A (mw (mG G q2) wm) H.size) H H1 locs1 → LW s G (mG G q2) la w wm' H1 ∧ ∀ q ∈ locs1, s.heap.size ≤ q.base := by
  obtain ⟨h1, h2, h3, h4⟩ := h
  refine ⟨⟨h2, (vaD_r h3).self, va_S.rf⟩, fun wm' H1 locs1 g => ?_⟩
  obtain ⟨k1, k2, k3, k4⟩ := two (s := s) (A0 := fun q => s.heap.size ≤ q) (fun q z => Nat.le_trans h4.1 z) h1 (vaD_swap h3) g.2.1 g.2.2
  exact ⟨⟨k1, g.1, vaD_swap k2, Nat.le_trans h4.1 g.2.2.1, fun q z1 z2 => (k4 q (Nat.lt_of_lt_of_le z1 h4.1) z2).trans (h4.2.1 q z1 z2), fun _ z => by cases z⟩, k3⟩
theorem KKm {G : Gm} {q2 : Nat → Nat} {s : State} (h : KK G s) : KK (mG G q2) s := h
theorem r_sld {p : Program} {l : Launch} {e : Env} {R : Room} {s : State} {m : MethodId} {args : Array Value} {below : List Frame} {meth : Method} {c : Code} {H : Heap} {cells slots : Nat} {Q : State → Prop} {cc : ByteArray} {pc : Nat} {ls : Array Slot} {rest : List Value} {b L x : Nat} {xs : Nat → Int32} {j : Int32} (hx : p.tables.exec = Jvm.exec) (hb : c.code = cc) (hX : va_X b L xs s s.heap) (hbl : b < s.heap.size) (hS : va_S (fun q => s.heap.size ≤ q) s.heap H []) (hj : j = nI x) (hxL : x < L) (hL : L < 2 ^ 31) (hd : decode cc pc = .ok (.iaload, 1))
    (k : W p l e R s m args below meth c H [] cells slots Q (F0 m (pc + 1) ls (.int (xs x) :: rest))) : W p l e R s m args below meth c H [] cells slots Q (F0 m pc ls (.int j :: .ref b :: rest)) := by
  subst hj
  refine va_sld hx hb hX hbl (Nat.not_le.mpr hbl) hS (vp_in_nI hxL hL) hd ?_
  rw [nI_clamp (by omega)]
  exact k
theorem kl_13 : Cond.methodLink RL 13 yX9_machine ∈ lw_good := by decide +kernel
theorem kl_17 : Cond.methodLink RL 17 yX10_machine ∈ lw_good := by decide +kernel
theorem kl_18 : Cond.methodLink RL 18 yX9_drum ∈ lw_good := by decide +kernel
theorem kl_22 : Cond.methodLink RL 22 yX10_drum ∈ lw_good := by decide +kernel
theorem kl_23 : Cond.methodLink RL 23 yX9_remove ∈ lw_good := by decide +kernel
theorem kl_27 : Cond.methodLink RL 27 yX10_remove ∈ lw_good := by decide +kernel
theorem kl_28 : Cond.methodLink RL 28 yX9_told ∈ lw_good := by decide +kernel
theorem kl_31 : Cond.methodLink RL 31 yX10_told ∈ lw_good := by decide +kernel
theorem kl_32 : Cond.methodLink RL 32 yX9_wish ∈ lw_good := by decide +kernel
theorem kl_36 : Cond.methodLink RL 36 yX10_wish ∈ lw_good := by decide +kernel
theorem kl_37 : Cond.methodLink RL 37 yX9_trace ∈ lw_good := by decide +kernel
theorem kl_40 : Cond.methodLink RL 40 yX10_trace ∈ lw_good := by decide +kernel
theorem kl_41 : Cond.methodLink RL 41 yX9_touches ∈ lw_good := by decide +kernel
theorem kl_44 : Cond.methodLink RL 44 yX10_touches ∈ lw_good := by decide +kernel
theorem kl_45 : Cond.methodLink RL 45 yX9_program ∈ lw_good := by decide +kernel
theorem kl_48 : Cond.methodLink RL 48 yX10_program ∈ lw_good := by decide +kernel
theorem kl_49 : Cond.methodLink RL 49 yX9_takeOut ∈ lw_good := by decide +kernel
theorem kl_52 : Cond.methodLink RL 52 yX10_takeOut ∈ lw_good := by decide +kernel
theorem kl_53 : Cond.methodLink RL 53 yX9_step ∈ lw_good := by decide +kernel
theorem kl_56 : Cond.methodLink RL 56 yX10_step ∈ lw_good := by decide +kernel
theorem kl_57 : Cond.methodLink RL 57 yX9_minutes ∈ lw_good := by decide +kernel
theorem kl_60 : Cond.methodLink RL 60 yX10_minutes ∈ lw_good := by decide +kernel
theorem kl_61 : Cond.methodLink RL 61 yX9_tube ∈ lw_good := by decide +kernel
theorem kl_64 : Cond.methodLink RL 64 yX10_tube ∈ lw_good := by decide +kernel
theorem kl_65 : Cond.methodLink RL 65 yX9_coin ∈ lw_good := by decide +kernel
theorem kl_68 : Cond.methodLink RL 68 yX10_coin ∈ lw_good := by decide +kernel
theorem kl_69 : Cond.methodLink RL 69 yX9_pay ∈ lw_good := by decide +kernel
theorem kl_72 : Cond.methodLink RL 72 yX10_pay ∈ lw_good := by decide +kernel
theorem kl_73 : Cond.methodLink RL 73 yX9_refund ∈ lw_good := by decide +kernel
theorem kl_76 : Cond.methodLink RL 76 yX10_refund ∈ lw_good := by decide +kernel
theorem kl_77 : Cond.methodLink RL 77 yX9_given ∈ lw_good := by decide +kernel
theorem kl_80 : Cond.methodLink RL 80 yX10_given ∈ lw_good := by decide +kernel
theorem kl_81 : Cond.methodLink RL 81 yX9_coins ∈ lw_good := by decide +kernel
theorem kl_84 : Cond.methodLink RL 84 yX10_coins ∈ lw_good := by decide +kernel
theorem kl_85 : Cond.methodLink RL 85 yX9_credit ∈ lw_good := by decide +kernel
theorem kl_88 : Cond.methodLink RL 88 yX10_credit ∈ lw_good := by decide +kernel
theorem kl_89 : Cond.methodLink RL 89 yX9_load ∈ lw_good := by decide +kernel
theorem kl_92 : Cond.methodLink RL 92 yX10_load ∈ lw_good := by decide +kernel
theorem kl_93 : Cond.methodLink RL 93 yX9_mix ∈ lw_good := by decide +kernel
theorem kl_97 : Cond.methodLink RL 97 yX10_mix ∈ lw_good := by decide +kernel
theorem kl_98 : Cond.methodLink RL 98 yX9_put ∈ lw_good := by decide +kernel
theorem kl_101 : Cond.methodLink RL 101 yX10_put ∈ lw_good := by decide +kernel
theorem kl_102 : Cond.methodLink RL 102 yX9_fetch ∈ lw_good := by decide +kernel
theorem kl_105 : Cond.methodLink RL 105 yX10_fetch ∈ lw_good := by decide +kernel
theorem kl_106 : Cond.methodLink RL 106 yX9_about ∈ lw_good := by decide +kernel
theorem kl_109 : Cond.methodLink RL 109 yX10_about ∈ lw_good := by decide +kernel
theorem kl_110 : Cond.methodLink RL 110 yX9_share ∈ lw_good := by decide +kernel
theorem kl_113 : Cond.methodLink RL 113 yX10_share ∈ lw_good := by decide +kernel
theorem kl_114 : Cond.methodLink RL 114 yX9_start ∈ lw_good := by decide +kernel
theorem kl_117 : Cond.methodLink RL 117 yX10_start ∈ lw_good := by decide +kernel
theorem kl_118 : Cond.methodLink RL 118 yX9_minute ∈ lw_good := by decide +kernel
theorem kl_121 : Cond.methodLink RL 121 yX10_minute ∈ lw_good := by decide +kernel
theorem kl_122 : Cond.methodLink RL 122 yX9_left ∈ lw_good := by decide +kernel
theorem kl_125 : Cond.methodLink RL 125 yX10_left ∈ lw_good := by decide +kernel
theorem kl_126 : Cond.methodLink RL 126 yX9_stop ∈ lw_good := by decide +kernel
theorem kl_129 : Cond.methodLink RL 129 yX10_stop ∈ lw_good := by decide +kernel
theorem kl_130 : Cond.methodLink RL 130 yX9_breaks ∈ lw_good := by decide +kernel
theorem kl_133 : Cond.methodLink RL 133 yX10_breaks ∈ lw_good := by decide +kernel
theorem kl_134 : Cond.methodLink RL 134 yX9_mend ∈ lw_good := by decide +kernel
theorem kl_137 : Cond.methodLink RL 137 yX10_mend ∈ lw_good := by decide +kernel
theorem kl_138 : Cond.methodLink RL 138 yX9_bound ∈ lw_good := by decide +kernel
theorem kl_141 : Cond.methodLink RL 141 yX10_bound ∈ lw_good := by decide +kernel
theorem kl_142 : Cond.methodLink RL 142 yX9_used ∈ lw_good := by decide +kernel
theorem kl_145 : Cond.methodLink RL 145 yX10_used ∈ lw_good := by decide +kernel
theorem kl_146 : Cond.methodLink RL 146 yX9_book ∈ lw_good := by decide +kernel
theorem kl_149 : Cond.methodLink RL 149 yX10_book ∈ lw_good := by decide +kernel
theorem kl_150 : Cond.methodLink RL 150 yX9_cost ∈ lw_good := by decide +kernel
theorem kl_153 : Cond.methodLink RL 153 yX10_cost ∈ lw_good := by decide +kernel
theorem kl_154 : Cond.methodLink RL 154 yX9_count ∈ lw_good := by decide +kernel
theorem kl_157 : Cond.methodLink RL 157 yX10_count ∈ lw_good := by decide +kernel
theorem kl_158 : Cond.methodLink RL 158 yX9_back ∈ lw_good := by decide +kernel
theorem kl_161 : Cond.methodLink RL 161 yX10_back ∈ lw_good := by decide +kernel
theorem kl_162 : Cond.methodLink RL 162 yX9_digest ∈ lw_good := by decide +kernel
theorem kl_166 : Cond.methodLink RL 166 yX10_digest ∈ lw_good := by decide +kernel
theorem kl_167 : Cond.methodLink RL 167 yX9_status ∈ lw_good := by decide +kernel
theorem kl_171 : Cond.methodLink RL 171 yX10_status ∈ lw_good := by decide +kernel
set_option maxHeartbeats 4000000 in
set_option maxRecDepth 100000 in
theorem lc_0 {p : Program} {l : Launch} {e : Env} {s : State} {m : MethodId} {below : List Frame} {meth : Method} {c : Code} {b L : Nat} {xs : Nat → Int32} {G : Gm} {q2 : Nat → Nat} {la : Nat} {w : CW} {wm : MW} {H : Heap} {ls : Array Slot} {i n K : Nat} (B : CB RL cL_law 4 p s m #[Value.ref b] c) (hKK : KK G s) (hX : va_X b L xs s s.heap) (hbl : b < s.heap.size) (h : LW s G (mG G q2) la w wm H) (hR : Rl n w wm) (hn : n < 513) (hi : i + 5 ≤ L) (hL : L ≤ 2560) (hK : 4096 * K + 4096 = 2 * w.2) (hl : lv_has ls 4 [(0, .ref b), (1, .ref (gq G 0)), (2, .ref (q2 0)), (3, .int (nI i))]) (k : ∀ (la : Nat) (w : CW) (wm : MW) (H : Heap) (K : Nat), LW s G (mG G q2) la w wm H → Rl (n + 1) w wm → 4096 * K + 4096 = 2 * w.2 → W p l e room_1 s m #[Value.ref b] below meth c H [] (53 + K) (1084827 + 4096 * K) (lw_Z below #[Value.ref b] s) (F0 m 1371 ls [])) : W p l e room_1 s m #[Value.ref b] below meth c H [] (53 + K) (1084827 + 4096 * K) (lw_Z below #[Value.ref b] s) (F0 m 200 ls []) := by
  obtain ⟨hx, hb, hml, hown, hts⟩ := id B
  have hb1 := hRl_bound hR
  refine lv_aload_n hx hb dL_law_200 rfl (lv_at hl 1 rfl) ?_
  refine lv_aload_n hx hb dL_law_201 rfl (lv_at hl 0 rfl) ?_
  refine lv_iload_n hx hb dL_law_202 rfl (lv_at hl 3 rfl) ?_
  refine lv_iconst (v := 1) hx hb dL_law_203 (by decide) ?_
  refine lv_iadd hx hb dL_law_204 ?_
  refine r_sld (x := i + 1) hx hb hX hbl h.2.2.2 (nI_add i 1) (by omega) (by omega) dL_law_205 ?_
  refine lv_aload_n hx hb dL_law_206 rfl (lv_at hl 0 rfl) ?_
  refine lv_iload_n hx hb dL_law_207 rfl (lv_at hl 3 rfl) ?_
  refine lv_iconst (v := 2) hx hb dL_law_208 (by decide) ?_
  refine lv_iadd hx hb dL_law_209 ?_
  refine r_sld (x := i + 2) hx hb hX hbl h.2.2.2 (nI_add i 2) (by omega) (by omega) dL_law_210 ?_
  refine lv_aload_n hx hb dL_law_211 rfl (lv_at hl 0 rfl) ?_
  refine lv_iload_n hx hb dL_law_212 rfl (lv_at hl 3 rfl) ?_
  refine lv_iconst (v := 3) hx hb dL_law_213 (by decide) ?_
  refine lv_iadd hx hb dL_law_214 ?_
  refine r_sld (x := i + 3) hx hb hX hbl h.2.2.2 (nI_add i 3) (by omega) (by omega) dL_law_215 ?_
  refine lv_aload_n hx hb dL_law_216 rfl (lv_at hl 0 rfl) ?_
  refine lv_iload_n hx hb dL_law_217 rfl (lv_at hl 3 rfl) ?_
  refine lv_iconst (v := 4) hx hb dL_law_218 (by decide) ?_
  refine lv_iadd hx hb dL_law_219 ?_
  refine r_sld (x := i + 4) hx hb hX hbl h.2.2.2 (nI_add i 4) (by omega) (by omega) dL_law_220 ?_
  obtain ⟨r, w2, wm2, n2, hc, hm, hR2, hw2⟩ := eq_machine hR hn (xs (i + 1)) (xs (i + 2)) (xs (i + 3)) (xs (i + 4))
  have hbd2 := hRl_bound hR2
  refine fin_i (n := n2) (runV (As := [.int (xs (i + 1)), .int (xs (i + 2)), .int (xs (i + 3)), .int (xs (i + 4))]) B 4 (t_X9_machine l G la w (xs (i + 1)) (xs (i + 2)) (xs (i + 3)) (xs (i + 4)) r w2 n2 hc _) rfl rfl kl_13 m_X9_machine (by decide +kernel) ⟨(Nat.le_of_ble_eq_true rfl), (Nat.le_of_ble_eq_true rfl)⟩ ⟨blindM, va_recv hKK.1 h.1 (ci := 8) (q0 := 0) rfl rfl, preM hKK h.c.1⟩ rfl hl.1 (Nat.le_of_ble_eq_true rfl) dL_law_221 ⟨by show _ ≤ 600000; omega, by show _ ≤ 7302250; omega⟩) h.c.1 (fun q z => Or.inr z) (fun u H1 locs1 h1 => ?_)
  obtain ⟨h, hfo⟩ := h.c.2 _ _ _ _ h1
  refine va_forget hfo ?_
  have hK : 4096 * (K + n2) + 4096 = 2 * w2.2 := by omega
  refine W.widen (k := 53 + (K + n2)) (n := 1084827 + 4096 * (K + n2)) (by omega) (by omega) ?_
  have hb2 := hRl_bound hR2
  refine lv_aload_n hx hb dL_law_224 rfl (lv_at hl 2 rfl) ?_
  refine lv_aload_n hx hb dL_law_225 rfl (lv_at hl 0 rfl) ?_
  refine lv_iload_n hx hb dL_law_226 rfl (lv_at hl 3 rfl) ?_
  refine lv_iconst (v := 1) hx hb dL_law_227 (by decide) ?_
  refine lv_iadd hx hb dL_law_228 ?_
  refine r_sld (x := i + 1) hx hb hX hbl h.2.2.2 (nI_add i 1) (by omega) (by omega) dL_law_229 ?_
  refine lv_aload_n hx hb dL_law_230 rfl (lv_at hl 0 rfl) ?_
  refine lv_iload_n hx hb dL_law_231 rfl (lv_at hl 3 rfl) ?_
  refine lv_iconst (v := 2) hx hb dL_law_232 (by decide) ?_
  refine lv_iadd hx hb dL_law_233 ?_
  refine r_sld (x := i + 2) hx hb hX hbl h.2.2.2 (nI_add i 2) (by omega) (by omega) dL_law_234 ?_
  refine lv_aload_n hx hb dL_law_235 rfl (lv_at hl 0 rfl) ?_
  refine lv_iload_n hx hb dL_law_236 rfl (lv_at hl 3 rfl) ?_
  refine lv_iconst (v := 3) hx hb dL_law_237 (by decide) ?_
  refine lv_iadd hx hb dL_law_238 ?_
  refine r_sld (x := i + 3) hx hb hX hbl h.2.2.2 (nI_add i 3) (by omega) (by omega) dL_law_239 ?_
  refine lv_aload_n hx hb dL_law_240 rfl (lv_at hl 0 rfl) ?_
  refine lv_iload_n hx hb dL_law_241 rfl (lv_at hl 3 rfl) ?_
  refine lv_iconst (v := 4) hx hb dL_law_242 (by decide) ?_
  refine lv_iadd hx hb dL_law_243 ?_
  refine r_sld (x := i + 4) hx hb hX hbl h.2.2.2 (nI_add i 4) (by omega) (by omega) dL_law_244 ?_
  refine fin_i (n := 0) (runV (As := [.int (xs (i + 1)), .int (xs (i + 2)), .int (xs (i + 3)), .int (xs (i + 4))]) B 4 (t_X10_machine l (mG G q2) wm (xs (i + 1)) (xs (i + 2)) (xs (i + 3)) (xs (i + 4)) r wm2 hm _) rfl rfl kl_17 m_X10_machine (by decide +kernel) ⟨(Nat.le_of_ble_eq_true rfl), (Nat.le_of_ble_eq_true rfl)⟩ ⟨blindM, va_recv hKK.1 h.m.1.1 (ci := 9) (q0 := 0) rfl rfl, preM (KKm hKK) h.m.1⟩ rfl hl.1 (Nat.le_of_ble_eq_true rfl) dL_law_245 ⟨by show _ ≤ 600000; omega, by show _ ≤ 7302250; omega⟩) h.m.1 (fun q z => Or.inr z) (fun u H1 locs1 h1 => ?_)
  obtain ⟨h, hfo⟩ := h.m.2 _ _ _ h1
  refine va_forget hfo ?_
  exact lv_icmp_eq (tgt := 1371) hx hb dL_law_248 (by decide) (fun _ => k _ _ _ _ _ h hR2 hK) (fun c1 => absurd rfl c1)
set_option maxHeartbeats 4000000 in
set_option maxRecDepth 100000 in
theorem lc_1 {p : Program} {l : Launch} {e : Env} {s : State} {m : MethodId} {below : List Frame} {meth : Method} {c : Code} {b L : Nat} {xs : Nat → Int32} {G : Gm} {q2 : Nat → Nat} {la : Nat} {w : CW} {wm : MW} {H : Heap} {ls : Array Slot} {i n K : Nat} (B : CB RL cL_law 4 p s m #[Value.ref b] c) (hKK : KK G s) (hX : va_X b L xs s s.heap) (hbl : b < s.heap.size) (h : LW s G (mG G q2) la w wm H) (hR : Rl n w wm) (hn : n < 513) (hi : i + 5 ≤ L) (hL : L ≤ 2560) (hK : 4096 * K + 4096 = 2 * w.2) (hl : lv_has ls 4 [(0, .ref b), (1, .ref (gq G 0)), (2, .ref (q2 0)), (3, .int (nI i))]) (k : ∀ (la : Nat) (w : CW) (wm : MW) (H : Heap) (K : Nat), LW s G (mG G q2) la w wm H → Rl (n + 1) w wm → 4096 * K + 4096 = 2 * w.2 → W p l e room_1 s m #[Value.ref b] below meth c H [] (53 + K) (1084827 + 4096 * K) (lw_Z below #[Value.ref b] s) (F0 m 1371 ls [])) : W p l e room_1 s m #[Value.ref b] below meth c H [] (53 + K) (1084827 + 4096 * K) (lw_Z below #[Value.ref b] s) (F0 m 253 ls []) := by
  obtain ⟨hx, hb, hml, hown, hts⟩ := id B
  have hb1 := hRl_bound hR
  refine lv_aload_n hx hb dL_law_253 rfl (lv_at hl 1 rfl) ?_
  refine lv_aload_n hx hb dL_law_254 rfl (lv_at hl 0 rfl) ?_
  refine lv_iload_n hx hb dL_law_255 rfl (lv_at hl 3 rfl) ?_
  refine lv_iconst (v := 1) hx hb dL_law_256 (by decide) ?_
  refine lv_iadd hx hb dL_law_257 ?_
  refine r_sld (x := i + 1) hx hb hX hbl h.2.2.2 (nI_add i 1) (by omega) (by omega) dL_law_258 ?_
  refine lv_aload_n hx hb dL_law_259 rfl (lv_at hl 0 rfl) ?_
  refine lv_iload_n hx hb dL_law_260 rfl (lv_at hl 3 rfl) ?_
  refine lv_iconst (v := 2) hx hb dL_law_261 (by decide) ?_
  refine lv_iadd hx hb dL_law_262 ?_
  refine r_sld (x := i + 2) hx hb hX hbl h.2.2.2 (nI_add i 2) (by omega) (by omega) dL_law_263 ?_
  obtain ⟨r, w2, wm2, n2, hc, hm, hR2, hw2⟩ := eq_drum hR hn (xs (i + 1)) (xs (i + 2))
  have hbd2 := hRl_bound hR2
  refine fin_i (n := n2) (runV (As := [.int (xs (i + 1)), .int (xs (i + 2))]) B 2 (t_X9_drum l G la w (xs (i + 1)) (xs (i + 2)) r w2 n2 hc _) rfl rfl kl_18 m_X9_drum (by decide +kernel) ⟨(Nat.le_of_ble_eq_true rfl), (Nat.le_of_ble_eq_true rfl)⟩ ⟨blindM, va_recv hKK.1 h.1 (ci := 8) (q0 := 0) rfl rfl, preM hKK h.c.1⟩ rfl hl.1 (Nat.le_of_ble_eq_true rfl) dL_law_264 ⟨by show _ ≤ 600000; omega, by show _ ≤ 7302250; omega⟩) h.c.1 (fun q z => Or.inr z) (fun u H1 locs1 h1 => ?_)
  obtain ⟨h, hfo⟩ := h.c.2 _ _ _ _ h1
  refine va_forget hfo ?_
  have hK : 4096 * (K + n2) + 4096 = 2 * w2.2 := by omega
  refine W.widen (k := 53 + (K + n2)) (n := 1084827 + 4096 * (K + n2)) (by omega) (by omega) ?_
  have hb2 := hRl_bound hR2
  refine lv_aload_n hx hb dL_law_267 rfl (lv_at hl 2 rfl) ?_
  refine lv_aload_n hx hb dL_law_268 rfl (lv_at hl 0 rfl) ?_
  refine lv_iload_n hx hb dL_law_269 rfl (lv_at hl 3 rfl) ?_
  refine lv_iconst (v := 1) hx hb dL_law_270 (by decide) ?_
  refine lv_iadd hx hb dL_law_271 ?_
  refine r_sld (x := i + 1) hx hb hX hbl h.2.2.2 (nI_add i 1) (by omega) (by omega) dL_law_272 ?_
  refine lv_aload_n hx hb dL_law_273 rfl (lv_at hl 0 rfl) ?_
  refine lv_iload_n hx hb dL_law_274 rfl (lv_at hl 3 rfl) ?_
  refine lv_iconst (v := 2) hx hb dL_law_275 (by decide) ?_
  refine lv_iadd hx hb dL_law_276 ?_
  refine r_sld (x := i + 2) hx hb hX hbl h.2.2.2 (nI_add i 2) (by omega) (by omega) dL_law_277 ?_
  refine fin_i (n := 0) (runV (As := [.int (xs (i + 1)), .int (xs (i + 2))]) B 2 (t_X10_drum l (mG G q2) wm (xs (i + 1)) (xs (i + 2)) r wm2 hm _) rfl rfl kl_22 m_X10_drum (by decide +kernel) ⟨(Nat.le_of_ble_eq_true rfl), (Nat.le_of_ble_eq_true rfl)⟩ ⟨blindM, va_recv hKK.1 h.m.1.1 (ci := 9) (q0 := 0) rfl rfl, preM (KKm hKK) h.m.1⟩ rfl hl.1 (Nat.le_of_ble_eq_true rfl) dL_law_278 ⟨by show _ ≤ 600000; omega, by show _ ≤ 7302250; omega⟩) h.m.1 (fun q z => Or.inr z) (fun u H1 locs1 h1 => ?_)
  obtain ⟨h, hfo⟩ := h.m.2 _ _ _ h1
  refine va_forget hfo ?_
  exact lv_icmp_eq (tgt := 1371) hx hb dL_law_281 (by decide) (fun _ => k _ _ _ _ _ h hR2 hK) (fun c1 => absurd rfl c1)
set_option maxHeartbeats 4000000 in
set_option maxRecDepth 100000 in
theorem lc_2 {p : Program} {l : Launch} {e : Env} {s : State} {m : MethodId} {below : List Frame} {meth : Method} {c : Code} {b L : Nat} {xs : Nat → Int32} {G : Gm} {q2 : Nat → Nat} {la : Nat} {w : CW} {wm : MW} {H : Heap} {ls : Array Slot} {i n K : Nat} (B : CB RL cL_law 4 p s m #[Value.ref b] c) (hKK : KK G s) (hX : va_X b L xs s s.heap) (hbl : b < s.heap.size) (h : LW s G (mG G q2) la w wm H) (hR : Rl n w wm) (hn : n < 513) (hi : i + 5 ≤ L) (hL : L ≤ 2560) (hK : 4096 * K + 4096 = 2 * w.2) (hl : lv_has ls 4 [(0, .ref b), (1, .ref (gq G 0)), (2, .ref (q2 0)), (3, .int (nI i))]) (k : ∀ (la : Nat) (w : CW) (wm : MW) (H : Heap) (K : Nat), LW s G (mG G q2) la w wm H → Rl (n + 1) w wm → 4096 * K + 4096 = 2 * w.2 → W p l e room_1 s m #[Value.ref b] below meth c H [] (53 + K) (1084827 + 4096 * K) (lw_Z below #[Value.ref b] s) (F0 m 1371 ls [])) : W p l e room_1 s m #[Value.ref b] below meth c H [] (53 + K) (1084827 + 4096 * K) (lw_Z below #[Value.ref b] s) (F0 m 286 ls []) := by
  obtain ⟨hx, hb, hml, hown, hts⟩ := id B
  have hb1 := hRl_bound hR
  refine lv_aload_n hx hb dL_law_286 rfl (lv_at hl 1 rfl) ?_
  refine lv_aload_n hx hb dL_law_287 rfl (lv_at hl 0 rfl) ?_
  refine lv_iload_n hx hb dL_law_288 rfl (lv_at hl 3 rfl) ?_
  refine lv_iconst (v := 1) hx hb dL_law_289 (by decide) ?_
  refine lv_iadd hx hb dL_law_290 ?_
  refine r_sld (x := i + 1) hx hb hX hbl h.2.2.2 (nI_add i 1) (by omega) (by omega) dL_law_291 ?_
  obtain ⟨r, w2, wm2, n2, hc, hm, hR2, hw2⟩ := eq_remove hR hn (xs (i + 1))
  have hbd2 := hRl_bound hR2
  refine fin_i (n := n2) (runV (As := [.int (xs (i + 1))]) B 1 (t_X9_remove l G la w (xs (i + 1)) r w2 n2 hc _) rfl rfl kl_23 m_X9_remove (by decide +kernel) ⟨(Nat.le_of_ble_eq_true rfl), (Nat.le_of_ble_eq_true rfl)⟩ ⟨blindM, va_recv hKK.1 h.1 (ci := 8) (q0 := 0) rfl rfl, preM hKK h.c.1⟩ rfl hl.1 (Nat.le_of_ble_eq_true rfl) dL_law_292 ⟨by show _ ≤ 600000; omega, by show _ ≤ 7302250; omega⟩) h.c.1 (fun q z => Or.inr z) (fun u H1 locs1 h1 => ?_)
  obtain ⟨h, hfo⟩ := h.c.2 _ _ _ _ h1
  refine va_forget hfo ?_
  have hK : 4096 * (K + n2) + 4096 = 2 * w2.2 := by omega
  refine W.widen (k := 53 + (K + n2)) (n := 1084827 + 4096 * (K + n2)) (by omega) (by omega) ?_
  have hb2 := hRl_bound hR2
  refine lv_aload_n hx hb dL_law_295 rfl (lv_at hl 2 rfl) ?_
  refine lv_aload_n hx hb dL_law_296 rfl (lv_at hl 0 rfl) ?_
  refine lv_iload_n hx hb dL_law_297 rfl (lv_at hl 3 rfl) ?_
  refine lv_iconst (v := 1) hx hb dL_law_298 (by decide) ?_
  refine lv_iadd hx hb dL_law_299 ?_
  refine r_sld (x := i + 1) hx hb hX hbl h.2.2.2 (nI_add i 1) (by omega) (by omega) dL_law_300 ?_
  refine fin_i (n := 0) (runV (As := [.int (xs (i + 1))]) B 1 (t_X10_remove l (mG G q2) wm (xs (i + 1)) r wm2 hm _) rfl rfl kl_27 m_X10_remove (by decide +kernel) ⟨(Nat.le_of_ble_eq_true rfl), (Nat.le_of_ble_eq_true rfl)⟩ ⟨blindM, va_recv hKK.1 h.m.1.1 (ci := 9) (q0 := 0) rfl rfl, preM (KKm hKK) h.m.1⟩ rfl hl.1 (Nat.le_of_ble_eq_true rfl) dL_law_301 ⟨by show _ ≤ 600000; omega, by show _ ≤ 7302250; omega⟩) h.m.1 (fun q z => Or.inr z) (fun u H1 locs1 h1 => ?_)
  obtain ⟨h, hfo⟩ := h.m.2 _ _ _ h1
  refine va_forget hfo ?_
  exact lv_icmp_eq (tgt := 1371) hx hb dL_law_304 (by decide) (fun _ => k _ _ _ _ _ h hR2 hK) (fun c1 => absurd rfl c1)
set_option maxHeartbeats 4000000 in
set_option maxRecDepth 100000 in
theorem lc_3 {p : Program} {l : Launch} {e : Env} {s : State} {m : MethodId} {below : List Frame} {meth : Method} {c : Code} {b L : Nat} {xs : Nat → Int32} {G : Gm} {q2 : Nat → Nat} {la : Nat} {w : CW} {wm : MW} {H : Heap} {ls : Array Slot} {i n K : Nat} (B : CB RL cL_law 4 p s m #[Value.ref b] c) (hKK : KK G s) (hX : va_X b L xs s s.heap) (hbl : b < s.heap.size) (h : LW s G (mG G q2) la w wm H) (hR : Rl n w wm) (hn : n < 513) (hi : i + 5 ≤ L) (hL : L ≤ 2560) (hK : 4096 * K + 4096 = 2 * w.2) (hl : lv_has ls 4 [(0, .ref b), (1, .ref (gq G 0)), (2, .ref (q2 0)), (3, .int (nI i))]) (k : ∀ (la : Nat) (w : CW) (wm : MW) (H : Heap) (K : Nat), LW s G (mG G q2) la w wm H → Rl (n + 1) w wm → 4096 * K + 4096 = 2 * w.2 → W p l e room_1 s m #[Value.ref b] below meth c H [] (53 + K) (1084827 + 4096 * K) (lw_Z below #[Value.ref b] s) (F0 m 1371 ls [])) : W p l e room_1 s m #[Value.ref b] below meth c H [] (53 + K) (1084827 + 4096 * K) (lw_Z below #[Value.ref b] s) (F0 m 309 ls []) := by
  obtain ⟨hx, hb, hml, hown, hts⟩ := id B
  have hb1 := hRl_bound hR
  refine lv_aload_n hx hb dL_law_309 rfl (lv_at hl 1 rfl) ?_
  refine lv_aload_n hx hb dL_law_310 rfl (lv_at hl 0 rfl) ?_
  refine lv_iload_n hx hb dL_law_311 rfl (lv_at hl 3 rfl) ?_
  refine lv_iconst (v := 1) hx hb dL_law_312 (by decide) ?_
  refine lv_iadd hx hb dL_law_313 ?_
  refine r_sld (x := i + 1) hx hb hX hbl h.2.2.2 (nI_add i 1) (by omega) (by omega) dL_law_314 ?_
  refine lv_aload_n hx hb dL_law_315 rfl (lv_at hl 0 rfl) ?_
  refine lv_iload_n hx hb dL_law_316 rfl (lv_at hl 3 rfl) ?_
  refine lv_iconst (v := 2) hx hb dL_law_317 (by decide) ?_
  refine lv_iadd hx hb dL_law_318 ?_
  refine r_sld (x := i + 2) hx hb hX hbl h.2.2.2 (nI_add i 2) (by omega) (by omega) dL_law_319 ?_
  obtain ⟨r, w2, wm2, hc, hm, hR2, hw2⟩ := eq_told hR hn (xs (i + 1)) (xs (i + 2))
  refine fin_i (n := 0) (runV (As := [.int (xs (i + 1)), .int (xs (i + 2))]) B 2 (t_X9_told l G la w (xs (i + 1)) (xs (i + 2)) r w2 hc _) rfl rfl kl_28 m_X9_told (by decide +kernel) ⟨(Nat.le_of_ble_eq_true rfl), (Nat.le_of_ble_eq_true rfl)⟩ ⟨blindM, va_recv hKK.1 h.1 (ci := 8) (q0 := 0) rfl rfl, preM hKK h.c.1⟩ rfl hl.1 (Nat.le_of_ble_eq_true rfl) dL_law_320 ⟨by show _ ≤ 600000; omega, by show _ ≤ 7302250; omega⟩) h.c.1 (fun q z => Or.inr z) (fun u H1 locs1 h1 => ?_)
  obtain ⟨h, hfo⟩ := h.c.2 _ _ _ _ h1
  refine va_forget hfo ?_
  have hK : 4096 * K + 4096 = 2 * w2.2 := by rw [hw2]; exact hK
  have hb2 := hRl_bound hR2
  refine lv_aload_n hx hb dL_law_323 rfl (lv_at hl 2 rfl) ?_
  refine lv_aload_n hx hb dL_law_324 rfl (lv_at hl 0 rfl) ?_
  refine lv_iload_n hx hb dL_law_325 rfl (lv_at hl 3 rfl) ?_
  refine lv_iconst (v := 1) hx hb dL_law_326 (by decide) ?_
  refine lv_iadd hx hb dL_law_327 ?_
  refine r_sld (x := i + 1) hx hb hX hbl h.2.2.2 (nI_add i 1) (by omega) (by omega) dL_law_328 ?_
  refine lv_aload_n hx hb dL_law_329 rfl (lv_at hl 0 rfl) ?_
  refine lv_iload_n hx hb dL_law_330 rfl (lv_at hl 3 rfl) ?_
  refine lv_iconst (v := 2) hx hb dL_law_331 (by decide) ?_
  refine lv_iadd hx hb dL_law_332 ?_
  refine r_sld (x := i + 2) hx hb hX hbl h.2.2.2 (nI_add i 2) (by omega) (by omega) dL_law_333 ?_
  refine fin_i (n := 0) (runV (As := [.int (xs (i + 1)), .int (xs (i + 2))]) B 2 (t_X10_told l (mG G q2) wm (xs (i + 1)) (xs (i + 2)) r wm2 hm _) rfl rfl kl_31 m_X10_told (by decide +kernel) ⟨(Nat.le_of_ble_eq_true rfl), (Nat.le_of_ble_eq_true rfl)⟩ ⟨blindM, va_recv hKK.1 h.m.1.1 (ci := 9) (q0 := 0) rfl rfl, preM (KKm hKK) h.m.1⟩ rfl hl.1 (Nat.le_of_ble_eq_true rfl) dL_law_334 ⟨by show _ ≤ 600000; omega, by show _ ≤ 7302250; omega⟩) h.m.1 (fun q z => Or.inr z) (fun u H1 locs1 h1 => ?_)
  obtain ⟨h, hfo⟩ := h.m.2 _ _ _ h1
  refine va_forget hfo ?_
  exact lv_icmp_eq (tgt := 1371) hx hb dL_law_337 (by decide) (fun _ => k _ _ _ _ _ h hR2 hK) (fun c1 => absurd rfl c1)
set_option maxHeartbeats 4000000 in
set_option maxRecDepth 100000 in
theorem lc_4 {p : Program} {l : Launch} {e : Env} {s : State} {m : MethodId} {below : List Frame} {meth : Method} {c : Code} {b L : Nat} {xs : Nat → Int32} {G : Gm} {q2 : Nat → Nat} {la : Nat} {w : CW} {wm : MW} {H : Heap} {ls : Array Slot} {i n K : Nat} (B : CB RL cL_law 4 p s m #[Value.ref b] c) (hKK : KK G s) (hX : va_X b L xs s s.heap) (hbl : b < s.heap.size) (h : LW s G (mG G q2) la w wm H) (hR : Rl n w wm) (hn : n < 513) (hi : i + 5 ≤ L) (hL : L ≤ 2560) (hK : 4096 * K + 4096 = 2 * w.2) (hl : lv_has ls 4 [(0, .ref b), (1, .ref (gq G 0)), (2, .ref (q2 0)), (3, .int (nI i))]) (k : ∀ (la : Nat) (w : CW) (wm : MW) (H : Heap) (K : Nat), LW s G (mG G q2) la w wm H → Rl (n + 1) w wm → 4096 * K + 4096 = 2 * w.2 → W p l e room_1 s m #[Value.ref b] below meth c H [] (53 + K) (1084827 + 4096 * K) (lw_Z below #[Value.ref b] s) (F0 m 1371 ls [])) : W p l e room_1 s m #[Value.ref b] below meth c H [] (53 + K) (1084827 + 4096 * K) (lw_Z below #[Value.ref b] s) (F0 m 342 ls []) := by
  obtain ⟨hx, hb, hml, hown, hts⟩ := id B
  have hb1 := hRl_bound hR
  refine lv_aload_n hx hb dL_law_342 rfl (lv_at hl 1 rfl) ?_
  refine lv_aload_n hx hb dL_law_343 rfl (lv_at hl 0 rfl) ?_
  refine lv_iload_n hx hb dL_law_344 rfl (lv_at hl 3 rfl) ?_
  refine lv_iconst (v := 1) hx hb dL_law_345 (by decide) ?_
  refine lv_iadd hx hb dL_law_346 ?_
  refine r_sld (x := i + 1) hx hb hX hbl h.2.2.2 (nI_add i 1) (by omega) (by omega) dL_law_347 ?_
  refine lv_aload_n hx hb dL_law_348 rfl (lv_at hl 0 rfl) ?_
  refine lv_iload_n hx hb dL_law_349 rfl (lv_at hl 3 rfl) ?_
  refine lv_iconst (v := 2) hx hb dL_law_350 (by decide) ?_
  refine lv_iadd hx hb dL_law_351 ?_
  refine r_sld (x := i + 2) hx hb hX hbl h.2.2.2 (nI_add i 2) (by omega) (by omega) dL_law_352 ?_
  refine lv_aload_n hx hb dL_law_353 rfl (lv_at hl 0 rfl) ?_
  refine lv_iload_n hx hb dL_law_354 rfl (lv_at hl 3 rfl) ?_
  refine lv_iconst (v := 3) hx hb dL_law_355 (by decide) ?_
  refine lv_iadd hx hb dL_law_356 ?_
  refine r_sld (x := i + 3) hx hb hX hbl h.2.2.2 (nI_add i 3) (by omega) (by omega) dL_law_357 ?_
  obtain ⟨r, w2, wm2, hc, hm, hR2, hw2⟩ := eq_wish hR hn (xs (i + 1)) (xs (i + 2)) (xs (i + 3))
  refine fin_i (n := 0) (runV (As := [.int (xs (i + 1)), .int (xs (i + 2)), .int (xs (i + 3))]) B 3 (t_X9_wish l G la w (xs (i + 1)) (xs (i + 2)) (xs (i + 3)) r w2 hc _) rfl rfl kl_32 m_X9_wish (by decide +kernel) ⟨(Nat.le_of_ble_eq_true rfl), (Nat.le_of_ble_eq_true rfl)⟩ ⟨blindM, va_recv hKK.1 h.1 (ci := 8) (q0 := 0) rfl rfl, preM hKK h.c.1⟩ rfl hl.1 (Nat.le_of_ble_eq_true rfl) dL_law_358 ⟨by show _ ≤ 600000; omega, by show _ ≤ 7302250; omega⟩) h.c.1 (fun q z => Or.inr z) (fun u H1 locs1 h1 => ?_)
  obtain ⟨h, hfo⟩ := h.c.2 _ _ _ _ h1
  refine va_forget hfo ?_
  have hK : 4096 * K + 4096 = 2 * w2.2 := by rw [hw2]; exact hK
  have hb2 := hRl_bound hR2
  refine lv_aload_n hx hb dL_law_361 rfl (lv_at hl 2 rfl) ?_
  refine lv_aload_n hx hb dL_law_362 rfl (lv_at hl 0 rfl) ?_
  refine lv_iload_n hx hb dL_law_363 rfl (lv_at hl 3 rfl) ?_
  refine lv_iconst (v := 1) hx hb dL_law_364 (by decide) ?_
  refine lv_iadd hx hb dL_law_365 ?_
  refine r_sld (x := i + 1) hx hb hX hbl h.2.2.2 (nI_add i 1) (by omega) (by omega) dL_law_366 ?_
  refine lv_aload_n hx hb dL_law_367 rfl (lv_at hl 0 rfl) ?_
  refine lv_iload_n hx hb dL_law_368 rfl (lv_at hl 3 rfl) ?_
  refine lv_iconst (v := 2) hx hb dL_law_369 (by decide) ?_
  refine lv_iadd hx hb dL_law_370 ?_
  refine r_sld (x := i + 2) hx hb hX hbl h.2.2.2 (nI_add i 2) (by omega) (by omega) dL_law_371 ?_
  refine lv_aload_n hx hb dL_law_372 rfl (lv_at hl 0 rfl) ?_
  refine lv_iload_n hx hb dL_law_373 rfl (lv_at hl 3 rfl) ?_
  refine lv_iconst (v := 3) hx hb dL_law_374 (by decide) ?_
  refine lv_iadd hx hb dL_law_375 ?_
  refine r_sld (x := i + 3) hx hb hX hbl h.2.2.2 (nI_add i 3) (by omega) (by omega) dL_law_376 ?_
  refine fin_i (n := 0) (runV (As := [.int (xs (i + 1)), .int (xs (i + 2)), .int (xs (i + 3))]) B 3 (t_X10_wish l (mG G q2) wm (xs (i + 1)) (xs (i + 2)) (xs (i + 3)) r wm2 hm _) rfl rfl kl_36 m_X10_wish (by decide +kernel) ⟨(Nat.le_of_ble_eq_true rfl), (Nat.le_of_ble_eq_true rfl)⟩ ⟨blindM, va_recv hKK.1 h.m.1.1 (ci := 9) (q0 := 0) rfl rfl, preM (KKm hKK) h.m.1⟩ rfl hl.1 (Nat.le_of_ble_eq_true rfl) dL_law_377 ⟨by show _ ≤ 600000; omega, by show _ ≤ 7302250; omega⟩) h.m.1 (fun q z => Or.inr z) (fun u H1 locs1 h1 => ?_)
  obtain ⟨h, hfo⟩ := h.m.2 _ _ _ h1
  refine va_forget hfo ?_
  exact lv_icmp_eq (tgt := 1371) hx hb dL_law_380 (by decide) (fun _ => k _ _ _ _ _ h hR2 hK) (fun c1 => absurd rfl c1)
set_option maxHeartbeats 4000000 in
set_option maxRecDepth 100000 in
theorem lc_5 {p : Program} {l : Launch} {e : Env} {s : State} {m : MethodId} {below : List Frame} {meth : Method} {c : Code} {b L : Nat} {xs : Nat → Int32} {G : Gm} {q2 : Nat → Nat} {la : Nat} {w : CW} {wm : MW} {H : Heap} {ls : Array Slot} {i n K : Nat} (B : CB RL cL_law 4 p s m #[Value.ref b] c) (hKK : KK G s) (hX : va_X b L xs s s.heap) (hbl : b < s.heap.size) (h : LW s G (mG G q2) la w wm H) (hR : Rl n w wm) (hn : n < 513) (hi : i + 5 ≤ L) (hL : L ≤ 2560) (hK : 4096 * K + 4096 = 2 * w.2) (hl : lv_has ls 4 [(0, .ref b), (1, .ref (gq G 0)), (2, .ref (q2 0)), (3, .int (nI i))]) (k : ∀ (la : Nat) (w : CW) (wm : MW) (H : Heap) (K : Nat), LW s G (mG G q2) la w wm H → Rl (n + 1) w wm → 4096 * K + 4096 = 2 * w.2 → W p l e room_1 s m #[Value.ref b] below meth c H [] (53 + K) (1084827 + 4096 * K) (lw_Z below #[Value.ref b] s) (F0 m 1371 ls [])) : W p l e room_1 s m #[Value.ref b] below meth c H [] (53 + K) (1084827 + 4096 * K) (lw_Z below #[Value.ref b] s) (F0 m 385 ls []) := by
  obtain ⟨hx, hb, hml, hown, hts⟩ := id B
  have hb1 := hRl_bound hR
  refine lv_aload_n hx hb dL_law_385 rfl (lv_at hl 1 rfl) ?_
  refine lv_aload_n hx hb dL_law_386 rfl (lv_at hl 0 rfl) ?_
  refine lv_iload_n hx hb dL_law_387 rfl (lv_at hl 3 rfl) ?_
  refine lv_iconst (v := 1) hx hb dL_law_388 (by decide) ?_
  refine lv_iadd hx hb dL_law_389 ?_
  refine r_sld (x := i + 1) hx hb hX hbl h.2.2.2 (nI_add i 1) (by omega) (by omega) dL_law_390 ?_
  obtain ⟨r, wm2, hc, hm, hR2⟩ := eq_trace hR hn (xs (i + 1))
  refine fin_r (runV (As := [.int (xs (i + 1))]) B 1 (t_X9_trace l G la w (xs (i + 1)) r hc) rfl rfl kl_37 m_X9_trace (by decide +kernel) ⟨(Nat.le_of_ble_eq_true rfl), (Nat.le_of_ble_eq_true rfl)⟩ ⟨blindR, va_recv hKK.1 h.1 (ci := 8) (q0 := 0) rfl rfl, preR hKK h.c.1⟩ rfl hl.1 (Nat.le_of_ble_eq_true rfl) dL_law_391 ⟨by show _ ≤ 600000; omega, by show _ ≤ 7302250; omega⟩) ?_
  refine lv_aload_n hx hb dL_law_394 rfl (lv_at hl 2 rfl) ?_
  refine lv_aload_n hx hb dL_law_395 rfl (lv_at hl 0 rfl) ?_
  refine lv_iload_n hx hb dL_law_396 rfl (lv_at hl 3 rfl) ?_
  refine lv_iconst (v := 1) hx hb dL_law_397 (by decide) ?_
  refine lv_iadd hx hb dL_law_398 ?_
  refine r_sld (x := i + 1) hx hb hX hbl h.2.2.2 (nI_add i 1) (by omega) (by omega) dL_law_399 ?_
  refine fin_i (n := 0) (runV (As := [.int (xs (i + 1))]) B 1 (t_X10_trace l (mG G q2) wm (xs (i + 1)) r wm2 hm _) rfl rfl kl_40 m_X10_trace (by decide +kernel) ⟨(Nat.le_of_ble_eq_true rfl), (Nat.le_of_ble_eq_true rfl)⟩ ⟨blindM, va_recv hKK.1 h.m.1.1 (ci := 9) (q0 := 0) rfl rfl, preM (KKm hKK) h.m.1⟩ rfl hl.1 (Nat.le_of_ble_eq_true rfl) dL_law_400 ⟨by show _ ≤ 600000; omega, by show _ ≤ 7302250; omega⟩) h.m.1 (fun q z => Or.inr z) (fun u H1 locs1 h1 => ?_)
  obtain ⟨h, hfo⟩ := h.m.2 _ _ _ h1
  refine va_forget hfo ?_
  exact lv_icmp_eq (tgt := 1371) hx hb dL_law_403 (by decide) (fun _ => k _ _ _ _ _ h hR2 hK) (fun c1 => absurd rfl c1)
set_option maxHeartbeats 4000000 in
set_option maxRecDepth 100000 in
theorem lc_6 {p : Program} {l : Launch} {e : Env} {s : State} {m : MethodId} {below : List Frame} {meth : Method} {c : Code} {b L : Nat} {xs : Nat → Int32} {G : Gm} {q2 : Nat → Nat} {la : Nat} {w : CW} {wm : MW} {H : Heap} {ls : Array Slot} {i n K : Nat} (B : CB RL cL_law 4 p s m #[Value.ref b] c) (hKK : KK G s) (hX : va_X b L xs s s.heap) (hbl : b < s.heap.size) (h : LW s G (mG G q2) la w wm H) (hR : Rl n w wm) (hn : n < 513) (hi : i + 5 ≤ L) (hL : L ≤ 2560) (hK : 4096 * K + 4096 = 2 * w.2) (hl : lv_has ls 4 [(0, .ref b), (1, .ref (gq G 0)), (2, .ref (q2 0)), (3, .int (nI i))]) (k : ∀ (la : Nat) (w : CW) (wm : MW) (H : Heap) (K : Nat), LW s G (mG G q2) la w wm H → Rl (n + 1) w wm → 4096 * K + 4096 = 2 * w.2 → W p l e room_1 s m #[Value.ref b] below meth c H [] (53 + K) (1084827 + 4096 * K) (lw_Z below #[Value.ref b] s) (F0 m 1371 ls [])) : W p l e room_1 s m #[Value.ref b] below meth c H [] (53 + K) (1084827 + 4096 * K) (lw_Z below #[Value.ref b] s) (F0 m 408 ls []) := by
  obtain ⟨hx, hb, hml, hown, hts⟩ := id B
  have hb1 := hRl_bound hR
  refine lv_aload_n hx hb dL_law_408 rfl (lv_at hl 1 rfl) ?_
  refine lv_aload_n hx hb dL_law_409 rfl (lv_at hl 0 rfl) ?_
  refine lv_iload_n hx hb dL_law_410 rfl (lv_at hl 3 rfl) ?_
  refine lv_iconst (v := 1) hx hb dL_law_411 (by decide) ?_
  refine lv_iadd hx hb dL_law_412 ?_
  refine r_sld (x := i + 1) hx hb hX hbl h.2.2.2 (nI_add i 1) (by omega) (by omega) dL_law_413 ?_
  refine lv_aload_n hx hb dL_law_414 rfl (lv_at hl 0 rfl) ?_
  refine lv_iload_n hx hb dL_law_415 rfl (lv_at hl 3 rfl) ?_
  refine lv_iconst (v := 2) hx hb dL_law_416 (by decide) ?_
  refine lv_iadd hx hb dL_law_417 ?_
  refine r_sld (x := i + 2) hx hb hX hbl h.2.2.2 (nI_add i 2) (by omega) (by omega) dL_law_418 ?_
  obtain ⟨r, wm2, hc, hm, hR2⟩ := eq_touches hR hn (xs (i + 1)) (xs (i + 2))
  refine fin_r (runV (As := [.int (xs (i + 1)), .int (xs (i + 2))]) B 2 (t_X9_touches l G la w (xs (i + 1)) (xs (i + 2)) r hc) rfl rfl kl_41 m_X9_touches (by decide +kernel) ⟨(Nat.le_of_ble_eq_true rfl), (Nat.le_of_ble_eq_true rfl)⟩ ⟨blindR, va_recv hKK.1 h.1 (ci := 8) (q0 := 0) rfl rfl, preR hKK h.c.1⟩ rfl hl.1 (Nat.le_of_ble_eq_true rfl) dL_law_419 ⟨by show _ ≤ 600000; omega, by show _ ≤ 7302250; omega⟩) ?_
  refine lv_aload_n hx hb dL_law_422 rfl (lv_at hl 2 rfl) ?_
  refine lv_aload_n hx hb dL_law_423 rfl (lv_at hl 0 rfl) ?_
  refine lv_iload_n hx hb dL_law_424 rfl (lv_at hl 3 rfl) ?_
  refine lv_iconst (v := 1) hx hb dL_law_425 (by decide) ?_
  refine lv_iadd hx hb dL_law_426 ?_
  refine r_sld (x := i + 1) hx hb hX hbl h.2.2.2 (nI_add i 1) (by omega) (by omega) dL_law_427 ?_
  refine lv_aload_n hx hb dL_law_428 rfl (lv_at hl 0 rfl) ?_
  refine lv_iload_n hx hb dL_law_429 rfl (lv_at hl 3 rfl) ?_
  refine lv_iconst (v := 2) hx hb dL_law_430 (by decide) ?_
  refine lv_iadd hx hb dL_law_431 ?_
  refine r_sld (x := i + 2) hx hb hX hbl h.2.2.2 (nI_add i 2) (by omega) (by omega) dL_law_432 ?_
  refine fin_i (n := 0) (runV (As := [.int (xs (i + 1)), .int (xs (i + 2))]) B 2 (t_X10_touches l (mG G q2) wm (xs (i + 1)) (xs (i + 2)) r wm2 hm _) rfl rfl kl_44 m_X10_touches (by decide +kernel) ⟨(Nat.le_of_ble_eq_true rfl), (Nat.le_of_ble_eq_true rfl)⟩ ⟨blindM, va_recv hKK.1 h.m.1.1 (ci := 9) (q0 := 0) rfl rfl, preM (KKm hKK) h.m.1⟩ rfl hl.1 (Nat.le_of_ble_eq_true rfl) dL_law_433 ⟨by show _ ≤ 600000; omega, by show _ ≤ 7302250; omega⟩) h.m.1 (fun q z => Or.inr z) (fun u H1 locs1 h1 => ?_)
  obtain ⟨h, hfo⟩ := h.m.2 _ _ _ h1
  refine va_forget hfo ?_
  exact lv_icmp_eq (tgt := 1371) hx hb dL_law_436 (by decide) (fun _ => k _ _ _ _ _ h hR2 hK) (fun c1 => absurd rfl c1)
set_option maxHeartbeats 4000000 in
set_option maxRecDepth 100000 in
theorem lc_7 {p : Program} {l : Launch} {e : Env} {s : State} {m : MethodId} {below : List Frame} {meth : Method} {c : Code} {b L : Nat} {xs : Nat → Int32} {G : Gm} {q2 : Nat → Nat} {la : Nat} {w : CW} {wm : MW} {H : Heap} {ls : Array Slot} {i n K : Nat} (B : CB RL cL_law 4 p s m #[Value.ref b] c) (hKK : KK G s) (hX : va_X b L xs s s.heap) (hbl : b < s.heap.size) (h : LW s G (mG G q2) la w wm H) (hR : Rl n w wm) (hn : n < 513) (hi : i + 5 ≤ L) (hL : L ≤ 2560) (hK : 4096 * K + 4096 = 2 * w.2) (hl : lv_has ls 4 [(0, .ref b), (1, .ref (gq G 0)), (2, .ref (q2 0)), (3, .int (nI i))]) (k : ∀ (la : Nat) (w : CW) (wm : MW) (H : Heap) (K : Nat), LW s G (mG G q2) la w wm H → Rl (n + 1) w wm → 4096 * K + 4096 = 2 * w.2 → W p l e room_1 s m #[Value.ref b] below meth c H [] (53 + K) (1084827 + 4096 * K) (lw_Z below #[Value.ref b] s) (F0 m 1371 ls [])) : W p l e room_1 s m #[Value.ref b] below meth c H [] (53 + K) (1084827 + 4096 * K) (lw_Z below #[Value.ref b] s) (F0 m 441 ls []) := by
  obtain ⟨hx, hb, hml, hown, hts⟩ := id B
  have hb1 := hRl_bound hR
  refine lv_aload_n hx hb dL_law_441 rfl (lv_at hl 1 rfl) ?_
  refine lv_aload_n hx hb dL_law_442 rfl (lv_at hl 0 rfl) ?_
  refine lv_iload_n hx hb dL_law_443 rfl (lv_at hl 3 rfl) ?_
  refine lv_iconst (v := 1) hx hb dL_law_444 (by decide) ?_
  refine lv_iadd hx hb dL_law_445 ?_
  refine r_sld (x := i + 1) hx hb hX hbl h.2.2.2 (nI_add i 1) (by omega) (by omega) dL_law_446 ?_
  refine lv_aload_n hx hb dL_law_447 rfl (lv_at hl 0 rfl) ?_
  refine lv_iload_n hx hb dL_law_448 rfl (lv_at hl 3 rfl) ?_
  refine lv_iconst (v := 2) hx hb dL_law_449 (by decide) ?_
  refine lv_iadd hx hb dL_law_450 ?_
  refine r_sld (x := i + 2) hx hb hX hbl h.2.2.2 (nI_add i 2) (by omega) (by omega) dL_law_451 ?_
  obtain ⟨r, w2, wm2, n2, hc, hm, hR2, hw2⟩ := eq_program hR hn (xs (i + 1)) (xs (i + 2))
  have hbd2 := hRl_bound hR2
  refine fin_i (n := n2) (runV (As := [.int (xs (i + 1)), .int (xs (i + 2))]) B 2 (t_X9_program l G la w (xs (i + 1)) (xs (i + 2)) r w2 n2 hc _) rfl rfl kl_45 m_X9_program (by decide +kernel) ⟨(Nat.le_of_ble_eq_true rfl), (Nat.le_of_ble_eq_true rfl)⟩ ⟨blindM, va_recv hKK.1 h.1 (ci := 8) (q0 := 0) rfl rfl, preM hKK h.c.1⟩ rfl hl.1 (Nat.le_of_ble_eq_true rfl) dL_law_452 ⟨by show _ ≤ 600000; omega, by show _ ≤ 7302250; omega⟩) h.c.1 (fun q z => Or.inr z) (fun u H1 locs1 h1 => ?_)
  obtain ⟨h, hfo⟩ := h.c.2 _ _ _ _ h1
  refine va_forget hfo ?_
  have hK : 4096 * (K + n2) + 4096 = 2 * w2.2 := by omega
  refine W.widen (k := 53 + (K + n2)) (n := 1084827 + 4096 * (K + n2)) (by omega) (by omega) ?_
  have hb2 := hRl_bound hR2
  refine lv_aload_n hx hb dL_law_455 rfl (lv_at hl 2 rfl) ?_
  refine lv_aload_n hx hb dL_law_456 rfl (lv_at hl 0 rfl) ?_
  refine lv_iload_n hx hb dL_law_457 rfl (lv_at hl 3 rfl) ?_
  refine lv_iconst (v := 1) hx hb dL_law_458 (by decide) ?_
  refine lv_iadd hx hb dL_law_459 ?_
  refine r_sld (x := i + 1) hx hb hX hbl h.2.2.2 (nI_add i 1) (by omega) (by omega) dL_law_460 ?_
  refine lv_aload_n hx hb dL_law_461 rfl (lv_at hl 0 rfl) ?_
  refine lv_iload_n hx hb dL_law_462 rfl (lv_at hl 3 rfl) ?_
  refine lv_iconst (v := 2) hx hb dL_law_463 (by decide) ?_
  refine lv_iadd hx hb dL_law_464 ?_
  refine r_sld (x := i + 2) hx hb hX hbl h.2.2.2 (nI_add i 2) (by omega) (by omega) dL_law_465 ?_
  refine fin_i (n := 0) (runV (As := [.int (xs (i + 1)), .int (xs (i + 2))]) B 2 (t_X10_program l (mG G q2) wm (xs (i + 1)) (xs (i + 2)) r wm2 hm _) rfl rfl kl_48 m_X10_program (by decide +kernel) ⟨(Nat.le_of_ble_eq_true rfl), (Nat.le_of_ble_eq_true rfl)⟩ ⟨blindM, va_recv hKK.1 h.m.1.1 (ci := 9) (q0 := 0) rfl rfl, preM (KKm hKK) h.m.1⟩ rfl hl.1 (Nat.le_of_ble_eq_true rfl) dL_law_466 ⟨by show _ ≤ 600000; omega, by show _ ≤ 7302250; omega⟩) h.m.1 (fun q z => Or.inr z) (fun u H1 locs1 h1 => ?_)
  obtain ⟨h, hfo⟩ := h.m.2 _ _ _ h1
  refine va_forget hfo ?_
  exact lv_icmp_eq (tgt := 1371) hx hb dL_law_469 (by decide) (fun _ => k _ _ _ _ _ h hR2 hK) (fun c1 => absurd rfl c1)
set_option maxHeartbeats 4000000 in
set_option maxRecDepth 100000 in
theorem lc_8 {p : Program} {l : Launch} {e : Env} {s : State} {m : MethodId} {below : List Frame} {meth : Method} {c : Code} {b L : Nat} {xs : Nat → Int32} {G : Gm} {q2 : Nat → Nat} {la : Nat} {w : CW} {wm : MW} {H : Heap} {ls : Array Slot} {i n K : Nat} (B : CB RL cL_law 4 p s m #[Value.ref b] c) (hKK : KK G s) (hX : va_X b L xs s s.heap) (hbl : b < s.heap.size) (h : LW s G (mG G q2) la w wm H) (hR : Rl n w wm) (hn : n < 513) (hi : i + 5 ≤ L) (hL : L ≤ 2560) (hK : 4096 * K + 4096 = 2 * w.2) (hl : lv_has ls 4 [(0, .ref b), (1, .ref (gq G 0)), (2, .ref (q2 0)), (3, .int (nI i))]) (k : ∀ (la : Nat) (w : CW) (wm : MW) (H : Heap) (K : Nat), LW s G (mG G q2) la w wm H → Rl (n + 1) w wm → 4096 * K + 4096 = 2 * w.2 → W p l e room_1 s m #[Value.ref b] below meth c H [] (53 + K) (1084827 + 4096 * K) (lw_Z below #[Value.ref b] s) (F0 m 1371 ls [])) : W p l e room_1 s m #[Value.ref b] below meth c H [] (53 + K) (1084827 + 4096 * K) (lw_Z below #[Value.ref b] s) (F0 m 474 ls []) := by
  obtain ⟨hx, hb, hml, hown, hts⟩ := id B
  have hb1 := hRl_bound hR
  refine lv_aload_n hx hb dL_law_474 rfl (lv_at hl 1 rfl) ?_
  refine lv_aload_n hx hb dL_law_475 rfl (lv_at hl 0 rfl) ?_
  refine lv_iload_n hx hb dL_law_476 rfl (lv_at hl 3 rfl) ?_
  refine lv_iconst (v := 1) hx hb dL_law_477 (by decide) ?_
  refine lv_iadd hx hb dL_law_478 ?_
  refine r_sld (x := i + 1) hx hb hX hbl h.2.2.2 (nI_add i 1) (by omega) (by omega) dL_law_479 ?_
  obtain ⟨r, w2, wm2, n2, hc, hm, hR2, hw2⟩ := eq_takeOut hR hn (xs (i + 1))
  have hbd2 := hRl_bound hR2
  refine fin_i (n := n2) (runV (As := [.int (xs (i + 1))]) B 1 (t_X9_takeOut l G la w (xs (i + 1)) r w2 n2 hc _) rfl rfl kl_49 m_X9_takeOut (by decide +kernel) ⟨(Nat.le_of_ble_eq_true rfl), (Nat.le_of_ble_eq_true rfl)⟩ ⟨blindM, va_recv hKK.1 h.1 (ci := 8) (q0 := 0) rfl rfl, preM hKK h.c.1⟩ rfl hl.1 (Nat.le_of_ble_eq_true rfl) dL_law_480 ⟨by show _ ≤ 600000; omega, by show _ ≤ 7302250; omega⟩) h.c.1 (fun q z => Or.inr z) (fun u H1 locs1 h1 => ?_)
  obtain ⟨h, hfo⟩ := h.c.2 _ _ _ _ h1
  refine va_forget hfo ?_
  have hK : 4096 * (K + n2) + 4096 = 2 * w2.2 := by omega
  refine W.widen (k := 53 + (K + n2)) (n := 1084827 + 4096 * (K + n2)) (by omega) (by omega) ?_
  have hb2 := hRl_bound hR2
  refine lv_aload_n hx hb dL_law_483 rfl (lv_at hl 2 rfl) ?_
  refine lv_aload_n hx hb dL_law_484 rfl (lv_at hl 0 rfl) ?_
  refine lv_iload_n hx hb dL_law_485 rfl (lv_at hl 3 rfl) ?_
  refine lv_iconst (v := 1) hx hb dL_law_486 (by decide) ?_
  refine lv_iadd hx hb dL_law_487 ?_
  refine r_sld (x := i + 1) hx hb hX hbl h.2.2.2 (nI_add i 1) (by omega) (by omega) dL_law_488 ?_
  refine fin_i (n := 0) (runV (As := [.int (xs (i + 1))]) B 1 (t_X10_takeOut l (mG G q2) wm (xs (i + 1)) r wm2 hm _) rfl rfl kl_52 m_X10_takeOut (by decide +kernel) ⟨(Nat.le_of_ble_eq_true rfl), (Nat.le_of_ble_eq_true rfl)⟩ ⟨blindM, va_recv hKK.1 h.m.1.1 (ci := 9) (q0 := 0) rfl rfl, preM (KKm hKK) h.m.1⟩ rfl hl.1 (Nat.le_of_ble_eq_true rfl) dL_law_489 ⟨by show _ ≤ 600000; omega, by show _ ≤ 7302250; omega⟩) h.m.1 (fun q z => Or.inr z) (fun u H1 locs1 h1 => ?_)
  obtain ⟨h, hfo⟩ := h.m.2 _ _ _ h1
  refine va_forget hfo ?_
  exact lv_icmp_eq (tgt := 1371) hx hb dL_law_492 (by decide) (fun _ => k _ _ _ _ _ h hR2 hK) (fun c1 => absurd rfl c1)
set_option maxHeartbeats 4000000 in
set_option maxRecDepth 100000 in
theorem lc_9 {p : Program} {l : Launch} {e : Env} {s : State} {m : MethodId} {below : List Frame} {meth : Method} {c : Code} {b L : Nat} {xs : Nat → Int32} {G : Gm} {q2 : Nat → Nat} {la : Nat} {w : CW} {wm : MW} {H : Heap} {ls : Array Slot} {i n K : Nat} (B : CB RL cL_law 4 p s m #[Value.ref b] c) (hKK : KK G s) (hX : va_X b L xs s s.heap) (hbl : b < s.heap.size) (h : LW s G (mG G q2) la w wm H) (hR : Rl n w wm) (hn : n < 513) (hi : i + 5 ≤ L) (hL : L ≤ 2560) (hK : 4096 * K + 4096 = 2 * w.2) (hl : lv_has ls 4 [(0, .ref b), (1, .ref (gq G 0)), (2, .ref (q2 0)), (3, .int (nI i))]) (k : ∀ (la : Nat) (w : CW) (wm : MW) (H : Heap) (K : Nat), LW s G (mG G q2) la w wm H → Rl (n + 1) w wm → 4096 * K + 4096 = 2 * w.2 → W p l e room_1 s m #[Value.ref b] below meth c H [] (53 + K) (1084827 + 4096 * K) (lw_Z below #[Value.ref b] s) (F0 m 1371 ls [])) : W p l e room_1 s m #[Value.ref b] below meth c H [] (53 + K) (1084827 + 4096 * K) (lw_Z below #[Value.ref b] s) (F0 m 497 ls []) := by
  obtain ⟨hx, hb, hml, hown, hts⟩ := id B
  have hb1 := hRl_bound hR
  refine lv_aload_n hx hb dL_law_497 rfl (lv_at hl 1 rfl) ?_
  refine lv_aload_n hx hb dL_law_498 rfl (lv_at hl 0 rfl) ?_
  refine lv_iload_n hx hb dL_law_499 rfl (lv_at hl 3 rfl) ?_
  refine lv_iconst (v := 1) hx hb dL_law_500 (by decide) ?_
  refine lv_iadd hx hb dL_law_501 ?_
  refine r_sld (x := i + 1) hx hb hX hbl h.2.2.2 (nI_add i 1) (by omega) (by omega) dL_law_502 ?_
  refine lv_aload_n hx hb dL_law_503 rfl (lv_at hl 0 rfl) ?_
  refine lv_iload_n hx hb dL_law_504 rfl (lv_at hl 3 rfl) ?_
  refine lv_iconst (v := 2) hx hb dL_law_505 (by decide) ?_
  refine lv_iadd hx hb dL_law_506 ?_
  refine r_sld (x := i + 2) hx hb hX hbl h.2.2.2 (nI_add i 2) (by omega) (by omega) dL_law_507 ?_
  refine lv_aload_n hx hb dL_law_508 rfl (lv_at hl 0 rfl) ?_
  refine lv_iload_n hx hb dL_law_509 rfl (lv_at hl 3 rfl) ?_
  refine lv_iconst (v := 3) hx hb dL_law_510 (by decide) ?_
  refine lv_iadd hx hb dL_law_511 ?_
  refine r_sld (x := i + 3) hx hb hX hbl h.2.2.2 (nI_add i 3) (by omega) (by omega) dL_law_512 ?_
  refine lv_aload_n hx hb dL_law_513 rfl (lv_at hl 0 rfl) ?_
  refine lv_iload_n hx hb dL_law_514 rfl (lv_at hl 3 rfl) ?_
  refine lv_iconst (v := 4) hx hb dL_law_515 (by decide) ?_
  refine lv_iadd hx hb dL_law_516 ?_
  refine r_sld (x := i + 4) hx hb hX hbl h.2.2.2 (nI_add i 4) (by omega) (by omega) dL_law_517 ?_
  obtain ⟨r, w2, wm2, n2, hc, hm, hR2, hw2⟩ := eq_step hR hn (xs (i + 1)) (xs (i + 2)) (xs (i + 3)) (xs (i + 4))
  have hbd2 := hRl_bound hR2
  refine fin_i (n := n2) (runV (As := [.int (xs (i + 1)), .int (xs (i + 2)), .int (xs (i + 3)), .int (xs (i + 4))]) B 4 (t_X9_step l G la w (xs (i + 1)) (xs (i + 2)) (xs (i + 3)) (xs (i + 4)) r w2 n2 hc _) rfl rfl kl_53 m_X9_step (by decide +kernel) ⟨(Nat.le_of_ble_eq_true rfl), (Nat.le_of_ble_eq_true rfl)⟩ ⟨blindM, va_recv hKK.1 h.1 (ci := 8) (q0 := 0) rfl rfl, preM hKK h.c.1⟩ rfl hl.1 (Nat.le_of_ble_eq_true rfl) dL_law_518 ⟨by show _ ≤ 600000; omega, by show _ ≤ 7302250; omega⟩) h.c.1 (fun q z => Or.inr z) (fun u H1 locs1 h1 => ?_)
  obtain ⟨h, hfo⟩ := h.c.2 _ _ _ _ h1
  refine va_forget hfo ?_
  have hK : 4096 * (K + n2) + 4096 = 2 * w2.2 := by omega
  refine W.widen (k := 53 + (K + n2)) (n := 1084827 + 4096 * (K + n2)) (by omega) (by omega) ?_
  have hb2 := hRl_bound hR2
  refine lv_aload_n hx hb dL_law_521 rfl (lv_at hl 2 rfl) ?_
  refine lv_aload_n hx hb dL_law_522 rfl (lv_at hl 0 rfl) ?_
  refine lv_iload_n hx hb dL_law_523 rfl (lv_at hl 3 rfl) ?_
  refine lv_iconst (v := 1) hx hb dL_law_524 (by decide) ?_
  refine lv_iadd hx hb dL_law_525 ?_
  refine r_sld (x := i + 1) hx hb hX hbl h.2.2.2 (nI_add i 1) (by omega) (by omega) dL_law_526 ?_
  refine lv_aload_n hx hb dL_law_527 rfl (lv_at hl 0 rfl) ?_
  refine lv_iload_n hx hb dL_law_528 rfl (lv_at hl 3 rfl) ?_
  refine lv_iconst (v := 2) hx hb dL_law_529 (by decide) ?_
  refine lv_iadd hx hb dL_law_530 ?_
  refine r_sld (x := i + 2) hx hb hX hbl h.2.2.2 (nI_add i 2) (by omega) (by omega) dL_law_531 ?_
  refine lv_aload_n hx hb dL_law_532 rfl (lv_at hl 0 rfl) ?_
  refine lv_iload_n hx hb dL_law_533 rfl (lv_at hl 3 rfl) ?_
  refine lv_iconst (v := 3) hx hb dL_law_534 (by decide) ?_
  refine lv_iadd hx hb dL_law_535 ?_
  refine r_sld (x := i + 3) hx hb hX hbl h.2.2.2 (nI_add i 3) (by omega) (by omega) dL_law_536 ?_
  refine lv_aload_n hx hb dL_law_537 rfl (lv_at hl 0 rfl) ?_
  refine lv_iload_n hx hb dL_law_538 rfl (lv_at hl 3 rfl) ?_
  refine lv_iconst (v := 4) hx hb dL_law_539 (by decide) ?_
  refine lv_iadd hx hb dL_law_540 ?_
  refine r_sld (x := i + 4) hx hb hX hbl h.2.2.2 (nI_add i 4) (by omega) (by omega) dL_law_541 ?_
  refine fin_i (n := 0) (runV (As := [.int (xs (i + 1)), .int (xs (i + 2)), .int (xs (i + 3)), .int (xs (i + 4))]) B 4 (t_X10_step l (mG G q2) wm (xs (i + 1)) (xs (i + 2)) (xs (i + 3)) (xs (i + 4)) r wm2 hm _) rfl rfl kl_56 m_X10_step (by decide +kernel) ⟨(Nat.le_of_ble_eq_true rfl), (Nat.le_of_ble_eq_true rfl)⟩ ⟨blindM, va_recv hKK.1 h.m.1.1 (ci := 9) (q0 := 0) rfl rfl, preM (KKm hKK) h.m.1⟩ rfl hl.1 (Nat.le_of_ble_eq_true rfl) dL_law_542 ⟨by show _ ≤ 600000; omega, by show _ ≤ 7302250; omega⟩) h.m.1 (fun q z => Or.inr z) (fun u H1 locs1 h1 => ?_)
  obtain ⟨h, hfo⟩ := h.m.2 _ _ _ h1
  refine va_forget hfo ?_
  exact lv_icmp_eq (tgt := 1371) hx hb dL_law_545 (by decide) (fun _ => k _ _ _ _ _ h hR2 hK) (fun c1 => absurd rfl c1)
set_option maxHeartbeats 4000000 in
set_option maxRecDepth 100000 in
theorem lc_10 {p : Program} {l : Launch} {e : Env} {s : State} {m : MethodId} {below : List Frame} {meth : Method} {c : Code} {b L : Nat} {xs : Nat → Int32} {G : Gm} {q2 : Nat → Nat} {la : Nat} {w : CW} {wm : MW} {H : Heap} {ls : Array Slot} {i n K : Nat} (B : CB RL cL_law 4 p s m #[Value.ref b] c) (hKK : KK G s) (hX : va_X b L xs s s.heap) (hbl : b < s.heap.size) (h : LW s G (mG G q2) la w wm H) (hR : Rl n w wm) (hn : n < 513) (hi : i + 5 ≤ L) (hL : L ≤ 2560) (hK : 4096 * K + 4096 = 2 * w.2) (hl : lv_has ls 4 [(0, .ref b), (1, .ref (gq G 0)), (2, .ref (q2 0)), (3, .int (nI i))]) (k : ∀ (la : Nat) (w : CW) (wm : MW) (H : Heap) (K : Nat), LW s G (mG G q2) la w wm H → Rl (n + 1) w wm → 4096 * K + 4096 = 2 * w.2 → W p l e room_1 s m #[Value.ref b] below meth c H [] (53 + K) (1084827 + 4096 * K) (lw_Z below #[Value.ref b] s) (F0 m 1371 ls [])) : W p l e room_1 s m #[Value.ref b] below meth c H [] (53 + K) (1084827 + 4096 * K) (lw_Z below #[Value.ref b] s) (F0 m 550 ls []) := by
  obtain ⟨hx, hb, hml, hown, hts⟩ := id B
  have hb1 := hRl_bound hR
  refine lv_aload_n hx hb dL_law_550 rfl (lv_at hl 1 rfl) ?_
  refine lv_aload_n hx hb dL_law_551 rfl (lv_at hl 0 rfl) ?_
  refine lv_iload_n hx hb dL_law_552 rfl (lv_at hl 3 rfl) ?_
  refine lv_iconst (v := 1) hx hb dL_law_553 (by decide) ?_
  refine lv_iadd hx hb dL_law_554 ?_
  refine r_sld (x := i + 1) hx hb hX hbl h.2.2.2 (nI_add i 1) (by omega) (by omega) dL_law_555 ?_
  obtain ⟨r, w2, wm2, hc, hm, hR2, hw2⟩ := eq_minutes hR hn (xs (i + 1))
  refine fin_i (n := 0) (runV (As := [.int (xs (i + 1))]) B 1 (t_X9_minutes l G la w (xs (i + 1)) r w2 hc _) rfl rfl kl_57 m_X9_minutes (by decide +kernel) ⟨(Nat.le_of_ble_eq_true rfl), (Nat.le_of_ble_eq_true rfl)⟩ ⟨blindM, va_recv hKK.1 h.1 (ci := 8) (q0 := 0) rfl rfl, preM hKK h.c.1⟩ rfl hl.1 (Nat.le_of_ble_eq_true rfl) dL_law_556 ⟨by show _ ≤ 600000; omega, by show _ ≤ 7302250; omega⟩) h.c.1 (fun q z => Or.inr z) (fun u H1 locs1 h1 => ?_)
  obtain ⟨h, hfo⟩ := h.c.2 _ _ _ _ h1
  refine va_forget hfo ?_
  have hK : 4096 * K + 4096 = 2 * w2.2 := by rw [hw2]; exact hK
  have hb2 := hRl_bound hR2
  refine lv_aload_n hx hb dL_law_559 rfl (lv_at hl 2 rfl) ?_
  refine lv_aload_n hx hb dL_law_560 rfl (lv_at hl 0 rfl) ?_
  refine lv_iload_n hx hb dL_law_561 rfl (lv_at hl 3 rfl) ?_
  refine lv_iconst (v := 1) hx hb dL_law_562 (by decide) ?_
  refine lv_iadd hx hb dL_law_563 ?_
  refine r_sld (x := i + 1) hx hb hX hbl h.2.2.2 (nI_add i 1) (by omega) (by omega) dL_law_564 ?_
  refine fin_i (n := 0) (runV (As := [.int (xs (i + 1))]) B 1 (t_X10_minutes l (mG G q2) wm (xs (i + 1)) r wm2 hm _) rfl rfl kl_60 m_X10_minutes (by decide +kernel) ⟨(Nat.le_of_ble_eq_true rfl), (Nat.le_of_ble_eq_true rfl)⟩ ⟨blindM, va_recv hKK.1 h.m.1.1 (ci := 9) (q0 := 0) rfl rfl, preM (KKm hKK) h.m.1⟩ rfl hl.1 (Nat.le_of_ble_eq_true rfl) dL_law_565 ⟨by show _ ≤ 600000; omega, by show _ ≤ 7302250; omega⟩) h.m.1 (fun q z => Or.inr z) (fun u H1 locs1 h1 => ?_)
  obtain ⟨h, hfo⟩ := h.m.2 _ _ _ h1
  refine va_forget hfo ?_
  exact lv_icmp_eq (tgt := 1371) hx hb dL_law_568 (by decide) (fun _ => k _ _ _ _ _ h hR2 hK) (fun c1 => absurd rfl c1)
set_option maxHeartbeats 4000000 in
set_option maxRecDepth 100000 in
theorem lc_11 {p : Program} {l : Launch} {e : Env} {s : State} {m : MethodId} {below : List Frame} {meth : Method} {c : Code} {b L : Nat} {xs : Nat → Int32} {G : Gm} {q2 : Nat → Nat} {la : Nat} {w : CW} {wm : MW} {H : Heap} {ls : Array Slot} {i n K : Nat} (B : CB RL cL_law 4 p s m #[Value.ref b] c) (hKK : KK G s) (hX : va_X b L xs s s.heap) (hbl : b < s.heap.size) (h : LW s G (mG G q2) la w wm H) (hR : Rl n w wm) (hn : n < 513) (hi : i + 5 ≤ L) (hL : L ≤ 2560) (hK : 4096 * K + 4096 = 2 * w.2) (hl : lv_has ls 4 [(0, .ref b), (1, .ref (gq G 0)), (2, .ref (q2 0)), (3, .int (nI i))]) (k : ∀ (la : Nat) (w : CW) (wm : MW) (H : Heap) (K : Nat), LW s G (mG G q2) la w wm H → Rl (n + 1) w wm → 4096 * K + 4096 = 2 * w.2 → W p l e room_1 s m #[Value.ref b] below meth c H [] (53 + K) (1084827 + 4096 * K) (lw_Z below #[Value.ref b] s) (F0 m 1371 ls [])) : W p l e room_1 s m #[Value.ref b] below meth c H [] (53 + K) (1084827 + 4096 * K) (lw_Z below #[Value.ref b] s) (F0 m 573 ls []) := by
  obtain ⟨hx, hb, hml, hown, hts⟩ := id B
  have hb1 := hRl_bound hR
  refine lv_aload_n hx hb dL_law_573 rfl (lv_at hl 1 rfl) ?_
  refine lv_aload_n hx hb dL_law_574 rfl (lv_at hl 0 rfl) ?_
  refine lv_iload_n hx hb dL_law_575 rfl (lv_at hl 3 rfl) ?_
  refine lv_iconst (v := 1) hx hb dL_law_576 (by decide) ?_
  refine lv_iadd hx hb dL_law_577 ?_
  refine r_sld (x := i + 1) hx hb hX hbl h.2.2.2 (nI_add i 1) (by omega) (by omega) dL_law_578 ?_
  refine lv_aload_n hx hb dL_law_579 rfl (lv_at hl 0 rfl) ?_
  refine lv_iload_n hx hb dL_law_580 rfl (lv_at hl 3 rfl) ?_
  refine lv_iconst (v := 2) hx hb dL_law_581 (by decide) ?_
  refine lv_iadd hx hb dL_law_582 ?_
  refine r_sld (x := i + 2) hx hb hX hbl h.2.2.2 (nI_add i 2) (by omega) (by omega) dL_law_583 ?_
  refine lv_aload_n hx hb dL_law_584 rfl (lv_at hl 0 rfl) ?_
  refine lv_iload_n hx hb dL_law_585 rfl (lv_at hl 3 rfl) ?_
  refine lv_iconst (v := 3) hx hb dL_law_586 (by decide) ?_
  refine lv_iadd hx hb dL_law_587 ?_
  refine r_sld (x := i + 3) hx hb hX hbl h.2.2.2 (nI_add i 3) (by omega) (by omega) dL_law_588 ?_
  obtain ⟨r, w2, wm2, n2, hc, hm, hR2, hw2⟩ := eq_tube hR hn (xs (i + 1)) (xs (i + 2)) (xs (i + 3))
  have hbd2 := hRl_bound hR2
  refine fin_i (n := n2) (runV (As := [.int (xs (i + 1)), .int (xs (i + 2)), .int (xs (i + 3))]) B 3 (t_X9_tube l G la w (xs (i + 1)) (xs (i + 2)) (xs (i + 3)) r w2 n2 hc _) rfl rfl kl_61 m_X9_tube (by decide +kernel) ⟨(Nat.le_of_ble_eq_true rfl), (Nat.le_of_ble_eq_true rfl)⟩ ⟨blindM, va_recv hKK.1 h.1 (ci := 8) (q0 := 0) rfl rfl, preM hKK h.c.1⟩ rfl hl.1 (Nat.le_of_ble_eq_true rfl) dL_law_589 ⟨by show _ ≤ 600000; omega, by show _ ≤ 7302250; omega⟩) h.c.1 (fun q z => Or.inr z) (fun u H1 locs1 h1 => ?_)
  obtain ⟨h, hfo⟩ := h.c.2 _ _ _ _ h1
  refine va_forget hfo ?_
  have hK : 4096 * (K + n2) + 4096 = 2 * w2.2 := by omega
  refine W.widen (k := 53 + (K + n2)) (n := 1084827 + 4096 * (K + n2)) (by omega) (by omega) ?_
  have hb2 := hRl_bound hR2
  refine lv_aload_n hx hb dL_law_592 rfl (lv_at hl 2 rfl) ?_
  refine lv_aload_n hx hb dL_law_593 rfl (lv_at hl 0 rfl) ?_
  refine lv_iload_n hx hb dL_law_594 rfl (lv_at hl 3 rfl) ?_
  refine lv_iconst (v := 1) hx hb dL_law_595 (by decide) ?_
  refine lv_iadd hx hb dL_law_596 ?_
  refine r_sld (x := i + 1) hx hb hX hbl h.2.2.2 (nI_add i 1) (by omega) (by omega) dL_law_597 ?_
  refine lv_aload_n hx hb dL_law_598 rfl (lv_at hl 0 rfl) ?_
  refine lv_iload_n hx hb dL_law_599 rfl (lv_at hl 3 rfl) ?_
  refine lv_iconst (v := 2) hx hb dL_law_600 (by decide) ?_
  refine lv_iadd hx hb dL_law_601 ?_
  refine r_sld (x := i + 2) hx hb hX hbl h.2.2.2 (nI_add i 2) (by omega) (by omega) dL_law_602 ?_
  refine lv_aload_n hx hb dL_law_603 rfl (lv_at hl 0 rfl) ?_
  refine lv_iload_n hx hb dL_law_604 rfl (lv_at hl 3 rfl) ?_
  refine lv_iconst (v := 3) hx hb dL_law_605 (by decide) ?_
  refine lv_iadd hx hb dL_law_606 ?_
  refine r_sld (x := i + 3) hx hb hX hbl h.2.2.2 (nI_add i 3) (by omega) (by omega) dL_law_607 ?_
  refine fin_i (n := 0) (runV (As := [.int (xs (i + 1)), .int (xs (i + 2)), .int (xs (i + 3))]) B 3 (t_X10_tube l (mG G q2) wm (xs (i + 1)) (xs (i + 2)) (xs (i + 3)) r wm2 hm _) rfl rfl kl_64 m_X10_tube (by decide +kernel) ⟨(Nat.le_of_ble_eq_true rfl), (Nat.le_of_ble_eq_true rfl)⟩ ⟨blindM, va_recv hKK.1 h.m.1.1 (ci := 9) (q0 := 0) rfl rfl, preM (KKm hKK) h.m.1⟩ rfl hl.1 (Nat.le_of_ble_eq_true rfl) dL_law_608 ⟨by show _ ≤ 600000; omega, by show _ ≤ 7302250; omega⟩) h.m.1 (fun q z => Or.inr z) (fun u H1 locs1 h1 => ?_)
  obtain ⟨h, hfo⟩ := h.m.2 _ _ _ h1
  refine va_forget hfo ?_
  exact lv_icmp_eq (tgt := 1371) hx hb dL_law_611 (by decide) (fun _ => k _ _ _ _ _ h hR2 hK) (fun c1 => absurd rfl c1)
set_option maxHeartbeats 4000000 in
set_option maxRecDepth 100000 in
theorem lc_12 {p : Program} {l : Launch} {e : Env} {s : State} {m : MethodId} {below : List Frame} {meth : Method} {c : Code} {b L : Nat} {xs : Nat → Int32} {G : Gm} {q2 : Nat → Nat} {la : Nat} {w : CW} {wm : MW} {H : Heap} {ls : Array Slot} {i n K : Nat} (B : CB RL cL_law 4 p s m #[Value.ref b] c) (hKK : KK G s) (hX : va_X b L xs s s.heap) (hbl : b < s.heap.size) (h : LW s G (mG G q2) la w wm H) (hR : Rl n w wm) (hn : n < 513) (hi : i + 5 ≤ L) (hL : L ≤ 2560) (hK : 4096 * K + 4096 = 2 * w.2) (hl : lv_has ls 4 [(0, .ref b), (1, .ref (gq G 0)), (2, .ref (q2 0)), (3, .int (nI i))]) (k : ∀ (la : Nat) (w : CW) (wm : MW) (H : Heap) (K : Nat), LW s G (mG G q2) la w wm H → Rl (n + 1) w wm → 4096 * K + 4096 = 2 * w.2 → W p l e room_1 s m #[Value.ref b] below meth c H [] (53 + K) (1084827 + 4096 * K) (lw_Z below #[Value.ref b] s) (F0 m 1371 ls [])) : W p l e room_1 s m #[Value.ref b] below meth c H [] (53 + K) (1084827 + 4096 * K) (lw_Z below #[Value.ref b] s) (F0 m 616 ls []) := by
  obtain ⟨hx, hb, hml, hown, hts⟩ := id B
  have hb1 := hRl_bound hR
  refine lv_aload_n hx hb dL_law_616 rfl (lv_at hl 1 rfl) ?_
  refine lv_aload_n hx hb dL_law_617 rfl (lv_at hl 0 rfl) ?_
  refine lv_iload_n hx hb dL_law_618 rfl (lv_at hl 3 rfl) ?_
  refine lv_iconst (v := 1) hx hb dL_law_619 (by decide) ?_
  refine lv_iadd hx hb dL_law_620 ?_
  refine r_sld (x := i + 1) hx hb hX hbl h.2.2.2 (nI_add i 1) (by omega) (by omega) dL_law_621 ?_
  refine lv_aload_n hx hb dL_law_622 rfl (lv_at hl 0 rfl) ?_
  refine lv_iload_n hx hb dL_law_623 rfl (lv_at hl 3 rfl) ?_
  refine lv_iconst (v := 2) hx hb dL_law_624 (by decide) ?_
  refine lv_iadd hx hb dL_law_625 ?_
  refine r_sld (x := i + 2) hx hb hX hbl h.2.2.2 (nI_add i 2) (by omega) (by omega) dL_law_626 ?_
  refine lv_aload_n hx hb dL_law_627 rfl (lv_at hl 0 rfl) ?_
  refine lv_iload_n hx hb dL_law_628 rfl (lv_at hl 3 rfl) ?_
  refine lv_iconst (v := 3) hx hb dL_law_629 (by decide) ?_
  refine lv_iadd hx hb dL_law_630 ?_
  refine r_sld (x := i + 3) hx hb hX hbl h.2.2.2 (nI_add i 3) (by omega) (by omega) dL_law_631 ?_
  obtain ⟨r, w2, wm2, n2, hc, hm, hR2, hw2⟩ := eq_coin hR hn (xs (i + 1)) (xs (i + 2)) (xs (i + 3))
  have hbd2 := hRl_bound hR2
  refine fin_i (n := n2) (runV (As := [.int (xs (i + 1)), .int (xs (i + 2)), .int (xs (i + 3))]) B 3 (t_X9_coin l G la w (xs (i + 1)) (xs (i + 2)) (xs (i + 3)) r w2 n2 hc _) rfl rfl kl_65 m_X9_coin (by decide +kernel) ⟨(Nat.le_of_ble_eq_true rfl), (Nat.le_of_ble_eq_true rfl)⟩ ⟨blindM, va_recv hKK.1 h.1 (ci := 8) (q0 := 0) rfl rfl, preM hKK h.c.1⟩ rfl hl.1 (Nat.le_of_ble_eq_true rfl) dL_law_632 ⟨by show _ ≤ 600000; omega, by show _ ≤ 7302250; omega⟩) h.c.1 (fun q z => Or.inr z) (fun u H1 locs1 h1 => ?_)
  obtain ⟨h, hfo⟩ := h.c.2 _ _ _ _ h1
  refine va_forget hfo ?_
  have hK : 4096 * (K + n2) + 4096 = 2 * w2.2 := by omega
  refine W.widen (k := 53 + (K + n2)) (n := 1084827 + 4096 * (K + n2)) (by omega) (by omega) ?_
  have hb2 := hRl_bound hR2
  refine lv_aload_n hx hb dL_law_635 rfl (lv_at hl 2 rfl) ?_
  refine lv_aload_n hx hb dL_law_636 rfl (lv_at hl 0 rfl) ?_
  refine lv_iload_n hx hb dL_law_637 rfl (lv_at hl 3 rfl) ?_
  refine lv_iconst (v := 1) hx hb dL_law_638 (by decide) ?_
  refine lv_iadd hx hb dL_law_639 ?_
  refine r_sld (x := i + 1) hx hb hX hbl h.2.2.2 (nI_add i 1) (by omega) (by omega) dL_law_640 ?_
  refine lv_aload_n hx hb dL_law_641 rfl (lv_at hl 0 rfl) ?_
  refine lv_iload_n hx hb dL_law_642 rfl (lv_at hl 3 rfl) ?_
  refine lv_iconst (v := 2) hx hb dL_law_643 (by decide) ?_
  refine lv_iadd hx hb dL_law_644 ?_
  refine r_sld (x := i + 2) hx hb hX hbl h.2.2.2 (nI_add i 2) (by omega) (by omega) dL_law_645 ?_
  refine lv_aload_n hx hb dL_law_646 rfl (lv_at hl 0 rfl) ?_
  refine lv_iload_n hx hb dL_law_647 rfl (lv_at hl 3 rfl) ?_
  refine lv_iconst (v := 3) hx hb dL_law_648 (by decide) ?_
  refine lv_iadd hx hb dL_law_649 ?_
  refine r_sld (x := i + 3) hx hb hX hbl h.2.2.2 (nI_add i 3) (by omega) (by omega) dL_law_650 ?_
  refine fin_i (n := 0) (runV (As := [.int (xs (i + 1)), .int (xs (i + 2)), .int (xs (i + 3))]) B 3 (t_X10_coin l (mG G q2) wm (xs (i + 1)) (xs (i + 2)) (xs (i + 3)) r wm2 hm _) rfl rfl kl_68 m_X10_coin (by decide +kernel) ⟨(Nat.le_of_ble_eq_true rfl), (Nat.le_of_ble_eq_true rfl)⟩ ⟨blindM, va_recv hKK.1 h.m.1.1 (ci := 9) (q0 := 0) rfl rfl, preM (KKm hKK) h.m.1⟩ rfl hl.1 (Nat.le_of_ble_eq_true rfl) dL_law_651 ⟨by show _ ≤ 600000; omega, by show _ ≤ 7302250; omega⟩) h.m.1 (fun q z => Or.inr z) (fun u H1 locs1 h1 => ?_)
  obtain ⟨h, hfo⟩ := h.m.2 _ _ _ h1
  refine va_forget hfo ?_
  exact lv_icmp_eq (tgt := 1371) hx hb dL_law_654 (by decide) (fun _ => k _ _ _ _ _ h hR2 hK) (fun c1 => absurd rfl c1)
set_option maxHeartbeats 4000000 in
set_option maxRecDepth 100000 in
theorem lc_13 {p : Program} {l : Launch} {e : Env} {s : State} {m : MethodId} {below : List Frame} {meth : Method} {c : Code} {b L : Nat} {xs : Nat → Int32} {G : Gm} {q2 : Nat → Nat} {la : Nat} {w : CW} {wm : MW} {H : Heap} {ls : Array Slot} {i n K : Nat} (B : CB RL cL_law 4 p s m #[Value.ref b] c) (hKK : KK G s) (hX : va_X b L xs s s.heap) (hbl : b < s.heap.size) (h : LW s G (mG G q2) la w wm H) (hR : Rl n w wm) (hn : n < 513) (hi : i + 5 ≤ L) (hL : L ≤ 2560) (hK : 4096 * K + 4096 = 2 * w.2) (hl : lv_has ls 4 [(0, .ref b), (1, .ref (gq G 0)), (2, .ref (q2 0)), (3, .int (nI i))]) (k : ∀ (la : Nat) (w : CW) (wm : MW) (H : Heap) (K : Nat), LW s G (mG G q2) la w wm H → Rl (n + 1) w wm → 4096 * K + 4096 = 2 * w.2 → W p l e room_1 s m #[Value.ref b] below meth c H [] (53 + K) (1084827 + 4096 * K) (lw_Z below #[Value.ref b] s) (F0 m 1371 ls [])) : W p l e room_1 s m #[Value.ref b] below meth c H [] (53 + K) (1084827 + 4096 * K) (lw_Z below #[Value.ref b] s) (F0 m 659 ls []) := by
  obtain ⟨hx, hb, hml, hown, hts⟩ := id B
  have hb1 := hRl_bound hR
  refine lv_aload_n hx hb dL_law_659 rfl (lv_at hl 1 rfl) ?_
  refine lv_aload_n hx hb dL_law_660 rfl (lv_at hl 0 rfl) ?_
  refine lv_iload_n hx hb dL_law_661 rfl (lv_at hl 3 rfl) ?_
  refine lv_iconst (v := 1) hx hb dL_law_662 (by decide) ?_
  refine lv_iadd hx hb dL_law_663 ?_
  refine r_sld (x := i + 1) hx hb hX hbl h.2.2.2 (nI_add i 1) (by omega) (by omega) dL_law_664 ?_
  obtain ⟨r, w2, wm2, n2, hc, hm, hR2, hw2⟩ := eq_pay hR hn (xs (i + 1))
  have hbd2 := hRl_bound hR2
  refine fin_i (n := n2) (runV (As := [.int (xs (i + 1))]) B 1 (t_X9_pay l G la w (xs (i + 1)) r w2 n2 hc _) rfl rfl kl_69 m_X9_pay (by decide +kernel) ⟨(Nat.le_of_ble_eq_true rfl), (Nat.le_of_ble_eq_true rfl)⟩ ⟨blindM, va_recv hKK.1 h.1 (ci := 8) (q0 := 0) rfl rfl, preM hKK h.c.1⟩ rfl hl.1 (Nat.le_of_ble_eq_true rfl) dL_law_665 ⟨by show _ ≤ 600000; omega, by show _ ≤ 7302250; omega⟩) h.c.1 (fun q z => Or.inr z) (fun u H1 locs1 h1 => ?_)
  obtain ⟨h, hfo⟩ := h.c.2 _ _ _ _ h1
  refine va_forget hfo ?_
  have hK : 4096 * (K + n2) + 4096 = 2 * w2.2 := by omega
  refine W.widen (k := 53 + (K + n2)) (n := 1084827 + 4096 * (K + n2)) (by omega) (by omega) ?_
  have hb2 := hRl_bound hR2
  refine lv_aload_n hx hb dL_law_668 rfl (lv_at hl 2 rfl) ?_
  refine lv_aload_n hx hb dL_law_669 rfl (lv_at hl 0 rfl) ?_
  refine lv_iload_n hx hb dL_law_670 rfl (lv_at hl 3 rfl) ?_
  refine lv_iconst (v := 1) hx hb dL_law_671 (by decide) ?_
  refine lv_iadd hx hb dL_law_672 ?_
  refine r_sld (x := i + 1) hx hb hX hbl h.2.2.2 (nI_add i 1) (by omega) (by omega) dL_law_673 ?_
  refine fin_i (n := 0) (runV (As := [.int (xs (i + 1))]) B 1 (t_X10_pay l (mG G q2) wm (xs (i + 1)) r wm2 hm _) rfl rfl kl_72 m_X10_pay (by decide +kernel) ⟨(Nat.le_of_ble_eq_true rfl), (Nat.le_of_ble_eq_true rfl)⟩ ⟨blindM, va_recv hKK.1 h.m.1.1 (ci := 9) (q0 := 0) rfl rfl, preM (KKm hKK) h.m.1⟩ rfl hl.1 (Nat.le_of_ble_eq_true rfl) dL_law_674 ⟨by show _ ≤ 600000; omega, by show _ ≤ 7302250; omega⟩) h.m.1 (fun q z => Or.inr z) (fun u H1 locs1 h1 => ?_)
  obtain ⟨h, hfo⟩ := h.m.2 _ _ _ h1
  refine va_forget hfo ?_
  exact lv_icmp_eq (tgt := 1371) hx hb dL_law_677 (by decide) (fun _ => k _ _ _ _ _ h hR2 hK) (fun c1 => absurd rfl c1)
set_option maxHeartbeats 4000000 in
set_option maxRecDepth 100000 in
theorem lc_14 {p : Program} {l : Launch} {e : Env} {s : State} {m : MethodId} {below : List Frame} {meth : Method} {c : Code} {b L : Nat} {xs : Nat → Int32} {G : Gm} {q2 : Nat → Nat} {la : Nat} {w : CW} {wm : MW} {H : Heap} {ls : Array Slot} {i n K : Nat} (B : CB RL cL_law 4 p s m #[Value.ref b] c) (hKK : KK G s) (hX : va_X b L xs s s.heap) (hbl : b < s.heap.size) (h : LW s G (mG G q2) la w wm H) (hR : Rl n w wm) (hn : n < 513) (hi : i + 5 ≤ L) (hL : L ≤ 2560) (hK : 4096 * K + 4096 = 2 * w.2) (hl : lv_has ls 4 [(0, .ref b), (1, .ref (gq G 0)), (2, .ref (q2 0)), (3, .int (nI i))]) (k : ∀ (la : Nat) (w : CW) (wm : MW) (H : Heap) (K : Nat), LW s G (mG G q2) la w wm H → Rl (n + 1) w wm → 4096 * K + 4096 = 2 * w.2 → W p l e room_1 s m #[Value.ref b] below meth c H [] (53 + K) (1084827 + 4096 * K) (lw_Z below #[Value.ref b] s) (F0 m 1371 ls [])) : W p l e room_1 s m #[Value.ref b] below meth c H [] (53 + K) (1084827 + 4096 * K) (lw_Z below #[Value.ref b] s) (F0 m 682 ls []) := by
  obtain ⟨hx, hb, hml, hown, hts⟩ := id B
  have hb1 := hRl_bound hR
  refine lv_aload_n hx hb dL_law_682 rfl (lv_at hl 1 rfl) ?_
  refine lv_aload_n hx hb dL_law_683 rfl (lv_at hl 0 rfl) ?_
  refine lv_iload_n hx hb dL_law_684 rfl (lv_at hl 3 rfl) ?_
  refine lv_iconst (v := 1) hx hb dL_law_685 (by decide) ?_
  refine lv_iadd hx hb dL_law_686 ?_
  refine r_sld (x := i + 1) hx hb hX hbl h.2.2.2 (nI_add i 1) (by omega) (by omega) dL_law_687 ?_
  obtain ⟨r, w2, wm2, n2, hc, hm, hR2, hw2⟩ := eq_refund hR hn (xs (i + 1))
  have hbd2 := hRl_bound hR2
  refine fin_i (n := n2) (runV (As := [.int (xs (i + 1))]) B 1 (t_X9_refund l G la w (xs (i + 1)) r w2 n2 hc _) rfl rfl kl_73 m_X9_refund (by decide +kernel) ⟨(Nat.le_of_ble_eq_true rfl), (Nat.le_of_ble_eq_true rfl)⟩ ⟨blindM, va_recv hKK.1 h.1 (ci := 8) (q0 := 0) rfl rfl, preM hKK h.c.1⟩ rfl hl.1 (Nat.le_of_ble_eq_true rfl) dL_law_688 ⟨by show _ ≤ 600000; omega, by show _ ≤ 7302250; omega⟩) h.c.1 (fun q z => Or.inr z) (fun u H1 locs1 h1 => ?_)
  obtain ⟨h, hfo⟩ := h.c.2 _ _ _ _ h1
  refine va_forget hfo ?_
  have hK : 4096 * (K + n2) + 4096 = 2 * w2.2 := by omega
  refine W.widen (k := 53 + (K + n2)) (n := 1084827 + 4096 * (K + n2)) (by omega) (by omega) ?_
  have hb2 := hRl_bound hR2
  refine lv_aload_n hx hb dL_law_691 rfl (lv_at hl 2 rfl) ?_
  refine lv_aload_n hx hb dL_law_692 rfl (lv_at hl 0 rfl) ?_
  refine lv_iload_n hx hb dL_law_693 rfl (lv_at hl 3 rfl) ?_
  refine lv_iconst (v := 1) hx hb dL_law_694 (by decide) ?_
  refine lv_iadd hx hb dL_law_695 ?_
  refine r_sld (x := i + 1) hx hb hX hbl h.2.2.2 (nI_add i 1) (by omega) (by omega) dL_law_696 ?_
  refine fin_i (n := 0) (runV (As := [.int (xs (i + 1))]) B 1 (t_X10_refund l (mG G q2) wm (xs (i + 1)) r wm2 hm _) rfl rfl kl_76 m_X10_refund (by decide +kernel) ⟨(Nat.le_of_ble_eq_true rfl), (Nat.le_of_ble_eq_true rfl)⟩ ⟨blindM, va_recv hKK.1 h.m.1.1 (ci := 9) (q0 := 0) rfl rfl, preM (KKm hKK) h.m.1⟩ rfl hl.1 (Nat.le_of_ble_eq_true rfl) dL_law_697 ⟨by show _ ≤ 600000; omega, by show _ ≤ 7302250; omega⟩) h.m.1 (fun q z => Or.inr z) (fun u H1 locs1 h1 => ?_)
  obtain ⟨h, hfo⟩ := h.m.2 _ _ _ h1
  refine va_forget hfo ?_
  exact lv_icmp_eq (tgt := 1371) hx hb dL_law_700 (by decide) (fun _ => k _ _ _ _ _ h hR2 hK) (fun c1 => absurd rfl c1)
set_option maxHeartbeats 4000000 in
set_option maxRecDepth 100000 in
theorem lc_15 {p : Program} {l : Launch} {e : Env} {s : State} {m : MethodId} {below : List Frame} {meth : Method} {c : Code} {b L : Nat} {xs : Nat → Int32} {G : Gm} {q2 : Nat → Nat} {la : Nat} {w : CW} {wm : MW} {H : Heap} {ls : Array Slot} {i n K : Nat} (B : CB RL cL_law 4 p s m #[Value.ref b] c) (hKK : KK G s) (hX : va_X b L xs s s.heap) (hbl : b < s.heap.size) (h : LW s G (mG G q2) la w wm H) (hR : Rl n w wm) (hn : n < 513) (hi : i + 5 ≤ L) (hL : L ≤ 2560) (hK : 4096 * K + 4096 = 2 * w.2) (hl : lv_has ls 4 [(0, .ref b), (1, .ref (gq G 0)), (2, .ref (q2 0)), (3, .int (nI i))]) (k : ∀ (la : Nat) (w : CW) (wm : MW) (H : Heap) (K : Nat), LW s G (mG G q2) la w wm H → Rl (n + 1) w wm → 4096 * K + 4096 = 2 * w.2 → W p l e room_1 s m #[Value.ref b] below meth c H [] (53 + K) (1084827 + 4096 * K) (lw_Z below #[Value.ref b] s) (F0 m 1371 ls [])) : W p l e room_1 s m #[Value.ref b] below meth c H [] (53 + K) (1084827 + 4096 * K) (lw_Z below #[Value.ref b] s) (F0 m 705 ls []) := by
  obtain ⟨hx, hb, hml, hown, hts⟩ := id B
  have hb1 := hRl_bound hR
  refine lv_aload_n hx hb dL_law_705 rfl (lv_at hl 1 rfl) ?_
  refine lv_aload_n hx hb dL_law_706 rfl (lv_at hl 0 rfl) ?_
  refine lv_iload_n hx hb dL_law_707 rfl (lv_at hl 3 rfl) ?_
  refine lv_iconst (v := 1) hx hb dL_law_708 (by decide) ?_
  refine lv_iadd hx hb dL_law_709 ?_
  refine r_sld (x := i + 1) hx hb hX hbl h.2.2.2 (nI_add i 1) (by omega) (by omega) dL_law_710 ?_
  obtain ⟨r, wm2, hc, hm, hR2⟩ := eq_given hR hn (xs (i + 1))
  refine fin_r (runV (As := [.int (xs (i + 1))]) B 1 (t_X9_given l G la w (xs (i + 1)) r hc) rfl rfl kl_77 m_X9_given (by decide +kernel) ⟨(Nat.le_of_ble_eq_true rfl), (Nat.le_of_ble_eq_true rfl)⟩ ⟨blindR, va_recv hKK.1 h.1 (ci := 8) (q0 := 0) rfl rfl, preR hKK h.c.1⟩ rfl hl.1 (Nat.le_of_ble_eq_true rfl) dL_law_711 ⟨by show _ ≤ 600000; omega, by show _ ≤ 7302250; omega⟩) ?_
  refine lv_aload_n hx hb dL_law_714 rfl (lv_at hl 2 rfl) ?_
  refine lv_aload_n hx hb dL_law_715 rfl (lv_at hl 0 rfl) ?_
  refine lv_iload_n hx hb dL_law_716 rfl (lv_at hl 3 rfl) ?_
  refine lv_iconst (v := 1) hx hb dL_law_717 (by decide) ?_
  refine lv_iadd hx hb dL_law_718 ?_
  refine r_sld (x := i + 1) hx hb hX hbl h.2.2.2 (nI_add i 1) (by omega) (by omega) dL_law_719 ?_
  refine fin_i (n := 0) (runV (As := [.int (xs (i + 1))]) B 1 (t_X10_given l (mG G q2) wm (xs (i + 1)) r wm2 hm _) rfl rfl kl_80 m_X10_given (by decide +kernel) ⟨(Nat.le_of_ble_eq_true rfl), (Nat.le_of_ble_eq_true rfl)⟩ ⟨blindM, va_recv hKK.1 h.m.1.1 (ci := 9) (q0 := 0) rfl rfl, preM (KKm hKK) h.m.1⟩ rfl hl.1 (Nat.le_of_ble_eq_true rfl) dL_law_720 ⟨by show _ ≤ 600000; omega, by show _ ≤ 7302250; omega⟩) h.m.1 (fun q z => Or.inr z) (fun u H1 locs1 h1 => ?_)
  obtain ⟨h, hfo⟩ := h.m.2 _ _ _ h1
  refine va_forget hfo ?_
  exact lv_icmp_eq (tgt := 1371) hx hb dL_law_723 (by decide) (fun _ => k _ _ _ _ _ h hR2 hK) (fun c1 => absurd rfl c1)
set_option maxHeartbeats 4000000 in
set_option maxRecDepth 100000 in
theorem lc_16 {p : Program} {l : Launch} {e : Env} {s : State} {m : MethodId} {below : List Frame} {meth : Method} {c : Code} {b L : Nat} {xs : Nat → Int32} {G : Gm} {q2 : Nat → Nat} {la : Nat} {w : CW} {wm : MW} {H : Heap} {ls : Array Slot} {i n K : Nat} (B : CB RL cL_law 4 p s m #[Value.ref b] c) (hKK : KK G s) (hX : va_X b L xs s s.heap) (hbl : b < s.heap.size) (h : LW s G (mG G q2) la w wm H) (hR : Rl n w wm) (hn : n < 513) (hi : i + 5 ≤ L) (hL : L ≤ 2560) (hK : 4096 * K + 4096 = 2 * w.2) (hl : lv_has ls 4 [(0, .ref b), (1, .ref (gq G 0)), (2, .ref (q2 0)), (3, .int (nI i))]) (k : ∀ (la : Nat) (w : CW) (wm : MW) (H : Heap) (K : Nat), LW s G (mG G q2) la w wm H → Rl (n + 1) w wm → 4096 * K + 4096 = 2 * w.2 → W p l e room_1 s m #[Value.ref b] below meth c H [] (53 + K) (1084827 + 4096 * K) (lw_Z below #[Value.ref b] s) (F0 m 1371 ls [])) : W p l e room_1 s m #[Value.ref b] below meth c H [] (53 + K) (1084827 + 4096 * K) (lw_Z below #[Value.ref b] s) (F0 m 728 ls []) := by
  obtain ⟨hx, hb, hml, hown, hts⟩ := id B
  have hb1 := hRl_bound hR
  refine lv_aload_n hx hb dL_law_728 rfl (lv_at hl 1 rfl) ?_
  refine lv_aload_n hx hb dL_law_729 rfl (lv_at hl 0 rfl) ?_
  refine lv_iload_n hx hb dL_law_730 rfl (lv_at hl 3 rfl) ?_
  refine lv_iconst (v := 1) hx hb dL_law_731 (by decide) ?_
  refine lv_iadd hx hb dL_law_732 ?_
  refine r_sld (x := i + 1) hx hb hX hbl h.2.2.2 (nI_add i 1) (by omega) (by omega) dL_law_733 ?_
  refine lv_aload_n hx hb dL_law_734 rfl (lv_at hl 0 rfl) ?_
  refine lv_iload_n hx hb dL_law_735 rfl (lv_at hl 3 rfl) ?_
  refine lv_iconst (v := 2) hx hb dL_law_736 (by decide) ?_
  refine lv_iadd hx hb dL_law_737 ?_
  refine r_sld (x := i + 2) hx hb hX hbl h.2.2.2 (nI_add i 2) (by omega) (by omega) dL_law_738 ?_
  obtain ⟨r, wm2, hc, hm, hR2⟩ := eq_coins hR hn (xs (i + 1)) (xs (i + 2))
  refine fin_r (runV (As := [.int (xs (i + 1)), .int (xs (i + 2))]) B 2 (t_X9_coins l G la w (xs (i + 1)) (xs (i + 2)) r hc) rfl rfl kl_81 m_X9_coins (by decide +kernel) ⟨(Nat.le_of_ble_eq_true rfl), (Nat.le_of_ble_eq_true rfl)⟩ ⟨blindR, va_recv hKK.1 h.1 (ci := 8) (q0 := 0) rfl rfl, preR hKK h.c.1⟩ rfl hl.1 (Nat.le_of_ble_eq_true rfl) dL_law_739 ⟨by show _ ≤ 600000; omega, by show _ ≤ 7302250; omega⟩) ?_
  refine lv_aload_n hx hb dL_law_742 rfl (lv_at hl 2 rfl) ?_
  refine lv_aload_n hx hb dL_law_743 rfl (lv_at hl 0 rfl) ?_
  refine lv_iload_n hx hb dL_law_744 rfl (lv_at hl 3 rfl) ?_
  refine lv_iconst (v := 1) hx hb dL_law_745 (by decide) ?_
  refine lv_iadd hx hb dL_law_746 ?_
  refine r_sld (x := i + 1) hx hb hX hbl h.2.2.2 (nI_add i 1) (by omega) (by omega) dL_law_747 ?_
  refine lv_aload_n hx hb dL_law_748 rfl (lv_at hl 0 rfl) ?_
  refine lv_iload_n hx hb dL_law_749 rfl (lv_at hl 3 rfl) ?_
  refine lv_iconst (v := 2) hx hb dL_law_750 (by decide) ?_
  refine lv_iadd hx hb dL_law_751 ?_
  refine r_sld (x := i + 2) hx hb hX hbl h.2.2.2 (nI_add i 2) (by omega) (by omega) dL_law_752 ?_
  refine fin_i (n := 0) (runV (As := [.int (xs (i + 1)), .int (xs (i + 2))]) B 2 (t_X10_coins l (mG G q2) wm (xs (i + 1)) (xs (i + 2)) r wm2 hm _) rfl rfl kl_84 m_X10_coins (by decide +kernel) ⟨(Nat.le_of_ble_eq_true rfl), (Nat.le_of_ble_eq_true rfl)⟩ ⟨blindM, va_recv hKK.1 h.m.1.1 (ci := 9) (q0 := 0) rfl rfl, preM (KKm hKK) h.m.1⟩ rfl hl.1 (Nat.le_of_ble_eq_true rfl) dL_law_753 ⟨by show _ ≤ 600000; omega, by show _ ≤ 7302250; omega⟩) h.m.1 (fun q z => Or.inr z) (fun u H1 locs1 h1 => ?_)
  obtain ⟨h, hfo⟩ := h.m.2 _ _ _ h1
  refine va_forget hfo ?_
  exact lv_icmp_eq (tgt := 1371) hx hb dL_law_756 (by decide) (fun _ => k _ _ _ _ _ h hR2 hK) (fun c1 => absurd rfl c1)
set_option maxHeartbeats 4000000 in
set_option maxRecDepth 100000 in
theorem lc_17 {p : Program} {l : Launch} {e : Env} {s : State} {m : MethodId} {below : List Frame} {meth : Method} {c : Code} {b L : Nat} {xs : Nat → Int32} {G : Gm} {q2 : Nat → Nat} {la : Nat} {w : CW} {wm : MW} {H : Heap} {ls : Array Slot} {i n K : Nat} (B : CB RL cL_law 4 p s m #[Value.ref b] c) (hKK : KK G s) (hX : va_X b L xs s s.heap) (hbl : b < s.heap.size) (h : LW s G (mG G q2) la w wm H) (hR : Rl n w wm) (hn : n < 513) (hi : i + 5 ≤ L) (hL : L ≤ 2560) (hK : 4096 * K + 4096 = 2 * w.2) (hl : lv_has ls 4 [(0, .ref b), (1, .ref (gq G 0)), (2, .ref (q2 0)), (3, .int (nI i))]) (k : ∀ (la : Nat) (w : CW) (wm : MW) (H : Heap) (K : Nat), LW s G (mG G q2) la w wm H → Rl (n + 1) w wm → 4096 * K + 4096 = 2 * w.2 → W p l e room_1 s m #[Value.ref b] below meth c H [] (53 + K) (1084827 + 4096 * K) (lw_Z below #[Value.ref b] s) (F0 m 1371 ls [])) : W p l e room_1 s m #[Value.ref b] below meth c H [] (53 + K) (1084827 + 4096 * K) (lw_Z below #[Value.ref b] s) (F0 m 761 ls []) := by
  obtain ⟨hx, hb, hml, hown, hts⟩ := id B
  have hb1 := hRl_bound hR
  refine lv_aload_n hx hb dL_law_761 rfl (lv_at hl 1 rfl) ?_
  refine lv_aload_n hx hb dL_law_762 rfl (lv_at hl 0 rfl) ?_
  refine lv_iload_n hx hb dL_law_763 rfl (lv_at hl 3 rfl) ?_
  refine lv_iconst (v := 1) hx hb dL_law_764 (by decide) ?_
  refine lv_iadd hx hb dL_law_765 ?_
  refine r_sld (x := i + 1) hx hb hX hbl h.2.2.2 (nI_add i 1) (by omega) (by omega) dL_law_766 ?_
  obtain ⟨r, wm2, hc, hm, hR2⟩ := eq_credit hR hn (xs (i + 1))
  refine fin_r (runV (As := [.int (xs (i + 1))]) B 1 (t_X9_credit l G la w (xs (i + 1)) r hc) rfl rfl kl_85 m_X9_credit (by decide +kernel) ⟨(Nat.le_of_ble_eq_true rfl), (Nat.le_of_ble_eq_true rfl)⟩ ⟨blindR, va_recv hKK.1 h.1 (ci := 8) (q0 := 0) rfl rfl, preR hKK h.c.1⟩ rfl hl.1 (Nat.le_of_ble_eq_true rfl) dL_law_767 ⟨by show _ ≤ 600000; omega, by show _ ≤ 7302250; omega⟩) ?_
  refine lv_aload_n hx hb dL_law_770 rfl (lv_at hl 2 rfl) ?_
  refine lv_aload_n hx hb dL_law_771 rfl (lv_at hl 0 rfl) ?_
  refine lv_iload_n hx hb dL_law_772 rfl (lv_at hl 3 rfl) ?_
  refine lv_iconst (v := 1) hx hb dL_law_773 (by decide) ?_
  refine lv_iadd hx hb dL_law_774 ?_
  refine r_sld (x := i + 1) hx hb hX hbl h.2.2.2 (nI_add i 1) (by omega) (by omega) dL_law_775 ?_
  refine fin_i (n := 0) (runV (As := [.int (xs (i + 1))]) B 1 (t_X10_credit l (mG G q2) wm (xs (i + 1)) r wm2 hm _) rfl rfl kl_88 m_X10_credit (by decide +kernel) ⟨(Nat.le_of_ble_eq_true rfl), (Nat.le_of_ble_eq_true rfl)⟩ ⟨blindM, va_recv hKK.1 h.m.1.1 (ci := 9) (q0 := 0) rfl rfl, preM (KKm hKK) h.m.1⟩ rfl hl.1 (Nat.le_of_ble_eq_true rfl) dL_law_776 ⟨by show _ ≤ 600000; omega, by show _ ≤ 7302250; omega⟩) h.m.1 (fun q z => Or.inr z) (fun u H1 locs1 h1 => ?_)
  obtain ⟨h, hfo⟩ := h.m.2 _ _ _ h1
  refine va_forget hfo ?_
  exact lv_icmp_eq (tgt := 1371) hx hb dL_law_779 (by decide) (fun _ => k _ _ _ _ _ h hR2 hK) (fun c1 => absurd rfl c1)
set_option maxHeartbeats 4000000 in
set_option maxRecDepth 100000 in
theorem lc_18 {p : Program} {l : Launch} {e : Env} {s : State} {m : MethodId} {below : List Frame} {meth : Method} {c : Code} {b L : Nat} {xs : Nat → Int32} {G : Gm} {q2 : Nat → Nat} {la : Nat} {w : CW} {wm : MW} {H : Heap} {ls : Array Slot} {i n K : Nat} (B : CB RL cL_law 4 p s m #[Value.ref b] c) (hKK : KK G s) (hX : va_X b L xs s s.heap) (hbl : b < s.heap.size) (h : LW s G (mG G q2) la w wm H) (hR : Rl n w wm) (hn : n < 513) (hi : i + 5 ≤ L) (hL : L ≤ 2560) (hK : 4096 * K + 4096 = 2 * w.2) (hl : lv_has ls 4 [(0, .ref b), (1, .ref (gq G 0)), (2, .ref (q2 0)), (3, .int (nI i))]) (k : ∀ (la : Nat) (w : CW) (wm : MW) (H : Heap) (K : Nat), LW s G (mG G q2) la w wm H → Rl (n + 1) w wm → 4096 * K + 4096 = 2 * w.2 → W p l e room_1 s m #[Value.ref b] below meth c H [] (53 + K) (1084827 + 4096 * K) (lw_Z below #[Value.ref b] s) (F0 m 1371 ls [])) : W p l e room_1 s m #[Value.ref b] below meth c H [] (53 + K) (1084827 + 4096 * K) (lw_Z below #[Value.ref b] s) (F0 m 784 ls []) := by
  obtain ⟨hx, hb, hml, hown, hts⟩ := id B
  have hb1 := hRl_bound hR
  refine lv_aload_n hx hb dL_law_784 rfl (lv_at hl 1 rfl) ?_
  refine lv_aload_n hx hb dL_law_785 rfl (lv_at hl 0 rfl) ?_
  refine lv_iload_n hx hb dL_law_786 rfl (lv_at hl 3 rfl) ?_
  refine lv_iconst (v := 1) hx hb dL_law_787 (by decide) ?_
  refine lv_iadd hx hb dL_law_788 ?_
  refine r_sld (x := i + 1) hx hb hX hbl h.2.2.2 (nI_add i 1) (by omega) (by omega) dL_law_789 ?_
  refine lv_aload_n hx hb dL_law_790 rfl (lv_at hl 0 rfl) ?_
  refine lv_iload_n hx hb dL_law_791 rfl (lv_at hl 3 rfl) ?_
  refine lv_iconst (v := 2) hx hb dL_law_792 (by decide) ?_
  refine lv_iadd hx hb dL_law_793 ?_
  refine r_sld (x := i + 2) hx hb hX hbl h.2.2.2 (nI_add i 2) (by omega) (by omega) dL_law_794 ?_
  refine lv_aload_n hx hb dL_law_795 rfl (lv_at hl 0 rfl) ?_
  refine lv_iload_n hx hb dL_law_796 rfl (lv_at hl 3 rfl) ?_
  refine lv_iconst (v := 3) hx hb dL_law_797 (by decide) ?_
  refine lv_iadd hx hb dL_law_798 ?_
  refine r_sld (x := i + 3) hx hb hX hbl h.2.2.2 (nI_add i 3) (by omega) (by omega) dL_law_799 ?_
  obtain ⟨r, w2, wm2, n2, hc, hm, hR2, hw2⟩ := eq_load hR hn (xs (i + 1)) (xs (i + 2)) (xs (i + 3))
  have hbd2 := hRl_bound hR2
  refine fin_i (n := n2) (runV (As := [.int (xs (i + 1)), .int (xs (i + 2)), .int (xs (i + 3))]) B 3 (t_X9_load l G la w (xs (i + 1)) (xs (i + 2)) (xs (i + 3)) r w2 n2 hc _) rfl rfl kl_89 m_X9_load (by decide +kernel) ⟨(Nat.le_of_ble_eq_true rfl), (Nat.le_of_ble_eq_true rfl)⟩ ⟨blindM, va_recv hKK.1 h.1 (ci := 8) (q0 := 0) rfl rfl, preM hKK h.c.1⟩ rfl hl.1 (Nat.le_of_ble_eq_true rfl) dL_law_800 ⟨by show _ ≤ 600000; omega, by show _ ≤ 7302250; omega⟩) h.c.1 (fun q z => Or.inr z) (fun u H1 locs1 h1 => ?_)
  obtain ⟨h, hfo⟩ := h.c.2 _ _ _ _ h1
  refine va_forget hfo ?_
  have hK : 4096 * (K + n2) + 4096 = 2 * w2.2 := by omega
  refine W.widen (k := 53 + (K + n2)) (n := 1084827 + 4096 * (K + n2)) (by omega) (by omega) ?_
  have hb2 := hRl_bound hR2
  refine lv_aload_n hx hb dL_law_803 rfl (lv_at hl 2 rfl) ?_
  refine lv_aload_n hx hb dL_law_804 rfl (lv_at hl 0 rfl) ?_
  refine lv_iload_n hx hb dL_law_805 rfl (lv_at hl 3 rfl) ?_
  refine lv_iconst (v := 1) hx hb dL_law_806 (by decide) ?_
  refine lv_iadd hx hb dL_law_807 ?_
  refine r_sld (x := i + 1) hx hb hX hbl h.2.2.2 (nI_add i 1) (by omega) (by omega) dL_law_808 ?_
  refine lv_aload_n hx hb dL_law_809 rfl (lv_at hl 0 rfl) ?_
  refine lv_iload_n hx hb dL_law_810 rfl (lv_at hl 3 rfl) ?_
  refine lv_iconst (v := 2) hx hb dL_law_811 (by decide) ?_
  refine lv_iadd hx hb dL_law_812 ?_
  refine r_sld (x := i + 2) hx hb hX hbl h.2.2.2 (nI_add i 2) (by omega) (by omega) dL_law_813 ?_
  refine lv_aload_n hx hb dL_law_814 rfl (lv_at hl 0 rfl) ?_
  refine lv_iload_n hx hb dL_law_815 rfl (lv_at hl 3 rfl) ?_
  refine lv_iconst (v := 3) hx hb dL_law_816 (by decide) ?_
  refine lv_iadd hx hb dL_law_817 ?_
  refine r_sld (x := i + 3) hx hb hX hbl h.2.2.2 (nI_add i 3) (by omega) (by omega) dL_law_818 ?_
  refine fin_i (n := 0) (runV (As := [.int (xs (i + 1)), .int (xs (i + 2)), .int (xs (i + 3))]) B 3 (t_X10_load l (mG G q2) wm (xs (i + 1)) (xs (i + 2)) (xs (i + 3)) r wm2 hm _) rfl rfl kl_92 m_X10_load (by decide +kernel) ⟨(Nat.le_of_ble_eq_true rfl), (Nat.le_of_ble_eq_true rfl)⟩ ⟨blindM, va_recv hKK.1 h.m.1.1 (ci := 9) (q0 := 0) rfl rfl, preM (KKm hKK) h.m.1⟩ rfl hl.1 (Nat.le_of_ble_eq_true rfl) dL_law_819 ⟨by show _ ≤ 600000; omega, by show _ ≤ 7302250; omega⟩) h.m.1 (fun q z => Or.inr z) (fun u H1 locs1 h1 => ?_)
  obtain ⟨h, hfo⟩ := h.m.2 _ _ _ h1
  refine va_forget hfo ?_
  exact lv_icmp_eq (tgt := 1371) hx hb dL_law_822 (by decide) (fun _ => k _ _ _ _ _ h hR2 hK) (fun c1 => absurd rfl c1)
set_option maxHeartbeats 4000000 in
set_option maxRecDepth 100000 in
theorem lc_19 {p : Program} {l : Launch} {e : Env} {s : State} {m : MethodId} {below : List Frame} {meth : Method} {c : Code} {b L : Nat} {xs : Nat → Int32} {G : Gm} {q2 : Nat → Nat} {la : Nat} {w : CW} {wm : MW} {H : Heap} {ls : Array Slot} {i n K : Nat} (B : CB RL cL_law 4 p s m #[Value.ref b] c) (hKK : KK G s) (hX : va_X b L xs s s.heap) (hbl : b < s.heap.size) (h : LW s G (mG G q2) la w wm H) (hR : Rl n w wm) (hn : n < 513) (hi : i + 5 ≤ L) (hL : L ≤ 2560) (hK : 4096 * K + 4096 = 2 * w.2) (hl : lv_has ls 4 [(0, .ref b), (1, .ref (gq G 0)), (2, .ref (q2 0)), (3, .int (nI i))]) (k : ∀ (la : Nat) (w : CW) (wm : MW) (H : Heap) (K : Nat), LW s G (mG G q2) la w wm H → Rl (n + 1) w wm → 4096 * K + 4096 = 2 * w.2 → W p l e room_1 s m #[Value.ref b] below meth c H [] (53 + K) (1084827 + 4096 * K) (lw_Z below #[Value.ref b] s) (F0 m 1371 ls [])) : W p l e room_1 s m #[Value.ref b] below meth c H [] (53 + K) (1084827 + 4096 * K) (lw_Z below #[Value.ref b] s) (F0 m 827 ls []) := by
  obtain ⟨hx, hb, hml, hown, hts⟩ := id B
  have hb1 := hRl_bound hR
  refine lv_aload_n hx hb dL_law_827 rfl (lv_at hl 1 rfl) ?_
  refine lv_aload_n hx hb dL_law_828 rfl (lv_at hl 0 rfl) ?_
  refine lv_iload_n hx hb dL_law_829 rfl (lv_at hl 3 rfl) ?_
  refine lv_iconst (v := 1) hx hb dL_law_830 (by decide) ?_
  refine lv_iadd hx hb dL_law_831 ?_
  refine r_sld (x := i + 1) hx hb hX hbl h.2.2.2 (nI_add i 1) (by omega) (by omega) dL_law_832 ?_
  refine lv_aload_n hx hb dL_law_833 rfl (lv_at hl 0 rfl) ?_
  refine lv_iload_n hx hb dL_law_834 rfl (lv_at hl 3 rfl) ?_
  refine lv_iconst (v := 2) hx hb dL_law_835 (by decide) ?_
  refine lv_iadd hx hb dL_law_836 ?_
  refine r_sld (x := i + 2) hx hb hX hbl h.2.2.2 (nI_add i 2) (by omega) (by omega) dL_law_837 ?_
  refine lv_aload_n hx hb dL_law_838 rfl (lv_at hl 0 rfl) ?_
  refine lv_iload_n hx hb dL_law_839 rfl (lv_at hl 3 rfl) ?_
  refine lv_iconst (v := 3) hx hb dL_law_840 (by decide) ?_
  refine lv_iadd hx hb dL_law_841 ?_
  refine r_sld (x := i + 3) hx hb hX hbl h.2.2.2 (nI_add i 3) (by omega) (by omega) dL_law_842 ?_
  refine lv_if_eq (tgt := 850) hx hb dL_law_843 (by decide) (fun c1 => ?_) (fun c1 => ?_)
  · refine lv_iconst (v := 0) hx hb dL_law_850 (by decide) ?_
    obtain ⟨r, w2, wm2, n2, hc, hm, hR2, hw2⟩ := eq_mix hR hn (xs (i + 1)) (xs (i + 2)) (0)
    have hbd2 := hRl_bound hR2
    refine fin_i (n := n2) (runV (As := [.int (xs (i + 1)), .int (xs (i + 2)), .int (0)]) B 3 (t_X9_mix l G la w (xs (i + 1)) (xs (i + 2)) (0) r w2 n2 hc _) rfl rfl kl_93 m_X9_mix (by decide +kernel) ⟨(Nat.le_of_ble_eq_true rfl), (Nat.le_of_ble_eq_true rfl)⟩ ⟨blindM, va_recv hKK.1 h.1 (ci := 8) (q0 := 0) rfl rfl, preM hKK h.c.1⟩ rfl hl.1 (Nat.le_of_ble_eq_true rfl) dL_law_851 ⟨by show _ ≤ 600000; omega, by show _ ≤ 7302250; omega⟩) h.c.1 (fun q z => Or.inr z) (fun u H1 locs1 h1 => ?_)
    obtain ⟨h, hfo⟩ := h.c.2 _ _ _ _ h1
    refine va_forget hfo ?_
    have hK : 4096 * (K + n2) + 4096 = 2 * w2.2 := by omega
    refine W.widen (k := 53 + (K + n2)) (n := 1084827 + 4096 * (K + n2)) (by omega) (by omega) ?_
    have hb2 := hRl_bound hR2
    refine lv_aload_n hx hb dL_law_854 rfl (lv_at hl 2 rfl) ?_
    refine lv_aload_n hx hb dL_law_855 rfl (lv_at hl 0 rfl) ?_
    refine lv_iload_n hx hb dL_law_856 rfl (lv_at hl 3 rfl) ?_
    refine lv_iconst (v := 1) hx hb dL_law_857 (by decide) ?_
    refine lv_iadd hx hb dL_law_858 ?_
    refine r_sld (x := i + 1) hx hb hX hbl h.2.2.2 (nI_add i 1) (by omega) (by omega) dL_law_859 ?_
    refine lv_aload_n hx hb dL_law_860 rfl (lv_at hl 0 rfl) ?_
    refine lv_iload_n hx hb dL_law_861 rfl (lv_at hl 3 rfl) ?_
    refine lv_iconst (v := 2) hx hb dL_law_862 (by decide) ?_
    refine lv_iadd hx hb dL_law_863 ?_
    refine r_sld (x := i + 2) hx hb hX hbl h.2.2.2 (nI_add i 2) (by omega) (by omega) dL_law_864 ?_
    refine lv_aload_n hx hb dL_law_865 rfl (lv_at hl 0 rfl) ?_
    refine lv_iload_n hx hb dL_law_866 rfl (lv_at hl 3 rfl) ?_
    refine lv_iconst (v := 3) hx hb dL_law_867 (by decide) ?_
    refine lv_iadd hx hb dL_law_868 ?_
    refine r_sld (x := i + 3) hx hb hX hbl h.2.2.2 (nI_add i 3) (by omega) (by omega) dL_law_869 ?_
    refine lv_if_eq (tgt := 877) hx hb dL_law_870 (by decide) (fun c2 => ?_) (fun c2 => absurd c1 c2)
    refine lv_iconst (v := 0) hx hb dL_law_877 (by decide) ?_
    refine fin_i (n := 0) (runV (As := [.int (xs (i + 1)), .int (xs (i + 2)), .int (0)]) B 3 (t_X10_mix l (mG G q2) wm (xs (i + 1)) (xs (i + 2)) (0) r wm2 hm _) rfl rfl kl_97 m_X10_mix (by decide +kernel) ⟨(Nat.le_of_ble_eq_true rfl), (Nat.le_of_ble_eq_true rfl)⟩ ⟨blindM, va_recv hKK.1 h.m.1.1 (ci := 9) (q0 := 0) rfl rfl, preM (KKm hKK) h.m.1⟩ rfl hl.1 (Nat.le_of_ble_eq_true rfl) dL_law_878 ⟨by show _ ≤ 600000; omega, by show _ ≤ 7302250; omega⟩) h.m.1 (fun q z => Or.inr z) (fun u H1 locs1 h1 => ?_)
    obtain ⟨h, hfo⟩ := h.m.2 _ _ _ h1
    refine va_forget hfo ?_
    exact lv_icmp_eq (tgt := 1371) hx hb dL_law_881 (by decide) (fun _ => k _ _ _ _ _ h hR2 hK) (fun c1 => absurd rfl c1)
  · refine lv_iconst (v := 1) hx hb dL_law_846 (by decide) ?_
    refine lv_goto (tgt := 851) hx hb dL_law_847 (by decide) ?_
    obtain ⟨r, w2, wm2, n2, hc, hm, hR2, hw2⟩ := eq_mix hR hn (xs (i + 1)) (xs (i + 2)) (1)
    have hbd2 := hRl_bound hR2
    refine fin_i (n := n2) (runV (As := [.int (xs (i + 1)), .int (xs (i + 2)), .int (1)]) B 3 (t_X9_mix l G la w (xs (i + 1)) (xs (i + 2)) (1) r w2 n2 hc _) rfl rfl kl_93 m_X9_mix (by decide +kernel) ⟨(Nat.le_of_ble_eq_true rfl), (Nat.le_of_ble_eq_true rfl)⟩ ⟨blindM, va_recv hKK.1 h.1 (ci := 8) (q0 := 0) rfl rfl, preM hKK h.c.1⟩ rfl hl.1 (Nat.le_of_ble_eq_true rfl) dL_law_851 ⟨by show _ ≤ 600000; omega, by show _ ≤ 7302250; omega⟩) h.c.1 (fun q z => Or.inr z) (fun u H1 locs1 h1 => ?_)
    obtain ⟨h, hfo⟩ := h.c.2 _ _ _ _ h1
    refine va_forget hfo ?_
    have hK : 4096 * (K + n2) + 4096 = 2 * w2.2 := by omega
    refine W.widen (k := 53 + (K + n2)) (n := 1084827 + 4096 * (K + n2)) (by omega) (by omega) ?_
    have hb2 := hRl_bound hR2
    refine lv_aload_n hx hb dL_law_854 rfl (lv_at hl 2 rfl) ?_
    refine lv_aload_n hx hb dL_law_855 rfl (lv_at hl 0 rfl) ?_
    refine lv_iload_n hx hb dL_law_856 rfl (lv_at hl 3 rfl) ?_
    refine lv_iconst (v := 1) hx hb dL_law_857 (by decide) ?_
    refine lv_iadd hx hb dL_law_858 ?_
    refine r_sld (x := i + 1) hx hb hX hbl h.2.2.2 (nI_add i 1) (by omega) (by omega) dL_law_859 ?_
    refine lv_aload_n hx hb dL_law_860 rfl (lv_at hl 0 rfl) ?_
    refine lv_iload_n hx hb dL_law_861 rfl (lv_at hl 3 rfl) ?_
    refine lv_iconst (v := 2) hx hb dL_law_862 (by decide) ?_
    refine lv_iadd hx hb dL_law_863 ?_
    refine r_sld (x := i + 2) hx hb hX hbl h.2.2.2 (nI_add i 2) (by omega) (by omega) dL_law_864 ?_
    refine lv_aload_n hx hb dL_law_865 rfl (lv_at hl 0 rfl) ?_
    refine lv_iload_n hx hb dL_law_866 rfl (lv_at hl 3 rfl) ?_
    refine lv_iconst (v := 3) hx hb dL_law_867 (by decide) ?_
    refine lv_iadd hx hb dL_law_868 ?_
    refine r_sld (x := i + 3) hx hb hX hbl h.2.2.2 (nI_add i 3) (by omega) (by omega) dL_law_869 ?_
    refine lv_if_eq (tgt := 877) hx hb dL_law_870 (by decide) (fun c2 => absurd c2 c1) (fun c2 => ?_)
    refine lv_iconst (v := 1) hx hb dL_law_873 (by decide) ?_
    refine lv_goto (tgt := 878) hx hb dL_law_874 (by decide) ?_
    refine fin_i (n := 0) (runV (As := [.int (xs (i + 1)), .int (xs (i + 2)), .int (1)]) B 3 (t_X10_mix l (mG G q2) wm (xs (i + 1)) (xs (i + 2)) (1) r wm2 hm _) rfl rfl kl_97 m_X10_mix (by decide +kernel) ⟨(Nat.le_of_ble_eq_true rfl), (Nat.le_of_ble_eq_true rfl)⟩ ⟨blindM, va_recv hKK.1 h.m.1.1 (ci := 9) (q0 := 0) rfl rfl, preM (KKm hKK) h.m.1⟩ rfl hl.1 (Nat.le_of_ble_eq_true rfl) dL_law_878 ⟨by show _ ≤ 600000; omega, by show _ ≤ 7302250; omega⟩) h.m.1 (fun q z => Or.inr z) (fun u H1 locs1 h1 => ?_)
    obtain ⟨h, hfo⟩ := h.m.2 _ _ _ h1
    refine va_forget hfo ?_
    exact lv_icmp_eq (tgt := 1371) hx hb dL_law_881 (by decide) (fun _ => k _ _ _ _ _ h hR2 hK) (fun c1 => absurd rfl c1)
set_option maxHeartbeats 4000000 in
set_option maxRecDepth 100000 in
theorem lc_20 {p : Program} {l : Launch} {e : Env} {s : State} {m : MethodId} {below : List Frame} {meth : Method} {c : Code} {b L : Nat} {xs : Nat → Int32} {G : Gm} {q2 : Nat → Nat} {la : Nat} {w : CW} {wm : MW} {H : Heap} {ls : Array Slot} {i n K : Nat} (B : CB RL cL_law 4 p s m #[Value.ref b] c) (hKK : KK G s) (hX : va_X b L xs s s.heap) (hbl : b < s.heap.size) (h : LW s G (mG G q2) la w wm H) (hR : Rl n w wm) (hn : n < 513) (hi : i + 5 ≤ L) (hL : L ≤ 2560) (hK : 4096 * K + 4096 = 2 * w.2) (hl : lv_has ls 4 [(0, .ref b), (1, .ref (gq G 0)), (2, .ref (q2 0)), (3, .int (nI i))]) (k : ∀ (la : Nat) (w : CW) (wm : MW) (H : Heap) (K : Nat), LW s G (mG G q2) la w wm H → Rl (n + 1) w wm → 4096 * K + 4096 = 2 * w.2 → W p l e room_1 s m #[Value.ref b] below meth c H [] (53 + K) (1084827 + 4096 * K) (lw_Z below #[Value.ref b] s) (F0 m 1371 ls [])) : W p l e room_1 s m #[Value.ref b] below meth c H [] (53 + K) (1084827 + 4096 * K) (lw_Z below #[Value.ref b] s) (F0 m 886 ls []) := by
  obtain ⟨hx, hb, hml, hown, hts⟩ := id B
  have hb1 := hRl_bound hR
  refine lv_aload_n hx hb dL_law_886 rfl (lv_at hl 1 rfl) ?_
  refine lv_aload_n hx hb dL_law_887 rfl (lv_at hl 0 rfl) ?_
  refine lv_iload_n hx hb dL_law_888 rfl (lv_at hl 3 rfl) ?_
  refine lv_iconst (v := 1) hx hb dL_law_889 (by decide) ?_
  refine lv_iadd hx hb dL_law_890 ?_
  refine r_sld (x := i + 1) hx hb hX hbl h.2.2.2 (nI_add i 1) (by omega) (by omega) dL_law_891 ?_
  refine lv_aload_n hx hb dL_law_892 rfl (lv_at hl 0 rfl) ?_
  refine lv_iload_n hx hb dL_law_893 rfl (lv_at hl 3 rfl) ?_
  refine lv_iconst (v := 2) hx hb dL_law_894 (by decide) ?_
  refine lv_iadd hx hb dL_law_895 ?_
  refine r_sld (x := i + 2) hx hb hX hbl h.2.2.2 (nI_add i 2) (by omega) (by omega) dL_law_896 ?_
  obtain ⟨r, w2, wm2, n2, hc, hm, hR2, hw2⟩ := eq_put hR hn (xs (i + 1)) (xs (i + 2))
  have hbd2 := hRl_bound hR2
  refine fin_i (n := n2) (runV (As := [.int (xs (i + 1)), .int (xs (i + 2))]) B 2 (t_X9_put l G la w (xs (i + 1)) (xs (i + 2)) r w2 n2 hc _) rfl rfl kl_98 m_X9_put (by decide +kernel) ⟨(Nat.le_of_ble_eq_true rfl), (Nat.le_of_ble_eq_true rfl)⟩ ⟨blindM, va_recv hKK.1 h.1 (ci := 8) (q0 := 0) rfl rfl, preM hKK h.c.1⟩ rfl hl.1 (Nat.le_of_ble_eq_true rfl) dL_law_897 ⟨by show _ ≤ 600000; omega, by show _ ≤ 7302250; omega⟩) h.c.1 (fun q z => Or.inr z) (fun u H1 locs1 h1 => ?_)
  obtain ⟨h, hfo⟩ := h.c.2 _ _ _ _ h1
  refine va_forget hfo ?_
  have hK : 4096 * (K + n2) + 4096 = 2 * w2.2 := by omega
  refine W.widen (k := 53 + (K + n2)) (n := 1084827 + 4096 * (K + n2)) (by omega) (by omega) ?_
  have hb2 := hRl_bound hR2
  refine lv_aload_n hx hb dL_law_900 rfl (lv_at hl 2 rfl) ?_
  refine lv_aload_n hx hb dL_law_901 rfl (lv_at hl 0 rfl) ?_
  refine lv_iload_n hx hb dL_law_902 rfl (lv_at hl 3 rfl) ?_
  refine lv_iconst (v := 1) hx hb dL_law_903 (by decide) ?_
  refine lv_iadd hx hb dL_law_904 ?_
  refine r_sld (x := i + 1) hx hb hX hbl h.2.2.2 (nI_add i 1) (by omega) (by omega) dL_law_905 ?_
  refine lv_aload_n hx hb dL_law_906 rfl (lv_at hl 0 rfl) ?_
  refine lv_iload_n hx hb dL_law_907 rfl (lv_at hl 3 rfl) ?_
  refine lv_iconst (v := 2) hx hb dL_law_908 (by decide) ?_
  refine lv_iadd hx hb dL_law_909 ?_
  refine r_sld (x := i + 2) hx hb hX hbl h.2.2.2 (nI_add i 2) (by omega) (by omega) dL_law_910 ?_
  refine fin_i (n := 0) (runV (As := [.int (xs (i + 1)), .int (xs (i + 2))]) B 2 (t_X10_put l (mG G q2) wm (xs (i + 1)) (xs (i + 2)) r wm2 hm _) rfl rfl kl_101 m_X10_put (by decide +kernel) ⟨(Nat.le_of_ble_eq_true rfl), (Nat.le_of_ble_eq_true rfl)⟩ ⟨blindM, va_recv hKK.1 h.m.1.1 (ci := 9) (q0 := 0) rfl rfl, preM (KKm hKK) h.m.1⟩ rfl hl.1 (Nat.le_of_ble_eq_true rfl) dL_law_911 ⟨by show _ ≤ 600000; omega, by show _ ≤ 7302250; omega⟩) h.m.1 (fun q z => Or.inr z) (fun u H1 locs1 h1 => ?_)
  obtain ⟨h, hfo⟩ := h.m.2 _ _ _ h1
  refine va_forget hfo ?_
  exact lv_icmp_eq (tgt := 1371) hx hb dL_law_914 (by decide) (fun _ => k _ _ _ _ _ h hR2 hK) (fun c1 => absurd rfl c1)
set_option maxHeartbeats 4000000 in
set_option maxRecDepth 100000 in
theorem lc_21 {p : Program} {l : Launch} {e : Env} {s : State} {m : MethodId} {below : List Frame} {meth : Method} {c : Code} {b L : Nat} {xs : Nat → Int32} {G : Gm} {q2 : Nat → Nat} {la : Nat} {w : CW} {wm : MW} {H : Heap} {ls : Array Slot} {i n K : Nat} (B : CB RL cL_law 4 p s m #[Value.ref b] c) (hKK : KK G s) (hX : va_X b L xs s s.heap) (hbl : b < s.heap.size) (h : LW s G (mG G q2) la w wm H) (hR : Rl n w wm) (hn : n < 513) (hi : i + 5 ≤ L) (hL : L ≤ 2560) (hK : 4096 * K + 4096 = 2 * w.2) (hl : lv_has ls 4 [(0, .ref b), (1, .ref (gq G 0)), (2, .ref (q2 0)), (3, .int (nI i))]) (k : ∀ (la : Nat) (w : CW) (wm : MW) (H : Heap) (K : Nat), LW s G (mG G q2) la w wm H → Rl (n + 1) w wm → 4096 * K + 4096 = 2 * w.2 → W p l e room_1 s m #[Value.ref b] below meth c H [] (53 + K) (1084827 + 4096 * K) (lw_Z below #[Value.ref b] s) (F0 m 1371 ls [])) : W p l e room_1 s m #[Value.ref b] below meth c H [] (53 + K) (1084827 + 4096 * K) (lw_Z below #[Value.ref b] s) (F0 m 919 ls []) := by
  obtain ⟨hx, hb, hml, hown, hts⟩ := id B
  have hb1 := hRl_bound hR
  refine lv_aload_n hx hb dL_law_919 rfl (lv_at hl 1 rfl) ?_
  refine lv_aload_n hx hb dL_law_920 rfl (lv_at hl 0 rfl) ?_
  refine lv_iload_n hx hb dL_law_921 rfl (lv_at hl 3 rfl) ?_
  refine lv_iconst (v := 1) hx hb dL_law_922 (by decide) ?_
  refine lv_iadd hx hb dL_law_923 ?_
  refine r_sld (x := i + 1) hx hb hX hbl h.2.2.2 (nI_add i 1) (by omega) (by omega) dL_law_924 ?_
  obtain ⟨r, w2, wm2, n2, hc, hm, hR2, hw2⟩ := eq_fetch hR hn (xs (i + 1))
  have hbd2 := hRl_bound hR2
  refine fin_i (n := n2) (runV (As := [.int (xs (i + 1))]) B 1 (t_X9_fetch l G la w (xs (i + 1)) r w2 n2 hc _) rfl rfl kl_102 m_X9_fetch (by decide +kernel) ⟨(Nat.le_of_ble_eq_true rfl), (Nat.le_of_ble_eq_true rfl)⟩ ⟨blindM, va_recv hKK.1 h.1 (ci := 8) (q0 := 0) rfl rfl, preM hKK h.c.1⟩ rfl hl.1 (Nat.le_of_ble_eq_true rfl) dL_law_925 ⟨by show _ ≤ 600000; omega, by show _ ≤ 7302250; omega⟩) h.c.1 (fun q z => Or.inr z) (fun u H1 locs1 h1 => ?_)
  obtain ⟨h, hfo⟩ := h.c.2 _ _ _ _ h1
  refine va_forget hfo ?_
  have hK : 4096 * (K + n2) + 4096 = 2 * w2.2 := by omega
  refine W.widen (k := 53 + (K + n2)) (n := 1084827 + 4096 * (K + n2)) (by omega) (by omega) ?_
  have hb2 := hRl_bound hR2
  refine lv_aload_n hx hb dL_law_928 rfl (lv_at hl 2 rfl) ?_
  refine lv_aload_n hx hb dL_law_929 rfl (lv_at hl 0 rfl) ?_
  refine lv_iload_n hx hb dL_law_930 rfl (lv_at hl 3 rfl) ?_
  refine lv_iconst (v := 1) hx hb dL_law_931 (by decide) ?_
  refine lv_iadd hx hb dL_law_932 ?_
  refine r_sld (x := i + 1) hx hb hX hbl h.2.2.2 (nI_add i 1) (by omega) (by omega) dL_law_933 ?_
  refine fin_i (n := 0) (runV (As := [.int (xs (i + 1))]) B 1 (t_X10_fetch l (mG G q2) wm (xs (i + 1)) r wm2 hm _) rfl rfl kl_105 m_X10_fetch (by decide +kernel) ⟨(Nat.le_of_ble_eq_true rfl), (Nat.le_of_ble_eq_true rfl)⟩ ⟨blindM, va_recv hKK.1 h.m.1.1 (ci := 9) (q0 := 0) rfl rfl, preM (KKm hKK) h.m.1⟩ rfl hl.1 (Nat.le_of_ble_eq_true rfl) dL_law_934 ⟨by show _ ≤ 600000; omega, by show _ ≤ 7302250; omega⟩) h.m.1 (fun q z => Or.inr z) (fun u H1 locs1 h1 => ?_)
  obtain ⟨h, hfo⟩ := h.m.2 _ _ _ h1
  refine va_forget hfo ?_
  exact lv_icmp_eq (tgt := 1371) hx hb dL_law_937 (by decide) (fun _ => k _ _ _ _ _ h hR2 hK) (fun c1 => absurd rfl c1)
set_option maxHeartbeats 4000000 in
set_option maxRecDepth 100000 in
theorem lc_22 {p : Program} {l : Launch} {e : Env} {s : State} {m : MethodId} {below : List Frame} {meth : Method} {c : Code} {b L : Nat} {xs : Nat → Int32} {G : Gm} {q2 : Nat → Nat} {la : Nat} {w : CW} {wm : MW} {H : Heap} {ls : Array Slot} {i n K : Nat} (B : CB RL cL_law 4 p s m #[Value.ref b] c) (hKK : KK G s) (hX : va_X b L xs s s.heap) (hbl : b < s.heap.size) (h : LW s G (mG G q2) la w wm H) (hR : Rl n w wm) (hn : n < 513) (hi : i + 5 ≤ L) (hL : L ≤ 2560) (hK : 4096 * K + 4096 = 2 * w.2) (hl : lv_has ls 4 [(0, .ref b), (1, .ref (gq G 0)), (2, .ref (q2 0)), (3, .int (nI i))]) (k : ∀ (la : Nat) (w : CW) (wm : MW) (H : Heap) (K : Nat), LW s G (mG G q2) la w wm H → Rl (n + 1) w wm → 4096 * K + 4096 = 2 * w.2 → W p l e room_1 s m #[Value.ref b] below meth c H [] (53 + K) (1084827 + 4096 * K) (lw_Z below #[Value.ref b] s) (F0 m 1371 ls [])) : W p l e room_1 s m #[Value.ref b] below meth c H [] (53 + K) (1084827 + 4096 * K) (lw_Z below #[Value.ref b] s) (F0 m 942 ls []) := by
  obtain ⟨hx, hb, hml, hown, hts⟩ := id B
  have hb1 := hRl_bound hR
  refine lv_aload_n hx hb dL_law_942 rfl (lv_at hl 1 rfl) ?_
  refine lv_aload_n hx hb dL_law_943 rfl (lv_at hl 0 rfl) ?_
  refine lv_iload_n hx hb dL_law_944 rfl (lv_at hl 3 rfl) ?_
  refine lv_iconst (v := 1) hx hb dL_law_945 (by decide) ?_
  refine lv_iadd hx hb dL_law_946 ?_
  refine r_sld (x := i + 1) hx hb hX hbl h.2.2.2 (nI_add i 1) (by omega) (by omega) dL_law_947 ?_
  refine lv_aload_n hx hb dL_law_948 rfl (lv_at hl 0 rfl) ?_
  refine lv_iload_n hx hb dL_law_949 rfl (lv_at hl 3 rfl) ?_
  refine lv_iconst (v := 2) hx hb dL_law_950 (by decide) ?_
  refine lv_iadd hx hb dL_law_951 ?_
  refine r_sld (x := i + 2) hx hb hX hbl h.2.2.2 (nI_add i 2) (by omega) (by omega) dL_law_952 ?_
  obtain ⟨r, wm2, hc, hm, hR2⟩ := eq_about hR hn (xs (i + 1)) (xs (i + 2))
  refine fin_r (runV (As := [.int (xs (i + 1)), .int (xs (i + 2))]) B 2 (t_X9_about l G la w (xs (i + 1)) (xs (i + 2)) r hc) rfl rfl kl_106 m_X9_about (by decide +kernel) ⟨(Nat.le_of_ble_eq_true rfl), (Nat.le_of_ble_eq_true rfl)⟩ ⟨blindR, va_recv hKK.1 h.1 (ci := 8) (q0 := 0) rfl rfl, preR hKK h.c.1⟩ rfl hl.1 (Nat.le_of_ble_eq_true rfl) dL_law_953 ⟨by show _ ≤ 600000; omega, by show _ ≤ 7302250; omega⟩) ?_
  refine lv_aload_n hx hb dL_law_956 rfl (lv_at hl 2 rfl) ?_
  refine lv_aload_n hx hb dL_law_957 rfl (lv_at hl 0 rfl) ?_
  refine lv_iload_n hx hb dL_law_958 rfl (lv_at hl 3 rfl) ?_
  refine lv_iconst (v := 1) hx hb dL_law_959 (by decide) ?_
  refine lv_iadd hx hb dL_law_960 ?_
  refine r_sld (x := i + 1) hx hb hX hbl h.2.2.2 (nI_add i 1) (by omega) (by omega) dL_law_961 ?_
  refine lv_aload_n hx hb dL_law_962 rfl (lv_at hl 0 rfl) ?_
  refine lv_iload_n hx hb dL_law_963 rfl (lv_at hl 3 rfl) ?_
  refine lv_iconst (v := 2) hx hb dL_law_964 (by decide) ?_
  refine lv_iadd hx hb dL_law_965 ?_
  refine r_sld (x := i + 2) hx hb hX hbl h.2.2.2 (nI_add i 2) (by omega) (by omega) dL_law_966 ?_
  refine fin_i (n := 0) (runV (As := [.int (xs (i + 1)), .int (xs (i + 2))]) B 2 (t_X10_about l (mG G q2) wm (xs (i + 1)) (xs (i + 2)) r wm2 hm _) rfl rfl kl_109 m_X10_about (by decide +kernel) ⟨(Nat.le_of_ble_eq_true rfl), (Nat.le_of_ble_eq_true rfl)⟩ ⟨blindM, va_recv hKK.1 h.m.1.1 (ci := 9) (q0 := 0) rfl rfl, preM (KKm hKK) h.m.1⟩ rfl hl.1 (Nat.le_of_ble_eq_true rfl) dL_law_967 ⟨by show _ ≤ 600000; omega, by show _ ≤ 7302250; omega⟩) h.m.1 (fun q z => Or.inr z) (fun u H1 locs1 h1 => ?_)
  obtain ⟨h, hfo⟩ := h.m.2 _ _ _ h1
  refine va_forget hfo ?_
  exact lv_icmp_eq (tgt := 1371) hx hb dL_law_970 (by decide) (fun _ => k _ _ _ _ _ h hR2 hK) (fun c1 => absurd rfl c1)
set_option maxHeartbeats 4000000 in
set_option maxRecDepth 100000 in
theorem lc_23 {p : Program} {l : Launch} {e : Env} {s : State} {m : MethodId} {below : List Frame} {meth : Method} {c : Code} {b L : Nat} {xs : Nat → Int32} {G : Gm} {q2 : Nat → Nat} {la : Nat} {w : CW} {wm : MW} {H : Heap} {ls : Array Slot} {i n K : Nat} (B : CB RL cL_law 4 p s m #[Value.ref b] c) (hKK : KK G s) (hX : va_X b L xs s s.heap) (hbl : b < s.heap.size) (h : LW s G (mG G q2) la w wm H) (hR : Rl n w wm) (hn : n < 513) (hi : i + 5 ≤ L) (hL : L ≤ 2560) (hK : 4096 * K + 4096 = 2 * w.2) (hl : lv_has ls 4 [(0, .ref b), (1, .ref (gq G 0)), (2, .ref (q2 0)), (3, .int (nI i))]) (k : ∀ (la : Nat) (w : CW) (wm : MW) (H : Heap) (K : Nat), LW s G (mG G q2) la w wm H → Rl (n + 1) w wm → 4096 * K + 4096 = 2 * w.2 → W p l e room_1 s m #[Value.ref b] below meth c H [] (53 + K) (1084827 + 4096 * K) (lw_Z below #[Value.ref b] s) (F0 m 1371 ls [])) : W p l e room_1 s m #[Value.ref b] below meth c H [] (53 + K) (1084827 + 4096 * K) (lw_Z below #[Value.ref b] s) (F0 m 975 ls []) := by
  obtain ⟨hx, hb, hml, hown, hts⟩ := id B
  have hb1 := hRl_bound hR
  refine lv_aload_n hx hb dL_law_975 rfl (lv_at hl 1 rfl) ?_
  refine lv_aload_n hx hb dL_law_976 rfl (lv_at hl 0 rfl) ?_
  refine lv_iload_n hx hb dL_law_977 rfl (lv_at hl 3 rfl) ?_
  refine lv_iconst (v := 1) hx hb dL_law_978 (by decide) ?_
  refine lv_iadd hx hb dL_law_979 ?_
  refine r_sld (x := i + 1) hx hb hX hbl h.2.2.2 (nI_add i 1) (by omega) (by omega) dL_law_980 ?_
  refine lv_aload_n hx hb dL_law_981 rfl (lv_at hl 0 rfl) ?_
  refine lv_iload_n hx hb dL_law_982 rfl (lv_at hl 3 rfl) ?_
  refine lv_iconst (v := 2) hx hb dL_law_983 (by decide) ?_
  refine lv_iadd hx hb dL_law_984 ?_
  refine r_sld (x := i + 2) hx hb hX hbl h.2.2.2 (nI_add i 2) (by omega) (by omega) dL_law_985 ?_
  obtain ⟨r, w2, wm2, hc, hm, hR2, hw2⟩ := eq_share hR hn (xs (i + 1)) (xs (i + 2))
  refine fin_i (n := 0) (runV (As := [.int (xs (i + 1)), .int (xs (i + 2))]) B 2 (t_X9_share l G la w (xs (i + 1)) (xs (i + 2)) r w2 hc _) rfl rfl kl_110 m_X9_share (by decide +kernel) ⟨(Nat.le_of_ble_eq_true rfl), (Nat.le_of_ble_eq_true rfl)⟩ ⟨blindM, va_recv hKK.1 h.1 (ci := 8) (q0 := 0) rfl rfl, preM hKK h.c.1⟩ rfl hl.1 (Nat.le_of_ble_eq_true rfl) dL_law_986 ⟨by show _ ≤ 600000; omega, by show _ ≤ 7302250; omega⟩) h.c.1 (fun q z => Or.inr z) (fun u H1 locs1 h1 => ?_)
  obtain ⟨h, hfo⟩ := h.c.2 _ _ _ _ h1
  refine va_forget hfo ?_
  have hK : 4096 * K + 4096 = 2 * w2.2 := by rw [hw2]; exact hK
  have hb2 := hRl_bound hR2
  refine lv_aload_n hx hb dL_law_989 rfl (lv_at hl 2 rfl) ?_
  refine lv_aload_n hx hb dL_law_990 rfl (lv_at hl 0 rfl) ?_
  refine lv_iload_n hx hb dL_law_991 rfl (lv_at hl 3 rfl) ?_
  refine lv_iconst (v := 1) hx hb dL_law_992 (by decide) ?_
  refine lv_iadd hx hb dL_law_993 ?_
  refine r_sld (x := i + 1) hx hb hX hbl h.2.2.2 (nI_add i 1) (by omega) (by omega) dL_law_994 ?_
  refine lv_aload_n hx hb dL_law_995 rfl (lv_at hl 0 rfl) ?_
  refine lv_iload_n hx hb dL_law_996 rfl (lv_at hl 3 rfl) ?_
  refine lv_iconst (v := 2) hx hb dL_law_997 (by decide) ?_
  refine lv_iadd hx hb dL_law_998 ?_
  refine r_sld (x := i + 2) hx hb hX hbl h.2.2.2 (nI_add i 2) (by omega) (by omega) dL_law_999 ?_
  refine fin_i (n := 0) (runV (As := [.int (xs (i + 1)), .int (xs (i + 2))]) B 2 (t_X10_share l (mG G q2) wm (xs (i + 1)) (xs (i + 2)) r wm2 hm _) rfl rfl kl_113 m_X10_share (by decide +kernel) ⟨(Nat.le_of_ble_eq_true rfl), (Nat.le_of_ble_eq_true rfl)⟩ ⟨blindM, va_recv hKK.1 h.m.1.1 (ci := 9) (q0 := 0) rfl rfl, preM (KKm hKK) h.m.1⟩ rfl hl.1 (Nat.le_of_ble_eq_true rfl) dL_law_1000 ⟨by show _ ≤ 600000; omega, by show _ ≤ 7302250; omega⟩) h.m.1 (fun q z => Or.inr z) (fun u H1 locs1 h1 => ?_)
  obtain ⟨h, hfo⟩ := h.m.2 _ _ _ h1
  refine va_forget hfo ?_
  exact lv_icmp_eq (tgt := 1371) hx hb dL_law_1003 (by decide) (fun _ => k _ _ _ _ _ h hR2 hK) (fun c1 => absurd rfl c1)
set_option maxHeartbeats 4000000 in
set_option maxRecDepth 100000 in
theorem lc_24 {p : Program} {l : Launch} {e : Env} {s : State} {m : MethodId} {below : List Frame} {meth : Method} {c : Code} {b L : Nat} {xs : Nat → Int32} {G : Gm} {q2 : Nat → Nat} {la : Nat} {w : CW} {wm : MW} {H : Heap} {ls : Array Slot} {i n K : Nat} (B : CB RL cL_law 4 p s m #[Value.ref b] c) (hKK : KK G s) (hX : va_X b L xs s s.heap) (hbl : b < s.heap.size) (h : LW s G (mG G q2) la w wm H) (hR : Rl n w wm) (hn : n < 513) (hi : i + 5 ≤ L) (hL : L ≤ 2560) (hK : 4096 * K + 4096 = 2 * w.2) (hl : lv_has ls 4 [(0, .ref b), (1, .ref (gq G 0)), (2, .ref (q2 0)), (3, .int (nI i))]) (k : ∀ (la : Nat) (w : CW) (wm : MW) (H : Heap) (K : Nat), LW s G (mG G q2) la w wm H → Rl (n + 1) w wm → 4096 * K + 4096 = 2 * w.2 → W p l e room_1 s m #[Value.ref b] below meth c H [] (53 + K) (1084827 + 4096 * K) (lw_Z below #[Value.ref b] s) (F0 m 1371 ls [])) : W p l e room_1 s m #[Value.ref b] below meth c H [] (53 + K) (1084827 + 4096 * K) (lw_Z below #[Value.ref b] s) (F0 m 1008 ls []) := by
  obtain ⟨hx, hb, hml, hown, hts⟩ := id B
  have hb1 := hRl_bound hR
  refine lv_aload_n hx hb dL_law_1008 rfl (lv_at hl 1 rfl) ?_
  refine lv_aload_n hx hb dL_law_1009 rfl (lv_at hl 0 rfl) ?_
  refine lv_iload_n hx hb dL_law_1010 rfl (lv_at hl 3 rfl) ?_
  refine lv_iconst (v := 1) hx hb dL_law_1011 (by decide) ?_
  refine lv_iadd hx hb dL_law_1012 ?_
  refine r_sld (x := i + 1) hx hb hX hbl h.2.2.2 (nI_add i 1) (by omega) (by omega) dL_law_1013 ?_
  refine lv_aload_n hx hb dL_law_1014 rfl (lv_at hl 0 rfl) ?_
  refine lv_iload_n hx hb dL_law_1015 rfl (lv_at hl 3 rfl) ?_
  refine lv_iconst (v := 2) hx hb dL_law_1016 (by decide) ?_
  refine lv_iadd hx hb dL_law_1017 ?_
  refine r_sld (x := i + 2) hx hb hX hbl h.2.2.2 (nI_add i 2) (by omega) (by omega) dL_law_1018 ?_
  obtain ⟨r, w2, wm2, n2, hc, hm, hR2, hw2⟩ := eq_start hR hn (xs (i + 1)) (xs (i + 2))
  have hbd2 := hRl_bound hR2
  refine fin_i (n := n2) (runV (As := [.int (xs (i + 1)), .int (xs (i + 2))]) B 2 (t_X9_start l G la w (xs (i + 1)) (xs (i + 2)) r w2 n2 hc _) rfl rfl kl_114 m_X9_start (by decide +kernel) ⟨(Nat.le_of_ble_eq_true rfl), (Nat.le_of_ble_eq_true rfl)⟩ ⟨blindM, va_recv hKK.1 h.1 (ci := 8) (q0 := 0) rfl rfl, preM hKK h.c.1⟩ rfl hl.1 (Nat.le_of_ble_eq_true rfl) dL_law_1019 ⟨by show _ ≤ 600000; omega, by show _ ≤ 7302250; omega⟩) h.c.1 (fun q z => Or.inr z) (fun u H1 locs1 h1 => ?_)
  obtain ⟨h, hfo⟩ := h.c.2 _ _ _ _ h1
  refine va_forget hfo ?_
  have hK : 4096 * (K + n2) + 4096 = 2 * w2.2 := by omega
  refine W.widen (k := 53 + (K + n2)) (n := 1084827 + 4096 * (K + n2)) (by omega) (by omega) ?_
  have hb2 := hRl_bound hR2
  refine lv_aload_n hx hb dL_law_1022 rfl (lv_at hl 2 rfl) ?_
  refine lv_aload_n hx hb dL_law_1023 rfl (lv_at hl 0 rfl) ?_
  refine lv_iload_n hx hb dL_law_1024 rfl (lv_at hl 3 rfl) ?_
  refine lv_iconst (v := 1) hx hb dL_law_1025 (by decide) ?_
  refine lv_iadd hx hb dL_law_1026 ?_
  refine r_sld (x := i + 1) hx hb hX hbl h.2.2.2 (nI_add i 1) (by omega) (by omega) dL_law_1027 ?_
  refine lv_aload_n hx hb dL_law_1028 rfl (lv_at hl 0 rfl) ?_
  refine lv_iload_n hx hb dL_law_1029 rfl (lv_at hl 3 rfl) ?_
  refine lv_iconst (v := 2) hx hb dL_law_1030 (by decide) ?_
  refine lv_iadd hx hb dL_law_1031 ?_
  refine r_sld (x := i + 2) hx hb hX hbl h.2.2.2 (nI_add i 2) (by omega) (by omega) dL_law_1032 ?_
  refine fin_i (n := 0) (runV (As := [.int (xs (i + 1)), .int (xs (i + 2))]) B 2 (t_X10_start l (mG G q2) wm (xs (i + 1)) (xs (i + 2)) r wm2 hm _) rfl rfl kl_117 m_X10_start (by decide +kernel) ⟨(Nat.le_of_ble_eq_true rfl), (Nat.le_of_ble_eq_true rfl)⟩ ⟨blindM, va_recv hKK.1 h.m.1.1 (ci := 9) (q0 := 0) rfl rfl, preM (KKm hKK) h.m.1⟩ rfl hl.1 (Nat.le_of_ble_eq_true rfl) dL_law_1033 ⟨by show _ ≤ 600000; omega, by show _ ≤ 7302250; omega⟩) h.m.1 (fun q z => Or.inr z) (fun u H1 locs1 h1 => ?_)
  obtain ⟨h, hfo⟩ := h.m.2 _ _ _ h1
  refine va_forget hfo ?_
  exact lv_icmp_eq (tgt := 1371) hx hb dL_law_1036 (by decide) (fun _ => k _ _ _ _ _ h hR2 hK) (fun c1 => absurd rfl c1)
set_option maxHeartbeats 4000000 in
set_option maxRecDepth 100000 in
theorem lc_25 {p : Program} {l : Launch} {e : Env} {s : State} {m : MethodId} {below : List Frame} {meth : Method} {c : Code} {b L : Nat} {xs : Nat → Int32} {G : Gm} {q2 : Nat → Nat} {la : Nat} {w : CW} {wm : MW} {H : Heap} {ls : Array Slot} {i n K : Nat} (B : CB RL cL_law 4 p s m #[Value.ref b] c) (hKK : KK G s) (hX : va_X b L xs s s.heap) (hbl : b < s.heap.size) (h : LW s G (mG G q2) la w wm H) (hR : Rl n w wm) (hn : n < 513) (hi : i + 5 ≤ L) (hL : L ≤ 2560) (hK : 4096 * K + 4096 = 2 * w.2) (hl : lv_has ls 4 [(0, .ref b), (1, .ref (gq G 0)), (2, .ref (q2 0)), (3, .int (nI i))]) (k : ∀ (la : Nat) (w : CW) (wm : MW) (H : Heap) (K : Nat), LW s G (mG G q2) la w wm H → Rl (n + 1) w wm → 4096 * K + 4096 = 2 * w.2 → W p l e room_1 s m #[Value.ref b] below meth c H [] (53 + K) (1084827 + 4096 * K) (lw_Z below #[Value.ref b] s) (F0 m 1371 ls [])) : W p l e room_1 s m #[Value.ref b] below meth c H [] (53 + K) (1084827 + 4096 * K) (lw_Z below #[Value.ref b] s) (F0 m 1041 ls []) := by
  obtain ⟨hx, hb, hml, hown, hts⟩ := id B
  have hb1 := hRl_bound hR
  refine lv_aload_n hx hb dL_law_1041 rfl (lv_at hl 1 rfl) ?_
  refine lv_aload_n hx hb dL_law_1042 rfl (lv_at hl 0 rfl) ?_
  refine lv_iload_n hx hb dL_law_1043 rfl (lv_at hl 3 rfl) ?_
  refine lv_iconst (v := 1) hx hb dL_law_1044 (by decide) ?_
  refine lv_iadd hx hb dL_law_1045 ?_
  refine r_sld (x := i + 1) hx hb hX hbl h.2.2.2 (nI_add i 1) (by omega) (by omega) dL_law_1046 ?_
  obtain ⟨r, w2, wm2, n2, hc, hm, hR2, hw2⟩ := eq_minute hR hn (xs (i + 1))
  have hbd2 := hRl_bound hR2
  refine fin_i (n := n2) (runV (As := [.int (xs (i + 1))]) B 1 (t_X9_minute l G la w (xs (i + 1)) r w2 n2 hc _) rfl rfl kl_118 m_X9_minute (by decide +kernel) ⟨(Nat.le_of_ble_eq_true rfl), (Nat.le_of_ble_eq_true rfl)⟩ ⟨blindM, va_recv hKK.1 h.1 (ci := 8) (q0 := 0) rfl rfl, preM hKK h.c.1⟩ rfl hl.1 (Nat.le_of_ble_eq_true rfl) dL_law_1047 ⟨by show _ ≤ 600000; omega, by show _ ≤ 7302250; omega⟩) h.c.1 (fun q z => Or.inr z) (fun u H1 locs1 h1 => ?_)
  obtain ⟨h, hfo⟩ := h.c.2 _ _ _ _ h1
  refine va_forget hfo ?_
  have hK : 4096 * (K + n2) + 4096 = 2 * w2.2 := by omega
  refine W.widen (k := 53 + (K + n2)) (n := 1084827 + 4096 * (K + n2)) (by omega) (by omega) ?_
  have hb2 := hRl_bound hR2
  refine lv_aload_n hx hb dL_law_1050 rfl (lv_at hl 2 rfl) ?_
  refine lv_aload_n hx hb dL_law_1051 rfl (lv_at hl 0 rfl) ?_
  refine lv_iload_n hx hb dL_law_1052 rfl (lv_at hl 3 rfl) ?_
  refine lv_iconst (v := 1) hx hb dL_law_1053 (by decide) ?_
  refine lv_iadd hx hb dL_law_1054 ?_
  refine r_sld (x := i + 1) hx hb hX hbl h.2.2.2 (nI_add i 1) (by omega) (by omega) dL_law_1055 ?_
  refine fin_i (n := 0) (runV (As := [.int (xs (i + 1))]) B 1 (t_X10_minute l (mG G q2) wm (xs (i + 1)) r wm2 hm _) rfl rfl kl_121 m_X10_minute (by decide +kernel) ⟨(Nat.le_of_ble_eq_true rfl), (Nat.le_of_ble_eq_true rfl)⟩ ⟨blindM, va_recv hKK.1 h.m.1.1 (ci := 9) (q0 := 0) rfl rfl, preM (KKm hKK) h.m.1⟩ rfl hl.1 (Nat.le_of_ble_eq_true rfl) dL_law_1056 ⟨by show _ ≤ 600000; omega, by show _ ≤ 7302250; omega⟩) h.m.1 (fun q z => Or.inr z) (fun u H1 locs1 h1 => ?_)
  obtain ⟨h, hfo⟩ := h.m.2 _ _ _ h1
  refine va_forget hfo ?_
  exact lv_icmp_eq (tgt := 1371) hx hb dL_law_1059 (by decide) (fun _ => k _ _ _ _ _ h hR2 hK) (fun c1 => absurd rfl c1)
set_option maxHeartbeats 4000000 in
set_option maxRecDepth 100000 in
theorem lc_26 {p : Program} {l : Launch} {e : Env} {s : State} {m : MethodId} {below : List Frame} {meth : Method} {c : Code} {b L : Nat} {xs : Nat → Int32} {G : Gm} {q2 : Nat → Nat} {la : Nat} {w : CW} {wm : MW} {H : Heap} {ls : Array Slot} {i n K : Nat} (B : CB RL cL_law 4 p s m #[Value.ref b] c) (hKK : KK G s) (hX : va_X b L xs s s.heap) (hbl : b < s.heap.size) (h : LW s G (mG G q2) la w wm H) (hR : Rl n w wm) (hn : n < 513) (hi : i + 5 ≤ L) (hL : L ≤ 2560) (hK : 4096 * K + 4096 = 2 * w.2) (hl : lv_has ls 4 [(0, .ref b), (1, .ref (gq G 0)), (2, .ref (q2 0)), (3, .int (nI i))]) (k : ∀ (la : Nat) (w : CW) (wm : MW) (H : Heap) (K : Nat), LW s G (mG G q2) la w wm H → Rl (n + 1) w wm → 4096 * K + 4096 = 2 * w.2 → W p l e room_1 s m #[Value.ref b] below meth c H [] (53 + K) (1084827 + 4096 * K) (lw_Z below #[Value.ref b] s) (F0 m 1371 ls [])) : W p l e room_1 s m #[Value.ref b] below meth c H [] (53 + K) (1084827 + 4096 * K) (lw_Z below #[Value.ref b] s) (F0 m 1064 ls []) := by
  obtain ⟨hx, hb, hml, hown, hts⟩ := id B
  have hb1 := hRl_bound hR
  refine lv_aload_n hx hb dL_law_1064 rfl (lv_at hl 1 rfl) ?_
  refine lv_aload_n hx hb dL_law_1065 rfl (lv_at hl 0 rfl) ?_
  refine lv_iload_n hx hb dL_law_1066 rfl (lv_at hl 3 rfl) ?_
  refine lv_iconst (v := 1) hx hb dL_law_1067 (by decide) ?_
  refine lv_iadd hx hb dL_law_1068 ?_
  refine r_sld (x := i + 1) hx hb hX hbl h.2.2.2 (nI_add i 1) (by omega) (by omega) dL_law_1069 ?_
  obtain ⟨r, w2, wm2, hc, hm, hR2, hw2⟩ := eq_left hR hn (xs (i + 1))
  refine fin_i (n := 0) (runV (As := [.int (xs (i + 1))]) B 1 (t_X9_left l G la w (xs (i + 1)) r w2 hc _) rfl rfl kl_122 m_X9_left (by decide +kernel) ⟨(Nat.le_of_ble_eq_true rfl), (Nat.le_of_ble_eq_true rfl)⟩ ⟨blindM, va_recv hKK.1 h.1 (ci := 8) (q0 := 0) rfl rfl, preM hKK h.c.1⟩ rfl hl.1 (Nat.le_of_ble_eq_true rfl) dL_law_1070 ⟨by show _ ≤ 600000; omega, by show _ ≤ 7302250; omega⟩) h.c.1 (fun q z => Or.inr z) (fun u H1 locs1 h1 => ?_)
  obtain ⟨h, hfo⟩ := h.c.2 _ _ _ _ h1
  refine va_forget hfo ?_
  have hK : 4096 * K + 4096 = 2 * w2.2 := by rw [hw2]; exact hK
  have hb2 := hRl_bound hR2
  refine lv_aload_n hx hb dL_law_1073 rfl (lv_at hl 2 rfl) ?_
  refine lv_aload_n hx hb dL_law_1074 rfl (lv_at hl 0 rfl) ?_
  refine lv_iload_n hx hb dL_law_1075 rfl (lv_at hl 3 rfl) ?_
  refine lv_iconst (v := 1) hx hb dL_law_1076 (by decide) ?_
  refine lv_iadd hx hb dL_law_1077 ?_
  refine r_sld (x := i + 1) hx hb hX hbl h.2.2.2 (nI_add i 1) (by omega) (by omega) dL_law_1078 ?_
  refine fin_i (n := 0) (runV (As := [.int (xs (i + 1))]) B 1 (t_X10_left l (mG G q2) wm (xs (i + 1)) r wm2 hm _) rfl rfl kl_125 m_X10_left (by decide +kernel) ⟨(Nat.le_of_ble_eq_true rfl), (Nat.le_of_ble_eq_true rfl)⟩ ⟨blindM, va_recv hKK.1 h.m.1.1 (ci := 9) (q0 := 0) rfl rfl, preM (KKm hKK) h.m.1⟩ rfl hl.1 (Nat.le_of_ble_eq_true rfl) dL_law_1079 ⟨by show _ ≤ 600000; omega, by show _ ≤ 7302250; omega⟩) h.m.1 (fun q z => Or.inr z) (fun u H1 locs1 h1 => ?_)
  obtain ⟨h, hfo⟩ := h.m.2 _ _ _ h1
  refine va_forget hfo ?_
  exact lv_icmp_eq (tgt := 1371) hx hb dL_law_1082 (by decide) (fun _ => k _ _ _ _ _ h hR2 hK) (fun c1 => absurd rfl c1)
set_option maxHeartbeats 4000000 in
set_option maxRecDepth 100000 in
theorem lc_27 {p : Program} {l : Launch} {e : Env} {s : State} {m : MethodId} {below : List Frame} {meth : Method} {c : Code} {b L : Nat} {xs : Nat → Int32} {G : Gm} {q2 : Nat → Nat} {la : Nat} {w : CW} {wm : MW} {H : Heap} {ls : Array Slot} {i n K : Nat} (B : CB RL cL_law 4 p s m #[Value.ref b] c) (hKK : KK G s) (hX : va_X b L xs s s.heap) (hbl : b < s.heap.size) (h : LW s G (mG G q2) la w wm H) (hR : Rl n w wm) (hn : n < 513) (hi : i + 5 ≤ L) (hL : L ≤ 2560) (hK : 4096 * K + 4096 = 2 * w.2) (hl : lv_has ls 4 [(0, .ref b), (1, .ref (gq G 0)), (2, .ref (q2 0)), (3, .int (nI i))]) (k : ∀ (la : Nat) (w : CW) (wm : MW) (H : Heap) (K : Nat), LW s G (mG G q2) la w wm H → Rl (n + 1) w wm → 4096 * K + 4096 = 2 * w.2 → W p l e room_1 s m #[Value.ref b] below meth c H [] (53 + K) (1084827 + 4096 * K) (lw_Z below #[Value.ref b] s) (F0 m 1371 ls [])) : W p l e room_1 s m #[Value.ref b] below meth c H [] (53 + K) (1084827 + 4096 * K) (lw_Z below #[Value.ref b] s) (F0 m 1087 ls []) := by
  obtain ⟨hx, hb, hml, hown, hts⟩ := id B
  have hb1 := hRl_bound hR
  refine lv_aload_n hx hb dL_law_1087 rfl (lv_at hl 1 rfl) ?_
  refine lv_aload_n hx hb dL_law_1088 rfl (lv_at hl 0 rfl) ?_
  refine lv_iload_n hx hb dL_law_1089 rfl (lv_at hl 3 rfl) ?_
  refine lv_iconst (v := 1) hx hb dL_law_1090 (by decide) ?_
  refine lv_iadd hx hb dL_law_1091 ?_
  refine r_sld (x := i + 1) hx hb hX hbl h.2.2.2 (nI_add i 1) (by omega) (by omega) dL_law_1092 ?_
  obtain ⟨r, w2, wm2, n2, hc, hm, hR2, hw2⟩ := eq_stop hR hn (xs (i + 1))
  have hbd2 := hRl_bound hR2
  refine fin_i (n := n2) (runV (As := [.int (xs (i + 1))]) B 1 (t_X9_stop l G la w (xs (i + 1)) r w2 n2 hc _) rfl rfl kl_126 m_X9_stop (by decide +kernel) ⟨(Nat.le_of_ble_eq_true rfl), (Nat.le_of_ble_eq_true rfl)⟩ ⟨blindM, va_recv hKK.1 h.1 (ci := 8) (q0 := 0) rfl rfl, preM hKK h.c.1⟩ rfl hl.1 (Nat.le_of_ble_eq_true rfl) dL_law_1093 ⟨by show _ ≤ 600000; omega, by show _ ≤ 7302250; omega⟩) h.c.1 (fun q z => Or.inr z) (fun u H1 locs1 h1 => ?_)
  obtain ⟨h, hfo⟩ := h.c.2 _ _ _ _ h1
  refine va_forget hfo ?_
  have hK : 4096 * (K + n2) + 4096 = 2 * w2.2 := by omega
  refine W.widen (k := 53 + (K + n2)) (n := 1084827 + 4096 * (K + n2)) (by omega) (by omega) ?_
  have hb2 := hRl_bound hR2
  refine lv_aload_n hx hb dL_law_1096 rfl (lv_at hl 2 rfl) ?_
  refine lv_aload_n hx hb dL_law_1097 rfl (lv_at hl 0 rfl) ?_
  refine lv_iload_n hx hb dL_law_1098 rfl (lv_at hl 3 rfl) ?_
  refine lv_iconst (v := 1) hx hb dL_law_1099 (by decide) ?_
  refine lv_iadd hx hb dL_law_1100 ?_
  refine r_sld (x := i + 1) hx hb hX hbl h.2.2.2 (nI_add i 1) (by omega) (by omega) dL_law_1101 ?_
  refine fin_i (n := 0) (runV (As := [.int (xs (i + 1))]) B 1 (t_X10_stop l (mG G q2) wm (xs (i + 1)) r wm2 hm _) rfl rfl kl_129 m_X10_stop (by decide +kernel) ⟨(Nat.le_of_ble_eq_true rfl), (Nat.le_of_ble_eq_true rfl)⟩ ⟨blindM, va_recv hKK.1 h.m.1.1 (ci := 9) (q0 := 0) rfl rfl, preM (KKm hKK) h.m.1⟩ rfl hl.1 (Nat.le_of_ble_eq_true rfl) dL_law_1102 ⟨by show _ ≤ 600000; omega, by show _ ≤ 7302250; omega⟩) h.m.1 (fun q z => Or.inr z) (fun u H1 locs1 h1 => ?_)
  obtain ⟨h, hfo⟩ := h.m.2 _ _ _ h1
  refine va_forget hfo ?_
  exact lv_icmp_eq (tgt := 1371) hx hb dL_law_1105 (by decide) (fun _ => k _ _ _ _ _ h hR2 hK) (fun c1 => absurd rfl c1)
set_option maxHeartbeats 4000000 in
set_option maxRecDepth 100000 in
theorem lc_28 {p : Program} {l : Launch} {e : Env} {s : State} {m : MethodId} {below : List Frame} {meth : Method} {c : Code} {b L : Nat} {xs : Nat → Int32} {G : Gm} {q2 : Nat → Nat} {la : Nat} {w : CW} {wm : MW} {H : Heap} {ls : Array Slot} {i n K : Nat} (B : CB RL cL_law 4 p s m #[Value.ref b] c) (hKK : KK G s) (hX : va_X b L xs s s.heap) (hbl : b < s.heap.size) (h : LW s G (mG G q2) la w wm H) (hR : Rl n w wm) (hn : n < 513) (hi : i + 5 ≤ L) (hL : L ≤ 2560) (hK : 4096 * K + 4096 = 2 * w.2) (hl : lv_has ls 4 [(0, .ref b), (1, .ref (gq G 0)), (2, .ref (q2 0)), (3, .int (nI i))]) (k : ∀ (la : Nat) (w : CW) (wm : MW) (H : Heap) (K : Nat), LW s G (mG G q2) la w wm H → Rl (n + 1) w wm → 4096 * K + 4096 = 2 * w.2 → W p l e room_1 s m #[Value.ref b] below meth c H [] (53 + K) (1084827 + 4096 * K) (lw_Z below #[Value.ref b] s) (F0 m 1371 ls [])) : W p l e room_1 s m #[Value.ref b] below meth c H [] (53 + K) (1084827 + 4096 * K) (lw_Z below #[Value.ref b] s) (F0 m 1110 ls []) := by
  obtain ⟨hx, hb, hml, hown, hts⟩ := id B
  have hb1 := hRl_bound hR
  refine lv_aload_n hx hb dL_law_1110 rfl (lv_at hl 1 rfl) ?_
  refine lv_aload_n hx hb dL_law_1111 rfl (lv_at hl 0 rfl) ?_
  refine lv_iload_n hx hb dL_law_1112 rfl (lv_at hl 3 rfl) ?_
  refine lv_iconst (v := 1) hx hb dL_law_1113 (by decide) ?_
  refine lv_iadd hx hb dL_law_1114 ?_
  refine r_sld (x := i + 1) hx hb hX hbl h.2.2.2 (nI_add i 1) (by omega) (by omega) dL_law_1115 ?_
  refine lv_aload_n hx hb dL_law_1116 rfl (lv_at hl 0 rfl) ?_
  refine lv_iload_n hx hb dL_law_1117 rfl (lv_at hl 3 rfl) ?_
  refine lv_iconst (v := 2) hx hb dL_law_1118 (by decide) ?_
  refine lv_iadd hx hb dL_law_1119 ?_
  refine r_sld (x := i + 2) hx hb hX hbl h.2.2.2 (nI_add i 2) (by omega) (by omega) dL_law_1120 ?_
  obtain ⟨r, w2, wm2, n2, hc, hm, hR2, hw2⟩ := eq_breaks hR hn (xs (i + 1)) (xs (i + 2))
  have hbd2 := hRl_bound hR2
  refine fin_i (n := n2) (runV (As := [.int (xs (i + 1)), .int (xs (i + 2))]) B 2 (t_X9_breaks l G la w (xs (i + 1)) (xs (i + 2)) r w2 n2 hc _) rfl rfl kl_130 m_X9_breaks (by decide +kernel) ⟨(Nat.le_of_ble_eq_true rfl), (Nat.le_of_ble_eq_true rfl)⟩ ⟨blindM, va_recv hKK.1 h.1 (ci := 8) (q0 := 0) rfl rfl, preM hKK h.c.1⟩ rfl hl.1 (Nat.le_of_ble_eq_true rfl) dL_law_1121 ⟨by show _ ≤ 600000; omega, by show _ ≤ 7302250; omega⟩) h.c.1 (fun q z => Or.inr z) (fun u H1 locs1 h1 => ?_)
  obtain ⟨h, hfo⟩ := h.c.2 _ _ _ _ h1
  refine va_forget hfo ?_
  have hK : 4096 * (K + n2) + 4096 = 2 * w2.2 := by omega
  refine W.widen (k := 53 + (K + n2)) (n := 1084827 + 4096 * (K + n2)) (by omega) (by omega) ?_
  have hb2 := hRl_bound hR2
  refine lv_aload_n hx hb dL_law_1124 rfl (lv_at hl 2 rfl) ?_
  refine lv_aload_n hx hb dL_law_1125 rfl (lv_at hl 0 rfl) ?_
  refine lv_iload_n hx hb dL_law_1126 rfl (lv_at hl 3 rfl) ?_
  refine lv_iconst (v := 1) hx hb dL_law_1127 (by decide) ?_
  refine lv_iadd hx hb dL_law_1128 ?_
  refine r_sld (x := i + 1) hx hb hX hbl h.2.2.2 (nI_add i 1) (by omega) (by omega) dL_law_1129 ?_
  refine lv_aload_n hx hb dL_law_1130 rfl (lv_at hl 0 rfl) ?_
  refine lv_iload_n hx hb dL_law_1131 rfl (lv_at hl 3 rfl) ?_
  refine lv_iconst (v := 2) hx hb dL_law_1132 (by decide) ?_
  refine lv_iadd hx hb dL_law_1133 ?_
  refine r_sld (x := i + 2) hx hb hX hbl h.2.2.2 (nI_add i 2) (by omega) (by omega) dL_law_1134 ?_
  refine fin_i (n := 0) (runV (As := [.int (xs (i + 1)), .int (xs (i + 2))]) B 2 (t_X10_breaks l (mG G q2) wm (xs (i + 1)) (xs (i + 2)) r wm2 hm _) rfl rfl kl_133 m_X10_breaks (by decide +kernel) ⟨(Nat.le_of_ble_eq_true rfl), (Nat.le_of_ble_eq_true rfl)⟩ ⟨blindM, va_recv hKK.1 h.m.1.1 (ci := 9) (q0 := 0) rfl rfl, preM (KKm hKK) h.m.1⟩ rfl hl.1 (Nat.le_of_ble_eq_true rfl) dL_law_1135 ⟨by show _ ≤ 600000; omega, by show _ ≤ 7302250; omega⟩) h.m.1 (fun q z => Or.inr z) (fun u H1 locs1 h1 => ?_)
  obtain ⟨h, hfo⟩ := h.m.2 _ _ _ h1
  refine va_forget hfo ?_
  exact lv_icmp_eq (tgt := 1371) hx hb dL_law_1138 (by decide) (fun _ => k _ _ _ _ _ h hR2 hK) (fun c1 => absurd rfl c1)
set_option maxHeartbeats 4000000 in
set_option maxRecDepth 100000 in
theorem lc_29 {p : Program} {l : Launch} {e : Env} {s : State} {m : MethodId} {below : List Frame} {meth : Method} {c : Code} {b L : Nat} {xs : Nat → Int32} {G : Gm} {q2 : Nat → Nat} {la : Nat} {w : CW} {wm : MW} {H : Heap} {ls : Array Slot} {i n K : Nat} (B : CB RL cL_law 4 p s m #[Value.ref b] c) (hKK : KK G s) (hX : va_X b L xs s s.heap) (hbl : b < s.heap.size) (h : LW s G (mG G q2) la w wm H) (hR : Rl n w wm) (hn : n < 513) (hi : i + 5 ≤ L) (hL : L ≤ 2560) (hK : 4096 * K + 4096 = 2 * w.2) (hl : lv_has ls 4 [(0, .ref b), (1, .ref (gq G 0)), (2, .ref (q2 0)), (3, .int (nI i))]) (k : ∀ (la : Nat) (w : CW) (wm : MW) (H : Heap) (K : Nat), LW s G (mG G q2) la w wm H → Rl (n + 1) w wm → 4096 * K + 4096 = 2 * w.2 → W p l e room_1 s m #[Value.ref b] below meth c H [] (53 + K) (1084827 + 4096 * K) (lw_Z below #[Value.ref b] s) (F0 m 1371 ls [])) : W p l e room_1 s m #[Value.ref b] below meth c H [] (53 + K) (1084827 + 4096 * K) (lw_Z below #[Value.ref b] s) (F0 m 1143 ls []) := by
  obtain ⟨hx, hb, hml, hown, hts⟩ := id B
  have hb1 := hRl_bound hR
  refine lv_aload_n hx hb dL_law_1143 rfl (lv_at hl 1 rfl) ?_
  refine lv_aload_n hx hb dL_law_1144 rfl (lv_at hl 0 rfl) ?_
  refine lv_iload_n hx hb dL_law_1145 rfl (lv_at hl 3 rfl) ?_
  refine lv_iconst (v := 1) hx hb dL_law_1146 (by decide) ?_
  refine lv_iadd hx hb dL_law_1147 ?_
  refine r_sld (x := i + 1) hx hb hX hbl h.2.2.2 (nI_add i 1) (by omega) (by omega) dL_law_1148 ?_
  obtain ⟨r, w2, wm2, n2, hc, hm, hR2, hw2⟩ := eq_mend hR hn (xs (i + 1))
  have hbd2 := hRl_bound hR2
  refine fin_i (n := n2) (runV (As := [.int (xs (i + 1))]) B 1 (t_X9_mend l G la w (xs (i + 1)) r w2 n2 hc _) rfl rfl kl_134 m_X9_mend (by decide +kernel) ⟨(Nat.le_of_ble_eq_true rfl), (Nat.le_of_ble_eq_true rfl)⟩ ⟨blindM, va_recv hKK.1 h.1 (ci := 8) (q0 := 0) rfl rfl, preM hKK h.c.1⟩ rfl hl.1 (Nat.le_of_ble_eq_true rfl) dL_law_1149 ⟨by show _ ≤ 600000; omega, by show _ ≤ 7302250; omega⟩) h.c.1 (fun q z => Or.inr z) (fun u H1 locs1 h1 => ?_)
  obtain ⟨h, hfo⟩ := h.c.2 _ _ _ _ h1
  refine va_forget hfo ?_
  have hK : 4096 * (K + n2) + 4096 = 2 * w2.2 := by omega
  refine W.widen (k := 53 + (K + n2)) (n := 1084827 + 4096 * (K + n2)) (by omega) (by omega) ?_
  have hb2 := hRl_bound hR2
  refine lv_aload_n hx hb dL_law_1152 rfl (lv_at hl 2 rfl) ?_
  refine lv_aload_n hx hb dL_law_1153 rfl (lv_at hl 0 rfl) ?_
  refine lv_iload_n hx hb dL_law_1154 rfl (lv_at hl 3 rfl) ?_
  refine lv_iconst (v := 1) hx hb dL_law_1155 (by decide) ?_
  refine lv_iadd hx hb dL_law_1156 ?_
  refine r_sld (x := i + 1) hx hb hX hbl h.2.2.2 (nI_add i 1) (by omega) (by omega) dL_law_1157 ?_
  refine fin_i (n := 0) (runV (As := [.int (xs (i + 1))]) B 1 (t_X10_mend l (mG G q2) wm (xs (i + 1)) r wm2 hm _) rfl rfl kl_137 m_X10_mend (by decide +kernel) ⟨(Nat.le_of_ble_eq_true rfl), (Nat.le_of_ble_eq_true rfl)⟩ ⟨blindM, va_recv hKK.1 h.m.1.1 (ci := 9) (q0 := 0) rfl rfl, preM (KKm hKK) h.m.1⟩ rfl hl.1 (Nat.le_of_ble_eq_true rfl) dL_law_1158 ⟨by show _ ≤ 600000; omega, by show _ ≤ 7302250; omega⟩) h.m.1 (fun q z => Or.inr z) (fun u H1 locs1 h1 => ?_)
  obtain ⟨h, hfo⟩ := h.m.2 _ _ _ h1
  refine va_forget hfo ?_
  exact lv_icmp_eq (tgt := 1371) hx hb dL_law_1161 (by decide) (fun _ => k _ _ _ _ _ h hR2 hK) (fun c1 => absurd rfl c1)
set_option maxHeartbeats 4000000 in
set_option maxRecDepth 100000 in
theorem lc_30 {p : Program} {l : Launch} {e : Env} {s : State} {m : MethodId} {below : List Frame} {meth : Method} {c : Code} {b L : Nat} {xs : Nat → Int32} {G : Gm} {q2 : Nat → Nat} {la : Nat} {w : CW} {wm : MW} {H : Heap} {ls : Array Slot} {i n K : Nat} (B : CB RL cL_law 4 p s m #[Value.ref b] c) (hKK : KK G s) (hX : va_X b L xs s s.heap) (hbl : b < s.heap.size) (h : LW s G (mG G q2) la w wm H) (hR : Rl n w wm) (hn : n < 513) (hi : i + 5 ≤ L) (hL : L ≤ 2560) (hK : 4096 * K + 4096 = 2 * w.2) (hl : lv_has ls 4 [(0, .ref b), (1, .ref (gq G 0)), (2, .ref (q2 0)), (3, .int (nI i))]) (k : ∀ (la : Nat) (w : CW) (wm : MW) (H : Heap) (K : Nat), LW s G (mG G q2) la w wm H → Rl (n + 1) w wm → 4096 * K + 4096 = 2 * w.2 → W p l e room_1 s m #[Value.ref b] below meth c H [] (53 + K) (1084827 + 4096 * K) (lw_Z below #[Value.ref b] s) (F0 m 1371 ls [])) : W p l e room_1 s m #[Value.ref b] below meth c H [] (53 + K) (1084827 + 4096 * K) (lw_Z below #[Value.ref b] s) (F0 m 1166 ls []) := by
  obtain ⟨hx, hb, hml, hown, hts⟩ := id B
  have hb1 := hRl_bound hR
  refine lv_aload_n hx hb dL_law_1166 rfl (lv_at hl 1 rfl) ?_
  refine lv_aload_n hx hb dL_law_1167 rfl (lv_at hl 0 rfl) ?_
  refine lv_iload_n hx hb dL_law_1168 rfl (lv_at hl 3 rfl) ?_
  refine lv_iconst (v := 1) hx hb dL_law_1169 (by decide) ?_
  refine lv_iadd hx hb dL_law_1170 ?_
  refine r_sld (x := i + 1) hx hb hX hbl h.2.2.2 (nI_add i 1) (by omega) (by omega) dL_law_1171 ?_
  refine lv_aload_n hx hb dL_law_1172 rfl (lv_at hl 0 rfl) ?_
  refine lv_iload_n hx hb dL_law_1173 rfl (lv_at hl 3 rfl) ?_
  refine lv_iconst (v := 2) hx hb dL_law_1174 (by decide) ?_
  refine lv_iadd hx hb dL_law_1175 ?_
  refine r_sld (x := i + 2) hx hb hX hbl h.2.2.2 (nI_add i 2) (by omega) (by omega) dL_law_1176 ?_
  refine lv_aload_n hx hb dL_law_1177 rfl (lv_at hl 0 rfl) ?_
  refine lv_iload_n hx hb dL_law_1178 rfl (lv_at hl 3 rfl) ?_
  refine lv_iconst (v := 3) hx hb dL_law_1179 (by decide) ?_
  refine lv_iadd hx hb dL_law_1180 ?_
  refine r_sld (x := i + 3) hx hb hX hbl h.2.2.2 (nI_add i 3) (by omega) (by omega) dL_law_1181 ?_
  obtain ⟨r, w2, wm2, n2, hc, hm, hR2, hw2⟩ := eq_bound hR hn (xs (i + 1)) (xs (i + 2)) (xs (i + 3))
  have hbd2 := hRl_bound hR2
  refine fin_i (n := n2) (runV (As := [.int (xs (i + 1)), .int (xs (i + 2)), .int (xs (i + 3))]) B 3 (t_X9_bound l G la w (xs (i + 1)) (xs (i + 2)) (xs (i + 3)) r w2 n2 hc _) rfl rfl kl_138 m_X9_bound (by decide +kernel) ⟨(Nat.le_of_ble_eq_true rfl), (Nat.le_of_ble_eq_true rfl)⟩ ⟨blindM, va_recv hKK.1 h.1 (ci := 8) (q0 := 0) rfl rfl, preM hKK h.c.1⟩ rfl hl.1 (Nat.le_of_ble_eq_true rfl) dL_law_1182 ⟨by show _ ≤ 600000; omega, by show _ ≤ 7302250; omega⟩) h.c.1 (fun q z => Or.inr z) (fun u H1 locs1 h1 => ?_)
  obtain ⟨h, hfo⟩ := h.c.2 _ _ _ _ h1
  refine va_forget hfo ?_
  have hK : 4096 * (K + n2) + 4096 = 2 * w2.2 := by omega
  refine W.widen (k := 53 + (K + n2)) (n := 1084827 + 4096 * (K + n2)) (by omega) (by omega) ?_
  have hb2 := hRl_bound hR2
  refine lv_aload_n hx hb dL_law_1185 rfl (lv_at hl 2 rfl) ?_
  refine lv_aload_n hx hb dL_law_1186 rfl (lv_at hl 0 rfl) ?_
  refine lv_iload_n hx hb dL_law_1187 rfl (lv_at hl 3 rfl) ?_
  refine lv_iconst (v := 1) hx hb dL_law_1188 (by decide) ?_
  refine lv_iadd hx hb dL_law_1189 ?_
  refine r_sld (x := i + 1) hx hb hX hbl h.2.2.2 (nI_add i 1) (by omega) (by omega) dL_law_1190 ?_
  refine lv_aload_n hx hb dL_law_1191 rfl (lv_at hl 0 rfl) ?_
  refine lv_iload_n hx hb dL_law_1192 rfl (lv_at hl 3 rfl) ?_
  refine lv_iconst (v := 2) hx hb dL_law_1193 (by decide) ?_
  refine lv_iadd hx hb dL_law_1194 ?_
  refine r_sld (x := i + 2) hx hb hX hbl h.2.2.2 (nI_add i 2) (by omega) (by omega) dL_law_1195 ?_
  refine lv_aload_n hx hb dL_law_1196 rfl (lv_at hl 0 rfl) ?_
  refine lv_iload_n hx hb dL_law_1197 rfl (lv_at hl 3 rfl) ?_
  refine lv_iconst (v := 3) hx hb dL_law_1198 (by decide) ?_
  refine lv_iadd hx hb dL_law_1199 ?_
  refine r_sld (x := i + 3) hx hb hX hbl h.2.2.2 (nI_add i 3) (by omega) (by omega) dL_law_1200 ?_
  refine fin_i (n := 0) (runV (As := [.int (xs (i + 1)), .int (xs (i + 2)), .int (xs (i + 3))]) B 3 (t_X10_bound l (mG G q2) wm (xs (i + 1)) (xs (i + 2)) (xs (i + 3)) r wm2 hm _) rfl rfl kl_141 m_X10_bound (by decide +kernel) ⟨(Nat.le_of_ble_eq_true rfl), (Nat.le_of_ble_eq_true rfl)⟩ ⟨blindM, va_recv hKK.1 h.m.1.1 (ci := 9) (q0 := 0) rfl rfl, preM (KKm hKK) h.m.1⟩ rfl hl.1 (Nat.le_of_ble_eq_true rfl) dL_law_1201 ⟨by show _ ≤ 600000; omega, by show _ ≤ 7302250; omega⟩) h.m.1 (fun q z => Or.inr z) (fun u H1 locs1 h1 => ?_)
  obtain ⟨h, hfo⟩ := h.m.2 _ _ _ h1
  refine va_forget hfo ?_
  exact lv_icmp_eq (tgt := 1371) hx hb dL_law_1204 (by decide) (fun _ => k _ _ _ _ _ h hR2 hK) (fun c1 => absurd rfl c1)
set_option maxHeartbeats 4000000 in
set_option maxRecDepth 100000 in
theorem lc_31 {p : Program} {l : Launch} {e : Env} {s : State} {m : MethodId} {below : List Frame} {meth : Method} {c : Code} {b L : Nat} {xs : Nat → Int32} {G : Gm} {q2 : Nat → Nat} {la : Nat} {w : CW} {wm : MW} {H : Heap} {ls : Array Slot} {i n K : Nat} (B : CB RL cL_law 4 p s m #[Value.ref b] c) (hKK : KK G s) (hX : va_X b L xs s s.heap) (hbl : b < s.heap.size) (h : LW s G (mG G q2) la w wm H) (hR : Rl n w wm) (hn : n < 513) (hi : i + 5 ≤ L) (hL : L ≤ 2560) (hK : 4096 * K + 4096 = 2 * w.2) (hl : lv_has ls 4 [(0, .ref b), (1, .ref (gq G 0)), (2, .ref (q2 0)), (3, .int (nI i))]) (k : ∀ (la : Nat) (w : CW) (wm : MW) (H : Heap) (K : Nat), LW s G (mG G q2) la w wm H → Rl (n + 1) w wm → 4096 * K + 4096 = 2 * w.2 → W p l e room_1 s m #[Value.ref b] below meth c H [] (53 + K) (1084827 + 4096 * K) (lw_Z below #[Value.ref b] s) (F0 m 1371 ls [])) : W p l e room_1 s m #[Value.ref b] below meth c H [] (53 + K) (1084827 + 4096 * K) (lw_Z below #[Value.ref b] s) (F0 m 1209 ls []) := by
  obtain ⟨hx, hb, hml, hown, hts⟩ := id B
  have hb1 := hRl_bound hR
  refine lv_aload_n hx hb dL_law_1209 rfl (lv_at hl 1 rfl) ?_
  refine lv_aload_n hx hb dL_law_1210 rfl (lv_at hl 0 rfl) ?_
  refine lv_iload_n hx hb dL_law_1211 rfl (lv_at hl 3 rfl) ?_
  refine lv_iconst (v := 1) hx hb dL_law_1212 (by decide) ?_
  refine lv_iadd hx hb dL_law_1213 ?_
  refine r_sld (x := i + 1) hx hb hX hbl h.2.2.2 (nI_add i 1) (by omega) (by omega) dL_law_1214 ?_
  obtain ⟨r, wm2, hc, hm, hR2⟩ := eq_used hR hn (xs (i + 1))
  refine fin_r (runV (As := [.int (xs (i + 1))]) B 1 (t_X9_used l G la w (xs (i + 1)) r hc) rfl rfl kl_142 m_X9_used (by decide +kernel) ⟨(Nat.le_of_ble_eq_true rfl), (Nat.le_of_ble_eq_true rfl)⟩ ⟨blindR, va_recv hKK.1 h.1 (ci := 8) (q0 := 0) rfl rfl, preR hKK h.c.1⟩ rfl hl.1 (Nat.le_of_ble_eq_true rfl) dL_law_1215 ⟨by show _ ≤ 600000; omega, by show _ ≤ 7302250; omega⟩) ?_
  refine lv_aload_n hx hb dL_law_1218 rfl (lv_at hl 2 rfl) ?_
  refine lv_aload_n hx hb dL_law_1219 rfl (lv_at hl 0 rfl) ?_
  refine lv_iload_n hx hb dL_law_1220 rfl (lv_at hl 3 rfl) ?_
  refine lv_iconst (v := 1) hx hb dL_law_1221 (by decide) ?_
  refine lv_iadd hx hb dL_law_1222 ?_
  refine r_sld (x := i + 1) hx hb hX hbl h.2.2.2 (nI_add i 1) (by omega) (by omega) dL_law_1223 ?_
  refine fin_i (n := 0) (runV (As := [.int (xs (i + 1))]) B 1 (t_X10_used l (mG G q2) wm (xs (i + 1)) r wm2 hm _) rfl rfl kl_145 m_X10_used (by decide +kernel) ⟨(Nat.le_of_ble_eq_true rfl), (Nat.le_of_ble_eq_true rfl)⟩ ⟨blindM, va_recv hKK.1 h.m.1.1 (ci := 9) (q0 := 0) rfl rfl, preM (KKm hKK) h.m.1⟩ rfl hl.1 (Nat.le_of_ble_eq_true rfl) dL_law_1224 ⟨by show _ ≤ 600000; omega, by show _ ≤ 7302250; omega⟩) h.m.1 (fun q z => Or.inr z) (fun u H1 locs1 h1 => ?_)
  obtain ⟨h, hfo⟩ := h.m.2 _ _ _ h1
  refine va_forget hfo ?_
  exact lv_icmp_eq (tgt := 1371) hx hb dL_law_1227 (by decide) (fun _ => k _ _ _ _ _ h hR2 hK) (fun c1 => absurd rfl c1)
set_option maxHeartbeats 4000000 in
set_option maxRecDepth 100000 in
theorem lc_32 {p : Program} {l : Launch} {e : Env} {s : State} {m : MethodId} {below : List Frame} {meth : Method} {c : Code} {b L : Nat} {xs : Nat → Int32} {G : Gm} {q2 : Nat → Nat} {la : Nat} {w : CW} {wm : MW} {H : Heap} {ls : Array Slot} {i n K : Nat} (B : CB RL cL_law 4 p s m #[Value.ref b] c) (hKK : KK G s) (hX : va_X b L xs s s.heap) (hbl : b < s.heap.size) (h : LW s G (mG G q2) la w wm H) (hR : Rl n w wm) (hn : n < 513) (hi : i + 5 ≤ L) (hL : L ≤ 2560) (hK : 4096 * K + 4096 = 2 * w.2) (hl : lv_has ls 4 [(0, .ref b), (1, .ref (gq G 0)), (2, .ref (q2 0)), (3, .int (nI i))]) (k : ∀ (la : Nat) (w : CW) (wm : MW) (H : Heap) (K : Nat), LW s G (mG G q2) la w wm H → Rl (n + 1) w wm → 4096 * K + 4096 = 2 * w.2 → W p l e room_1 s m #[Value.ref b] below meth c H [] (53 + K) (1084827 + 4096 * K) (lw_Z below #[Value.ref b] s) (F0 m 1371 ls [])) : W p l e room_1 s m #[Value.ref b] below meth c H [] (53 + K) (1084827 + 4096 * K) (lw_Z below #[Value.ref b] s) (F0 m 1232 ls []) := by
  obtain ⟨hx, hb, hml, hown, hts⟩ := id B
  have hb1 := hRl_bound hR
  refine lv_aload_n hx hb dL_law_1232 rfl (lv_at hl 1 rfl) ?_
  refine lv_aload_n hx hb dL_law_1233 rfl (lv_at hl 0 rfl) ?_
  refine lv_iload_n hx hb dL_law_1234 rfl (lv_at hl 3 rfl) ?_
  refine lv_iconst (v := 1) hx hb dL_law_1235 (by decide) ?_
  refine lv_iadd hx hb dL_law_1236 ?_
  refine r_sld (x := i + 1) hx hb hX hbl h.2.2.2 (nI_add i 1) (by omega) (by omega) dL_law_1237 ?_
  refine lv_aload_n hx hb dL_law_1238 rfl (lv_at hl 0 rfl) ?_
  refine lv_iload_n hx hb dL_law_1239 rfl (lv_at hl 3 rfl) ?_
  refine lv_iconst (v := 2) hx hb dL_law_1240 (by decide) ?_
  refine lv_iadd hx hb dL_law_1241 ?_
  refine r_sld (x := i + 2) hx hb hX hbl h.2.2.2 (nI_add i 2) (by omega) (by omega) dL_law_1242 ?_
  obtain ⟨r, w2, wm2, hc, hm, hR2, hw2⟩ := eq_book hR hn (xs (i + 1)) (xs (i + 2))
  refine fin_i (n := 0) (runV (As := [.int (xs (i + 1)), .int (xs (i + 2))]) B 2 (t_X9_book l G la w (xs (i + 1)) (xs (i + 2)) r w2 hc _) rfl rfl kl_146 m_X9_book (by decide +kernel) ⟨(Nat.le_of_ble_eq_true rfl), (Nat.le_of_ble_eq_true rfl)⟩ ⟨blindM, va_recv hKK.1 h.1 (ci := 8) (q0 := 0) rfl rfl, preM hKK h.c.1⟩ rfl hl.1 (Nat.le_of_ble_eq_true rfl) dL_law_1243 ⟨by show _ ≤ 600000; omega, by show _ ≤ 7302250; omega⟩) h.c.1 (fun q z => Or.inr z) (fun u H1 locs1 h1 => ?_)
  obtain ⟨h, hfo⟩ := h.c.2 _ _ _ _ h1
  refine va_forget hfo ?_
  have hK : 4096 * K + 4096 = 2 * w2.2 := by rw [hw2]; exact hK
  have hb2 := hRl_bound hR2
  refine lv_aload_n hx hb dL_law_1246 rfl (lv_at hl 2 rfl) ?_
  refine lv_aload_n hx hb dL_law_1247 rfl (lv_at hl 0 rfl) ?_
  refine lv_iload_n hx hb dL_law_1248 rfl (lv_at hl 3 rfl) ?_
  refine lv_iconst (v := 1) hx hb dL_law_1249 (by decide) ?_
  refine lv_iadd hx hb dL_law_1250 ?_
  refine r_sld (x := i + 1) hx hb hX hbl h.2.2.2 (nI_add i 1) (by omega) (by omega) dL_law_1251 ?_
  refine lv_aload_n hx hb dL_law_1252 rfl (lv_at hl 0 rfl) ?_
  refine lv_iload_n hx hb dL_law_1253 rfl (lv_at hl 3 rfl) ?_
  refine lv_iconst (v := 2) hx hb dL_law_1254 (by decide) ?_
  refine lv_iadd hx hb dL_law_1255 ?_
  refine r_sld (x := i + 2) hx hb hX hbl h.2.2.2 (nI_add i 2) (by omega) (by omega) dL_law_1256 ?_
  refine fin_i (n := 0) (runV (As := [.int (xs (i + 1)), .int (xs (i + 2))]) B 2 (t_X10_book l (mG G q2) wm (xs (i + 1)) (xs (i + 2)) r wm2 hm _) rfl rfl kl_149 m_X10_book (by decide +kernel) ⟨(Nat.le_of_ble_eq_true rfl), (Nat.le_of_ble_eq_true rfl)⟩ ⟨blindM, va_recv hKK.1 h.m.1.1 (ci := 9) (q0 := 0) rfl rfl, preM (KKm hKK) h.m.1⟩ rfl hl.1 (Nat.le_of_ble_eq_true rfl) dL_law_1257 ⟨by show _ ≤ 600000; omega, by show _ ≤ 7302250; omega⟩) h.m.1 (fun q z => Or.inr z) (fun u H1 locs1 h1 => ?_)
  obtain ⟨h, hfo⟩ := h.m.2 _ _ _ h1
  refine va_forget hfo ?_
  exact lv_icmp_eq (tgt := 1371) hx hb dL_law_1260 (by decide) (fun _ => k _ _ _ _ _ h hR2 hK) (fun c1 => absurd rfl c1)
set_option maxHeartbeats 4000000 in
set_option maxRecDepth 100000 in
theorem lc_33 {p : Program} {l : Launch} {e : Env} {s : State} {m : MethodId} {below : List Frame} {meth : Method} {c : Code} {b L : Nat} {xs : Nat → Int32} {G : Gm} {q2 : Nat → Nat} {la : Nat} {w : CW} {wm : MW} {H : Heap} {ls : Array Slot} {i n K : Nat} (B : CB RL cL_law 4 p s m #[Value.ref b] c) (hKK : KK G s) (hX : va_X b L xs s s.heap) (hbl : b < s.heap.size) (h : LW s G (mG G q2) la w wm H) (hR : Rl n w wm) (hn : n < 513) (hi : i + 5 ≤ L) (hL : L ≤ 2560) (hK : 4096 * K + 4096 = 2 * w.2) (hl : lv_has ls 4 [(0, .ref b), (1, .ref (gq G 0)), (2, .ref (q2 0)), (3, .int (nI i))]) (k : ∀ (la : Nat) (w : CW) (wm : MW) (H : Heap) (K : Nat), LW s G (mG G q2) la w wm H → Rl (n + 1) w wm → 4096 * K + 4096 = 2 * w.2 → W p l e room_1 s m #[Value.ref b] below meth c H [] (53 + K) (1084827 + 4096 * K) (lw_Z below #[Value.ref b] s) (F0 m 1371 ls [])) : W p l e room_1 s m #[Value.ref b] below meth c H [] (53 + K) (1084827 + 4096 * K) (lw_Z below #[Value.ref b] s) (F0 m 1265 ls []) := by
  obtain ⟨hx, hb, hml, hown, hts⟩ := id B
  have hb1 := hRl_bound hR
  refine lv_aload_n hx hb dL_law_1265 rfl (lv_at hl 1 rfl) ?_
  refine lv_aload_n hx hb dL_law_1266 rfl (lv_at hl 0 rfl) ?_
  refine lv_iload_n hx hb dL_law_1267 rfl (lv_at hl 3 rfl) ?_
  refine lv_iconst (v := 1) hx hb dL_law_1268 (by decide) ?_
  refine lv_iadd hx hb dL_law_1269 ?_
  refine r_sld (x := i + 1) hx hb hX hbl h.2.2.2 (nI_add i 1) (by omega) (by omega) dL_law_1270 ?_
  refine lv_aload_n hx hb dL_law_1271 rfl (lv_at hl 0 rfl) ?_
  refine lv_iload_n hx hb dL_law_1272 rfl (lv_at hl 3 rfl) ?_
  refine lv_iconst (v := 2) hx hb dL_law_1273 (by decide) ?_
  refine lv_iadd hx hb dL_law_1274 ?_
  refine r_sld (x := i + 2) hx hb hX hbl h.2.2.2 (nI_add i 2) (by omega) (by omega) dL_law_1275 ?_
  obtain ⟨r, w2, wm2, hc, hm, hR2, hw2⟩ := eq_cost hR hn (xs (i + 1)) (xs (i + 2))
  refine fin_i (n := 0) (runV (As := [.int (xs (i + 1)), .int (xs (i + 2))]) B 2 (t_X9_cost l G la w (xs (i + 1)) (xs (i + 2)) r w2 hc _) rfl rfl kl_150 m_X9_cost (by decide +kernel) ⟨(Nat.le_of_ble_eq_true rfl), (Nat.le_of_ble_eq_true rfl)⟩ ⟨blindM, va_recv hKK.1 h.1 (ci := 8) (q0 := 0) rfl rfl, preM hKK h.c.1⟩ rfl hl.1 (Nat.le_of_ble_eq_true rfl) dL_law_1276 ⟨by show _ ≤ 600000; omega, by show _ ≤ 7302250; omega⟩) h.c.1 (fun q z => Or.inr z) (fun u H1 locs1 h1 => ?_)
  obtain ⟨h, hfo⟩ := h.c.2 _ _ _ _ h1
  refine va_forget hfo ?_
  have hK : 4096 * K + 4096 = 2 * w2.2 := by rw [hw2]; exact hK
  have hb2 := hRl_bound hR2
  refine lv_aload_n hx hb dL_law_1279 rfl (lv_at hl 2 rfl) ?_
  refine lv_aload_n hx hb dL_law_1280 rfl (lv_at hl 0 rfl) ?_
  refine lv_iload_n hx hb dL_law_1281 rfl (lv_at hl 3 rfl) ?_
  refine lv_iconst (v := 1) hx hb dL_law_1282 (by decide) ?_
  refine lv_iadd hx hb dL_law_1283 ?_
  refine r_sld (x := i + 1) hx hb hX hbl h.2.2.2 (nI_add i 1) (by omega) (by omega) dL_law_1284 ?_
  refine lv_aload_n hx hb dL_law_1285 rfl (lv_at hl 0 rfl) ?_
  refine lv_iload_n hx hb dL_law_1286 rfl (lv_at hl 3 rfl) ?_
  refine lv_iconst (v := 2) hx hb dL_law_1287 (by decide) ?_
  refine lv_iadd hx hb dL_law_1288 ?_
  refine r_sld (x := i + 2) hx hb hX hbl h.2.2.2 (nI_add i 2) (by omega) (by omega) dL_law_1289 ?_
  refine fin_i (n := 0) (runV (As := [.int (xs (i + 1)), .int (xs (i + 2))]) B 2 (t_X10_cost l (mG G q2) wm (xs (i + 1)) (xs (i + 2)) r wm2 hm _) rfl rfl kl_153 m_X10_cost (by decide +kernel) ⟨(Nat.le_of_ble_eq_true rfl), (Nat.le_of_ble_eq_true rfl)⟩ ⟨blindM, va_recv hKK.1 h.m.1.1 (ci := 9) (q0 := 0) rfl rfl, preM (KKm hKK) h.m.1⟩ rfl hl.1 (Nat.le_of_ble_eq_true rfl) dL_law_1290 ⟨by show _ ≤ 600000; omega, by show _ ≤ 7302250; omega⟩) h.m.1 (fun q z => Or.inr z) (fun u H1 locs1 h1 => ?_)
  obtain ⟨h, hfo⟩ := h.m.2 _ _ _ h1
  refine va_forget hfo ?_
  exact lv_icmp_eq (tgt := 1371) hx hb dL_law_1293 (by decide) (fun _ => k _ _ _ _ _ h hR2 hK) (fun c1 => absurd rfl c1)
set_option maxHeartbeats 4000000 in
set_option maxRecDepth 100000 in
theorem lc_34 {p : Program} {l : Launch} {e : Env} {s : State} {m : MethodId} {below : List Frame} {meth : Method} {c : Code} {b L : Nat} {xs : Nat → Int32} {G : Gm} {q2 : Nat → Nat} {la : Nat} {w : CW} {wm : MW} {H : Heap} {ls : Array Slot} {i n K : Nat} (B : CB RL cL_law 4 p s m #[Value.ref b] c) (hKK : KK G s) (hX : va_X b L xs s s.heap) (hbl : b < s.heap.size) (h : LW s G (mG G q2) la w wm H) (hR : Rl n w wm) (hn : n < 513) (hi : i + 5 ≤ L) (hL : L ≤ 2560) (hK : 4096 * K + 4096 = 2 * w.2) (hl : lv_has ls 4 [(0, .ref b), (1, .ref (gq G 0)), (2, .ref (q2 0)), (3, .int (nI i))]) (k : ∀ (la : Nat) (w : CW) (wm : MW) (H : Heap) (K : Nat), LW s G (mG G q2) la w wm H → Rl (n + 1) w wm → 4096 * K + 4096 = 2 * w.2 → W p l e room_1 s m #[Value.ref b] below meth c H [] (53 + K) (1084827 + 4096 * K) (lw_Z below #[Value.ref b] s) (F0 m 1371 ls [])) : W p l e room_1 s m #[Value.ref b] below meth c H [] (53 + K) (1084827 + 4096 * K) (lw_Z below #[Value.ref b] s) (F0 m 1298 ls []) := by
  obtain ⟨hx, hb, hml, hown, hts⟩ := id B
  have hb1 := hRl_bound hR
  refine lv_aload_n hx hb dL_law_1298 rfl (lv_at hl 1 rfl) ?_
  refine lv_aload_n hx hb dL_law_1299 rfl (lv_at hl 0 rfl) ?_
  refine lv_iload_n hx hb dL_law_1300 rfl (lv_at hl 3 rfl) ?_
  refine lv_iconst (v := 1) hx hb dL_law_1301 (by decide) ?_
  refine lv_iadd hx hb dL_law_1302 ?_
  refine r_sld (x := i + 1) hx hb hX hbl h.2.2.2 (nI_add i 1) (by omega) (by omega) dL_law_1303 ?_
  obtain ⟨r, wm2, hc, hm, hR2⟩ := eq_count hR hn (xs (i + 1))
  refine fin_r (runV (As := [.int (xs (i + 1))]) B 1 (t_X9_count l G la w (xs (i + 1)) r hc) rfl rfl kl_154 m_X9_count (by decide +kernel) ⟨(Nat.le_of_ble_eq_true rfl), (Nat.le_of_ble_eq_true rfl)⟩ ⟨blindR, va_recv hKK.1 h.1 (ci := 8) (q0 := 0) rfl rfl, preR hKK h.c.1⟩ rfl hl.1 (Nat.le_of_ble_eq_true rfl) dL_law_1304 ⟨by show _ ≤ 600000; omega, by show _ ≤ 7302250; omega⟩) ?_
  refine lv_aload_n hx hb dL_law_1307 rfl (lv_at hl 2 rfl) ?_
  refine lv_aload_n hx hb dL_law_1308 rfl (lv_at hl 0 rfl) ?_
  refine lv_iload_n hx hb dL_law_1309 rfl (lv_at hl 3 rfl) ?_
  refine lv_iconst (v := 1) hx hb dL_law_1310 (by decide) ?_
  refine lv_iadd hx hb dL_law_1311 ?_
  refine r_sld (x := i + 1) hx hb hX hbl h.2.2.2 (nI_add i 1) (by omega) (by omega) dL_law_1312 ?_
  refine fin_i (n := 0) (runV (As := [.int (xs (i + 1))]) B 1 (t_X10_count l (mG G q2) wm (xs (i + 1)) r wm2 hm _) rfl rfl kl_157 m_X10_count (by decide +kernel) ⟨(Nat.le_of_ble_eq_true rfl), (Nat.le_of_ble_eq_true rfl)⟩ ⟨blindM, va_recv hKK.1 h.m.1.1 (ci := 9) (q0 := 0) rfl rfl, preM (KKm hKK) h.m.1⟩ rfl hl.1 (Nat.le_of_ble_eq_true rfl) dL_law_1313 ⟨by show _ ≤ 600000; omega, by show _ ≤ 7302250; omega⟩) h.m.1 (fun q z => Or.inr z) (fun u H1 locs1 h1 => ?_)
  obtain ⟨h, hfo⟩ := h.m.2 _ _ _ h1
  refine va_forget hfo ?_
  exact lv_icmp_eq (tgt := 1371) hx hb dL_law_1316 (by decide) (fun _ => k _ _ _ _ _ h hR2 hK) (fun c1 => absurd rfl c1)
set_option maxHeartbeats 4000000 in
set_option maxRecDepth 100000 in
theorem lc_35 {p : Program} {l : Launch} {e : Env} {s : State} {m : MethodId} {below : List Frame} {meth : Method} {c : Code} {b L : Nat} {xs : Nat → Int32} {G : Gm} {q2 : Nat → Nat} {la : Nat} {w : CW} {wm : MW} {H : Heap} {ls : Array Slot} {i n K : Nat} (B : CB RL cL_law 4 p s m #[Value.ref b] c) (hKK : KK G s) (hX : va_X b L xs s s.heap) (hbl : b < s.heap.size) (h : LW s G (mG G q2) la w wm H) (hR : Rl n w wm) (hn : n < 513) (hi : i + 5 ≤ L) (hL : L ≤ 2560) (hK : 4096 * K + 4096 = 2 * w.2) (hl : lv_has ls 4 [(0, .ref b), (1, .ref (gq G 0)), (2, .ref (q2 0)), (3, .int (nI i))]) (k : ∀ (la : Nat) (w : CW) (wm : MW) (H : Heap) (K : Nat), LW s G (mG G q2) la w wm H → Rl (n + 1) w wm → 4096 * K + 4096 = 2 * w.2 → W p l e room_1 s m #[Value.ref b] below meth c H [] (53 + K) (1084827 + 4096 * K) (lw_Z below #[Value.ref b] s) (F0 m 1371 ls [])) : W p l e room_1 s m #[Value.ref b] below meth c H [] (53 + K) (1084827 + 4096 * K) (lw_Z below #[Value.ref b] s) (F0 m 1321 ls []) := by
  obtain ⟨hx, hb, hml, hown, hts⟩ := id B
  have hb1 := hRl_bound hR
  refine lv_aload_n hx hb dL_law_1321 rfl (lv_at hl 1 rfl) ?_
  refine lv_aload_n hx hb dL_law_1322 rfl (lv_at hl 0 rfl) ?_
  refine lv_iload_n hx hb dL_law_1323 rfl (lv_at hl 3 rfl) ?_
  refine lv_iconst (v := 1) hx hb dL_law_1324 (by decide) ?_
  refine lv_iadd hx hb dL_law_1325 ?_
  refine r_sld (x := i + 1) hx hb hX hbl h.2.2.2 (nI_add i 1) (by omega) (by omega) dL_law_1326 ?_
  obtain ⟨r, w2, wm2, hc, hm, hR2, hw2⟩ := eq_back hR hn (xs (i + 1))
  refine fin_i (n := 0) (runV (As := [.int (xs (i + 1))]) B 1 (t_X9_back l G la w (xs (i + 1)) r w2 hc _) rfl rfl kl_158 m_X9_back (by decide +kernel) ⟨(Nat.le_of_ble_eq_true rfl), (Nat.le_of_ble_eq_true rfl)⟩ ⟨blindM, va_recv hKK.1 h.1 (ci := 8) (q0 := 0) rfl rfl, preM hKK h.c.1⟩ rfl hl.1 (Nat.le_of_ble_eq_true rfl) dL_law_1327 ⟨by show _ ≤ 600000; omega, by show _ ≤ 7302250; omega⟩) h.c.1 (fun q z => Or.inr z) (fun u H1 locs1 h1 => ?_)
  obtain ⟨h, hfo⟩ := h.c.2 _ _ _ _ h1
  refine va_forget hfo ?_
  have hK : 4096 * K + 4096 = 2 * w2.2 := by rw [hw2]; exact hK
  have hb2 := hRl_bound hR2
  refine lv_aload_n hx hb dL_law_1330 rfl (lv_at hl 2 rfl) ?_
  refine lv_aload_n hx hb dL_law_1331 rfl (lv_at hl 0 rfl) ?_
  refine lv_iload_n hx hb dL_law_1332 rfl (lv_at hl 3 rfl) ?_
  refine lv_iconst (v := 1) hx hb dL_law_1333 (by decide) ?_
  refine lv_iadd hx hb dL_law_1334 ?_
  refine r_sld (x := i + 1) hx hb hX hbl h.2.2.2 (nI_add i 1) (by omega) (by omega) dL_law_1335 ?_
  refine fin_i (n := 0) (runV (As := [.int (xs (i + 1))]) B 1 (t_X10_back l (mG G q2) wm (xs (i + 1)) r wm2 hm _) rfl rfl kl_161 m_X10_back (by decide +kernel) ⟨(Nat.le_of_ble_eq_true rfl), (Nat.le_of_ble_eq_true rfl)⟩ ⟨blindM, va_recv hKK.1 h.m.1.1 (ci := 9) (q0 := 0) rfl rfl, preM (KKm hKK) h.m.1⟩ rfl hl.1 (Nat.le_of_ble_eq_true rfl) dL_law_1336 ⟨by show _ ≤ 600000; omega, by show _ ≤ 7302250; omega⟩) h.m.1 (fun q z => Or.inr z) (fun u H1 locs1 h1 => ?_)
  obtain ⟨h, hfo⟩ := h.m.2 _ _ _ h1
  refine va_forget hfo ?_
  exact lv_icmp_eq (tgt := 1371) hx hb dL_law_1339 (by decide) (fun _ => k _ _ _ _ _ h hR2 hK) (fun c1 => absurd rfl c1)
set_option maxHeartbeats 4000000 in
set_option maxRecDepth 100000 in
theorem lc_36 {p : Program} {l : Launch} {e : Env} {s : State} {m : MethodId} {below : List Frame} {meth : Method} {c : Code} {b L : Nat} {xs : Nat → Int32} {G : Gm} {q2 : Nat → Nat} {la : Nat} {w : CW} {wm : MW} {H : Heap} {ls : Array Slot} {i n K : Nat} (B : CB RL cL_law 4 p s m #[Value.ref b] c) (hKK : KK G s) (hX : va_X b L xs s s.heap) (hbl : b < s.heap.size) (h : LW s G (mG G q2) la w wm H) (hR : Rl n w wm) (hn : n < 513) (hi : i + 5 ≤ L) (hL : L ≤ 2560) (hK : 4096 * K + 4096 = 2 * w.2) (hl : lv_has ls 4 [(0, .ref b), (1, .ref (gq G 0)), (2, .ref (q2 0)), (3, .int (nI i))]) (k : ∀ (la : Nat) (w : CW) (wm : MW) (H : Heap) (K : Nat), LW s G (mG G q2) la w wm H → Rl (n + 1) w wm → 4096 * K + 4096 = 2 * w.2 → W p l e room_1 s m #[Value.ref b] below meth c H [] (53 + K) (1084827 + 4096 * K) (lw_Z below #[Value.ref b] s) (F0 m 1371 ls [])) : W p l e room_1 s m #[Value.ref b] below meth c H [] (53 + K) (1084827 + 4096 * K) (lw_Z below #[Value.ref b] s) (F0 m 1344 ls []) := by
  obtain ⟨hx, hb, hml, hown, hts⟩ := id B
  have hb1 := hRl_bound hR
  refine lv_aload_n hx hb dL_law_1344 rfl (lv_at hl 1 rfl) ?_
  obtain ⟨r, wm2, hc, hm, hR2⟩ := eq_digest hR hn
  refine fin_r (runV (As := []) B 0 (t_X9_digest l G la w r hc) rfl rfl kl_162 m_X9_digest (by decide +kernel) ⟨(Nat.le_of_ble_eq_true rfl), (Nat.le_of_ble_eq_true rfl)⟩ ⟨blindR, va_recv hKK.1 h.1 (ci := 8) (q0 := 0) rfl rfl, preR hKK h.c.1⟩ rfl hl.1 (Nat.le_of_ble_eq_true rfl) dL_law_1345 ⟨by show _ ≤ 600000; omega, by show _ ≤ 7302250; omega⟩) ?_
  refine lv_aload_n hx hb dL_law_1348 rfl (lv_at hl 2 rfl) ?_
  refine fin_l (n := 0) (runV (As := []) B 0 (t_X10_digest l (mG G q2) wm r wm2 hm _) rfl rfl kl_166 m_X10_digest (by decide +kernel) ⟨(Nat.le_of_ble_eq_true rfl), (Nat.le_of_ble_eq_true rfl)⟩ ⟨blindM, va_recv hKK.1 h.m.1.1 (ci := 9) (q0 := 0) rfl rfl, preM (KKm hKK) h.m.1⟩ rfl hl.1 (Nat.le_of_ble_eq_true rfl) dL_law_1349 ⟨by show _ ≤ 600000; omega, by show _ ≤ 7302250; omega⟩) h.m.1 (fun q z => Or.inr z) (fun u H1 locs1 h1 => ?_)
  obtain ⟨h, hfo⟩ := h.m.2 _ _ _ h1
  refine va_forget hfo ?_
  refine W.lcmp hx hb dL_law_1352 ?_
  exact lv_if_eq (tgt := 1371) hx hb dL_law_1353 (by decide) (fun _ => k _ _ _ _ _ h hR2 hK) (fun c1 => absurd (by unfold lg_cmp; simp) c1)
set_option maxHeartbeats 4000000 in
set_option maxRecDepth 100000 in
theorem lc_37 {p : Program} {l : Launch} {e : Env} {s : State} {m : MethodId} {below : List Frame} {meth : Method} {c : Code} {b L : Nat} {xs : Nat → Int32} {G : Gm} {q2 : Nat → Nat} {la : Nat} {w : CW} {wm : MW} {H : Heap} {ls : Array Slot} {i n K : Nat} (B : CB RL cL_law 4 p s m #[Value.ref b] c) (hKK : KK G s) (hX : va_X b L xs s s.heap) (hbl : b < s.heap.size) (h : LW s G (mG G q2) la w wm H) (hR : Rl n w wm) (hn : n < 513) (hi : i + 5 ≤ L) (hL : L ≤ 2560) (hK : 4096 * K + 4096 = 2 * w.2) (hl : lv_has ls 4 [(0, .ref b), (1, .ref (gq G 0)), (2, .ref (q2 0)), (3, .int (nI i))]) (k : ∀ (la : Nat) (w : CW) (wm : MW) (H : Heap) (K : Nat), LW s G (mG G q2) la w wm H → Rl (n + 1) w wm → 4096 * K + 4096 = 2 * w.2 → W p l e room_1 s m #[Value.ref b] below meth c H [] (53 + K) (1084827 + 4096 * K) (lw_Z below #[Value.ref b] s) (F0 m 1371 ls [])) : W p l e room_1 s m #[Value.ref b] below meth c H [] (53 + K) (1084827 + 4096 * K) (lw_Z below #[Value.ref b] s) (F0 m 1358 ls []) := by
  obtain ⟨hx, hb, hml, hown, hts⟩ := id B
  have hb1 := hRl_bound hR
  refine lv_aload_n hx hb dL_law_1358 rfl (lv_at hl 1 rfl) ?_
  obtain ⟨r, wm2, hc, hm, hR2⟩ := eq_status hR hn
  refine fin_r (runV (As := []) B 0 (t_X9_status l G la w r hc) rfl rfl kl_167 m_X9_status (by decide +kernel) ⟨(Nat.le_of_ble_eq_true rfl), (Nat.le_of_ble_eq_true rfl)⟩ ⟨blindR, va_recv hKK.1 h.1 (ci := 8) (q0 := 0) rfl rfl, preR hKK h.c.1⟩ rfl hl.1 (Nat.le_of_ble_eq_true rfl) dL_law_1359 ⟨by show _ ≤ 600000; omega, by show _ ≤ 7302250; omega⟩) ?_
  refine lv_aload_n hx hb dL_law_1362 rfl (lv_at hl 2 rfl) ?_
  refine fin_i (n := 0) (runV (As := []) B 0 (t_X10_status l (mG G q2) wm r wm2 hm _) rfl rfl kl_171 m_X10_status (by decide +kernel) ⟨(Nat.le_of_ble_eq_true rfl), (Nat.le_of_ble_eq_true rfl)⟩ ⟨blindM, va_recv hKK.1 h.m.1.1 (ci := 9) (q0 := 0) rfl rfl, preM (KKm hKK) h.m.1⟩ rfl hl.1 (Nat.le_of_ble_eq_true rfl) dL_law_1363 ⟨by show _ ≤ 600000; omega, by show _ ≤ 7302250; omega⟩) h.m.1 (fun q z => Or.inr z) (fun u H1 locs1 h1 => ?_)
  obtain ⟨h, hfo⟩ := h.m.2 _ _ _ h1
  refine va_forget hfo ?_
  exact lv_icmp_eq (tgt := 1371) hx hb dL_law_1366 (by decide) (fun _ => k _ _ _ _ _ h hR2 hK) (fun c1 => absurd rfl c1)
