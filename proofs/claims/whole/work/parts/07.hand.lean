abbrev cpok (sp dp n : Int32) (n0 n1 : Nat) : Prop := ¬ sp < 0 ∧ ¬ dp < 0 ∧ ¬ n < 0 ∧ sp.toNatClampNeg + n.toNatClampNeg ≤ n0 ∧ dp.toNatClampNeg + n.toNatClampNeg ≤ n1
theorem ac_w : Cond.native arraycopyName ∈ lw_good ∧ Cond.static arraycopyName ∈ lw_good ∧ Cond.initialized "java/lang/System" ∈ lw_good ∧ Cond.arrayClass .int ∈ lw_good := by decide +kernel
def arrP (P n : Nat) : Prop := (P = 8 ∧ n = 60) ∨ (P = 10 ∧ n = 3) ∨ (25 ≤ P ∧ P < 38 ∧ n = 501)
theorem ca_cs (w : CW) (P k : Nat) (v : Int32) : cs w P k v = ca w P (upd (w.1 P) k v) := rfl
theorem ca_ca (w : CW) (P : Nat) (f g : Nat → Int32) : ca (ca w P f) P g = ca w P g := by
  unfold ca
  show ((va_up (va_up w.1 P f) P g, w.2) : CW) = _
  rw [bx_uu]
theorem ca_at (w : CW) (P : Nat) (f : Nat → Int32) : (ca w P f).1 P = f := va_up_self _ _ _
theorem ca_self (w : CW) (P : Nat) : ca w P (w.1 P) = w := by
  unfold ca
  refine Prod.ext ?_ rfl
  funext q
  by_cases h : q = P
  · subst h; exact va_up_self _ _ _
  · exact va_up_ne _ _ h
section HD
variable {p : Program} {l : Launch} {e : Env} {R : Room} {s : State} {m : MethodId} {args : Array Value} {below : List Frame} {meth : Method} {c : Code} {H : Heap} {locs : List Loc} {cells slots : Nat} {Q : State → Prop}
variable {cc : ByteArray} {nL pc idx : Nat} {ls : Array Slot} {rest : List Value} {own : String} {G : Gm} {A : Nat → Prop} {H0 : Heap} {la : Nat} {w : CW}
theorem ar_get {P n : Nat} (hP : arrP P n) : (cw G la w)[P]? = some (gq G P, .inl (gI G, n, .inl (w.1 P))) := by
  rcases hP with ⟨rfl, rfl⟩ | ⟨rfl, rfl⟩ | ⟨h1, h2, rfl⟩
  · rfl
  · rfl
  · exact rw_get ⟨h1, h2⟩
theorem ar_set {P n : Nat} {g : Nat → Int32} (hP : arrP P n) : (cw G la w).set P (gq G P, .inl (gI G, n, .inl g)) = cw G la (ca w P g) := by
  rcases hP with ⟨rfl, rfl⟩ | ⟨rfl, rfl⟩ | ⟨h1, h2, rfl⟩
  · rfl
  · rfl
  · exact rw_set ⟨h1, h2⟩
theorem SC_any {P n : Nat} {i x : Int32} (X : CX own cc nL G p s m args c) (h : CH G (cw G la w) A H0 H locs) (hP : arrP P n) (hi : inb i n) (hd : decode cc pc = .ok (.iastore, 1)) (k : ∀ (H : Heap) (locs : List Loc), CH G (cw G la (cs w P i.toNatClampNeg x)) A H0 H locs → W p l e R s m args below meth c H locs cells slots Q (F0 m (pc + 1) ls rest)) : W p l e R s m args below meth c H locs cells slots Q (F0 m pc ls (.int x :: .int i :: .ref (gq G P) :: rest)) :=
  va_iast X.1.1 X.1.2.1 X.2.1 h.1 h.2.1 h.2.2 P 0 (ar_get hP) rfl hi hd (fun H locs a b c => k H locs ⟨ar_set hP ▸ a, ar_set hP ▸ b, c⟩)
theorem NC_any {P n : Nat} (X : CX own cc nL G p s m args c) (h : CH G (cw G la w) A H0 H locs) (hP : arrP P n) (hd : decode cc pc = .ok (.arraylength, 1)) (k : W p l e R s m args below meth c H locs cells slots Q (F0 m (pc + 1) ls (.int (nI n) :: rest))) : W p l e R s m args below meth c H locs cells slots Q (F0 m pc ls (.ref (gq G P) :: rest)) :=
  va_alen X.1.1 X.1.2.1 X.2.1 h.1 P 0 (ar_get hP) rfl rfl hd k
theorem CP_log {sp dp n : Int32} (X : CX own cc nL G p s m args c) (h : CH G (cw G la w) A H0 H locs) (hc : cpok sp dp n w.2 w.2) (hlk : Cond.methodLink own idx arraycopyName ∈ lw_good) (hd : decode cc pc = .ok (.invokestatic idx, 3)) (hsz : ls.size = nL) (hR : 1 ≤ R.frames ∧ (rest.map fun v => v.category).sum + 18 ≤ R.locals)
    (k : ∀ (H : Heap) (locs : List Loc), CH G (cw G la (ca w 13 (va_cpy (w.1 13) (w.1 13) sp.toNatClampNeg dp.toNatClampNeg n.toNatClampNeg))) A H0 H locs → W p l e R s m args below meth c H locs cells slots Q (F0 m (pc + 3) ls rest)) : W p l e R s m args below meth c H locs cells slots Q (F0 m pc ls (.int n :: .int dp :: .ref la :: .int sp :: .ref la :: rest)) :=
  va_copyi X.1.1 X.1.2.1 (X.1.2.2.1.trans hsz.symm) X.1.2.2.2.1 (X.1.2.2.2.2 _ hlk) (X.1.2.2.2.2 _ ac_w.1) (X.1.2.2.2.2 _ ac_w.2.1) (X.1.2.2.2.2 _ ac_w.2.2.1) X.2.1 h.1 h.2.1 h.2.2 13 13 0 0 rfl rfl rfl rfl rfl hc.1 hc.2.1 hc.2.2.1 hc.2.2.2.1 hc.2.2.2.2 (fun _ _ => rfl) hR.1 hR.2 hd (fun H locs a b c => k H locs ⟨a, b, c⟩)
theorem CP_row {P0 P1 : Nat} {sp dp n : Int32} (X : CX own cc nL G p s m args c) (h : CH G (cw G la w) A H0 H locs) (hP0 : 25 ≤ P0 ∧ P0 < 38) (hP1 : 25 ≤ P1 ∧ P1 < 38) (hc : cpok sp dp n 501 501) (hlk : Cond.methodLink own idx arraycopyName ∈ lw_good) (hd : decode cc pc = .ok (.invokestatic idx, 3)) (hsz : ls.size = nL) (hR : 1 ≤ R.frames ∧ (rest.map fun v => v.category).sum + 18 ≤ R.locals)
    (k : ∀ (H : Heap) (locs : List Loc), CH G (cw G la (ca w P1 (va_cpy (w.1 P0) (w.1 P1) sp.toNatClampNeg dp.toNatClampNeg n.toNatClampNeg))) A H0 H locs → W p l e R s m args below meth c H locs cells slots Q (F0 m (pc + 3) ls rest)) : W p l e R s m args below meth c H locs cells slots Q (F0 m pc ls (.int n :: .int dp :: .ref (gq G P1) :: .int sp :: .ref (gq G P0) :: rest)) :=
  va_copyi X.1.1 X.1.2.1 (X.1.2.2.1.trans hsz.symm) X.1.2.2.2.1 (X.1.2.2.2.2 _ hlk) (X.1.2.2.2.2 _ ac_w.1) (X.1.2.2.2.2 _ ac_w.2.1) (X.1.2.2.2.2 _ ac_w.2.2.1) X.2.1 h.1 h.2.1 h.2.2 P0 P1 0 0 (rw_get hP0) (rw_get hP1) rfl rfl rfl hc.1 hc.2.1 hc.2.2.1 hc.2.2.2.1 hc.2.2.2.2 (fun _ _ => rfl) hR.1 hR.2 hd (fun H locs a b c => k H locs ⟨rw_set hP1 ▸ a, rw_set hP1 ▸ b, c⟩)
end HD
def fillf (n : Nat) (v : Int32) (f : Nat → Int32) : Nat → Int32 := fun j => if j < n then v else f j
theorem fillf_0 (v : Int32) (f : Nat → Int32) : fillf 0 v f = f := by funext j; simp [fillf]
theorem fillf_s (k : Nat) (v : Int32) (f : Nat → Int32) : upd (fillf k v f) k v = fillf (k + 1) v f := by
  funext j
  unfold upd fillf
  by_cases h : j = k
  · subst h; simp
  · rw [if_neg h]
    by_cases h2 : j < k
    · rw [if_pos h2, if_pos (by omega)]
    · rw [if_neg h2, if_neg (by omega)]
def f_J7_fill_53178 (P n : Nat) (v : Int32) (w : CW) : Option CW := some (ca w P (fillf n v (w.1 P)))
set_option maxHeartbeats 4000000 in
set_option maxRecDepth 100000 in
theorem t_J7_fill_53178 (l : Launch) (G : Gm) (la : Nat) (w0 : CW) (P n : Nat) (x1 : Int32) (hP0 : arrP P n) : MetV l yJ7_fill_53178 cJ7_fill_53178 4 0 0 G (cw G la w0) [.ref (gq G P), .int x1] (fun _ => cw G la (ca w0 P (fillf n x1 (w0.1 P)))) 0 := by
  intro sz
  have hn : n < 2 ^ 31 := by rcases hP0 with h | h | h <;> omega
  refine ent (own := RJ7) (As := [.ref (gq G P), .int x1]) (by decide +kernel) rfl (Nat.le_of_ble_eq_true rfl) (fun _ _ h => h.1) ?_
  intro p e s m args below meth c ls B hr hlocks hv hl
  obtain ⟨-, hsz, hP, hKK, hD⟩ := hv
  subst hsz
  have X : CX RJ7 cJ7_fill_53178 4 G p s m args c := ⟨B, hKK⟩
  obtain ⟨hx, hb, hml, hown, hts⟩ := id B
  have h : CH G (cw G la w0) (va_A (cw G la w0) s.heap.size) s.heap s.heap [] := ⟨hP, hD.self, va_S.rf⟩
  have L5 : ∀ (d k : Nat), k + d = n → ∀ (w : CW) (H : Heap) (locs : List Loc) (ls : Array Slot), w = ca w0 P (fillf k x1 (w0.1 P)) → CH G (cw G la w) (va_A (cw G la w0) s.heap.size) s.heap H locs → lv_has ls 4 [(0, .ref (gq G P)), (1, .int x1), (2, .int (nI k)), (3, .int (nI n))] →
      W p l e { frames := 0, cells := 0, slots := 4096 * 0, locals := 0 } s m args below meth c H locs 0 (4096 * 0) (MQ below (QV G (cw G la w0) s.heap.size (fun _ => cw G la (ca w0 P (fillf n x1 (w0.1 P))))) args s 0 (4096 * 0) (va_A (cw G la w0) s.heap.size)) (F0 m 5 ls []) := by
    intro d
    induction d with
    | zero =>
      intro k hk w H locs ls hw h hl
      have hkn : k = n := by omega
      subst hkn
      refine lv_iload_n hx hb dJ7_fill_53178_5 rfl (lv_at hl 2 rfl) ?_
      refine lv_iload_n hx hb dJ7_fill_53178_6 rfl (lv_at hl 3 rfl) ?_
      refine lv_icmp_ge (tgt := 20) hx hb dJ7_fill_53178_7 (by decide) (fun c1 => ?_) (fun c1 => absurd (nI_le (Nat.le_refl k) hn) c1)
      exact e0_v (Wf := cw G la) X.1 hr hlocks (congrArg some hw) h dJ7_fill_53178_20
    | succ d ih =>
      intro k hk w H locs ls hw h hl
      refine lv_iload_n hx hb dJ7_fill_53178_5 rfl (lv_at hl 2 rfl) ?_
      refine lv_iload_n hx hb dJ7_fill_53178_6 rfl (lv_at hl 3 rfl) ?_
      refine lv_icmp_ge (tgt := 20) hx hb dJ7_fill_53178_7 (by decide) (fun c1 => absurd c1 (nI_ge (by omega) hn)) (fun c1 => ?_)
      refine lv_aload_n hx hb dJ7_fill_53178_10 rfl (lv_at hl 0 rfl) ?_
      refine lv_iload_n hx hb dJ7_fill_53178_11 rfl (lv_at hl 2 rfl) ?_
      refine lv_iload_n hx hb dJ7_fill_53178_12 rfl (lv_at hl 1 rfl) ?_
      refine SC_any X h hP0 (nI_in (by omega) hn) dJ7_fill_53178_13 (fun H locs h => ?_)
      refine lv_iinc (v := nI (k + 1)) (lv' := [(2, .int (nI (k + 1))), (0, .ref (gq G P)), (1, .int x1), (3, .int (nI n))]) hx hb dJ7_fill_53178_14 hl (k := 2) rfl (nI_1 k) (by decide) rfl (fun ls hl => ?_)
      refine lv_goto (tgt := 5) hx hb dJ7_fill_53178_17 (by decide) ?_
      refine ih (k + 1) (by omega) _ _ _ _ ?_ h (lv_sub hl [1, 2, 0, 3] rfl)
      rw [nI_clamp (by omega), ca_cs, hw, ca_ca, ca_at, fillf_s]
  have hl : lv_has ls 4 [(0, .ref (gq G P)), (1, .int x1)] := hl
  refine lv_iconst (v := 0) hx hb dJ7_fill_53178_0 (by decide) ?_
  refine lv_istore_n (lv' := [(2, .int 0), (0, .ref (gq G P)), (1, .int x1)]) hx hb dJ7_fill_53178_1 rfl hl (by decide) rfl (fun ls hl => ?_)
  refine lv_aload_n hx hb dJ7_fill_53178_2 rfl (lv_at hl 1 rfl) ?_
  refine NC_any X h hP0 dJ7_fill_53178_3 ?_
  refine lv_istore_n (lv' := [(3, .int (nI n)), (2, .int 0), (0, .ref (gq G P)), (1, .int x1)]) hx hb dJ7_fill_53178_4 rfl hl (by decide) rfl (fun ls hl => ?_)
  have hl : lv_has ls 4 [(3, .int (nI n)), (2, .int (nI 0)), (0, .ref (gq G P)), (1, .int x1)] := by rw [nI_0]; exact hl
  exact L5 n 0 (by omega) w0 _ _ _ (by rw [fillf_0, ca_self]) h (lv_sub hl [2, 3, 1, 0] rfl)
theorem m_J7_fill_53178 : Cond.static yJ7_fill_53178 ∈ lw_good ∧ Cond.initialized yJ7_fill_53178.cls ∈ lw_good ∧ Cond.code yJ7_fill_53178 cJ7_fill_53178 4 none ∈ lw_good := by decide +kernel
theorem k_J7_fill_53178 {p : Program} {l : Launch} {e : Env} {R : Room} {s : State} {m : MethodId} {args : Array Value} {below : List Frame} {meth : Method} {c : Code} {H : Heap} {locs : List Loc} {cells slots : Nat} {Q : State → Prop} {cc : ByteArray} {nL pc idx : Nat} {ls : Array Slot} {rest : List Value} {own : String} {G : Gm} {A : Nat → Prop} {H0 : Heap} {la : Nat} {w : CW} {P n : Nat} {x1 : Int32} {w' : CW} (X : CX own cc nL G p s m args c) (h : CH G (cw G la w) A H0 H locs) (hA : ∀ q, H0.size ≤ q → A q) (hP : arrP P n) (hf : f_J7_fill_53178 P n x1 w = some w') (hlk : Cond.methodLink own idx yJ7_fill_53178 ∈ lw_good) (hd : decode cc pc = .ok (.invokestatic idx, 3)) (hsz : ls.size = nL) (hR : 1 ≤ R.frames ∧ 23 ≤ R.locals) (hrest : (rest.map fun v => v.category).sum ≤ 8) (hk : cells ≤ R.cells ∧ slots ≤ R.slots) (k : ∀ (H : Heap) (locs : List Loc), CH G (cw G la w') A H0 H locs → W p l e R s m args below meth c H locs cells slots Q (F0 m (pc + 3) ls rest)) : W p l e R s m args below meth c H locs cells slots Q (F0 m pc ls (.int x1 :: .ref (gq G P) :: rest)) := by
  cases hf
  exact fin_v (n := 0) (runS (As := [.ref (gq G P), .int x1]) X.1 2 (t_J7_fill_53178 l G la w P n x1 hP _) rfl rfl hlk m_J7_fill_53178 (by decide +kernel) ⟨hR.1, hR.2⟩ ⟨blindM, preM X.2 h⟩ rfl hsz hrest hd hk) h hA (fun _ H locs h => k H locs h)
def growf (w : CW) : Nat → Int32 := fun j => if j < w.2 then w.1 13 j else 0
def f_grow (x : Int32) (w : CW) : Option (CW × Nat) := chk (x = Int32.ofNat (2 * w.2) ∧ 2048 ≤ w.2 ∧ w.2 ≤ 1048576 ∧ 4096 * (2 * w.2 / 4096) = 2 * w.2) (some ((va_up w.1 13 (growf w), 2 * w.2), 2 * w.2 / 4096))
set_option maxHeartbeats 4000000 in
set_option maxRecDepth 100000 in
theorem t_copyOf (l : Launch) (G : Gm) (la : Nat) (w : CW) (x : Int32) (hx0 : x = nI (2 * w.2)) (hw1 : 2048 ≤ w.2) (hw2 : w.2 ≤ 1048576) (sz : Nat) : Met l yJ7_copyOf_59c91 (.code yJ7_copyOf_59c91 cJ7_copyOf_59c91 3 (some (.array .int)) :: lw_good) { frames := 1, cells := 1, slots := 2 * w.2, locals := 48 } (cPreM G (cw G la w) sz [.ref la, .int x])
    (va_Qr (fun (_ : Nat) => True) (fun _ a t => va_P G.1 vwCl (cw G la w ++ [(a, .inl (gI G, 2 * w.2, .inl (growf w)))]) t.heap ∧ va_D (va_A (cw G la w) sz) (cw G la w ++ [(a, .inl (gI G, 2 * w.2, .inl (growf w)))])) (va_A (cw G la w) sz)) 1 (2 * w.2) (va_A (cw G la w) sz) := by
  have hl31 : 2 * w.2 < 2 ^ 31 := by omega
  refine ent (own := RJ7) (As := [.ref la, .int x]) (by decide +kernel) rfl (Nat.le_of_ble_eq_true rfl) (fun _ _ h => h.1) ?_
  intro p e s m args below meth c ls B hr hlocks hv hl
  obtain ⟨-, hsz, hP, hKK, hD⟩ := hv
  subst hsz
  have X : CX RJ7 cJ7_copyOf_59c91 3 G p s m args c := ⟨B, hKK⟩
  obtain ⟨hx, hb, hml, hown, hts⟩ := id B
  have hA : ∀ q : Nat, s.heap.size ≤ q → va_A (cw G la w) s.heap.size q := fun q z => Or.inr z
  have h : CH G (cw G la w) (va_A (cw G la w) s.heap.size) s.heap s.heap [] := ⟨hP, hD.self, va_S.rf⟩
  have hl : lv_has ls 3 [(0, .ref la), (1, .int x)] := hl
  refine lv_iload_n hx hb dJ7_copyOf_59c91_0 rfl (lv_at hl 1 rfl) ?_
  refine lv_aload_n hx hb dJ7_copyOf_59c91_1 rfl (lv_at hl 0 rfl) ?_
  refine NC_13 X h dJ7_copyOf_59c91_2 ?_
  refine lv_icmp_ne (tgt := 14) hx hb dJ7_copyOf_59c91_3 (by decide) (fun c1 => ?_) (fun c1 => ?_)
  · refine lv_iload_n hx hb dJ7_copyOf_59c91_14 rfl (lv_at hl 1 rfl) ?_
    refine va_newa (atype := .int) (ty := .int) (N' := 2 * w.2) (a0 := (2 * w.2, .inl (fun _ => 0))) hx hb (hts _ ac_w.2.2.2) rfl X.2.1 h.1 h.2.1 h.2.2 hA (fun _ => rfl) (by rw [hx0]; exact nI_pos hl31) (by rw [hx0]; exact nI_clamp hl31) (by show 2 * w.2 * 4 ≤ _; omega) (Nat.le_of_ble_eq_true rfl) (by show 0 + 2 * w.2 ≤ 2 * w.2; omega) dJ7_copyOf_59c91_15 (fun q cA H1 hK1 hP1 hD1 hS1 => ?_)
    have hcA : gI G = cA := Option.some.inj ((va_nm_int (X.2.1.2 0 _ rfl).2).symm.trans (va_nm_int (hK1.2 3 _ rfl).2))
    subst hcA
    refine lv_astore_n (lv' := [(2, .ref q), (0, .ref la), (1, .int x)]) hx hb dJ7_copyOf_59c91_17 rfl hl (by decide) rfl (fun ls hl => ?_)
    refine lv_aload_n hx hb dJ7_copyOf_59c91_18 rfl (lv_at hl 1 rfl) ?_
    refine lv_iconst (v := 0) hx hb dJ7_copyOf_59c91_19 (by decide) ?_
    refine lv_aload_n hx hb dJ7_copyOf_59c91_20 rfl (lv_at hl 0 rfl) ?_
    refine lv_iconst (v := 0) hx hb dJ7_copyOf_59c91_21 (by decide) ?_
    refine lv_aload_n hx hb dJ7_copyOf_59c91_22 rfl (lv_at hl 1 rfl) ?_
    refine va_alen (v := nI w.2) X.1.1 X.1.2.1 X.2.1 hP1 13 0 rfl rfl rfl dJ7_copyOf_59c91_23 ?_
    refine lv_iload_n hx hb dJ7_copyOf_59c91_24 rfl (lv_at hl 2 rfl) ?_
    refine m_min X.1 hl.1 (by decide +kernel) mn_w ⟨Nat.le_of_ble_eq_true rfl, Nat.le_of_ble_eq_true rfl⟩ ⟨Nat.le_of_ble_eq_true rfl, by show 0 + 2 * w.2 ≤ 2 * w.2; omega⟩ dJ7_copyOf_59c91_25 ?_
    refine nm_i (y := nI w.2) (by rw [hx0, if_neg (nI_nlt (by omega) hl31)]) ?_
    refine va_copyi X.1.1 X.1.2.1 (X.1.2.2.1.trans hl.1.symm) X.1.2.2.2.1 (X.1.2.2.2.2 _ (by decide +kernel)) (X.1.2.2.2.2 _ ac_w.1) (X.1.2.2.2.2 _ ac_w.2.1) (X.1.2.2.2.2 _ ac_w.2.2.1) X.2.1 hP1 hD1 hS1 13 38 0 0 rfl rfl rfl rfl rfl (by decide) (by decide) (nI_pos (by omega)) (by rw [nI_clamp (by omega)]; show 0 + w.2 ≤ w.2; omega) (by rw [nI_clamp (by omega)]; show 0 + w.2 ≤ 2 * w.2; omega) (fun _ _ => rfl) (Nat.le_of_ble_eq_true rfl) (Nat.le_of_ble_eq_true rfl) dJ7_copyOf_59c91_28 (fun H2 locs2 hP2 hD2 hS2 => ?_)
    refine lv_aload_n hx hb dJ7_copyOf_59c91_31 rfl (lv_at hl 0 rfl) ?_
    have hg : va_cpy (w.1 13) (fun _ => (0 : Int32)) (0 : Int32).toNatClampNeg (0 : Int32).toNatClampNeg (nI w.2).toNatClampNeg = growf w := by
      rw [nI_clamp (by omega), sb_cl0]
      funext j
      unfold va_cpy growf
      by_cases hj : j < w.2
      · rw [if_pos hj, if_pos ⟨Nat.zero_le _, by omega⟩]; simp
      · rw [if_neg hj, if_neg (by omega)]
    rw [hg] at hP2 hD2
    refine W.widen (k := 1) (n := 2 * w.2) (by omega) (by omega) ?_
    exact W.aret hx hb hr (Or.inr ⟨_, rfl⟩) (Or.inr ⟨_, rfl⟩) (fun t ht hW => ⟨⟨0, q, rfl, trivial, by rw [ht]; exact hP2, hD2⟩, hS2.F ht⟩) hS2.2.2 dJ7_copyOf_59c91_32 hlocks
  · exact absurd c1 (by
      rw [hx0]
      intro q
      have := (nI_eq hl31 (show w.2 < 2 ^ 31 by omega)).mp q
      omega)
theorem m_copyOf : Cond.static yJ7_copyOf_59c91 ∈ lw_good ∧ Cond.initialized yJ7_copyOf_59c91.cls ∈ lw_good ∧ Cond.code yJ7_copyOf_59c91 cJ7_copyOf_59c91 3 (some (.array .int)) ∈ lw_good := by decide +kernel
set_option maxHeartbeats 4000000 in
set_option maxRecDepth 100000 in
theorem k_grow {p : Program} {l : Launch} {e : Env} {R : Room} {s : State} {m : MethodId} {args : Array Value} {below : List Frame} {meth : Method} {c : Code} {H : Heap} {locs : List Loc} {cells : Nat} {Q : State → Prop} {cc : ByteArray} {nL pc idx idx2 : Nat} {ls : Array Slot} {rest : List Value} {own : String} {G : Gm} {A : Nat → Prop} {H0 : Heap} {la : Nat} {w : CW} {x : Int32} {w' : CW} {n : Nat} (X : CX own cc nL G p s m args c) (h : CH G (cw G la w) A H0 H locs) (hA : ∀ q, H0.size ≤ q → A q) (hf : f_grow x w = some (w', n)) (hlk : Cond.methodLink own idx yJ7_copyOf_59c91 ∈ lw_good) (hd : decode cc pc = .ok (.invokestatic idx, 3)) (hlf : Cond.fieldLink own idx2 "WashHouse$Cells" "log" "[I" ∈ lw_good) (hd2 : decode cc (pc + 3) = .ok (.putfield idx2, 3)) (hsz : ls.size = nL) (hR : 2 ≤ R.frames ∧ 70 ≤ R.locals) (hrest : ((Value.ref (gq G 1) :: rest).map fun v => v.category).sum ≤ 8) (hk : cells + n ≤ R.cells ∧ 4096 * cells + 4096 * n ≤ R.slots)
    (k : ∀ (la : Nat) (H : Heap) (locs : List Loc), CH G (cw G la w') A H0 H locs → W p l e R s m args below meth c H locs (cells + n) (4096 * (cells + n)) Q (F0 m (pc + 3 + 3) ls rest)) : W p l e R s m args below meth c H locs cells (4096 * cells) Q (F0 m pc ls (.int x :: .ref la :: .ref (gq G 1) :: rest)) := by
  obtain ⟨⟨hx0, hw1, hw2, hw3⟩, hf⟩ := chk_some hf
  cases hf
  refine va_callr (runS (As := [.ref la, .int x]) X.1 2 (t_copyOf l G la w x hx0 hw1 hw2 H.size) rfl rfl hlk m_copyOf (by decide +kernel) ⟨hR.1, hR.2⟩ ⟨blindM, preM X.2 h⟩ rfl hsz hrest hd ⟨by omega, by omega⟩) h.2.2 (fun q _ z => chF h hA q z) (chF h hA) (fun u a t H1 locs1 ht hvm hw hB hz hkk hS => ?_)
  rw [ht] at hB
  have hD1 := hB.2.weaken (fun _ _ _ z => chF h hA _ z)
  refine va_put (D := G.1) (ci := 1) (v := .ref a) (ty := .array .int) (C := RX1) (T := TX1) (N := 7) X.1.1 X.1.2.1 X.1.2.2.2.2 iX1 tyX1 tyX1_ok nmX1 X.1.2.2.2.1 X.2.1 hB.1 hD1 hS 1 rfl rfl 2 (by decide) (X.1.2.2.2.2 _ hlf) (fun _ h9 => h9) rfl (by decide +kernel) rfl rfl (Nat.le_of_ble_eq_true rfl) hd2 (fun H2 locs2 hP2 hD2 hS2 => ?_)
  refine W.widen (k := cells + 2 * w.2 / 4096) (n := 4096 * (cells + 2 * w.2 / 4096)) (by omega) (by omega) ?_
  refine k a H2 locs2 ⟨?_, ?_, hS2⟩
  · exact hP2.sub [0, 1, 2, 3, 4, 5, 6, 7, 8, 9, 10, 11, 12, 38, 14, 15, 16, 17, 18, 19, 20, 21, 22, 23, 24, 25, 26, 27, 28, 29, 30, 31, 32, 33, 34, 35, 36, 37] rfl
  · exact hD2.sub [0, 1, 2, 3, 4, 5, 6, 7, 8, 9, 10, 11, 12, 38, 14, 15, 16, 17, 18, 19, 20, 21, 22, 23, 24, 25, 26, 27, 28, 29, 30, 31, 32, 33, 34, 35, 36, 37] (by decide) rfl
