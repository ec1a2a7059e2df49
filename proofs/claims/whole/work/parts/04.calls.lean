def QcV (v : Value) : Array Value → State → Outcome → State → Prop := fun _ st o t => o = .returned (some v) ∧ t.heap = st.heap
def cPreP (As : List Value) : Array Value → State → Prop := va_Pc As (fun _ => True)
def cPreR (G : Gm) (ws : va_W) (As : List Value) : Array Value → State → Prop := va_Pc As (fun U => va_P G.1 vwCl ws U.heap ∧ KK G U ∧ va_D (fun _ => True) ws)
def cPreM (G : Gm) (ws : va_W) (sz : Nat) (As : List Value) : Array Value → State → Prop := va_Pc As (fun U => U.heap.size = sz ∧ va_P G.1 vwCl ws U.heap ∧ KK G U ∧ va_D (fun _ => True) ws)
abbrev MetP (l : Launch) (y : MethodName) (cc : ByteArray) (maxL : Nat) (ret : Option FieldType) (fr lo : Nat) (As : List Value) (v : Value) : Prop :=
  Met l y (.code y cc maxL ret :: lw_good) { frames := fr, cells := 0, slots := 0, locals := lo } (cPreP As) (QcV v) 0 0 (fun _ => False)
abbrev MetR (l : Launch) (y : MethodName) (cc : ByteArray) (maxL : Nat) (ret : Option FieldType) (fr lo : Nat) (G : Gm) (ws : va_W) (As : List Value) (v : Value) : Prop :=
  Met l y (.code y cc maxL ret :: lw_good) { frames := fr, cells := 0, slots := 0, locals := lo } (cPreR G ws As) (QcV v) 0 0 (fun _ => False)
def QI (G : Gm) (ws : va_W) (sz : Nat) (r : Int32) (W' : Nat → va_W) : Array Value → State → Outcome → State → Prop := va_Qi (fun r1 (_ : Nat) => r1 = r) (fun u t => va_P G.1 vwCl (W' u) t.heap ∧ va_D (va_A ws sz) (W' u)) (va_A ws sz)
def QV (G : Gm) (ws : va_W) (sz : Nat) (W' : Nat → va_W) : Array Value → State → Outcome → State → Prop := va_Qv (fun (_ : Nat) => True) (fun u t => va_P G.1 vwCl (W' u) t.heap ∧ va_D (va_A ws sz) (W' u)) (va_A ws sz)
def QL (G : Gm) (ws : va_W) (sz : Nat) (r : Int64) (W' : Nat → va_W) : Array Value → State → Outcome → State → Prop := va_Ql (fun r1 (_ : Nat) => r1 = r) (fun u t => va_P G.1 vwCl (W' u) t.heap ∧ va_D (va_A ws sz) (W' u)) (va_A ws sz)
abbrev MetL (l : Launch) (y : MethodName) (cc : ByteArray) (maxL : Nat) (ret : Option FieldType) (fr lo : Nat) (G : Gm) (ws : va_W) (As : List Value) (r : Int64) (W' : Nat → va_W) (n : Nat) : Prop :=
  ∀ sz, Met l y (.code y cc maxL ret :: lw_good) { frames := fr, cells := n, slots := 4096 * n, locals := lo } (cPreM G ws sz As) (QL G ws sz r W') n (4096 * n) (va_A ws sz)
abbrev MetI (l : Launch) (y : MethodName) (cc : ByteArray) (maxL : Nat) (ret : Option FieldType) (fr lo : Nat) (G : Gm) (ws : va_W) (As : List Value) (r : Int32) (W' : Nat → va_W) (n : Nat) : Prop :=
  ∀ sz, Met l y (.code y cc maxL ret :: lw_good) { frames := fr, cells := n, slots := 4096 * n, locals := lo } (cPreM G ws sz As) (QI G ws sz r W') n (4096 * n) (va_A ws sz)
abbrev MetV (l : Launch) (y : MethodName) (cc : ByteArray) (maxL : Nat) (fr lo : Nat) (G : Gm) (ws : va_W) (As : List Value) (W' : Nat → va_W) (n : Nat) : Prop :=
  ∀ sz, Met l y (.code y cc maxL none :: lw_good) { frames := fr, cells := n, slots := 4096 * n, locals := lo } (cPreM G ws sz As) (QV G ws sz W') n (4096 * n) (va_A ws sz)
theorem ent {l : Launch} {y : MethodName} {cc : ByteArray} {maxL : Nat} {ret : Option FieldType} {rm : Room} {Pc : Array Value → State → Prop} {Qc : Array Value → State → Outcome → State → Prop} {mc ms : Nat} {free : Addr → Prop} {As : List Value} {own : String}
    (hy : plainFor y = true) (ho : y.cls = own) (hn : (lg_sl As).length ≤ maxL) (hPc : ∀ a U, Pc a U → a = As.toArray)
    (body : ∀ (p : Program) (e : Env) (s : State) (m : MethodId) (args : Array Value) (below : List Frame) (meth : Method) (c : Code) (ls : Array Slot), CB own cc maxL p s m args c → meth.sig.returnType = ret → meth.locks = false → Pc args s → lv_has ls maxL (lv_args 0 As) →
      W p l e rm s m args below meth c s.heap [] 0 0 (MQ below Qc args s mc ms free) (F0 m 0 ls [])) : Met l y (.code y cc maxL ret :: lw_good) rm Pc Qc mc ms free := by
  refine va_MetF (cc := cc) (maxL := maxL) (ret := ret) hy rfl ?_
  intro p e s m args below meth c s₁ B hml hv
  have ha := hPc args s hv
  have hts := atoms_spec (ws := .code y cc maxL ret :: lw_good) B.pre
  have hown : s.vm.findClass y.cls = some m.cls := findClass_of_methodNamed B.named
  rw [ho] at hown
  have hl := lv_entry As (n := maxL) hn
  have K := body p e s m args below meth c _ ⟨B.exec, B.bytes, hml, hown, fun w hw => hts w (List.mem_cons_of_mem _ hw)⟩ B.returns B.notSynchronized hv hl
  rw [ha] at K ⊢
  rw [lg_entry_eq]
  exact K
theorem narB {v : Int32} (h : v = 0 ∨ v = 1) : narrow .boolean (.int v) = .int v := by
  rcases h with rfl | rfl <;> decide +kernel
section CL
variable {p : Program} {l : Launch} {e : Env} {R : Room} {s : State} {m : MethodId} {args : Array Value} {below : List Frame} {meth : Method} {c : Code} {H : Heap} {locs : List Loc} {cells slots : Nat} {Q : State → Prop}
variable {cc : ByteArray} {nL pc : Nat} {ls : Array Slot} {rest : List Value} {own : String} {G : Gm} {A : Nat → Prop} {H0 : Heap} {ws : va_W}
variable {y x : MethodName} {bytes : ByteArray} {maxL mc ms n idx : Nat} {ret : Option FieldType} {rm : Room} {Pc : Array Value → State → Prop} {Qc : Array Value → State → Outcome → State → Prop} {free : Addr → Prop} {As st0 : List Value} {b : Addr} {C : String}
theorem blindP : FrameBlind (cPreP As) := fun a U g mk q => ⟨q.1, trivial⟩
theorem blindR : FrameBlind (cPreR G ws As) := fun a U g mk q => ⟨q.1, q.2.1, KK.same (u := U) (U := U.calling g mk a) rfl q.2.2.1, q.2.2.2⟩
theorem blindM {sz : Nat} : FrameBlind (cPreM G ws sz As) := fun a U g mk q => ⟨q.1, q.2.1, q.2.2.1, KK.same (u := U) (U := U.calling g mk a) rfl q.2.2.2.1, q.2.2.2.2⟩
theorem preP : ∀ U : State, U.heap = H → s.WarmedH U.vm → cPreP As As.toArray U := fun _ _ _ => ⟨rfl, trivial⟩
theorem preR (hK : KK G s) (h : CH G ws A H0 H locs) : ∀ U : State, U.heap = H → s.WarmedH U.vm → cPreR G ws As As.toArray U := fun U hU hW => ⟨rfl, by rw [hU]; exact h.1, KK.warm hW hK, h.2.1.weaken (fun _ _ _ _ => trivial)⟩
theorem preM (hK : KK G s) (h : CH G ws A H0 H locs) : ∀ U : State, U.heap = H → s.WarmedH U.vm → cPreM G ws H.size As As.toArray U := fun U hU hW => ⟨rfl, by rw [hU], by rw [hU]; exact h.1, KK.warm hW hK, h.2.1.weaken (fun _ _ _ _ => trivial)⟩
theorem runS (B : CB own cc nL p s m args c) (n : Nat) (hM : Met l y (.code y bytes maxL ret :: lw_good) rm Pc Qc mc ms free) (hrc : rm.cells = mc) (hrs : rm.slots = ms) (hlk : Cond.methodLink own idx y ∈ lw_good)
    (hw : Cond.static y ∈ lw_good ∧ Cond.initialized y.cls ∈ lw_good ∧ Cond.code y bytes maxL ret ∈ lw_good) (hd : y.cls ≠ "java/lang/invoke/MethodHandle" ∧ y.cls ≠ "java/lang/invoke/VarHandle" ∧ (parseMethodDescriptor y.desc).map (fun d => d.parameters.length) = some n) (hR : rm.frames + 1 ≤ R.frames ∧ 8 + (maxL + 11) + rm.locals ≤ R.locals)
    (hp : PreS s H Pc As) (hn : As.length = n) (hsize : ls.size = nL) (hrest : (rest.map fun v => v.category).sum ≤ 8) (hdg : decode cc pc = .ok (.invokestatic idx, 3)) (hf : cells + mc ≤ R.cells ∧ slots + ms ≤ R.slots) :
    va_Run p l e R s m args below meth c H locs cells slots mc ms (F0 m pc ls (As.reverse ++ rest)) rest (Qc As.toArray) free :=
  va_runS B hM (va_cwS n B.2.2.2.2 (good_cons (big := []) hw.2.2 (fun w h => by
    simp only [List.mem_cons, List.not_mem_nil, or_false] at h
    rcases h with rfl | rfl | rfl
    · exact hlk
    · exact hw.1
    · exact hw.2.1)) rfl hrc hrs hd hR) hp rfl hn hsize rfl (lv_room hrest) hdg hf
theorem runV (B : CB own cc nL p s m args c) (n : Nat) (hM : Met l y (.code y bytes maxL ret :: lw_good) rm Pc Qc mc ms free) (hrc : rm.cells = mc) (hrs : rm.slots = ms) (hlk : Cond.methodLink own idx y ∈ lw_good)
    (hw : Cond.instanceMethod y ∈ lw_good ∧ Cond.selects C y y ∈ lw_good ∧ Cond.initialized C ∈ lw_good ∧ Cond.code y bytes maxL ret ∈ lw_good) (hd : y.cls = C ∧ y.cls ≠ "java/lang/invoke/MethodHandle" ∧ y.cls ≠ "java/lang/invoke/VarHandle" ∧ (parseMethodDescriptor y.desc).map (fun d => d.parameters.length) = some n) (hR : rm.frames + 1 ≤ R.frames ∧ 8 + (maxL + 11) + rm.locals ≤ R.locals)
    (hp : PreV s H C b Pc As) (hn : As.length = n) (hsize : ls.size = nL) (hrest : (rest.map fun v => v.category).sum ≤ 8) (hdg : decode cc pc = .ok (.invokevirtual idx, 3)) (hf : cells + mc ≤ R.cells ∧ slots + ms ≤ R.slots) :
    va_Run p l e R s m args below meth c H locs cells slots mc ms (F0 m pc ls (As.reverse ++ .ref b :: rest)) rest (Qc (Value.ref b :: As).toArray) free :=
  va_runV B hM (cwV n B.2.2.2.2 (good_cons (big := []) hw.2.2.2 (fun w h => by
    simp only [List.mem_cons, List.not_mem_nil, or_false] at h
    rcases h with rfl | rfl | rfl | rfl
    · exact hlk
    · exact hw.1
    · exact hw.2.1
    · exact hw.2.2.1)) rfl hrc hrs hd hR) hp rfl hn hsize rfl (lv_room hrest) hdg hf
theorem runSN (B : CB own cc nL p s m args c) (n : Nat) (hM : Met l y (.code y bytes maxL ret :: lw_good) rm Pc Qc mc ms free) (hrc : rm.cells = mc) (hrs : rm.slots = ms) {host : String} (hlk : va_Nw (.methodLinkNest own idx y host) s)
    (hw : Cond.static y ∈ lw_good ∧ Cond.initialized y.cls ∈ lw_good ∧ Cond.code y bytes maxL ret ∈ lw_good) (hd : y.cls ≠ "java/lang/invoke/MethodHandle" ∧ y.cls ≠ "java/lang/invoke/VarHandle" ∧ (parseMethodDescriptor y.desc).map (fun d => d.parameters.length) = some n) (hR : rm.frames + 1 ≤ R.frames ∧ 8 + (maxL + 11) + rm.locals ≤ R.locals)
    (hp : PreS s H Pc As) (hn : As.length = n) (hsize : ls.size = nL) (hrest : (rest.map fun v => v.category).sum ≤ 8) (hdg : decode cc pc = .ok (.invokestatic idx, 3)) (hf : cells + mc ≤ R.cells ∧ slots + ms ≤ R.slots) :
    va_Run p l e R s m args below meth c H locs cells slots mc ms (F0 m pc ls (As.reverse ++ rest)) rest (Qc As.toArray) free :=
  va_runSN B hM ⟨va_cnB n B.2.2.2.2 (good_cons (ws := []) (big := []) hw.2.2 (fun w h => by cases h)) rfl hrc hrs hlk (B.2.2.2.2 _ hw.2.1) hd hR, B.2.2.2.2 _ hw.1, trivial⟩ hp rfl hn hsize rfl (lv_room hrest) hdg hf
theorem runSU {cC : ClassId} (hat : ClassAt s C cC) (B : CB own cc nL p s m args c) (n : Nat) (hM : Met l y (.code y bytes maxL ret :: lw_good) rm Pc Qc mc ms free) (hrc : rm.cells = mc) (hrs : rm.slots = ms) (hlk : Cond.methodLink own idx y ∈ lw_good)
    (hw : Cond.sameMethod y.cls y.cls y.name y.desc ∈ lw_good ∧ Cond.superclass own y.cls ∈ lw_good ∧ Cond.instanceMethod y ∈ lw_good ∧ Cond.initialized y.cls ∈ lw_good ∧ Cond.code y bytes maxL ret ∈ lw_good) (hd : y.name ≠ "<init>" ∧ (parseMethodDescriptor y.desc).map (fun d => d.parameters.length) = some n) (hR : rm.frames + 1 ≤ R.frames ∧ 8 + (maxL + 11) + rm.locals ≤ R.locals)
    (hp : PreV s H C b Pc As) (hn : As.length = n) (hsize : ls.size = nL) (hrest : (rest.map fun v => v.category).sum ≤ 8) (hdg : decode cc pc = .ok (.invokespecial idx, 3)) (hf : cells + mc ≤ R.cells ∧ slots + ms ≤ R.slots) :
    va_Run p l e R s m args below meth c H locs cells slots mc ms (F0 m pc ls (As.reverse ++ .ref b :: rest)) rest (Qc (Value.ref b :: As).toArray) free :=
  va_runSU hat B hM (va_cwSU n B.2.2.2.2 (good_cons (big := []) hw.2.2.2.2 (fun w h => by
    simp only [List.mem_cons, List.not_mem_nil, or_false] at h
    rcases h with rfl | rfl | rfl | rfl | rfl
    · exact hlk
    · exact hw.1
    · exact hw.2.1
    · exact hw.2.2.1
    · exact hw.2.2.2.1)) rfl hrc hrs hd hR) hp rfl hn hsize rfl (lv_room hrest) hdg hf
theorem runU {owner : String} (B : CB own cc nL p s m args c) (n : Nat) (hM : Met l y (.code y bytes maxL ret :: lw_good) rm Pc Qc mc ms free) (hrc : rm.cells = mc) (hrs : rm.slots = ms) (hlk : Cond.methodLink own idx x ∈ lw_good)
    (hw : Cond.sameMethod x.cls owner x.name x.desc ∈ lw_good ∧ Cond.selects C x y ∈ lw_good ∧ Cond.instanceMethod y ∈ lw_good ∧ Cond.initialized y.cls ∈ lw_good ∧ Cond.code y bytes maxL ret ∈ lw_good) (hyx : y = ⟨owner, x.name, x.desc⟩) (hd : owner ≠ "java/lang/invoke/MethodHandle" ∧ owner ≠ "java/lang/invoke/VarHandle" ∧ (parseMethodDescriptor x.desc).map (fun d => d.parameters.length) = some n) (hR : rm.frames + 1 ≤ R.frames ∧ 8 + (maxL + 11) + rm.locals ≤ R.locals)
    (hp : PreV s H C b Pc As) (hn : As.length = n) (hsize : ls.size = nL) (hrest : (rest.map fun v => v.category).sum ≤ 8) (hdg : decode cc pc = .ok (.invokevirtual idx, 3)) (hf : cells + mc ≤ R.cells ∧ slots + ms ≤ R.slots) :
    va_Run p l e R s m args below meth c H locs cells slots mc ms (F0 m pc ls (As.reverse ++ .ref b :: rest)) rest (Qc (Value.ref b :: As).toArray) free :=
  va_runU B hM (va_cwU n B.2.2.2.2 (good_cons (big := []) hw.2.2.2.2 (fun w h => by
    simp only [List.mem_cons, List.not_mem_nil, or_false] at h
    rcases h with rfl | rfl | rfl | rfl | rfl
    · exact hlk
    · exact hw.1
    · exact hw.2.1
    · exact hw.2.2.1
    · exact hw.2.2.2.1)) rfl hrc hrs hyx hd hR) hp rfl hn hsize rfl (lv_room hrest) hdg hf
theorem runO {owner : String} (B : CB own cc nL p s m args c) (n : Nat) (hM : Met l y (.code y bytes maxL ret :: lw_good) rm Pc Qc mc ms free) (hrc : rm.cells = mc) (hrs : rm.slots = ms) (hlk : Cond.methodLink own idx x ∈ lw_good)
    (hw : Cond.sameMethod x.cls owner x.name x.desc ∈ lw_good ∧ Cond.instanceMethod ⟨owner, x.name, x.desc⟩ ∈ lw_good ∧ Cond.selects C x y ∈ lw_good ∧ Cond.instanceMethod y ∈ lw_good ∧ Cond.initialized y.cls ∈ lw_good ∧ Cond.code y bytes maxL ret ∈ lw_good) {b0 : ByteArray} {m0 : Nat} {r0 : Option FieldType} (h0 : Cond.code ⟨owner, x.name, x.desc⟩ b0 m0 r0 ∈ lw_good) (hd : owner ≠ "java/lang/invoke/MethodHandle" ∧ owner ≠ "java/lang/invoke/VarHandle" ∧ (parseMethodDescriptor x.desc).map (fun d => d.parameters.length) = some n) (hR : rm.frames + 1 ≤ R.frames ∧ 8 + (maxL + 11) + rm.locals ≤ R.locals)
    (hp : PreV s H C b Pc As) (hn : As.length = n) (hsize : ls.size = nL) (hrest : (rest.map fun v => v.category).sum ≤ 8) (hdg : decode cc pc = .ok (.invokevirtual idx, 3)) (hf : cells + mc ≤ R.cells ∧ slots + ms ≤ R.slots) :
    va_Run p l e R s m args below meth c H locs cells slots mc ms (F0 m pc ls (As.reverse ++ .ref b :: rest)) rest (Qc (Value.ref b :: As).toArray) free :=
  va_runU B hM (va_cwO n B.2.2.2.2 (good_cons (big := []) hw.2.2.2.2.2 (fun w h => by
    simp only [List.mem_cons, List.not_mem_nil, or_false] at h
    rcases h with rfl | rfl | rfl | rfl | rfl | rfl
    · exact hlk
    · exact hw.1
    · exact hw.2.1
    · exact hw.2.2.1
    · exact hw.2.2.2.1
    · exact hw.2.2.2.2.1)) rfl hrc hrs h0 hd hR) hp rfl hn hsize rfl (lv_room hrest) hdg hf
variable {v : Value} {r : Int32} {a : Array Value} {W' : Nat → va_W}
theorem fin_r (hr : va_Run p l e R s m args below meth c H locs cells slots 0 0 (F0 m pc ls st0) rest (QcV v a) (fun _ => False)) (k : W p l e R s m args below meth c H locs cells slots Q (F0 m (pc + 3) ls (v :: rest))) : W p l e R s m args below meth c H locs cells slots Q (F0 m pc ls st0) := by
  intro T hT X
  obtain ⟨v, st₀, t, T', L, h0, X', hL, e1, e2, ⟨hv, hh⟩, st⟩ := hr T hT X
  cases hv
  obtain ⟨t2, a1, b1⟩ := k T' (by rw [e1, hh, h0]) (Stand.forget X' (fun q h => (hL q h).elim))
  exact ⟨t2, st t2 a1, b1⟩
theorem chF (h : CH G ws A H0 H locs) (hA : ∀ q, H0.size ≤ q → A q) : ∀ q, va_A ws H.size q → A q := by
  intro q hq
  rcases hq with ⟨k, e, hk⟩ | hq
  · exact h.2.1.2 k _ hk
  · exact hA q (Nat.le_trans h.2.2.1 hq)
theorem fin_i (hr : va_Run p l e R s m args below meth c H locs cells slots n (4096 * n) (F0 m pc ls st0) rest (QI G ws H.size r W' a) (va_A ws H.size)) (h : CH G ws A H0 H locs) (hA : ∀ q, H0.size ≤ q → A q)
    (k : ∀ (u : Nat) (H : Heap) (locs : List Loc), CH G (W' u) A H0 H locs → W p l e R s m args below meth c H locs (cells + n) (slots + 4096 * n) Q (F0 m (pc + 3) ls (.int r :: rest))) : W p l e R s m args below meth c H locs cells slots Q (F0 m pc ls st0) :=
  va_calli hr h.2.2 (fun q _ z => chF h hA q z) (chF h hA) (fun r1 u t H1 locs1 ht hvm hw hB hz hk hS => by
    subst hw
    exact k u H1 locs1 ⟨by rw [← ht]; exact hB.1, hB.2.weaken (fun _ _ _ z => chF h hA _ z), hS⟩)
theorem fin_l {r : Int64} (hr : va_Run p l e R s m args below meth c H locs cells slots n (4096 * n) (F0 m pc ls st0) rest (QL G ws H.size r W' a) (va_A ws H.size)) (h : CH G ws A H0 H locs) (hA : ∀ q, H0.size ≤ q → A q)
    (k : ∀ (u : Nat) (H : Heap) (locs : List Loc), CH G (W' u) A H0 H locs → W p l e R s m args below meth c H locs (cells + n) (slots + 4096 * n) Q (F0 m (pc + 3) ls (.long r :: rest))) : W p l e R s m args below meth c H locs cells slots Q (F0 m pc ls st0) :=
  va_calll hr h.2.2 (fun q _ z => chF h hA q z) (chF h hA) (fun r1 u t H1 locs1 ht hvm hw hB hz hk hS => by
    subst hw
    exact k u H1 locs1 ⟨by rw [← ht]; exact hB.1, hB.2.weaken (fun _ _ _ z => chF h hA _ z), hS⟩)
theorem fin_v (hr : va_Run p l e R s m args below meth c H locs cells slots n (4096 * n) (F0 m pc ls st0) rest (QV G ws H.size W' a) (va_A ws H.size)) (h : CH G ws A H0 H locs) (hA : ∀ q, H0.size ≤ q → A q)
    (k : ∀ (u : Nat) (H : Heap) (locs : List Loc), CH G (W' u) A H0 H locs → W p l e R s m args below meth c H locs (cells + n) (slots + 4096 * n) Q (F0 m (pc + 3) ls rest)) : W p l e R s m args below meth c H locs cells slots Q (F0 m pc ls st0) :=
  va_callv hr h.2.2 (fun q _ z => chF h hA q z) (chF h hA) (fun u t H1 locs1 ht hvm hw hB hz hk hS => by
    exact k u H1 locs1 ⟨by rw [← ht]; exact hB.1, hB.2.weaken (fun _ _ _ z => chF h hA _ z), hS⟩)
theorem ret_i (B : CB own cc nL p s m args c) (hr : meth.sig.returnType = some .int) (hlocks : meth.locks = false) {u : Nat} (h : CH G (W' u) (va_A ws s.heap.size) s.heap H locs) (hd : decode cc pc = .ok (.ireturn, 1)) :
    W p l e R s m args below meth c H locs cells slots (MQ below (QI G ws s.heap.size r W') args s cells slots (va_A ws s.heap.size)) (F0 m pc ls [.int r]) :=
  W.iret B.1 B.2.1 hr (fun t ht hW => ⟨⟨r, u, rfl, rfl, by rw [ht]; exact h.1, h.2.1⟩, h.2.2.F ht⟩) h.2.2.2.2 hd hlocks
theorem ret_z (B : CB own cc nL p s m args c) (hr : meth.sig.returnType = some .boolean) (hlocks : meth.locks = false) (hv : r = 0 ∨ r = 1) {u : Nat} (h : CH G (W' u) (va_A ws s.heap.size) s.heap H locs) (hd : decode cc pc = .ok (.ireturn, 1)) :
    W p l e R s m args below meth c H locs cells slots (MQ below (QI G ws s.heap.size r W') args s cells slots (va_A ws s.heap.size)) (F0 m pc ls [.int r]) :=
  W.zret B.1 B.2.1 hr (narB hv) (fun t ht hW => ⟨⟨r, u, rfl, rfl, by rw [ht]; exact h.1, h.2.1⟩, h.2.2.F ht⟩) h.2.2.2.2 hd hlocks
theorem ret_v (B : CB own cc nL p s m args c) (hr : meth.sig.returnType = none) (hlocks : meth.locks = false) {u : Nat} (h : CH G (W' u) (va_A ws s.heap.size) s.heap H locs) (hd : decode cc pc = .ok (.return_, 1)) :
    W p l e R s m args below meth c H locs cells slots (MQ below (QV G ws s.heap.size W') args s cells slots (va_A ws s.heap.size)) (F0 m pc ls []) :=
  W.vret B.1 B.2.1 hr (fun t ht hW => ⟨⟨u, rfl, trivial, by rw [ht]; exact h.1, h.2.1⟩, h.2.2.F ht⟩) h.2.2.2.2 hd hlocks
theorem rr_i (B : CB own cc nL p s m args c) (hr : meth.sig.returnType = some .int) (hlocks : meth.locks = false) (hd : decode cc pc = .ok (.ireturn, 1)) :
    W p l e R s m args below meth c s.heap [] 0 0 (MQ below (QcV (.int r)) args s 0 0 (fun _ => False)) (F0 m pc ls [.int r]) :=
  W.iret B.1 B.2.1 hr (fun t ht hW => ⟨rfl, ht⟩) (fun q h => by cases h) hd hlocks
theorem rr_z (B : CB own cc nL p s m args c) (hr : meth.sig.returnType = some .boolean) (hlocks : meth.locks = false) (hv : r = 0 ∨ r = 1) (hd : decode cc pc = .ok (.ireturn, 1)) :
    W p l e R s m args below meth c s.heap [] 0 0 (MQ below (QcV (.int r)) args s 0 0 (fun _ => False)) (F0 m pc ls [.int r]) :=
  W.zret B.1 B.2.1 hr (narB hv) (fun t ht hW => ⟨rfl, ht⟩) (fun q h => by cases h) hd hlocks
theorem rr_l (B : CB own cc nL p s m args c) (hr : meth.sig.returnType = some .long) (hlocks : meth.locks = false) {r : Int64} (hd : decode cc pc = .ok (.lreturn, 1)) :
    W p l e R s m args below meth c s.heap [] 0 0 (MQ below (QcV (.long r)) args s 0 0 (fun _ => False)) (F0 m pc ls [.long r]) :=
  W.lret B.1 B.2.1 hr (fun t ht hW => ⟨rfl, ht⟩) (fun q h => by cases h) hd hlocks
theorem rr_a (B : CB own cc nL p s m args c) {nm : String} (hr : meth.sig.returnType = some (.object nm)) (hlocks : meth.locks = false) {a : Nat} (hd : decode cc pc = .ok (.areturn, 1)) :
    W p l e R s m args below meth c s.heap [] 0 0 (MQ below (QcV (.ref a)) args s 0 0 (fun _ => False)) (F0 m pc ls [.ref a]) :=
  W.aret B.1 B.2.1 hr (Or.inl ⟨_, rfl⟩) (Or.inr ⟨_, rfl⟩) (fun t ht hW => ⟨rfl, ht⟩) (fun q h => by cases h) hd hlocks
theorem m_max (B : CB own cc nL p s m args c) (hsz : ls.size = nL) (hlk : Cond.methodLink own idx Lib.Math.max.name ∈ lw_good) (hw : Cond.static Lib.Math.max.name ∈ lw_good ∧ Cond.initialized "java/lang/Math" ∈ lw_good ∧ Cond.code Lib.Math.max.name Lib.Math.max.code 2 (some .int) ∈ lw_good)
    (hR : 1 ≤ R.frames ∧ (rest.map fun v => v.category).sum + 13 ≤ R.locals) (hk : cells ≤ R.cells ∧ slots ≤ R.slots) {x y : Int32} (hd : decode cc pc = .ok (.invokestatic idx, 3)) (k : W p l e R s m args below meth c H locs cells slots Q (F0 m (pc + 3) ls (.int (if x < y then y else x) :: rest))) : W p l e R s m args below meth c H locs cells slots Q (F0 m pc ls (.int y :: .int x :: rest)) :=
  va_mmax B.1 B.2.1 (B.2.2.1.trans hsz.symm) B.2.2.2.1 (B.2.2.2.2 _ hlk) (B.2.2.2.2 _ hw.1) (B.2.2.2.2 _ hw.2.1) (B.2.2.2.2 _ hw.2.2) hR.1 hR.2 hk.1 hk.2 hd k
theorem m_min (B : CB own cc nL p s m args c) (hsz : ls.size = nL) (hlk : Cond.methodLink own idx Lib.Math.min.name ∈ lw_good) (hw : Cond.static Lib.Math.min.name ∈ lw_good ∧ Cond.initialized "java/lang/Math" ∈ lw_good ∧ Cond.code Lib.Math.min.name Lib.Math.min.code 2 (some .int) ∈ lw_good)
    (hR : 1 ≤ R.frames ∧ (rest.map fun v => v.category).sum + 13 ≤ R.locals) (hk : cells ≤ R.cells ∧ slots ≤ R.slots) {x y : Int32} (hd : decode cc pc = .ok (.invokestatic idx, 3)) (k : W p l e R s m args below meth c H locs cells slots Q (F0 m (pc + 3) ls (.int (if y < x then y else x) :: rest))) : W p l e R s m args below meth c H locs cells slots Q (F0 m pc ls (.int y :: .int x :: rest)) :=
  va_mmin B.1 B.2.1 (B.2.2.1.trans hsz.symm) B.2.2.2.1 (B.2.2.2.2 _ hlk) (B.2.2.2.2 _ hw.1) (B.2.2.2.2 _ hw.2.1) (B.2.2.2.2 _ hw.2.2) hR.1 hR.2 hk.1 hk.2 hd k
theorem nm_i {x y : Int32} (h : x = y) (k : W p l e R s m args below meth c H locs cells slots Q (F0 m pc ls (.int y :: rest))) : W p l e R s m args below meth c H locs cells slots Q (F0 m pc ls (.int x :: rest)) := by subst h; exact k
theorem nm_l {x y : Int64} (h : x = y) (k : W p l e R s m args below meth c H locs cells slots Q (F0 m pc ls (.long y :: rest))) : W p l e R s m args below meth c H locs cells slots Q (F0 m pc ls (.long x :: rest)) := by subst h; exact k
theorem wid0 {g : JFrame} (k : W p l e R s m args below meth c H locs 0 (4096 * 0) Q g) : W p l e R s m args below meth c H locs 0 0 Q g := k
section EE
variable {α : Type} {Wf : α → va_W} {w w' : α} {vi : Int32}
theorem e0_i (B : CB own cc nL p s m args c) (hr : meth.sig.returnType = some .int) (hlocks : meth.locks = false) (hf : some (vi, w) = some (r, w')) (h : CH G (Wf w) (va_A ws s.heap.size) s.heap H locs) (hd : decode cc pc = .ok (.ireturn, 1)) :
    W p l e R s m args below meth c H locs cells slots (MQ below (QI G ws s.heap.size r (fun _ => Wf w')) args s cells slots (va_A ws s.heap.size)) (F0 m pc ls [.int vi]) := by
  cases hf
  exact ret_i (W' := fun _ => Wf w) (u := 0) B hr hlocks h hd
theorem e0_l {r vi : Int64} (B : CB own cc nL p s m args c) (hr : meth.sig.returnType = some .long) (hlocks : meth.locks = false) (hf : some (vi, w) = some (r, w')) (h : CH G (Wf w) (va_A ws s.heap.size) s.heap H locs) (hd : decode cc pc = .ok (.lreturn, 1)) :
    W p l e R s m args below meth c H locs cells slots (MQ below (QL G ws s.heap.size r (fun _ => Wf w')) args s cells slots (va_A ws s.heap.size)) (F0 m pc ls [.long vi]) := by
  cases hf
  exact W.lret B.1 B.2.1 hr (fun t ht hW => ⟨⟨_, 0, rfl, rfl, by rw [ht]; exact h.1, h.2.1⟩, h.2.2.F ht⟩) h.2.2.2.2 hd hlocks
theorem e0_z (B : CB own cc nL p s m args c) (hr : meth.sig.returnType = some .boolean) (hlocks : meth.locks = false) (hv : vi = 0 ∨ vi = 1) (hf : some (vi, w) = some (r, w')) (h : CH G (Wf w) (va_A ws s.heap.size) s.heap H locs) (hd : decode cc pc = .ok (.ireturn, 1)) :
    W p l e R s m args below meth c H locs cells slots (MQ below (QI G ws s.heap.size r (fun _ => Wf w')) args s cells slots (va_A ws s.heap.size)) (F0 m pc ls [.int vi]) := by
  cases hf
  exact ret_z (W' := fun _ => Wf w) (u := 0) B hr hlocks hv h hd
theorem e0_v (B : CB own cc nL p s m args c) (hr : meth.sig.returnType = none) (hlocks : meth.locks = false) (hf : some w = some w') (h : CH G (Wf w) (va_A ws s.heap.size) s.heap H locs) (hd : decode cc pc = .ok (.return_, 1)) :
    W p l e R s m args below meth c H locs cells slots (MQ below (QV G ws s.heap.size (fun _ => Wf w')) args s cells slots (va_A ws s.heap.size)) (F0 m pc ls []) := by
  cases hf
  exact ret_v (W' := fun _ => Wf w) (u := 0) B hr hlocks h hd
end EE
theorem e1_i {la k N n0 : Nat} {w w' : CW} {vi : Int32} (B : CB own cc nL p s m args c) (hr : meth.sig.returnType = some .int) (hlocks : meth.locks = false) (hf : some ((vi, w), 0) = some ((r, w'), n0)) (h : CH G (cw G la w) (va_A ws s.heap.size) s.heap H locs) (hc : k + n0 = N) (hd : decode cc pc = .ok (.ireturn, 1)) :
    W p l e R s m args below meth c H locs k (4096 * k) (MQ below (QI G ws s.heap.size r (fun u => cw G u w')) args s N (4096 * N) (va_A ws s.heap.size)) (F0 m pc ls [.int vi]) := by
  cases hf
  subst hc
  exact ret_i (W' := fun u => cw G u w) (u := la) B hr hlocks h hd
theorem e1_v {la k N n0 : Nat} {w w' : CW} (B : CB own cc nL p s m args c) (hr : meth.sig.returnType = none) (hlocks : meth.locks = false) (hf : some (w, 0) = some (w', n0)) (h : CH G (cw G la w) (va_A ws s.heap.size) s.heap H locs) (hc : k + n0 = N) (hd : decode cc pc = .ok (.return_, 1)) :
    W p l e R s m args below meth c H locs k (4096 * k) (MQ below (QV G ws s.heap.size (fun u => cw G u w')) args s N (4096 * N) (va_A ws s.heap.size)) (F0 m pc ls []) := by
  cases hf
  subst hc
  exact ret_v (W' := fun u => cw G u w) (u := la) B hr hlocks h hd
theorem AK {la : Nat} {w : CW} {i : Int32} (X : CX own cc nL G p s m args c) (h : CH G (cw G la w) A H0 H locs) (hi : inb i 5) (hd : decode cc pc = .ok (.aaload, 1)) (k : W p l e R s m args below meth c H locs cells slots Q (F0 m (pc + 1) ls (.ref (gq G (20 + i.toNatClampNeg)) :: rest))) : W p l e R s m args below meth c H locs cells slots Q (F0 m pc ls (.int i :: .ref (gq G 4) :: rest)) := by
  refine va_aldq X.1.1 X.1.2.1 X.2.1 h.1 4 1 rfl rfl hi hd ?_
  have hlt : i.toNatClampNeg < 5 := Nat.not_le.mp fun q => hi (Or.inr q)
  rw [if_pos hlt]
  exact k
end CL
theorem inb_lt {i : Int32} {n : Nat} (h : inb i n) : i.toNatClampNeg < n := Nat.not_le.mp fun q => h (Or.inr q)
theorem rmm0 {k n N : Nat} (h : k + n = N) : k ≤ N ∧ 4096 * k ≤ 4096 * N := ⟨by omega, by omega⟩
theorem rmm1 {k n N a b : Nat} (h : k + n = N) (j : n = a + b) : k + a ≤ N ∧ 4096 * k + 4096 * a ≤ 4096 * N := ⟨by omega, by omega⟩
theorem rmm2 {k n N a b : Nat} (h : k + n = N) (j : n = a + b) : k + a + b = N := by omega
theorem mx_w : Cond.static Lib.Math.max.name ∈ lw_good ∧ Cond.initialized "java/lang/Math" ∈ lw_good ∧ Cond.code Lib.Math.max.name Lib.Math.max.code 2 (some .int) ∈ lw_good := by decide +kernel
theorem mn_w : Cond.static Lib.Math.min.name ∈ lw_good ∧ Cond.initialized "java/lang/Math" ∈ lw_good ∧ Cond.code Lib.Math.min.name Lib.Math.min.code 2 (some .int) ∈ lw_good := by decide +kernel
