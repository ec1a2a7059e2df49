def castW : List String := [RX8, RX5, RX2, RX4, RX0]
/-- what the constructors need beside the good words -/
def NI (U : State) : Prop := va_Nw (.methodLinkNest RX9 11 yX1_init RX9) U ∧ va_Nw (.methodLinkNest RX9 27 yX7_init RX9) U ∧ (∀ C ∈ castW, va_Nw (.castable C "WashHouse$Machine") U) ∧ va_AO "WashHouse$Machine" U ∧ va_AOA .int U
def KN (D : va_G) (U : State) : Prop := va_K D vwCl [] U ∧ NW U ∧ NI U
theorem NI.warm {s U : State} (hW : s.WarmedH U.vm) (h : NI s) : NI U := ⟨va_Nw.warmM hW h.1, va_Nw.warmM hW h.2.1, fun C hC => va_Nw.warmC hW (h.2.2.1 C hC), h.2.2.2.1.moved hW.alike, h.2.2.2.2.moved hW.alike⟩
theorem NI.same {u U : State} (hv : u.vm = U.vm) (h : NI u) : NI U := ⟨va_Nw.same rfl hv h.1, va_Nw.same rfl hv h.2.1, fun C hC => va_Nw.same rfl hv (h.2.2.1 C hC), h.2.2.2.1.moved (by rw [← hv]; exact Vm.Alike.refl _), h.2.2.2.2.moved (by rw [← hv]; exact Vm.Alike.refl _)⟩
theorem KN.warm {D : va_G} {s U : State} (hW : s.WarmedH U.vm) (h : KN D s) : KN D U := ⟨va_K.moved hW.alike h.1, NW.warm hW h.2.1, NI.warm hW h.2.2⟩
theorem KN.same {D : va_G} {u U : State} (hv : u.vm = U.vm) (h : KN D u) : KN D U := ⟨va_K.moved (by rw [← hv]; exact Vm.Alike.refl _) h.1, NW.same hv h.2.1, NI.same hv h.2.2⟩
def cPreI (D : va_G) (ws : va_W) (sz : Nat) (As : List Value) : Array Value → State → Prop := va_Pc As (fun U => U.heap.size = sz ∧ va_P D vwCl ws U.heap ∧ KN D U ∧ va_D (fun _ => True) ws)
theorem blindI {D : va_G} {ws : va_W} {sz : Nat} {As : List Value} : FrameBlind (cPreI D ws sz As) := fun a U g mk q => ⟨q.1, q.2.1, q.2.2.1, KN.same (u := U) (U := U.calling g mk a) rfl q.2.2.2.1, q.2.2.2.2⟩
theorem preI {D : va_G} {ws : va_W} {As : List Value} {s : State} {H : Heap} {A : Nat → Prop} (hK : KN D s) (hP : va_P D vwCl ws H) (hD : va_D A ws) : ∀ U : State, U.heap = H → s.WarmedH U.vm → cPreI D ws H.size As As.toArray U := fun U hU hW => ⟨rfl, by rw [hU], by rw [hU]; exact hP, KN.warm hW hK, hD.weaken (fun _ _ _ _ => trivial)⟩
theorem entI {l : Launch} {y : MethodName} {cc : ByteArray} {maxL : Nat} {ret : Option FieldType} {rm : Room} {Pc : Array Value → State → Prop} {Qc : Array Value → State → Outcome → State → Prop} {mc ms : Nat} {free : Addr → Prop} {As : List Value} {own : String}
    (hy : plainFor y = true) (ho : y.cls = own) (hi : y.name = "<init>") (hn : (lg_sl As).length ≤ maxL) (hPc : ∀ a U, Pc a U → a = As.toArray)
    (body : ∀ (p : Program) (e : Env) (s : State) (m : MethodId) (args : Array Value) (below : List Frame) (meth : Method) (c : Code) (ls : Array Slot), CB own cc maxL p s m args c → meth.sig.returnType = ret → meth.locks = false → meth.name = "<init>" → Pc args s → lv_has ls maxL (lv_args 0 As) →
      W p l e rm s m args below meth c s.heap [] 0 0 (MQ below Qc args s mc ms free) (F0 m 0 ls [])) : Met l y (.code y cc maxL ret :: lw_good) rm Pc Qc mc ms free := by
  refine va_MetF (cc := cc) (maxL := maxL) (ret := ret) hy rfl ?_
  intro p e s m args below meth c s₁ B hml hv
  have ha := hPc args s hv
  have hts := atoms_spec (ws := .code y cc maxL ret :: lw_good) B.pre
  have hown : s.vm.findClass y.cls = some m.cls := findClass_of_methodNamed B.named
  rw [ho] at hown
  have hl := lv_entry As (n := maxL) hn
  have hnm : meth.name = "<init>" := (name_of_methodNamed B.named B.method).1.trans hi
  have K := body p e s m args below meth c _ ⟨B.exec, B.bytes, hml, hown, fun w hw => hts w (List.mem_cons_of_mem _ hw)⟩ B.returns B.notSynchronized hnm hv hl
  rw [ha] at K ⊢
  rw [lg_entry_eq]
  exact K
theorem oi_w : Cond.instanceMethod objectInit ∈ lw_good ∧ Cond.code objectInit ⟨#[0xb1]⟩ 1 none ∈ lw_good := by decide +kernel
section RI
variable {p : Program} {l : Launch} {e : Env} {R : Room} {s : State} {m : MethodId} {args : Array Value} {below : List Frame} {meth : Method} {c : Code} {H : Heap} {locs : List Loc} {cells slots : Nat} {Q : State → Prop}
variable {cc : ByteArray} {nL pc : Nat} {ls : Array Slot} {rest : List Value} {own : String}
variable {y : MethodName} {bytes : ByteArray} {maxL mc ms idx : Nat} {rm : Room} {Pc : Array Value → State → Prop} {Qc : Array Value → State → Outcome → State → Prop} {free : Addr → Prop} {As : List Value} {b : Addr}
theorem runI (B : CB own cc nL p s m args c) (n : Nat) (hM : Met l y (.code y bytes maxL none :: lw_good) rm Pc Qc mc ms free) (hrc : rm.cells = mc) (hrs : rm.slots = ms) (hlk : Cond.methodLink own idx y ∈ lw_good)
    (hw : Cond.instanceMethod y ∈ lw_good ∧ Cond.initialized y.cls ∈ lw_good ∧ Cond.code y bytes maxL none ∈ lw_good) (hi : y.name = "<init>") (hd : y.cls ≠ "java/lang/invoke/MethodHandle" ∧ y.cls ≠ "java/lang/invoke/VarHandle" ∧ (parseMethodDescriptor y.desc).map (fun d => d.parameters.length) = some n) (hR : rm.frames + 1 ≤ R.frames ∧ 8 + (maxL + 11) + rm.locals ≤ R.locals)
    (hp : PreS s H Pc (.ref b :: As)) (hn : As.length = n) (hsize : ls.size = nL) (hrest : (rest.map fun v => v.category).sum ≤ 8) (hdg : decode cc pc = .ok (.invokespecial idx, 3)) (hf : cells + mc ≤ R.cells ∧ slots + ms ≤ R.slots) :
    va_Run p l e R s m args below meth c H locs cells slots mc ms (F0 m pc ls (As.reverse ++ .ref b :: rest)) rest (Qc (Value.ref b :: As).toArray) free :=
  va_runI B hM ⟨callB_of n B.2.2.2.2 (good_cons (ws := []) (big := []) hw.2.2 (fun w h => by cases h)) rfl hrc hrs (B.2.2.2.2 _ hw.2.1) (B.2.2.2.2 _ hlk) hd hR, hi, B.2.2.2.2 _ hw.1⟩ hp rfl hn hsize rfl (lv_room hrest) hdg hf
theorem runIN (B : CB own cc nL p s m args c) (n : Nat) (hM : Met l y (.code y bytes maxL none :: lw_good) rm Pc Qc mc ms free) (hrc : rm.cells = mc) (hrs : rm.slots = ms) {host : String} (hlk : va_Nw (.methodLinkNest own idx y host) s)
    (hw : Cond.instanceMethod y ∈ lw_good ∧ Cond.initialized y.cls ∈ lw_good ∧ Cond.code y bytes maxL none ∈ lw_good) (hi : y.name = "<init>") (hd : y.cls ≠ "java/lang/invoke/MethodHandle" ∧ y.cls ≠ "java/lang/invoke/VarHandle" ∧ (parseMethodDescriptor y.desc).map (fun d => d.parameters.length) = some n) (hR : rm.frames + 1 ≤ R.frames ∧ 8 + (maxL + 11) + rm.locals ≤ R.locals)
    (hp : PreS s H Pc (.ref b :: As)) (hn : As.length = n) (hsize : ls.size = nL) (hrest : (rest.map fun v => v.category).sum ≤ 8) (hdg : decode cc pc = .ok (.invokespecial idx, 3)) (hf : cells + mc ≤ R.cells ∧ slots + ms ≤ R.slots) :
    va_Run p l e R s m args below meth c H locs cells slots mc ms (F0 m pc ls (As.reverse ++ .ref b :: rest)) rest (Qc (Value.ref b :: As).toArray) free :=
  va_runIN B hM ⟨va_cnB n B.2.2.2.2 (good_cons (ws := []) (big := []) hw.2.2 (fun w h => by cases h)) rfl hrc hrs hlk (B.2.2.2.2 _ hw.2.1) hd hR, hi, B.2.2.2.2 _ hw.1⟩ hp rfl hn hsize rfl (lv_room hrest) hdg hf
end RI
theorem ki_X1_3 : Cond.methodLink RX1 3 objectInit ∈ lw_good := by decide +kernel
theorem ki_X1_9 : Cond.fieldLink RX1 9 "WashHouse$Cells" "now" "[I" ∈ lw_good := by decide +kernel
theorem ki_X1_15 : Cond.fieldLink RX1 15 "WashHouse$Cells" "marks" "[I" ∈ lw_good := by decide +kernel
theorem ki_X1_18 : Cond.fieldLink RX1 18 "WashHouse$Cells" "log" "[I" ∈ lw_good := by decide +kernel
theorem ki_X1_21 : Cond.fieldLink RX1 21 "WashHouse$Cells" "first" "I" ∈ lw_good := by decide +kernel
theorem ki_X1_25 : Cond.fieldLink RX1 25 "WashHouse$Cells" "end" "I" ∈ lw_good := by decide +kernel
theorem ki_X1_28 : Cond.fieldLink RX1 28 "WashHouse$Cells" "time" "I" ∈ lw_good := by decide +kernel
theorem ki_X1_31 : Cond.fieldLink RX1 31 "WashHouse$Cells" "oldest" "I" ∈ lw_good := by decide +kernel
theorem ki_X7_3 : Cond.methodLink RX7 3 objectInit ∈ lw_good := by decide +kernel
theorem ki_X7_11 : Cond.fieldLink RX7 11 "WashHouse$Trace" "bodies" "[I" ∈ lw_good := by decide +kernel
theorem ki_X7_15 : Cond.fieldLink RX7 15 "WashHouse$Trace" "size" "I" ∈ lw_good := by decide +kernel
theorem ki_X7_19 : Cond.fieldLink RX7 19 "WashHouse$Trace" "next" "I" ∈ lw_good := by decide +kernel
theorem ki_X6_3 : Cond.methodLink RX6 3 objectInit ∈ lw_good := by decide +kernel
theorem ki_X6_9 : Cond.fieldLink RX6 9 "WashHouse$Till" "byValue" "[I" ∈ lw_good := by decide +kernel
theorem ki_X6_15 : Cond.fieldLink RX6 15 "WashHouse$Till" "spare" "[I" ∈ lw_good := by decide +kernel
theorem ki_X6_18 : Cond.fieldLink RX6 18 "WashHouse$Till" "picked" "[I" ∈ lw_good := by decide +kernel
theorem ki_X6_21 : Cond.fieldLink RX6 21 "WashHouse$Till" "gave" "[I" ∈ lw_good := by decide +kernel
theorem ki_X6_24 : Cond.classLink RX6 24 "[[I" ∈ lw_good := by decide +kernel
theorem ki_X6_26 : Cond.fieldLink RX6 26 "WashHouse$Till" "fewest" "[[I" ∈ lw_good := by decide +kernel
theorem ki_X6_29 : Cond.fieldLink RX6 29 "WashHouse$Till" "cells" "LWashHouse$Cells;" ∈ lw_good := by decide +kernel
theorem ki_X10_1 : Cond.methodLink RX10 1 objectInit ∈ lw_good := by decide +kernel
theorem ki_X10_7 : Cond.fieldLink RX10 7 "WashHouseModel" "s" "[I" ∈ lw_good := by decide +kernel
theorem ki_X10_13 : Cond.constant RX10 13 (524288) ∈ lw_good := by decide +kernel
theorem ki_X10_14 : Cond.fieldLink RX10 14 "WashHouseModel" "where" "[I" ∈ lw_good := by decide +kernel
theorem ki_X10_17 : Cond.fieldLink RX10 17 "WashHouseModel" "was" "[I" ∈ lw_good := by decide +kernel
theorem ki_X10_20 : Cond.fieldLink RX10 20 "WashHouseModel" "marks" "[I" ∈ lw_good := by decide +kernel
theorem ki_X10_23 : Cond.fieldLink RX10 23 "WashHouseModel" "trace" "[I" ∈ lw_good := by decide +kernel
theorem ki_X10_26 : Cond.fieldLink RX10 26 "WashHouseModel" "entries" "[I" ∈ lw_good := by decide +kernel
theorem ki_X10_29 : Cond.fieldLink RX10 29 "WashHouseModel" "given" "[I" ∈ lw_good := by decide +kernel
theorem ki_X10_32 : Cond.fieldLink RX10 32 "WashHouseModel" "byValue" "[I" ∈ lw_good := by decide +kernel
theorem ki_X10_35 : Cond.fieldLink RX10 35 "WashHouseModel" "fewest" "[I" ∈ lw_good := by decide +kernel
theorem ki_X10_38 : Cond.fieldLink RX10 38 "WashHouseModel" "free" "[I" ∈ lw_good := by decide +kernel
theorem ki_X10_41 : Cond.fieldLink RX10 41 "WashHouseModel" "takes" "[I" ∈ lw_good := by decide +kernel
theorem ki_X10_44 : Cond.fieldLink RX10 44 "WashHouseModel" "weights" "[I" ∈ lw_good := by decide +kernel
theorem ki_X10_47 : Cond.fieldLink RX10 47 "WashHouseModel" "wished" "[I" ∈ lw_good := by decide +kernel
theorem ki_X10_50 : Cond.fieldLink RX10 50 "WashHouseModel" "waits" "[I" ∈ lw_good := by decide +kernel
theorem ki_X3_3 : Cond.methodLink RX3 3 objectInit ∈ lw_good := by decide +kernel
theorem ki_X3_9 : Cond.fieldLink RX3 9 "WashHouse$Machine" "begun" "LWashHouse$Trace;" ∈ lw_good := by decide +kernel
theorem ki_X8_3 : Cond.methodLink RX8 3 yX3_init ∈ lw_good := by decide +kernel
theorem ki_X2_3 : Cond.methodLink RX2 3 yX3_init ∈ lw_good := by decide +kernel
theorem ki_X5_3 : Cond.methodLink RX5 3 yX8_init ∈ lw_good := by decide +kernel
theorem ki_X0_3 : Cond.methodLink RX0 3 yX8_init ∈ lw_good := by decide +kernel
theorem ki_X4_3 : Cond.methodLink RX4 3 yX2_init ∈ lw_good := by decide +kernel
theorem ki_X9_3 : Cond.methodLink RX9 3 objectInit ∈ lw_good := by decide +kernel
theorem ki_X9_9 : Cond.classLink RX9 9 RX1 ∈ lw_good := by decide +kernel
theorem ki_X9_12 : Cond.fieldLink RX9 12 "WashHouse" "cells" "LWashHouse$Cells;" ∈ lw_good := by decide +kernel
theorem ki_X9_16 : Cond.classLink RX9 16 RX6 ∈ lw_good := by decide +kernel
theorem ki_X9_18 : Cond.methodLink RX9 18 yX6_init ∈ lw_good := by decide +kernel
theorem ki_X9_21 : Cond.fieldLink RX9 21 "WashHouse" "till" "LWashHouse$Till;" ∈ lw_good := by decide +kernel
theorem ki_X9_25 : Cond.classLink RX9 25 RX7 ∈ lw_good := by decide +kernel
theorem ki_X9_28 : Cond.fieldLink RX9 28 "WashHouse" "begun" "LWashHouse$Trace;" ∈ lw_good := by decide +kernel
theorem ki_X9_32 : Cond.classLink RX9 32 "WashHouse$Machine" ∈ lw_good := by decide +kernel
theorem ki_X9_34 : Cond.classLink RX9 34 RX8 ∈ lw_good := by decide +kernel
theorem ki_X9_36 : Cond.methodLink RX9 36 yX8_init ∈ lw_good := by decide +kernel
theorem ki_X9_39 : Cond.classLink RX9 39 RX5 ∈ lw_good := by decide +kernel
theorem ki_X9_41 : Cond.methodLink RX9 41 yX5_init ∈ lw_good := by decide +kernel
theorem ki_X9_42 : Cond.classLink RX9 42 RX2 ∈ lw_good := by decide +kernel
theorem ki_X9_44 : Cond.methodLink RX9 44 yX2_init ∈ lw_good := by decide +kernel
theorem ki_X9_45 : Cond.classLink RX9 45 RX4 ∈ lw_good := by decide +kernel
theorem ki_X9_47 : Cond.methodLink RX9 47 yX4_init ∈ lw_good := by decide +kernel
theorem ki_X9_48 : Cond.classLink RX9 48 RX0 ∈ lw_good := by decide +kernel
theorem ki_X9_50 : Cond.methodLink RX9 50 yX0_init ∈ lw_good := by decide +kernel
theorem ki_X9_51 : Cond.fieldLink RX9 51 "WashHouse" "kinds" "[LWashHouse$Machine;" ∈ lw_good := by decide +kernel
theorem ki_X9_55 : Cond.fieldLink RX9 55 "WashHouse" "entries" "[I" ∈ lw_good := by decide +kernel
theorem ki_X9_59 : Cond.fieldLink RX9 59 "WashHouse" "leavings" "[I" ∈ lw_good := by decide +kernel
theorem ki_X9_62 : Cond.fieldLink RX9 62 "WashHouse" "line" "[I" ∈ lw_good := by decide +kernel
theorem ki_X9_65 : Cond.fieldLink RX9 65 "WashHouse" "weights" "[I" ∈ lw_good := by decide +kernel
theorem ki_X9_68 : Cond.fieldLink RX9 68 "WashHouse" "asked" "[I" ∈ lw_good := by decide +kernel
theorem ki_X9_71 : Cond.fieldLink RX9 71 "WashHouse" "went" "[I" ∈ lw_good := by decide +kernel
theorem ki_X9_74 : Cond.fieldLink RX9 74 "WashHouse" "tickets" "I" ∈ lw_good := by decide +kernel
theorem ki_X9_78 : Cond.fieldLink RX9 78 "WashHouse" "findings" "I" ∈ lw_good := by decide +kernel
theorem ki_X9_81 : Cond.fieldLink RX9 81 "WashHouse" "latestFinding" "I" ∈ lw_good := by decide +kernel
set_option maxHeartbeats 4000000 in
set_option maxRecDepth 100000 in
theorem ti_X1_init (l : Launch) (D : va_G) (h0 : Nat) (sz : Nat) : Met l yX1_init (.code yX1_init cX1_init 1 none :: lw_good) { frames := 1, cells := 3, slots := 10905, locals := 20 } (cPreI D [(h0, .inr (1, [.null, .null, .null, .int 0, .int 0, .int 0, .int 0]))] sz [.ref h0]) (va_Qv (fun (_ : Nat × Nat × Nat × ClassId) => True) (fun u t => va_P D vwCl [(h0, .inr (1, [.ref u.1, .ref u.2.1, .ref u.2.2.1, .int 0, .int 0, .int 0, .int 0])), (u.1, .inl (u.2.2.2, 8556, .inl (fun _ => 0))), (u.2.1, .inl (u.2.2.2, 301, .inl (fun _ => 0))), (u.2.2.1, .inl (u.2.2.2, 2048, .inl (fun _ => 0)))] t.heap ∧ va_K D vwCl [(u.2.2.2, .int)] t ∧ va_D (va_A [(h0, .inr (1, [.null, .null, .null, .int 0, .int 0, .int 0, .int 0]))] sz) [(h0, .inr (1, [.ref u.1, .ref u.2.1, .ref u.2.2.1, .int 0, .int 0, .int 0, .int 0])), (u.1, .inl (u.2.2.2, 8556, .inl (fun _ => 0))), (u.2.1, .inl (u.2.2.2, 301, .inl (fun _ => 0))), (u.2.2.1, .inl (u.2.2.2, 2048, .inl (fun _ => 0)))]) (va_A [(h0, .inr (1, [.null, .null, .null, .int 0, .int 0, .int 0, .int 0]))] sz)) 3 10905 (va_A [(h0, .inr (1, [.null, .null, .null, .int 0, .int 0, .int 0, .int 0]))] sz) := by
  refine entI (own := RX1) (As := [.ref h0]) (by decide +kernel) rfl rfl (Nat.le_of_ble_eq_true rfl) (fun _ _ h => h.1) ?_
  intro p e s m args below meth c ls B hr hlocks hin hv hl
  obtain ⟨-, hsz, hP, hKN, hD0⟩ := hv
  subst hsz
  obtain ⟨hx, hb, hml, hown, hts⟩ := id B
  have hK := hKN.1
  have hD := hD0.self (sz := s.heap.size)
  generalize hAe : va_A [(h0, .inr (1, [.null, .null, .null, .int 0, .int 0, .int 0, .int 0]))] s.heap.size = A at hD ⊢
  have hA : ∀ q : Nat, s.heap.size ≤ q → A q := fun q h => by rw [← hAe]; exact Or.inr h
  have hS : va_S A s.heap s.heap [] := va_S.rf
  have hl : lv_has ls 1 [(0, .ref h0)] := hl
  refine lv_aload_n hx hb dX1_init_0 rfl (lv_at hl 0 rfl) ?_
  refine W.objInit hx hb hown (hts _ ki_X1_3) (hts _ oi_w.1) (hts _ oi_w.2) rfl (by rw [hml]; exact hl.1) rfl dX1_init_1 (Nat.le_of_ble_eq_true rfl) (Nat.le_of_ble_eq_true rfl) ?_
  refine W.eq (g2 := F0 m 4 ls []) rfl ?_
  refine lv_aload_n hx hb dX1_init_4 rfl (lv_at hl 0 rfl) ?_
  refine lv_sipush (v := 8556) hx hb dX1_init_5 (by decide) ?_
  refine va_newa (atype := .int) (ty := .int) (N' := 8556) (a0 := (8556, .inl (fun _ => 0))) hx hb (hts _ ac_w.2.2.2) rfl hK hP hD hS hA (fun _ => rfl) (by decide) (by decide +kernel) (by decide) (Nat.le_of_ble_eq_true rfl) (Nat.le_of_ble_eq_true rfl) dX1_init_8 (fun q0 cq0 H hKx hP hD hS => ?_)
  have hK : va_K D vwCl [(cq0, .int)] s := hKx
  have hP : va_P D vwCl [(h0, .inr (1, [.null, .null, .null, .int 0, .int 0, .int 0, .int 0])), (q0, .inl (cq0, 8556, .inl (fun _ => 0)))] H := hP
  have hD : va_D A [(h0, .inr (1, [.null, .null, .null, .int 0, .int 0, .int 0, .int 0])), (q0, .inl (cq0, 8556, .inl (fun _ => 0)))] := hD
  refine va_putF (D := D) (ci := 1) (v := .ref q0) (ty := .array .int) (C := RX1) (T := TX1) (N := 7) hx hb hts iX1 tyX1 tyX1_ok nmX1 hown hK hP hD hS 0 rfl rfl 0 (by decide) (hts _ ki_X1_9) (fun _ h9 => h9) rfl hin rfl (by decide +kernel) rfl rfl (Nat.le_of_ble_eq_true rfl) dX1_init_10 (fun H locs hP hD hS => ?_)
  have hP : va_P D vwCl [(h0, .inr (1, [.ref q0, .null, .null, .int 0, .int 0, .int 0, .int 0])), (q0, .inl (cq0, 8556, .inl (fun _ => 0)))] H := hP
  have hD : va_D A [(h0, .inr (1, [.ref q0, .null, .null, .int 0, .int 0, .int 0, .int 0])), (q0, .inl (cq0, 8556, .inl (fun _ => 0)))] := hD
  refine lv_aload_n hx hb dX1_init_13 rfl (lv_at hl 0 rfl) ?_
  refine lv_sipush (v := 301) hx hb dX1_init_14 (by decide) ?_
  refine va_newa (atype := .int) (ty := .int) (N' := 301) (a0 := (301, .inl (fun _ => 0))) hx hb (hts _ ac_w.2.2.2) rfl hK hP hD hS hA (fun _ => rfl) (by decide) (by decide +kernel) (by decide) (Nat.le_of_ble_eq_true rfl) (Nat.le_of_ble_eq_true rfl) dX1_init_17 (fun q1 cq1 H hKx hP hD hS => ?_)
  have hcq : cq0 = cq1 := Option.some.inj ((va_nm_int (hK.2 0 _ rfl).2).symm.trans (va_nm_int (hKx.2 1 _ rfl).2))
  subst hcq
  have hP : va_P D vwCl [(h0, .inr (1, [.ref q0, .null, .null, .int 0, .int 0, .int 0, .int 0])), (q0, .inl (cq0, 8556, .inl (fun _ => 0))), (q1, .inl (cq0, 301, .inl (fun _ => 0)))] H := hP
  have hD : va_D A [(h0, .inr (1, [.ref q0, .null, .null, .int 0, .int 0, .int 0, .int 0])), (q0, .inl (cq0, 8556, .inl (fun _ => 0))), (q1, .inl (cq0, 301, .inl (fun _ => 0)))] := hD
  refine va_putF (D := D) (ci := 1) (v := .ref q1) (ty := .array .int) (C := RX1) (T := TX1) (N := 7) hx hb hts iX1 tyX1 tyX1_ok nmX1 hown hK hP hD hS 0 rfl rfl 1 (by decide) (hts _ ki_X1_15) (fun _ h9 => h9) rfl hin rfl (by decide +kernel) rfl rfl (Nat.le_of_ble_eq_true rfl) dX1_init_19 (fun H locs hP hD hS => ?_)
  have hP : va_P D vwCl [(h0, .inr (1, [.ref q0, .ref q1, .null, .int 0, .int 0, .int 0, .int 0])), (q0, .inl (cq0, 8556, .inl (fun _ => 0))), (q1, .inl (cq0, 301, .inl (fun _ => 0)))] H := hP
  have hD : va_D A [(h0, .inr (1, [.ref q0, .ref q1, .null, .int 0, .int 0, .int 0, .int 0])), (q0, .inl (cq0, 8556, .inl (fun _ => 0))), (q1, .inl (cq0, 301, .inl (fun _ => 0)))] := hD
  refine lv_aload_n hx hb dX1_init_22 rfl (lv_at hl 0 rfl) ?_
  refine lv_sipush (v := 2048) hx hb dX1_init_23 (by decide) ?_
  refine va_newa (atype := .int) (ty := .int) (N' := 2048) (a0 := (2048, .inl (fun _ => 0))) hx hb (hts _ ac_w.2.2.2) rfl hK hP hD hS hA (fun _ => rfl) (by decide) (by decide +kernel) (by decide) (Nat.le_of_ble_eq_true rfl) (Nat.le_of_ble_eq_true rfl) dX1_init_26 (fun q2 cq2 H hKx hP hD hS => ?_)
  have hcq : cq0 = cq2 := Option.some.inj ((va_nm_int (hK.2 0 _ rfl).2).symm.trans (va_nm_int (hKx.2 1 _ rfl).2))
  subst hcq
  have hP : va_P D vwCl [(h0, .inr (1, [.ref q0, .ref q1, .null, .int 0, .int 0, .int 0, .int 0])), (q0, .inl (cq0, 8556, .inl (fun _ => 0))), (q1, .inl (cq0, 301, .inl (fun _ => 0))), (q2, .inl (cq0, 2048, .inl (fun _ => 0)))] H := hP
  have hD : va_D A [(h0, .inr (1, [.ref q0, .ref q1, .null, .int 0, .int 0, .int 0, .int 0])), (q0, .inl (cq0, 8556, .inl (fun _ => 0))), (q1, .inl (cq0, 301, .inl (fun _ => 0))), (q2, .inl (cq0, 2048, .inl (fun _ => 0)))] := hD
  refine va_put (D := D) (ci := 1) (v := .ref q2) (ty := .array .int) (C := RX1) (T := TX1) (N := 7) hx hb hts iX1 tyX1 tyX1_ok nmX1 hown hK hP hD hS 0 rfl rfl 2 (by decide) (hts _ ki_X1_18) (fun _ h9 => h9) rfl (by decide +kernel) rfl rfl (Nat.le_of_ble_eq_true rfl) dX1_init_28 (fun H locs hP hD hS => ?_)
  have hP : va_P D vwCl [(h0, .inr (1, [.ref q0, .ref q1, .ref q2, .int 0, .int 0, .int 0, .int 0])), (q0, .inl (cq0, 8556, .inl (fun _ => 0))), (q1, .inl (cq0, 301, .inl (fun _ => 0))), (q2, .inl (cq0, 2048, .inl (fun _ => 0)))] H := hP
  have hD : va_D A [(h0, .inr (1, [.ref q0, .ref q1, .ref q2, .int 0, .int 0, .int 0, .int 0])), (q0, .inl (cq0, 8556, .inl (fun _ => 0))), (q1, .inl (cq0, 301, .inl (fun _ => 0))), (q2, .inl (cq0, 2048, .inl (fun _ => 0)))] := hD
  refine lv_aload_n hx hb dX1_init_31 rfl (lv_at hl 0 rfl) ?_
  refine lv_iconst (v := 0) hx hb dX1_init_32 (by decide) ?_
  refine va_put (D := D) (ci := 1) (v := .int 0) (ty := .int) (C := RX1) (T := TX1) (N := 7) hx hb hts iX1 tyX1 tyX1_ok nmX1 hown hK hP hD hS 0 rfl rfl 3 (by decide) (hts _ ki_X1_21) (fun _ h9 => h9) rfl (by decide +kernel) rfl rfl (Nat.le_of_ble_eq_true rfl) dX1_init_33 (fun H locs hP hD hS => ?_)
  have hP : va_P D vwCl [(h0, .inr (1, [.ref q0, .ref q1, .ref q2, .int 0, .int 0, .int 0, .int 0])), (q0, .inl (cq0, 8556, .inl (fun _ => 0))), (q1, .inl (cq0, 301, .inl (fun _ => 0))), (q2, .inl (cq0, 2048, .inl (fun _ => 0)))] H := hP
  have hD : va_D A [(h0, .inr (1, [.ref q0, .ref q1, .ref q2, .int 0, .int 0, .int 0, .int 0])), (q0, .inl (cq0, 8556, .inl (fun _ => 0))), (q1, .inl (cq0, 301, .inl (fun _ => 0))), (q2, .inl (cq0, 2048, .inl (fun _ => 0)))] := hD
  refine lv_aload_n hx hb dX1_init_36 rfl (lv_at hl 0 rfl) ?_
  refine lv_iconst (v := 0) hx hb dX1_init_37 (by decide) ?_
  refine va_put (D := D) (ci := 1) (v := .int 0) (ty := .int) (C := RX1) (T := TX1) (N := 7) hx hb hts iX1 tyX1 tyX1_ok nmX1 hown hK hP hD hS 0 rfl rfl 4 (by decide) (hts _ ki_X1_25) (fun _ h9 => h9) rfl (by decide +kernel) rfl rfl (Nat.le_of_ble_eq_true rfl) dX1_init_38 (fun H locs hP hD hS => ?_)
  have hP : va_P D vwCl [(h0, .inr (1, [.ref q0, .ref q1, .ref q2, .int 0, .int 0, .int 0, .int 0])), (q0, .inl (cq0, 8556, .inl (fun _ => 0))), (q1, .inl (cq0, 301, .inl (fun _ => 0))), (q2, .inl (cq0, 2048, .inl (fun _ => 0)))] H := hP
  have hD : va_D A [(h0, .inr (1, [.ref q0, .ref q1, .ref q2, .int 0, .int 0, .int 0, .int 0])), (q0, .inl (cq0, 8556, .inl (fun _ => 0))), (q1, .inl (cq0, 301, .inl (fun _ => 0))), (q2, .inl (cq0, 2048, .inl (fun _ => 0)))] := hD
  refine lv_aload_n hx hb dX1_init_41 rfl (lv_at hl 0 rfl) ?_
  refine lv_iconst (v := 0) hx hb dX1_init_42 (by decide) ?_
  refine va_put (D := D) (ci := 1) (v := .int 0) (ty := .int) (C := RX1) (T := TX1) (N := 7) hx hb hts iX1 tyX1 tyX1_ok nmX1 hown hK hP hD hS 0 rfl rfl 5 (by decide) (hts _ ki_X1_28) (fun _ h9 => h9) rfl (by decide +kernel) rfl rfl (Nat.le_of_ble_eq_true rfl) dX1_init_43 (fun H locs hP hD hS => ?_)
  have hP : va_P D vwCl [(h0, .inr (1, [.ref q0, .ref q1, .ref q2, .int 0, .int 0, .int 0, .int 0])), (q0, .inl (cq0, 8556, .inl (fun _ => 0))), (q1, .inl (cq0, 301, .inl (fun _ => 0))), (q2, .inl (cq0, 2048, .inl (fun _ => 0)))] H := hP
  have hD : va_D A [(h0, .inr (1, [.ref q0, .ref q1, .ref q2, .int 0, .int 0, .int 0, .int 0])), (q0, .inl (cq0, 8556, .inl (fun _ => 0))), (q1, .inl (cq0, 301, .inl (fun _ => 0))), (q2, .inl (cq0, 2048, .inl (fun _ => 0)))] := hD
  refine lv_aload_n hx hb dX1_init_46 rfl (lv_at hl 0 rfl) ?_
  refine lv_iconst (v := 0) hx hb dX1_init_47 (by decide) ?_
  refine va_put (D := D) (ci := 1) (v := .int 0) (ty := .int) (C := RX1) (T := TX1) (N := 7) hx hb hts iX1 tyX1 tyX1_ok nmX1 hown hK hP hD hS 0 rfl rfl 6 (by decide) (hts _ ki_X1_31) (fun _ h9 => h9) rfl (by decide +kernel) rfl rfl (Nat.le_of_ble_eq_true rfl) dX1_init_48 (fun H locs hP hD hS => ?_)
  have hP : va_P D vwCl [(h0, .inr (1, [.ref q0, .ref q1, .ref q2, .int 0, .int 0, .int 0, .int 0])), (q0, .inl (cq0, 8556, .inl (fun _ => 0))), (q1, .inl (cq0, 301, .inl (fun _ => 0))), (q2, .inl (cq0, 2048, .inl (fun _ => 0)))] H := hP
  have hD : va_D A [(h0, .inr (1, [.ref q0, .ref q1, .ref q2, .int 0, .int 0, .int 0, .int 0])), (q0, .inl (cq0, 8556, .inl (fun _ => 0))), (q1, .inl (cq0, 301, .inl (fun _ => 0))), (q2, .inl (cq0, 2048, .inl (fun _ => 0)))] := hD
  exact W.vret hx hb hr (fun t ht hW => ⟨⟨(q0, q1, q2, cq0), rfl, trivial, by rw [ht]; exact hP, va_K.moved hW.alike hK, hD⟩, hS.F ht⟩) hS.2.2 dX1_init_51 hlocks
theorem mi_X1_init : Cond.instanceMethod yX1_init ∈ lw_good ∧ Cond.initialized yX1_init.cls ∈ lw_good ∧ Cond.code yX1_init cX1_init 1 none ∈ lw_good := by decide +kernel
set_option maxHeartbeats 4000000 in
set_option maxRecDepth 100000 in
theorem ti_X7_init (l : Launch) (D : va_G) (h0 : Nat) (sz : Nat) : Met l yX7_init (.code yX7_init cX7_init 1 none :: lw_good) { frames := 1, cells := 1, slots := 30, locals := 20 } (cPreI D [(h0, .inr (6, [.null, .int 0, .int 0]))] sz [.ref h0]) (va_Qv (fun (_ : Nat × ClassId) => True) (fun u t => va_P D vwCl [(h0, .inr (6, [.ref u.1, .int 0, .int 0])), (u.1, .inl (u.2, 30, .inl (fun _ => 0)))] t.heap ∧ va_K D vwCl [(u.2, .int)] t ∧ va_D (va_A [(h0, .inr (6, [.null, .int 0, .int 0]))] sz) [(h0, .inr (6, [.ref u.1, .int 0, .int 0])), (u.1, .inl (u.2, 30, .inl (fun _ => 0)))]) (va_A [(h0, .inr (6, [.null, .int 0, .int 0]))] sz)) 1 30 (va_A [(h0, .inr (6, [.null, .int 0, .int 0]))] sz) := by
  refine entI (own := RX7) (As := [.ref h0]) (by decide +kernel) rfl rfl (Nat.le_of_ble_eq_true rfl) (fun _ _ h => h.1) ?_
  intro p e s m args below meth c ls B hr hlocks hin hv hl
  obtain ⟨-, hsz, hP, hKN, hD0⟩ := hv
  subst hsz
  obtain ⟨hx, hb, hml, hown, hts⟩ := id B
  have hK := hKN.1
  have hD := hD0.self (sz := s.heap.size)
  generalize hAe : va_A [(h0, .inr (6, [.null, .int 0, .int 0]))] s.heap.size = A at hD ⊢
  have hA : ∀ q : Nat, s.heap.size ≤ q → A q := fun q h => by rw [← hAe]; exact Or.inr h
  have hS : va_S A s.heap s.heap [] := va_S.rf
  have hl : lv_has ls 1 [(0, .ref h0)] := hl
  refine lv_aload_n hx hb dX7_init_0 rfl (lv_at hl 0 rfl) ?_
  refine W.objInit hx hb hown (hts _ ki_X7_3) (hts _ oi_w.1) (hts _ oi_w.2) rfl (by rw [hml]; exact hl.1) rfl dX7_init_1 (Nat.le_of_ble_eq_true rfl) (Nat.le_of_ble_eq_true rfl) ?_
  refine W.eq (g2 := F0 m 4 ls []) rfl ?_
  refine lv_aload_n hx hb dX7_init_4 rfl (lv_at hl 0 rfl) ?_
  refine lv_bipush (v := 30) hx hb dX7_init_5 (by decide) ?_
  refine va_newa (atype := .int) (ty := .int) (N' := 30) (a0 := (30, .inl (fun _ => 0))) hx hb (hts _ ac_w.2.2.2) rfl hK hP hD hS hA (fun _ => rfl) (by decide) (by decide +kernel) (by decide) (Nat.le_of_ble_eq_true rfl) (Nat.le_of_ble_eq_true rfl) dX7_init_7 (fun q0 cq0 H hKx hP hD hS => ?_)
  have hK : va_K D vwCl [(cq0, .int)] s := hKx
  have hP : va_P D vwCl [(h0, .inr (6, [.null, .int 0, .int 0])), (q0, .inl (cq0, 30, .inl (fun _ => 0)))] H := hP
  have hD : va_D A [(h0, .inr (6, [.null, .int 0, .int 0])), (q0, .inl (cq0, 30, .inl (fun _ => 0)))] := hD
  refine va_putF (D := D) (ci := 6) (v := .ref q0) (ty := .array .int) (C := RX7) (T := TX7) (N := 3) hx hb hts iX7 tyX7 tyX7_ok nmX7 hown hK hP hD hS 0 rfl rfl 0 (by decide) (hts _ ki_X7_11) (fun _ h9 => h9) rfl hin rfl (by decide +kernel) rfl rfl (Nat.le_of_ble_eq_true rfl) dX7_init_9 (fun H locs hP hD hS => ?_)
  have hP : va_P D vwCl [(h0, .inr (6, [.ref q0, .int 0, .int 0])), (q0, .inl (cq0, 30, .inl (fun _ => 0)))] H := hP
  have hD : va_D A [(h0, .inr (6, [.ref q0, .int 0, .int 0])), (q0, .inl (cq0, 30, .inl (fun _ => 0)))] := hD
  refine lv_aload_n hx hb dX7_init_12 rfl (lv_at hl 0 rfl) ?_
  refine lv_iconst (v := 0) hx hb dX7_init_13 (by decide) ?_
  refine va_put (D := D) (ci := 6) (v := .int 0) (ty := .int) (C := RX7) (T := TX7) (N := 3) hx hb hts iX7 tyX7 tyX7_ok nmX7 hown hK hP hD hS 0 rfl rfl 1 (by decide) (hts _ ki_X7_15) (fun _ h9 => h9) rfl (by decide +kernel) rfl rfl (Nat.le_of_ble_eq_true rfl) dX7_init_14 (fun H locs hP hD hS => ?_)
  have hP : va_P D vwCl [(h0, .inr (6, [.ref q0, .int 0, .int 0])), (q0, .inl (cq0, 30, .inl (fun _ => 0)))] H := hP
  have hD : va_D A [(h0, .inr (6, [.ref q0, .int 0, .int 0])), (q0, .inl (cq0, 30, .inl (fun _ => 0)))] := hD
  refine lv_aload_n hx hb dX7_init_17 rfl (lv_at hl 0 rfl) ?_
  refine lv_iconst (v := 0) hx hb dX7_init_18 (by decide) ?_
  refine va_put (D := D) (ci := 6) (v := .int 0) (ty := .int) (C := RX7) (T := TX7) (N := 3) hx hb hts iX7 tyX7 tyX7_ok nmX7 hown hK hP hD hS 0 rfl rfl 2 (by decide) (hts _ ki_X7_19) (fun _ h9 => h9) rfl (by decide +kernel) rfl rfl (Nat.le_of_ble_eq_true rfl) dX7_init_19 (fun H locs hP hD hS => ?_)
  have hP : va_P D vwCl [(h0, .inr (6, [.ref q0, .int 0, .int 0])), (q0, .inl (cq0, 30, .inl (fun _ => 0)))] H := hP
  have hD : va_D A [(h0, .inr (6, [.ref q0, .int 0, .int 0])), (q0, .inl (cq0, 30, .inl (fun _ => 0)))] := hD
  exact W.vret hx hb hr (fun t ht hW => ⟨⟨(q0, cq0), rfl, trivial, by rw [ht]; exact hP, va_K.moved hW.alike hK, hD⟩, hS.F ht⟩) hS.2.2 dX7_init_22 hlocks
theorem mi_X7_init : Cond.instanceMethod yX7_init ∈ lw_good ∧ Cond.initialized yX7_init.cls ∈ lw_good ∧ Cond.code yX7_init cX7_init 1 none ∈ lw_good := by decide +kernel
set_option maxHeartbeats 4000000 in
set_option maxRecDepth 100000 in
theorem ti_X6_init (l : Launch) (D : va_G) (h0 h1 : Nat) (sz : Nat) : Met l yX6_init (.code yX6_init cX6_init 2 none :: lw_good) { frames := 1, cells := 18, slots := 6574, locals := 20 } (cPreI D [(h0, .inr (5, [.null, .null, .null, .null, .null, .null]))] sz [.ref h0, .ref h1]) (va_Qv (fun (_ : (Nat × Nat × Nat × Nat) × (Nat × (Nat → Nat)) × ClassId × ClassId) => True) (fun u t => va_P D vwCl [(h0, .inr (5, [.ref h1, .ref u.1.1, .ref u.1.2.1, .ref u.1.2.2.1, .ref u.1.2.2.2, .ref u.2.1.1])), (u.1.1, .inl (u.2.2.1, 12, .inl (fun _ => 0))), (u.1.2.1, .inl (u.2.2.1, 12, .inl (fun _ => 0))), (u.1.2.2.1, .inl (u.2.2.1, 12, .inl (fun _ => 0))), (u.1.2.2.2, .inl (u.2.2.1, 12, .inl (fun _ => 0))), (u.2.1.1, .inl (u.2.2.2, 13, .inr (.inr (.inr (.inr (fun i => if i < 13 then some (u.2.1.2 i) else none)))))), (u.2.1.2 0, .inl (u.2.2.1, 501, .inl (fun _ => 0))), (u.2.1.2 1, .inl (u.2.2.1, 501, .inl (fun _ => 0))), (u.2.1.2 2, .inl (u.2.2.1, 501, .inl (fun _ => 0))), (u.2.1.2 3, .inl (u.2.2.1, 501, .inl (fun _ => 0))), (u.2.1.2 4, .inl (u.2.2.1, 501, .inl (fun _ => 0))), (u.2.1.2 5, .inl (u.2.2.1, 501, .inl (fun _ => 0))), (u.2.1.2 6, .inl (u.2.2.1, 501, .inl (fun _ => 0))), (u.2.1.2 7, .inl (u.2.2.1, 501, .inl (fun _ => 0))), (u.2.1.2 8, .inl (u.2.2.1, 501, .inl (fun _ => 0))), (u.2.1.2 9, .inl (u.2.2.1, 501, .inl (fun _ => 0))), (u.2.1.2 10, .inl (u.2.2.1, 501, .inl (fun _ => 0))), (u.2.1.2 11, .inl (u.2.2.1, 501, .inl (fun _ => 0))), (u.2.1.2 12, .inl (u.2.2.1, 501, .inl (fun _ => 0)))] t.heap ∧ va_K D vwCl [(u.2.2.1, .int), (u.2.2.2, .array .int)] t ∧ va_D (va_A [(h0, .inr (5, [.null, .null, .null, .null, .null, .null]))] sz) [(h0, .inr (5, [.ref h1, .ref u.1.1, .ref u.1.2.1, .ref u.1.2.2.1, .ref u.1.2.2.2, .ref u.2.1.1])), (u.1.1, .inl (u.2.2.1, 12, .inl (fun _ => 0))), (u.1.2.1, .inl (u.2.2.1, 12, .inl (fun _ => 0))), (u.1.2.2.1, .inl (u.2.2.1, 12, .inl (fun _ => 0))), (u.1.2.2.2, .inl (u.2.2.1, 12, .inl (fun _ => 0))), (u.2.1.1, .inl (u.2.2.2, 13, .inr (.inr (.inr (.inr (fun i => if i < 13 then some (u.2.1.2 i) else none)))))), (u.2.1.2 0, .inl (u.2.2.1, 501, .inl (fun _ => 0))), (u.2.1.2 1, .inl (u.2.2.1, 501, .inl (fun _ => 0))), (u.2.1.2 2, .inl (u.2.2.1, 501, .inl (fun _ => 0))), (u.2.1.2 3, .inl (u.2.2.1, 501, .inl (fun _ => 0))), (u.2.1.2 4, .inl (u.2.2.1, 501, .inl (fun _ => 0))), (u.2.1.2 5, .inl (u.2.2.1, 501, .inl (fun _ => 0))), (u.2.1.2 6, .inl (u.2.2.1, 501, .inl (fun _ => 0))), (u.2.1.2 7, .inl (u.2.2.1, 501, .inl (fun _ => 0))), (u.2.1.2 8, .inl (u.2.2.1, 501, .inl (fun _ => 0))), (u.2.1.2 9, .inl (u.2.2.1, 501, .inl (fun _ => 0))), (u.2.1.2 10, .inl (u.2.2.1, 501, .inl (fun _ => 0))), (u.2.1.2 11, .inl (u.2.2.1, 501, .inl (fun _ => 0))), (u.2.1.2 12, .inl (u.2.2.1, 501, .inl (fun _ => 0)))]) (va_A [(h0, .inr (5, [.null, .null, .null, .null, .null, .null]))] sz)) 18 6574 (va_A [(h0, .inr (5, [.null, .null, .null, .null, .null, .null]))] sz) := by
  refine entI (own := RX6) (As := [.ref h0, .ref h1]) (by decide +kernel) rfl rfl (Nat.le_of_ble_eq_true rfl) (fun _ _ h => h.1) ?_
  intro p e s m args below meth c ls B hr hlocks hin hv hl
  obtain ⟨-, hsz, hP, hKN, hD0⟩ := hv
  subst hsz
  obtain ⟨hx, hb, hml, hown, hts⟩ := id B
  have hK := hKN.1
  have hD := hD0.self (sz := s.heap.size)
  generalize hAe : va_A [(h0, .inr (5, [.null, .null, .null, .null, .null, .null]))] s.heap.size = A at hD ⊢
  have hA : ∀ q : Nat, s.heap.size ≤ q → A q := fun q h => by rw [← hAe]; exact Or.inr h
  have hS : va_S A s.heap s.heap [] := va_S.rf
  have hl : lv_has ls 2 [(0, .ref h0), (1, .ref h1)] := hl
  refine lv_aload_n hx hb dX6_init_0 rfl (lv_at hl 0 rfl) ?_
  refine W.objInit hx hb hown (hts _ ki_X6_3) (hts _ oi_w.1) (hts _ oi_w.2) rfl (by rw [hml]; exact hl.1) rfl dX6_init_1 (Nat.le_of_ble_eq_true rfl) (Nat.le_of_ble_eq_true rfl) ?_
  refine W.eq (g2 := F0 m 4 ls []) rfl ?_
  refine lv_aload_n hx hb dX6_init_4 rfl (lv_at hl 0 rfl) ?_
  refine lv_bipush (v := 12) hx hb dX6_init_5 (by decide) ?_
  refine va_newa (atype := .int) (ty := .int) (N' := 12) (a0 := (12, .inl (fun _ => 0))) hx hb (hts _ ac_w.2.2.2) rfl hK hP hD hS hA (fun _ => rfl) (by decide) (by decide +kernel) (by decide) (Nat.le_of_ble_eq_true rfl) (Nat.le_of_ble_eq_true rfl) dX6_init_7 (fun q0 cq0 H hKx hP hD hS => ?_)
  have hK : va_K D vwCl [(cq0, .int)] s := hKx
  have hP : va_P D vwCl [(h0, .inr (5, [.null, .null, .null, .null, .null, .null])), (q0, .inl (cq0, 12, .inl (fun _ => 0)))] H := hP
  have hD : va_D A [(h0, .inr (5, [.null, .null, .null, .null, .null, .null])), (q0, .inl (cq0, 12, .inl (fun _ => 0)))] := hD
  refine va_putF (D := D) (ci := 5) (v := .ref q0) (ty := .array .int) (C := RX6) (T := TX6) (N := 6) hx hb hts iX6 tyX6 tyX6_ok nmX6 hown hK hP hD hS 0 rfl rfl 1 (by decide) (hts _ ki_X6_9) (fun _ h9 => h9) rfl hin rfl (by decide +kernel) rfl rfl (Nat.le_of_ble_eq_true rfl) dX6_init_9 (fun H locs hP hD hS => ?_)
  have hP : va_P D vwCl [(h0, .inr (5, [.null, .ref q0, .null, .null, .null, .null])), (q0, .inl (cq0, 12, .inl (fun _ => 0)))] H := hP
  have hD : va_D A [(h0, .inr (5, [.null, .ref q0, .null, .null, .null, .null])), (q0, .inl (cq0, 12, .inl (fun _ => 0)))] := hD
  refine lv_aload_n hx hb dX6_init_12 rfl (lv_at hl 0 rfl) ?_
  refine lv_bipush (v := 12) hx hb dX6_init_13 (by decide) ?_
  refine va_newa (atype := .int) (ty := .int) (N' := 12) (a0 := (12, .inl (fun _ => 0))) hx hb (hts _ ac_w.2.2.2) rfl hK hP hD hS hA (fun _ => rfl) (by decide) (by decide +kernel) (by decide) (Nat.le_of_ble_eq_true rfl) (Nat.le_of_ble_eq_true rfl) dX6_init_15 (fun q1 cq1 H hKx hP hD hS => ?_)
  have hcq : cq0 = cq1 := Option.some.inj ((va_nm_int (hK.2 0 _ rfl).2).symm.trans (va_nm_int (hKx.2 1 _ rfl).2))
  subst hcq
  have hP : va_P D vwCl [(h0, .inr (5, [.null, .ref q0, .null, .null, .null, .null])), (q0, .inl (cq0, 12, .inl (fun _ => 0))), (q1, .inl (cq0, 12, .inl (fun _ => 0)))] H := hP
  have hD : va_D A [(h0, .inr (5, [.null, .ref q0, .null, .null, .null, .null])), (q0, .inl (cq0, 12, .inl (fun _ => 0))), (q1, .inl (cq0, 12, .inl (fun _ => 0)))] := hD
  refine va_putF (D := D) (ci := 5) (v := .ref q1) (ty := .array .int) (C := RX6) (T := TX6) (N := 6) hx hb hts iX6 tyX6 tyX6_ok nmX6 hown hK hP hD hS 0 rfl rfl 2 (by decide) (hts _ ki_X6_15) (fun _ h9 => h9) rfl hin rfl (by decide +kernel) rfl rfl (Nat.le_of_ble_eq_true rfl) dX6_init_17 (fun H locs hP hD hS => ?_)
  have hP : va_P D vwCl [(h0, .inr (5, [.null, .ref q0, .ref q1, .null, .null, .null])), (q0, .inl (cq0, 12, .inl (fun _ => 0))), (q1, .inl (cq0, 12, .inl (fun _ => 0)))] H := hP
  have hD : va_D A [(h0, .inr (5, [.null, .ref q0, .ref q1, .null, .null, .null])), (q0, .inl (cq0, 12, .inl (fun _ => 0))), (q1, .inl (cq0, 12, .inl (fun _ => 0)))] := hD
  refine lv_aload_n hx hb dX6_init_20 rfl (lv_at hl 0 rfl) ?_
  refine lv_bipush (v := 12) hx hb dX6_init_21 (by decide) ?_
  refine va_newa (atype := .int) (ty := .int) (N' := 12) (a0 := (12, .inl (fun _ => 0))) hx hb (hts _ ac_w.2.2.2) rfl hK hP hD hS hA (fun _ => rfl) (by decide) (by decide +kernel) (by decide) (Nat.le_of_ble_eq_true rfl) (Nat.le_of_ble_eq_true rfl) dX6_init_23 (fun q2 cq2 H hKx hP hD hS => ?_)
  have hcq : cq0 = cq2 := Option.some.inj ((va_nm_int (hK.2 0 _ rfl).2).symm.trans (va_nm_int (hKx.2 1 _ rfl).2))
  subst hcq
  have hP : va_P D vwCl [(h0, .inr (5, [.null, .ref q0, .ref q1, .null, .null, .null])), (q0, .inl (cq0, 12, .inl (fun _ => 0))), (q1, .inl (cq0, 12, .inl (fun _ => 0))), (q2, .inl (cq0, 12, .inl (fun _ => 0)))] H := hP
  have hD : va_D A [(h0, .inr (5, [.null, .ref q0, .ref q1, .null, .null, .null])), (q0, .inl (cq0, 12, .inl (fun _ => 0))), (q1, .inl (cq0, 12, .inl (fun _ => 0))), (q2, .inl (cq0, 12, .inl (fun _ => 0)))] := hD
  refine va_putF (D := D) (ci := 5) (v := .ref q2) (ty := .array .int) (C := RX6) (T := TX6) (N := 6) hx hb hts iX6 tyX6 tyX6_ok nmX6 hown hK hP hD hS 0 rfl rfl 3 (by decide) (hts _ ki_X6_18) (fun _ h9 => h9) rfl hin rfl (by decide +kernel) rfl rfl (Nat.le_of_ble_eq_true rfl) dX6_init_25 (fun H locs hP hD hS => ?_)
  have hP : va_P D vwCl [(h0, .inr (5, [.null, .ref q0, .ref q1, .ref q2, .null, .null])), (q0, .inl (cq0, 12, .inl (fun _ => 0))), (q1, .inl (cq0, 12, .inl (fun _ => 0))), (q2, .inl (cq0, 12, .inl (fun _ => 0)))] H := hP
  have hD : va_D A [(h0, .inr (5, [.null, .ref q0, .ref q1, .ref q2, .null, .null])), (q0, .inl (cq0, 12, .inl (fun _ => 0))), (q1, .inl (cq0, 12, .inl (fun _ => 0))), (q2, .inl (cq0, 12, .inl (fun _ => 0)))] := hD
  refine lv_aload_n hx hb dX6_init_28 rfl (lv_at hl 0 rfl) ?_
  refine lv_bipush (v := 12) hx hb dX6_init_29 (by decide) ?_
  refine va_newa (atype := .int) (ty := .int) (N' := 12) (a0 := (12, .inl (fun _ => 0))) hx hb (hts _ ac_w.2.2.2) rfl hK hP hD hS hA (fun _ => rfl) (by decide) (by decide +kernel) (by decide) (Nat.le_of_ble_eq_true rfl) (Nat.le_of_ble_eq_true rfl) dX6_init_31 (fun q3 cq3 H hKx hP hD hS => ?_)
  have hcq : cq0 = cq3 := Option.some.inj ((va_nm_int (hK.2 0 _ rfl).2).symm.trans (va_nm_int (hKx.2 1 _ rfl).2))
  subst hcq
  have hP : va_P D vwCl [(h0, .inr (5, [.null, .ref q0, .ref q1, .ref q2, .null, .null])), (q0, .inl (cq0, 12, .inl (fun _ => 0))), (q1, .inl (cq0, 12, .inl (fun _ => 0))), (q2, .inl (cq0, 12, .inl (fun _ => 0))), (q3, .inl (cq0, 12, .inl (fun _ => 0)))] H := hP
  have hD : va_D A [(h0, .inr (5, [.null, .ref q0, .ref q1, .ref q2, .null, .null])), (q0, .inl (cq0, 12, .inl (fun _ => 0))), (q1, .inl (cq0, 12, .inl (fun _ => 0))), (q2, .inl (cq0, 12, .inl (fun _ => 0))), (q3, .inl (cq0, 12, .inl (fun _ => 0)))] := hD
  refine va_putF (D := D) (ci := 5) (v := .ref q3) (ty := .array .int) (C := RX6) (T := TX6) (N := 6) hx hb hts iX6 tyX6 tyX6_ok nmX6 hown hK hP hD hS 0 rfl rfl 4 (by decide) (hts _ ki_X6_21) (fun _ h9 => h9) rfl hin rfl (by decide +kernel) rfl rfl (Nat.le_of_ble_eq_true rfl) dX6_init_33 (fun H locs hP hD hS => ?_)
  have hP : va_P D vwCl [(h0, .inr (5, [.null, .ref q0, .ref q1, .ref q2, .ref q3, .null])), (q0, .inl (cq0, 12, .inl (fun _ => 0))), (q1, .inl (cq0, 12, .inl (fun _ => 0))), (q2, .inl (cq0, 12, .inl (fun _ => 0))), (q3, .inl (cq0, 12, .inl (fun _ => 0)))] H := hP
  have hD : va_D A [(h0, .inr (5, [.null, .ref q0, .ref q1, .ref q2, .ref q3, .null])), (q0, .inl (cq0, 12, .inl (fun _ => 0))), (q1, .inl (cq0, 12, .inl (fun _ => 0))), (q2, .inl (cq0, 12, .inl (fun _ => 0))), (q3, .inl (cq0, 12, .inl (fun _ => 0)))] := hD
  refine lv_aload_n hx hb dX6_init_36 rfl (lv_at hl 0 rfl) ?_
  refine lv_bipush (v := 13) hx hb dX6_init_37 (by decide) ?_
  refine lv_sipush (v := 501) hx hb dX6_init_39 (by decide) ?_
  have hP : va_P D vwCl ([(h0, .inr (5, [.null, .ref q0, .ref q1, .ref q2, .ref q3, .null])), (q0, .inl (cq0, 12, .inl (fun _ => 0))), (q1, .inl (cq0, 12, .inl (fun _ => 0))), (q2, .inl (cq0, 12, .inl (fun _ => 0))), (q3, .inl (cq0, 12, .inl (fun _ => 0)))] ++ va_pl [] (fun _ => .inr (0, []))) H := hP
  have hD : va_D A ([(h0, .inr (5, [.null, .ref q0, .ref q1, .ref q2, .ref q3, .null])), (q0, .inl (cq0, 12, .inl (fun _ => 0))), (q1, .inl (cq0, 12, .inl (fun _ => 0))), (q2, .inl (cq0, 12, .inl (fun _ => 0))), (q3, .inl (cq0, 12, .inl (fun _ => 0)))] ++ va_pl [] (fun _ => .inr (0, []))) := hD
  refine va_mna (ty := .int) (cy := cq0) (N' := 13) (K' := 501) (z := (501, .inl (fun _ => 0))) hx hb hown (hts _ ki_X6_24) hKN.2.2.2.2.2.2 (hts _ ac_w.2.2.2) (va_nm_int (hK.2 0 _ rfl).2) hK hP hD hS hA (by decide) (by decide) (by decide +kernel) (by decide +kernel) (by decide) (by decide) (by decide) rfl rfl (Nat.le_of_ble_eq_true rfl) (Nat.le_of_ble_eq_true rfl) (fun _ => rfl) dX6_init_42 (fun qg rr cG H hrr _ hK hP hD hS => ?_)
  rw [← vr_rows (fun a _ q => by cases q)] at hP hD
  have hK : va_K D vwCl [(cq0, .int), (cG, .array .int)] s := hK
  have hP : va_P D vwCl [(h0, .inr (5, [.null, .ref q0, .ref q1, .ref q2, .ref q3, .null])), (q0, .inl (cq0, 12, .inl (fun _ => 0))), (q1, .inl (cq0, 12, .inl (fun _ => 0))), (q2, .inl (cq0, 12, .inl (fun _ => 0))), (q3, .inl (cq0, 12, .inl (fun _ => 0))), (qg, .inl (cG, 13, .inr (.inr (.inr (.inr (fun i => if i < 13 then some (rr i) else none)))))), (rr 0, .inl (cq0, 501, .inl (fun _ => 0))), (rr 1, .inl (cq0, 501, .inl (fun _ => 0))), (rr 2, .inl (cq0, 501, .inl (fun _ => 0))), (rr 3, .inl (cq0, 501, .inl (fun _ => 0))), (rr 4, .inl (cq0, 501, .inl (fun _ => 0))), (rr 5, .inl (cq0, 501, .inl (fun _ => 0))), (rr 6, .inl (cq0, 501, .inl (fun _ => 0))), (rr 7, .inl (cq0, 501, .inl (fun _ => 0))), (rr 8, .inl (cq0, 501, .inl (fun _ => 0))), (rr 9, .inl (cq0, 501, .inl (fun _ => 0))), (rr 10, .inl (cq0, 501, .inl (fun _ => 0))), (rr 11, .inl (cq0, 501, .inl (fun _ => 0))), (rr 12, .inl (cq0, 501, .inl (fun _ => 0)))] H := hP
  have hD : va_D A [(h0, .inr (5, [.null, .ref q0, .ref q1, .ref q2, .ref q3, .null])), (q0, .inl (cq0, 12, .inl (fun _ => 0))), (q1, .inl (cq0, 12, .inl (fun _ => 0))), (q2, .inl (cq0, 12, .inl (fun _ => 0))), (q3, .inl (cq0, 12, .inl (fun _ => 0))), (qg, .inl (cG, 13, .inr (.inr (.inr (.inr (fun i => if i < 13 then some (rr i) else none)))))), (rr 0, .inl (cq0, 501, .inl (fun _ => 0))), (rr 1, .inl (cq0, 501, .inl (fun _ => 0))), (rr 2, .inl (cq0, 501, .inl (fun _ => 0))), (rr 3, .inl (cq0, 501, .inl (fun _ => 0))), (rr 4, .inl (cq0, 501, .inl (fun _ => 0))), (rr 5, .inl (cq0, 501, .inl (fun _ => 0))), (rr 6, .inl (cq0, 501, .inl (fun _ => 0))), (rr 7, .inl (cq0, 501, .inl (fun _ => 0))), (rr 8, .inl (cq0, 501, .inl (fun _ => 0))), (rr 9, .inl (cq0, 501, .inl (fun _ => 0))), (rr 10, .inl (cq0, 501, .inl (fun _ => 0))), (rr 11, .inl (cq0, 501, .inl (fun _ => 0))), (rr 12, .inl (cq0, 501, .inl (fun _ => 0)))] := hD
  refine va_putF (D := D) (ci := 5) (v := .ref qg) (ty := .array (.array .int)) (C := RX6) (T := TX6) (N := 6) hx hb hts iX6 tyX6 tyX6_ok nmX6 hown hK hP hD hS 0 rfl rfl 5 (by decide) (hts _ ki_X6_26) (fun _ h9 => h9) rfl hin rfl (by decide +kernel) rfl rfl (Nat.le_of_ble_eq_true rfl) dX6_init_46 (fun H locs hP hD hS => ?_)
  have hP : va_P D vwCl [(h0, .inr (5, [.null, .ref q0, .ref q1, .ref q2, .ref q3, .ref qg])), (q0, .inl (cq0, 12, .inl (fun _ => 0))), (q1, .inl (cq0, 12, .inl (fun _ => 0))), (q2, .inl (cq0, 12, .inl (fun _ => 0))), (q3, .inl (cq0, 12, .inl (fun _ => 0))), (qg, .inl (cG, 13, .inr (.inr (.inr (.inr (fun i => if i < 13 then some (rr i) else none)))))), (rr 0, .inl (cq0, 501, .inl (fun _ => 0))), (rr 1, .inl (cq0, 501, .inl (fun _ => 0))), (rr 2, .inl (cq0, 501, .inl (fun _ => 0))), (rr 3, .inl (cq0, 501, .inl (fun _ => 0))), (rr 4, .inl (cq0, 501, .inl (fun _ => 0))), (rr 5, .inl (cq0, 501, .inl (fun _ => 0))), (rr 6, .inl (cq0, 501, .inl (fun _ => 0))), (rr 7, .inl (cq0, 501, .inl (fun _ => 0))), (rr 8, .inl (cq0, 501, .inl (fun _ => 0))), (rr 9, .inl (cq0, 501, .inl (fun _ => 0))), (rr 10, .inl (cq0, 501, .inl (fun _ => 0))), (rr 11, .inl (cq0, 501, .inl (fun _ => 0))), (rr 12, .inl (cq0, 501, .inl (fun _ => 0)))] H := hP
  have hD : va_D A [(h0, .inr (5, [.null, .ref q0, .ref q1, .ref q2, .ref q3, .ref qg])), (q0, .inl (cq0, 12, .inl (fun _ => 0))), (q1, .inl (cq0, 12, .inl (fun _ => 0))), (q2, .inl (cq0, 12, .inl (fun _ => 0))), (q3, .inl (cq0, 12, .inl (fun _ => 0))), (qg, .inl (cG, 13, .inr (.inr (.inr (.inr (fun i => if i < 13 then some (rr i) else none)))))), (rr 0, .inl (cq0, 501, .inl (fun _ => 0))), (rr 1, .inl (cq0, 501, .inl (fun _ => 0))), (rr 2, .inl (cq0, 501, .inl (fun _ => 0))), (rr 3, .inl (cq0, 501, .inl (fun _ => 0))), (rr 4, .inl (cq0, 501, .inl (fun _ => 0))), (rr 5, .inl (cq0, 501, .inl (fun _ => 0))), (rr 6, .inl (cq0, 501, .inl (fun _ => 0))), (rr 7, .inl (cq0, 501, .inl (fun _ => 0))), (rr 8, .inl (cq0, 501, .inl (fun _ => 0))), (rr 9, .inl (cq0, 501, .inl (fun _ => 0))), (rr 10, .inl (cq0, 501, .inl (fun _ => 0))), (rr 11, .inl (cq0, 501, .inl (fun _ => 0))), (rr 12, .inl (cq0, 501, .inl (fun _ => 0)))] := hD
  refine lv_aload_n hx hb dX6_init_49 rfl (lv_at hl 0 rfl) ?_
  refine lv_aload_n hx hb dX6_init_50 rfl (lv_at hl 1 rfl) ?_
  refine va_putF (D := D) (ci := 5) (v := .ref h1) (ty := .object "WashHouse$Cells") (C := RX6) (T := TX6) (N := 6) hx hb hts iX6 tyX6 tyX6_ok nmX6 hown hK hP hD hS 0 rfl rfl 0 (by decide) (hts _ ki_X6_29) (fun _ h9 => h9) rfl hin rfl (by decide +kernel) rfl rfl (Nat.le_of_ble_eq_true rfl) dX6_init_51 (fun H locs hP hD hS => ?_)
  have hP : va_P D vwCl [(h0, .inr (5, [.ref h1, .ref q0, .ref q1, .ref q2, .ref q3, .ref qg])), (q0, .inl (cq0, 12, .inl (fun _ => 0))), (q1, .inl (cq0, 12, .inl (fun _ => 0))), (q2, .inl (cq0, 12, .inl (fun _ => 0))), (q3, .inl (cq0, 12, .inl (fun _ => 0))), (qg, .inl (cG, 13, .inr (.inr (.inr (.inr (fun i => if i < 13 then some (rr i) else none)))))), (rr 0, .inl (cq0, 501, .inl (fun _ => 0))), (rr 1, .inl (cq0, 501, .inl (fun _ => 0))), (rr 2, .inl (cq0, 501, .inl (fun _ => 0))), (rr 3, .inl (cq0, 501, .inl (fun _ => 0))), (rr 4, .inl (cq0, 501, .inl (fun _ => 0))), (rr 5, .inl (cq0, 501, .inl (fun _ => 0))), (rr 6, .inl (cq0, 501, .inl (fun _ => 0))), (rr 7, .inl (cq0, 501, .inl (fun _ => 0))), (rr 8, .inl (cq0, 501, .inl (fun _ => 0))), (rr 9, .inl (cq0, 501, .inl (fun _ => 0))), (rr 10, .inl (cq0, 501, .inl (fun _ => 0))), (rr 11, .inl (cq0, 501, .inl (fun _ => 0))), (rr 12, .inl (cq0, 501, .inl (fun _ => 0)))] H := hP
  have hD : va_D A [(h0, .inr (5, [.ref h1, .ref q0, .ref q1, .ref q2, .ref q3, .ref qg])), (q0, .inl (cq0, 12, .inl (fun _ => 0))), (q1, .inl (cq0, 12, .inl (fun _ => 0))), (q2, .inl (cq0, 12, .inl (fun _ => 0))), (q3, .inl (cq0, 12, .inl (fun _ => 0))), (qg, .inl (cG, 13, .inr (.inr (.inr (.inr (fun i => if i < 13 then some (rr i) else none)))))), (rr 0, .inl (cq0, 501, .inl (fun _ => 0))), (rr 1, .inl (cq0, 501, .inl (fun _ => 0))), (rr 2, .inl (cq0, 501, .inl (fun _ => 0))), (rr 3, .inl (cq0, 501, .inl (fun _ => 0))), (rr 4, .inl (cq0, 501, .inl (fun _ => 0))), (rr 5, .inl (cq0, 501, .inl (fun _ => 0))), (rr 6, .inl (cq0, 501, .inl (fun _ => 0))), (rr 7, .inl (cq0, 501, .inl (fun _ => 0))), (rr 8, .inl (cq0, 501, .inl (fun _ => 0))), (rr 9, .inl (cq0, 501, .inl (fun _ => 0))), (rr 10, .inl (cq0, 501, .inl (fun _ => 0))), (rr 11, .inl (cq0, 501, .inl (fun _ => 0))), (rr 12, .inl (cq0, 501, .inl (fun _ => 0)))] := hD
  exact W.vret hx hb hr (fun t ht hW => ⟨⟨((q0, q1, q2, q3), (qg, rr), cq0, cG), rfl, trivial, by rw [ht]; exact hP, va_K.moved hW.alike hK, hD⟩, hS.F ht⟩) hS.2.2 dX6_init_54 hlocks
theorem mi_X6_init : Cond.instanceMethod yX6_init ∈ lw_good ∧ Cond.initialized yX6_init.cls ∈ lw_good ∧ Cond.code yX6_init cX6_init 2 none ∈ lw_good := by decide +kernel
set_option maxHeartbeats 4000000 in
set_option maxRecDepth 100000 in
theorem ti_X10_init (l : Launch) (D : va_G) (h0 : Nat) (sz : Nat) : Met l yX10_init (.code yX10_init cX10_init 1 none :: lw_good) { frames := 1, cells := 14, slots := 1067011, locals := 20 } (cPreI D [(h0, .inr (9, [.int 0, .null, .null, .null, .int 0, .null, .int 0, .int 0, .int 0, .int 0, .null, .int 0, .null, .null, .null, .int 0, .null, .null, .null, .null, .null, .null]))] sz [.ref h0]) (va_Qv (fun (_ : (Nat × Nat × Nat × Nat × Nat × Nat × Nat × Nat × Nat × Nat × Nat × Nat × Nat × Nat) × ClassId) => True) (fun u t => va_P D vwCl [(h0, .inr (9, [.int 0, .ref u.1.1, .ref u.1.2.1, .ref u.1.2.2.1, .int 0, .ref u.1.2.2.2.1, .int 0, .int 0, .int 0, .int 0, .ref u.1.2.2.2.2.1, .int 0, .ref u.1.2.2.2.2.2.1, .ref u.1.2.2.2.2.2.2.1, .ref u.1.2.2.2.2.2.2.2.1, .int 0, .ref u.1.2.2.2.2.2.2.2.2.1, .ref u.1.2.2.2.2.2.2.2.2.2.1, .ref u.1.2.2.2.2.2.2.2.2.2.2.1, .ref u.1.2.2.2.2.2.2.2.2.2.2.2.1, .ref u.1.2.2.2.2.2.2.2.2.2.2.2.2.1, .ref u.1.2.2.2.2.2.2.2.2.2.2.2.2.2])), (u.1.1, .inl (u.2, 11360, .inl (upd (upd (upd (fun _ => 0) (11353 : Int32).toNatClampNeg 100) (11354 : Int32).toNatClampNeg 100) (11355 : Int32).toNatClampNeg 100))), (u.1.2.1, .inl (u.2, 524288, .inl (fun _ => 0))), (u.1.2.2.1, .inl (u.2, 524288, .inl (fun _ => 0))), (u.1.2.2.2.1, .inl (u.2, 301, .inl (fun _ => 0))), (u.1.2.2.2.2.1, .inl (u.2, 30, .inl (fun _ => 0))), (u.1.2.2.2.2.2.1, .inl (u.2, 60, .inl (fun _ => 0))), (u.1.2.2.2.2.2.2.1, .inl (u.2, 12, .inl (fun _ => 0))), (u.1.2.2.2.2.2.2.2.1, .inl (u.2, 12, .inl (fun _ => 0))), (u.1.2.2.2.2.2.2.2.2.1, .inl (u.2, 6513, .inl (fun _ => 0))), (u.1.2.2.2.2.2.2.2.2.2.1, .inl (u.2, 12, .inl (fun _ => 0))), (u.1.2.2.2.2.2.2.2.2.2.2.1, .inl (u.2, 12, .inl (fun _ => 0))), (u.1.2.2.2.2.2.2.2.2.2.2.2.1, .inl (u.2, 60, .inl (fun _ => 0))), (u.1.2.2.2.2.2.2.2.2.2.2.2.2.1, .inl (u.2, 3, .inl (fun _ => 0))), (u.1.2.2.2.2.2.2.2.2.2.2.2.2.2, .inl (u.2, 60, .inl (fun _ => 0)))] t.heap ∧ va_K D vwCl [(u.2, .int)] t ∧ va_D (va_A [(h0, .inr (9, [.int 0, .null, .null, .null, .int 0, .null, .int 0, .int 0, .int 0, .int 0, .null, .int 0, .null, .null, .null, .int 0, .null, .null, .null, .null, .null, .null]))] sz) [(h0, .inr (9, [.int 0, .ref u.1.1, .ref u.1.2.1, .ref u.1.2.2.1, .int 0, .ref u.1.2.2.2.1, .int 0, .int 0, .int 0, .int 0, .ref u.1.2.2.2.2.1, .int 0, .ref u.1.2.2.2.2.2.1, .ref u.1.2.2.2.2.2.2.1, .ref u.1.2.2.2.2.2.2.2.1, .int 0, .ref u.1.2.2.2.2.2.2.2.2.1, .ref u.1.2.2.2.2.2.2.2.2.2.1, .ref u.1.2.2.2.2.2.2.2.2.2.2.1, .ref u.1.2.2.2.2.2.2.2.2.2.2.2.1, .ref u.1.2.2.2.2.2.2.2.2.2.2.2.2.1, .ref u.1.2.2.2.2.2.2.2.2.2.2.2.2.2])), (u.1.1, .inl (u.2, 11360, .inl (upd (upd (upd (fun _ => 0) (11353 : Int32).toNatClampNeg 100) (11354 : Int32).toNatClampNeg 100) (11355 : Int32).toNatClampNeg 100))), (u.1.2.1, .inl (u.2, 524288, .inl (fun _ => 0))), (u.1.2.2.1, .inl (u.2, 524288, .inl (fun _ => 0))), (u.1.2.2.2.1, .inl (u.2, 301, .inl (fun _ => 0))), (u.1.2.2.2.2.1, .inl (u.2, 30, .inl (fun _ => 0))), (u.1.2.2.2.2.2.1, .inl (u.2, 60, .inl (fun _ => 0))), (u.1.2.2.2.2.2.2.1, .inl (u.2, 12, .inl (fun _ => 0))), (u.1.2.2.2.2.2.2.2.1, .inl (u.2, 12, .inl (fun _ => 0))), (u.1.2.2.2.2.2.2.2.2.1, .inl (u.2, 6513, .inl (fun _ => 0))), (u.1.2.2.2.2.2.2.2.2.2.1, .inl (u.2, 12, .inl (fun _ => 0))), (u.1.2.2.2.2.2.2.2.2.2.2.1, .inl (u.2, 12, .inl (fun _ => 0))), (u.1.2.2.2.2.2.2.2.2.2.2.2.1, .inl (u.2, 60, .inl (fun _ => 0))), (u.1.2.2.2.2.2.2.2.2.2.2.2.2.1, .inl (u.2, 3, .inl (fun _ => 0))), (u.1.2.2.2.2.2.2.2.2.2.2.2.2.2, .inl (u.2, 60, .inl (fun _ => 0)))]) (va_A [(h0, .inr (9, [.int 0, .null, .null, .null, .int 0, .null, .int 0, .int 0, .int 0, .int 0, .null, .int 0, .null, .null, .null, .int 0, .null, .null, .null, .null, .null, .null]))] sz)) 14 1067011 (va_A [(h0, .inr (9, [.int 0, .null, .null, .null, .int 0, .null, .int 0, .int 0, .int 0, .int 0, .null, .int 0, .null, .null, .null, .int 0, .null, .null, .null, .null, .null, .null]))] sz) := by
  refine entI (own := RX10) (As := [.ref h0]) (by decide +kernel) rfl rfl (Nat.le_of_ble_eq_true rfl) (fun _ _ h => h.1) ?_
  intro p e s m args below meth c ls B hr hlocks hin hv hl
  obtain ⟨-, hsz, hP, hKN, hD0⟩ := hv
  subst hsz
  obtain ⟨hx, hb, hml, hown, hts⟩ := id B
  have hK := hKN.1
  have hD := hD0.self (sz := s.heap.size)
  generalize hAe : va_A [(h0, .inr (9, [.int 0, .null, .null, .null, .int 0, .null, .int 0, .int 0, .int 0, .int 0, .null, .int 0, .null, .null, .null, .int 0, .null, .null, .null, .null, .null, .null]))] s.heap.size = A at hD ⊢
  have hA : ∀ q : Nat, s.heap.size ≤ q → A q := fun q h => by rw [← hAe]; exact Or.inr h
  have hS : va_S A s.heap s.heap [] := va_S.rf
  have hl : lv_has ls 1 [(0, .ref h0)] := hl
  refine lv_aload_n hx hb dX10_init_0 rfl (lv_at hl 0 rfl) ?_
  refine W.objInit hx hb hown (hts _ ki_X10_1) (hts _ oi_w.1) (hts _ oi_w.2) rfl (by rw [hml]; exact hl.1) rfl dX10_init_1 (Nat.le_of_ble_eq_true rfl) (Nat.le_of_ble_eq_true rfl) ?_
  refine W.eq (g2 := F0 m 4 ls []) rfl ?_
  refine lv_aload_n hx hb dX10_init_4 rfl (lv_at hl 0 rfl) ?_
  refine lv_sipush (v := 11360) hx hb dX10_init_5 (by decide) ?_
  refine va_newa (atype := .int) (ty := .int) (N' := 11360) (a0 := (11360, .inl (fun _ => 0))) hx hb (hts _ ac_w.2.2.2) rfl hK hP hD hS hA (fun _ => rfl) (by decide) (by decide +kernel) (by decide) (Nat.le_of_ble_eq_true rfl) (Nat.le_of_ble_eq_true rfl) dX10_init_8 (fun q0 cq0 H hKx hP hD hS => ?_)
  have hK : va_K D vwCl [(cq0, .int)] s := hKx
  have hP : va_P D vwCl [(h0, .inr (9, [.int 0, .null, .null, .null, .int 0, .null, .int 0, .int 0, .int 0, .int 0, .null, .int 0, .null, .null, .null, .int 0, .null, .null, .null, .null, .null, .null])), (q0, .inl (cq0, 11360, .inl (fun _ => 0)))] H := hP
  have hD : va_D A [(h0, .inr (9, [.int 0, .null, .null, .null, .int 0, .null, .int 0, .int 0, .int 0, .int 0, .null, .int 0, .null, .null, .null, .int 0, .null, .null, .null, .null, .null, .null])), (q0, .inl (cq0, 11360, .inl (fun _ => 0)))] := hD
  refine va_putF (D := D) (ci := 9) (v := .ref q0) (ty := .array .int) (C := RX10) (T := TX10) (N := 22) hx hb hts iX10 tyX10 tyX10_ok nmX10 hown hK hP hD hS 0 rfl rfl 1 (by decide) (hts _ ki_X10_7) (fun _ h9 => h9) rfl hin rfl (by decide +kernel) rfl rfl (Nat.le_of_ble_eq_true rfl) dX10_init_10 (fun H locs hP hD hS => ?_)
  have hP : va_P D vwCl [(h0, .inr (9, [.int 0, .ref q0, .null, .null, .int 0, .null, .int 0, .int 0, .int 0, .int 0, .null, .int 0, .null, .null, .null, .int 0, .null, .null, .null, .null, .null, .null])), (q0, .inl (cq0, 11360, .inl (fun _ => 0)))] H := hP
  have hD : va_D A [(h0, .inr (9, [.int 0, .ref q0, .null, .null, .int 0, .null, .int 0, .int 0, .int 0, .int 0, .null, .int 0, .null, .null, .null, .int 0, .null, .null, .null, .null, .null, .null])), (q0, .inl (cq0, 11360, .inl (fun _ => 0)))] := hD
  refine lv_aload_n hx hb dX10_init_13 rfl (lv_at hl 0 rfl) ?_
  refine lv_ldc (v := 524288) hx hb hown (hts _ ki_X10_13) dX10_init_14 ?_
  refine va_newa (atype := .int) (ty := .int) (N' := 524288) (a0 := (524288, .inl (fun _ => 0))) hx hb (hts _ ac_w.2.2.2) rfl hK hP hD hS hA (fun _ => rfl) (by decide) (by decide +kernel) (by decide) (Nat.le_of_ble_eq_true rfl) (Nat.le_of_ble_eq_true rfl) dX10_init_16 (fun q1 cq1 H hKx hP hD hS => ?_)
  have hcq : cq0 = cq1 := Option.some.inj ((va_nm_int (hK.2 0 _ rfl).2).symm.trans (va_nm_int (hKx.2 1 _ rfl).2))
  subst hcq
  have hP : va_P D vwCl [(h0, .inr (9, [.int 0, .ref q0, .null, .null, .int 0, .null, .int 0, .int 0, .int 0, .int 0, .null, .int 0, .null, .null, .null, .int 0, .null, .null, .null, .null, .null, .null])), (q0, .inl (cq0, 11360, .inl (fun _ => 0))), (q1, .inl (cq0, 524288, .inl (fun _ => 0)))] H := hP
  have hD : va_D A [(h0, .inr (9, [.int 0, .ref q0, .null, .null, .int 0, .null, .int 0, .int 0, .int 0, .int 0, .null, .int 0, .null, .null, .null, .int 0, .null, .null, .null, .null, .null, .null])), (q0, .inl (cq0, 11360, .inl (fun _ => 0))), (q1, .inl (cq0, 524288, .inl (fun _ => 0)))] := hD
  refine va_putF (D := D) (ci := 9) (v := .ref q1) (ty := .array .int) (C := RX10) (T := TX10) (N := 22) hx hb hts iX10 tyX10 tyX10_ok nmX10 hown hK hP hD hS 0 rfl rfl 2 (by decide) (hts _ ki_X10_14) (fun _ h9 => h9) rfl hin rfl (by decide +kernel) rfl rfl (Nat.le_of_ble_eq_true rfl) dX10_init_18 (fun H locs hP hD hS => ?_)
  have hP : va_P D vwCl [(h0, .inr (9, [.int 0, .ref q0, .ref q1, .null, .int 0, .null, .int 0, .int 0, .int 0, .int 0, .null, .int 0, .null, .null, .null, .int 0, .null, .null, .null, .null, .null, .null])), (q0, .inl (cq0, 11360, .inl (fun _ => 0))), (q1, .inl (cq0, 524288, .inl (fun _ => 0)))] H := hP
  have hD : va_D A [(h0, .inr (9, [.int 0, .ref q0, .ref q1, .null, .int 0, .null, .int 0, .int 0, .int 0, .int 0, .null, .int 0, .null, .null, .null, .int 0, .null, .null, .null, .null, .null, .null])), (q0, .inl (cq0, 11360, .inl (fun _ => 0))), (q1, .inl (cq0, 524288, .inl (fun _ => 0)))] := hD
  refine lv_aload_n hx hb dX10_init_21 rfl (lv_at hl 0 rfl) ?_
  refine lv_ldc (v := 524288) hx hb hown (hts _ ki_X10_13) dX10_init_22 ?_
  refine va_newa (atype := .int) (ty := .int) (N' := 524288) (a0 := (524288, .inl (fun _ => 0))) hx hb (hts _ ac_w.2.2.2) rfl hK hP hD hS hA (fun _ => rfl) (by decide) (by decide +kernel) (by decide) (Nat.le_of_ble_eq_true rfl) (Nat.le_of_ble_eq_true rfl) dX10_init_24 (fun q2 cq2 H hKx hP hD hS => ?_)
  have hcq : cq0 = cq2 := Option.some.inj ((va_nm_int (hK.2 0 _ rfl).2).symm.trans (va_nm_int (hKx.2 1 _ rfl).2))
  subst hcq
  have hP : va_P D vwCl [(h0, .inr (9, [.int 0, .ref q0, .ref q1, .null, .int 0, .null, .int 0, .int 0, .int 0, .int 0, .null, .int 0, .null, .null, .null, .int 0, .null, .null, .null, .null, .null, .null])), (q0, .inl (cq0, 11360, .inl (fun _ => 0))), (q1, .inl (cq0, 524288, .inl (fun _ => 0))), (q2, .inl (cq0, 524288, .inl (fun _ => 0)))] H := hP
  have hD : va_D A [(h0, .inr (9, [.int 0, .ref q0, .ref q1, .null, .int 0, .null, .int 0, .int 0, .int 0, .int 0, .null, .int 0, .null, .null, .null, .int 0, .null, .null, .null, .null, .null, .null])), (q0, .inl (cq0, 11360, .inl (fun _ => 0))), (q1, .inl (cq0, 524288, .inl (fun _ => 0))), (q2, .inl (cq0, 524288, .inl (fun _ => 0)))] := hD
  refine va_putF (D := D) (ci := 9) (v := .ref q2) (ty := .array .int) (C := RX10) (T := TX10) (N := 22) hx hb hts iX10 tyX10 tyX10_ok nmX10 hown hK hP hD hS 0 rfl rfl 3 (by decide) (hts _ ki_X10_17) (fun _ h9 => h9) rfl hin rfl (by decide +kernel) rfl rfl (Nat.le_of_ble_eq_true rfl) dX10_init_26 (fun H locs hP hD hS => ?_)
  have hP : va_P D vwCl [(h0, .inr (9, [.int 0, .ref q0, .ref q1, .ref q2, .int 0, .null, .int 0, .int 0, .int 0, .int 0, .null, .int 0, .null, .null, .null, .int 0, .null, .null, .null, .null, .null, .null])), (q0, .inl (cq0, 11360, .inl (fun _ => 0))), (q1, .inl (cq0, 524288, .inl (fun _ => 0))), (q2, .inl (cq0, 524288, .inl (fun _ => 0)))] H := hP
  have hD : va_D A [(h0, .inr (9, [.int 0, .ref q0, .ref q1, .ref q2, .int 0, .null, .int 0, .int 0, .int 0, .int 0, .null, .int 0, .null, .null, .null, .int 0, .null, .null, .null, .null, .null, .null])), (q0, .inl (cq0, 11360, .inl (fun _ => 0))), (q1, .inl (cq0, 524288, .inl (fun _ => 0))), (q2, .inl (cq0, 524288, .inl (fun _ => 0)))] := hD
  refine lv_aload_n hx hb dX10_init_29 rfl (lv_at hl 0 rfl) ?_
  refine lv_sipush (v := 301) hx hb dX10_init_30 (by decide) ?_
  refine va_newa (atype := .int) (ty := .int) (N' := 301) (a0 := (301, .inl (fun _ => 0))) hx hb (hts _ ac_w.2.2.2) rfl hK hP hD hS hA (fun _ => rfl) (by decide) (by decide +kernel) (by decide) (Nat.le_of_ble_eq_true rfl) (Nat.le_of_ble_eq_true rfl) dX10_init_33 (fun q3 cq3 H hKx hP hD hS => ?_)
  have hcq : cq0 = cq3 := Option.some.inj ((va_nm_int (hK.2 0 _ rfl).2).symm.trans (va_nm_int (hKx.2 1 _ rfl).2))
  subst hcq
  have hP : va_P D vwCl [(h0, .inr (9, [.int 0, .ref q0, .ref q1, .ref q2, .int 0, .null, .int 0, .int 0, .int 0, .int 0, .null, .int 0, .null, .null, .null, .int 0, .null, .null, .null, .null, .null, .null])), (q0, .inl (cq0, 11360, .inl (fun _ => 0))), (q1, .inl (cq0, 524288, .inl (fun _ => 0))), (q2, .inl (cq0, 524288, .inl (fun _ => 0))), (q3, .inl (cq0, 301, .inl (fun _ => 0)))] H := hP
  have hD : va_D A [(h0, .inr (9, [.int 0, .ref q0, .ref q1, .ref q2, .int 0, .null, .int 0, .int 0, .int 0, .int 0, .null, .int 0, .null, .null, .null, .int 0, .null, .null, .null, .null, .null, .null])), (q0, .inl (cq0, 11360, .inl (fun _ => 0))), (q1, .inl (cq0, 524288, .inl (fun _ => 0))), (q2, .inl (cq0, 524288, .inl (fun _ => 0))), (q3, .inl (cq0, 301, .inl (fun _ => 0)))] := hD
  refine va_putF (D := D) (ci := 9) (v := .ref q3) (ty := .array .int) (C := RX10) (T := TX10) (N := 22) hx hb hts iX10 tyX10 tyX10_ok nmX10 hown hK hP hD hS 0 rfl rfl 5 (by decide) (hts _ ki_X10_20) (fun _ h9 => h9) rfl hin rfl (by decide +kernel) rfl rfl (Nat.le_of_ble_eq_true rfl) dX10_init_35 (fun H locs hP hD hS => ?_)
  have hP : va_P D vwCl [(h0, .inr (9, [.int 0, .ref q0, .ref q1, .ref q2, .int 0, .ref q3, .int 0, .int 0, .int 0, .int 0, .null, .int 0, .null, .null, .null, .int 0, .null, .null, .null, .null, .null, .null])), (q0, .inl (cq0, 11360, .inl (fun _ => 0))), (q1, .inl (cq0, 524288, .inl (fun _ => 0))), (q2, .inl (cq0, 524288, .inl (fun _ => 0))), (q3, .inl (cq0, 301, .inl (fun _ => 0)))] H := hP
  have hD : va_D A [(h0, .inr (9, [.int 0, .ref q0, .ref q1, .ref q2, .int 0, .ref q3, .int 0, .int 0, .int 0, .int 0, .null, .int 0, .null, .null, .null, .int 0, .null, .null, .null, .null, .null, .null])), (q0, .inl (cq0, 11360, .inl (fun _ => 0))), (q1, .inl (cq0, 524288, .inl (fun _ => 0))), (q2, .inl (cq0, 524288, .inl (fun _ => 0))), (q3, .inl (cq0, 301, .inl (fun _ => 0)))] := hD
  refine lv_aload_n hx hb dX10_init_38 rfl (lv_at hl 0 rfl) ?_
  refine lv_bipush (v := 30) hx hb dX10_init_39 (by decide) ?_
  refine va_newa (atype := .int) (ty := .int) (N' := 30) (a0 := (30, .inl (fun _ => 0))) hx hb (hts _ ac_w.2.2.2) rfl hK hP hD hS hA (fun _ => rfl) (by decide) (by decide +kernel) (by decide) (Nat.le_of_ble_eq_true rfl) (Nat.le_of_ble_eq_true rfl) dX10_init_41 (fun q4 cq4 H hKx hP hD hS => ?_)
  have hcq : cq0 = cq4 := Option.some.inj ((va_nm_int (hK.2 0 _ rfl).2).symm.trans (va_nm_int (hKx.2 1 _ rfl).2))
  subst hcq
  have hP : va_P D vwCl [(h0, .inr (9, [.int 0, .ref q0, .ref q1, .ref q2, .int 0, .ref q3, .int 0, .int 0, .int 0, .int 0, .null, .int 0, .null, .null, .null, .int 0, .null, .null, .null, .null, .null, .null])), (q0, .inl (cq0, 11360, .inl (fun _ => 0))), (q1, .inl (cq0, 524288, .inl (fun _ => 0))), (q2, .inl (cq0, 524288, .inl (fun _ => 0))), (q3, .inl (cq0, 301, .inl (fun _ => 0))), (q4, .inl (cq0, 30, .inl (fun _ => 0)))] H := hP
  have hD : va_D A [(h0, .inr (9, [.int 0, .ref q0, .ref q1, .ref q2, .int 0, .ref q3, .int 0, .int 0, .int 0, .int 0, .null, .int 0, .null, .null, .null, .int 0, .null, .null, .null, .null, .null, .null])), (q0, .inl (cq0, 11360, .inl (fun _ => 0))), (q1, .inl (cq0, 524288, .inl (fun _ => 0))), (q2, .inl (cq0, 524288, .inl (fun _ => 0))), (q3, .inl (cq0, 301, .inl (fun _ => 0))), (q4, .inl (cq0, 30, .inl (fun _ => 0)))] := hD
  refine va_putF (D := D) (ci := 9) (v := .ref q4) (ty := .array .int) (C := RX10) (T := TX10) (N := 22) hx hb hts iX10 tyX10 tyX10_ok nmX10 hown hK hP hD hS 0 rfl rfl 10 (by decide) (hts _ ki_X10_23) (fun _ h9 => h9) rfl hin rfl (by decide +kernel) rfl rfl (Nat.le_of_ble_eq_true rfl) dX10_init_43 (fun H locs hP hD hS => ?_)
  have hP : va_P D vwCl [(h0, .inr (9, [.int 0, .ref q0, .ref q1, .ref q2, .int 0, .ref q3, .int 0, .int 0, .int 0, .int 0, .ref q4, .int 0, .null, .null, .null, .int 0, .null, .null, .null, .null, .null, .null])), (q0, .inl (cq0, 11360, .inl (fun _ => 0))), (q1, .inl (cq0, 524288, .inl (fun _ => 0))), (q2, .inl (cq0, 524288, .inl (fun _ => 0))), (q3, .inl (cq0, 301, .inl (fun _ => 0))), (q4, .inl (cq0, 30, .inl (fun _ => 0)))] H := hP
  have hD : va_D A [(h0, .inr (9, [.int 0, .ref q0, .ref q1, .ref q2, .int 0, .ref q3, .int 0, .int 0, .int 0, .int 0, .ref q4, .int 0, .null, .null, .null, .int 0, .null, .null, .null, .null, .null, .null])), (q0, .inl (cq0, 11360, .inl (fun _ => 0))), (q1, .inl (cq0, 524288, .inl (fun _ => 0))), (q2, .inl (cq0, 524288, .inl (fun _ => 0))), (q3, .inl (cq0, 301, .inl (fun _ => 0))), (q4, .inl (cq0, 30, .inl (fun _ => 0)))] := hD
  refine lv_aload_n hx hb dX10_init_46 rfl (lv_at hl 0 rfl) ?_
  refine lv_bipush (v := 60) hx hb dX10_init_47 (by decide) ?_
  refine va_newa (atype := .int) (ty := .int) (N' := 60) (a0 := (60, .inl (fun _ => 0))) hx hb (hts _ ac_w.2.2.2) rfl hK hP hD hS hA (fun _ => rfl) (by decide) (by decide +kernel) (by decide) (Nat.le_of_ble_eq_true rfl) (Nat.le_of_ble_eq_true rfl) dX10_init_49 (fun q5 cq5 H hKx hP hD hS => ?_)
  have hcq : cq0 = cq5 := Option.some.inj ((va_nm_int (hK.2 0 _ rfl).2).symm.trans (va_nm_int (hKx.2 1 _ rfl).2))
  subst hcq
  have hP : va_P D vwCl [(h0, .inr (9, [.int 0, .ref q0, .ref q1, .ref q2, .int 0, .ref q3, .int 0, .int 0, .int 0, .int 0, .ref q4, .int 0, .null, .null, .null, .int 0, .null, .null, .null, .null, .null, .null])), (q0, .inl (cq0, 11360, .inl (fun _ => 0))), (q1, .inl (cq0, 524288, .inl (fun _ => 0))), (q2, .inl (cq0, 524288, .inl (fun _ => 0))), (q3, .inl (cq0, 301, .inl (fun _ => 0))), (q4, .inl (cq0, 30, .inl (fun _ => 0))), (q5, .inl (cq0, 60, .inl (fun _ => 0)))] H := hP
  have hD : va_D A [(h0, .inr (9, [.int 0, .ref q0, .ref q1, .ref q2, .int 0, .ref q3, .int 0, .int 0, .int 0, .int 0, .ref q4, .int 0, .null, .null, .null, .int 0, .null, .null, .null, .null, .null, .null])), (q0, .inl (cq0, 11360, .inl (fun _ => 0))), (q1, .inl (cq0, 524288, .inl (fun _ => 0))), (q2, .inl (cq0, 524288, .inl (fun _ => 0))), (q3, .inl (cq0, 301, .inl (fun _ => 0))), (q4, .inl (cq0, 30, .inl (fun _ => 0))), (q5, .inl (cq0, 60, .inl (fun _ => 0)))] := hD
  refine va_putF (D := D) (ci := 9) (v := .ref q5) (ty := .array .int) (C := RX10) (T := TX10) (N := 22) hx hb hts iX10 tyX10 tyX10_ok nmX10 hown hK hP hD hS 0 rfl rfl 12 (by decide) (hts _ ki_X10_26) (fun _ h9 => h9) rfl hin rfl (by decide +kernel) rfl rfl (Nat.le_of_ble_eq_true rfl) dX10_init_51 (fun H locs hP hD hS => ?_)
  have hP : va_P D vwCl [(h0, .inr (9, [.int 0, .ref q0, .ref q1, .ref q2, .int 0, .ref q3, .int 0, .int 0, .int 0, .int 0, .ref q4, .int 0, .ref q5, .null, .null, .int 0, .null, .null, .null, .null, .null, .null])), (q0, .inl (cq0, 11360, .inl (fun _ => 0))), (q1, .inl (cq0, 524288, .inl (fun _ => 0))), (q2, .inl (cq0, 524288, .inl (fun _ => 0))), (q3, .inl (cq0, 301, .inl (fun _ => 0))), (q4, .inl (cq0, 30, .inl (fun _ => 0))), (q5, .inl (cq0, 60, .inl (fun _ => 0)))] H := hP
  have hD : va_D A [(h0, .inr (9, [.int 0, .ref q0, .ref q1, .ref q2, .int 0, .ref q3, .int 0, .int 0, .int 0, .int 0, .ref q4, .int 0, .ref q5, .null, .null, .int 0, .null, .null, .null, .null, .null, .null])), (q0, .inl (cq0, 11360, .inl (fun _ => 0))), (q1, .inl (cq0, 524288, .inl (fun _ => 0))), (q2, .inl (cq0, 524288, .inl (fun _ => 0))), (q3, .inl (cq0, 301, .inl (fun _ => 0))), (q4, .inl (cq0, 30, .inl (fun _ => 0))), (q5, .inl (cq0, 60, .inl (fun _ => 0)))] := hD
  refine lv_aload_n hx hb dX10_init_54 rfl (lv_at hl 0 rfl) ?_
  refine lv_bipush (v := 12) hx hb dX10_init_55 (by decide) ?_
  refine va_newa (atype := .int) (ty := .int) (N' := 12) (a0 := (12, .inl (fun _ => 0))) hx hb (hts _ ac_w.2.2.2) rfl hK hP hD hS hA (fun _ => rfl) (by decide) (by decide +kernel) (by decide) (Nat.le_of_ble_eq_true rfl) (Nat.le_of_ble_eq_true rfl) dX10_init_57 (fun q6 cq6 H hKx hP hD hS => ?_)
  have hcq : cq0 = cq6 := Option.some.inj ((va_nm_int (hK.2 0 _ rfl).2).symm.trans (va_nm_int (hKx.2 1 _ rfl).2))
  subst hcq
  have hP : va_P D vwCl [(h0, .inr (9, [.int 0, .ref q0, .ref q1, .ref q2, .int 0, .ref q3, .int 0, .int 0, .int 0, .int 0, .ref q4, .int 0, .ref q5, .null, .null, .int 0, .null, .null, .null, .null, .null, .null])), (q0, .inl (cq0, 11360, .inl (fun _ => 0))), (q1, .inl (cq0, 524288, .inl (fun _ => 0))), (q2, .inl (cq0, 524288, .inl (fun _ => 0))), (q3, .inl (cq0, 301, .inl (fun _ => 0))), (q4, .inl (cq0, 30, .inl (fun _ => 0))), (q5, .inl (cq0, 60, .inl (fun _ => 0))), (q6, .inl (cq0, 12, .inl (fun _ => 0)))] H := hP
  have hD : va_D A [(h0, .inr (9, [.int 0, .ref q0, .ref q1, .ref q2, .int 0, .ref q3, .int 0, .int 0, .int 0, .int 0, .ref q4, .int 0, .ref q5, .null, .null, .int 0, .null, .null, .null, .null, .null, .null])), (q0, .inl (cq0, 11360, .inl (fun _ => 0))), (q1, .inl (cq0, 524288, .inl (fun _ => 0))), (q2, .inl (cq0, 524288, .inl (fun _ => 0))), (q3, .inl (cq0, 301, .inl (fun _ => 0))), (q4, .inl (cq0, 30, .inl (fun _ => 0))), (q5, .inl (cq0, 60, .inl (fun _ => 0))), (q6, .inl (cq0, 12, .inl (fun _ => 0)))] := hD
  refine va_putF (D := D) (ci := 9) (v := .ref q6) (ty := .array .int) (C := RX10) (T := TX10) (N := 22) hx hb hts iX10 tyX10 tyX10_ok nmX10 hown hK hP hD hS 0 rfl rfl 13 (by decide) (hts _ ki_X10_29) (fun _ h9 => h9) rfl hin rfl (by decide +kernel) rfl rfl (Nat.le_of_ble_eq_true rfl) dX10_init_59 (fun H locs hP hD hS => ?_)
  have hP : va_P D vwCl [(h0, .inr (9, [.int 0, .ref q0, .ref q1, .ref q2, .int 0, .ref q3, .int 0, .int 0, .int 0, .int 0, .ref q4, .int 0, .ref q5, .ref q6, .null, .int 0, .null, .null, .null, .null, .null, .null])), (q0, .inl (cq0, 11360, .inl (fun _ => 0))), (q1, .inl (cq0, 524288, .inl (fun _ => 0))), (q2, .inl (cq0, 524288, .inl (fun _ => 0))), (q3, .inl (cq0, 301, .inl (fun _ => 0))), (q4, .inl (cq0, 30, .inl (fun _ => 0))), (q5, .inl (cq0, 60, .inl (fun _ => 0))), (q6, .inl (cq0, 12, .inl (fun _ => 0)))] H := hP
  have hD : va_D A [(h0, .inr (9, [.int 0, .ref q0, .ref q1, .ref q2, .int 0, .ref q3, .int 0, .int 0, .int 0, .int 0, .ref q4, .int 0, .ref q5, .ref q6, .null, .int 0, .null, .null, .null, .null, .null, .null])), (q0, .inl (cq0, 11360, .inl (fun _ => 0))), (q1, .inl (cq0, 524288, .inl (fun _ => 0))), (q2, .inl (cq0, 524288, .inl (fun _ => 0))), (q3, .inl (cq0, 301, .inl (fun _ => 0))), (q4, .inl (cq0, 30, .inl (fun _ => 0))), (q5, .inl (cq0, 60, .inl (fun _ => 0))), (q6, .inl (cq0, 12, .inl (fun _ => 0)))] := hD
  refine lv_aload_n hx hb dX10_init_62 rfl (lv_at hl 0 rfl) ?_
  refine lv_bipush (v := 12) hx hb dX10_init_63 (by decide) ?_
  refine va_newa (atype := .int) (ty := .int) (N' := 12) (a0 := (12, .inl (fun _ => 0))) hx hb (hts _ ac_w.2.2.2) rfl hK hP hD hS hA (fun _ => rfl) (by decide) (by decide +kernel) (by decide) (Nat.le_of_ble_eq_true rfl) (Nat.le_of_ble_eq_true rfl) dX10_init_65 (fun q7 cq7 H hKx hP hD hS => ?_)
  have hcq : cq0 = cq7 := Option.some.inj ((va_nm_int (hK.2 0 _ rfl).2).symm.trans (va_nm_int (hKx.2 1 _ rfl).2))
  subst hcq
  have hP : va_P D vwCl [(h0, .inr (9, [.int 0, .ref q0, .ref q1, .ref q2, .int 0, .ref q3, .int 0, .int 0, .int 0, .int 0, .ref q4, .int 0, .ref q5, .ref q6, .null, .int 0, .null, .null, .null, .null, .null, .null])), (q0, .inl (cq0, 11360, .inl (fun _ => 0))), (q1, .inl (cq0, 524288, .inl (fun _ => 0))), (q2, .inl (cq0, 524288, .inl (fun _ => 0))), (q3, .inl (cq0, 301, .inl (fun _ => 0))), (q4, .inl (cq0, 30, .inl (fun _ => 0))), (q5, .inl (cq0, 60, .inl (fun _ => 0))), (q6, .inl (cq0, 12, .inl (fun _ => 0))), (q7, .inl (cq0, 12, .inl (fun _ => 0)))] H := hP
  have hD : va_D A [(h0, .inr (9, [.int 0, .ref q0, .ref q1, .ref q2, .int 0, .ref q3, .int 0, .int 0, .int 0, .int 0, .ref q4, .int 0, .ref q5, .ref q6, .null, .int 0, .null, .null, .null, .null, .null, .null])), (q0, .inl (cq0, 11360, .inl (fun _ => 0))), (q1, .inl (cq0, 524288, .inl (fun _ => 0))), (q2, .inl (cq0, 524288, .inl (fun _ => 0))), (q3, .inl (cq0, 301, .inl (fun _ => 0))), (q4, .inl (cq0, 30, .inl (fun _ => 0))), (q5, .inl (cq0, 60, .inl (fun _ => 0))), (q6, .inl (cq0, 12, .inl (fun _ => 0))), (q7, .inl (cq0, 12, .inl (fun _ => 0)))] := hD
  refine va_putF (D := D) (ci := 9) (v := .ref q7) (ty := .array .int) (C := RX10) (T := TX10) (N := 22) hx hb hts iX10 tyX10 tyX10_ok nmX10 hown hK hP hD hS 0 rfl rfl 14 (by decide) (hts _ ki_X10_32) (fun _ h9 => h9) rfl hin rfl (by decide +kernel) rfl rfl (Nat.le_of_ble_eq_true rfl) dX10_init_67 (fun H locs hP hD hS => ?_)
  have hP : va_P D vwCl [(h0, .inr (9, [.int 0, .ref q0, .ref q1, .ref q2, .int 0, .ref q3, .int 0, .int 0, .int 0, .int 0, .ref q4, .int 0, .ref q5, .ref q6, .ref q7, .int 0, .null, .null, .null, .null, .null, .null])), (q0, .inl (cq0, 11360, .inl (fun _ => 0))), (q1, .inl (cq0, 524288, .inl (fun _ => 0))), (q2, .inl (cq0, 524288, .inl (fun _ => 0))), (q3, .inl (cq0, 301, .inl (fun _ => 0))), (q4, .inl (cq0, 30, .inl (fun _ => 0))), (q5, .inl (cq0, 60, .inl (fun _ => 0))), (q6, .inl (cq0, 12, .inl (fun _ => 0))), (q7, .inl (cq0, 12, .inl (fun _ => 0)))] H := hP
  have hD : va_D A [(h0, .inr (9, [.int 0, .ref q0, .ref q1, .ref q2, .int 0, .ref q3, .int 0, .int 0, .int 0, .int 0, .ref q4, .int 0, .ref q5, .ref q6, .ref q7, .int 0, .null, .null, .null, .null, .null, .null])), (q0, .inl (cq0, 11360, .inl (fun _ => 0))), (q1, .inl (cq0, 524288, .inl (fun _ => 0))), (q2, .inl (cq0, 524288, .inl (fun _ => 0))), (q3, .inl (cq0, 301, .inl (fun _ => 0))), (q4, .inl (cq0, 30, .inl (fun _ => 0))), (q5, .inl (cq0, 60, .inl (fun _ => 0))), (q6, .inl (cq0, 12, .inl (fun _ => 0))), (q7, .inl (cq0, 12, .inl (fun _ => 0)))] := hD
  refine lv_aload_n hx hb dX10_init_70 rfl (lv_at hl 0 rfl) ?_
  refine lv_sipush (v := 6513) hx hb dX10_init_71 (by decide) ?_
  refine va_newa (atype := .int) (ty := .int) (N' := 6513) (a0 := (6513, .inl (fun _ => 0))) hx hb (hts _ ac_w.2.2.2) rfl hK hP hD hS hA (fun _ => rfl) (by decide) (by decide +kernel) (by decide) (Nat.le_of_ble_eq_true rfl) (Nat.le_of_ble_eq_true rfl) dX10_init_74 (fun q8 cq8 H hKx hP hD hS => ?_)
  have hcq : cq0 = cq8 := Option.some.inj ((va_nm_int (hK.2 0 _ rfl).2).symm.trans (va_nm_int (hKx.2 1 _ rfl).2))
  subst hcq
  have hP : va_P D vwCl [(h0, .inr (9, [.int 0, .ref q0, .ref q1, .ref q2, .int 0, .ref q3, .int 0, .int 0, .int 0, .int 0, .ref q4, .int 0, .ref q5, .ref q6, .ref q7, .int 0, .null, .null, .null, .null, .null, .null])), (q0, .inl (cq0, 11360, .inl (fun _ => 0))), (q1, .inl (cq0, 524288, .inl (fun _ => 0))), (q2, .inl (cq0, 524288, .inl (fun _ => 0))), (q3, .inl (cq0, 301, .inl (fun _ => 0))), (q4, .inl (cq0, 30, .inl (fun _ => 0))), (q5, .inl (cq0, 60, .inl (fun _ => 0))), (q6, .inl (cq0, 12, .inl (fun _ => 0))), (q7, .inl (cq0, 12, .inl (fun _ => 0))), (q8, .inl (cq0, 6513, .inl (fun _ => 0)))] H := hP
  have hD : va_D A [(h0, .inr (9, [.int 0, .ref q0, .ref q1, .ref q2, .int 0, .ref q3, .int 0, .int 0, .int 0, .int 0, .ref q4, .int 0, .ref q5, .ref q6, .ref q7, .int 0, .null, .null, .null, .null, .null, .null])), (q0, .inl (cq0, 11360, .inl (fun _ => 0))), (q1, .inl (cq0, 524288, .inl (fun _ => 0))), (q2, .inl (cq0, 524288, .inl (fun _ => 0))), (q3, .inl (cq0, 301, .inl (fun _ => 0))), (q4, .inl (cq0, 30, .inl (fun _ => 0))), (q5, .inl (cq0, 60, .inl (fun _ => 0))), (q6, .inl (cq0, 12, .inl (fun _ => 0))), (q7, .inl (cq0, 12, .inl (fun _ => 0))), (q8, .inl (cq0, 6513, .inl (fun _ => 0)))] := hD
  refine va_putF (D := D) (ci := 9) (v := .ref q8) (ty := .array .int) (C := RX10) (T := TX10) (N := 22) hx hb hts iX10 tyX10 tyX10_ok nmX10 hown hK hP hD hS 0 rfl rfl 16 (by decide) (hts _ ki_X10_35) (fun _ h9 => h9) rfl hin rfl (by decide +kernel) rfl rfl (Nat.le_of_ble_eq_true rfl) dX10_init_76 (fun H locs hP hD hS => ?_)
  have hP : va_P D vwCl [(h0, .inr (9, [.int 0, .ref q0, .ref q1, .ref q2, .int 0, .ref q3, .int 0, .int 0, .int 0, .int 0, .ref q4, .int 0, .ref q5, .ref q6, .ref q7, .int 0, .ref q8, .null, .null, .null, .null, .null])), (q0, .inl (cq0, 11360, .inl (fun _ => 0))), (q1, .inl (cq0, 524288, .inl (fun _ => 0))), (q2, .inl (cq0, 524288, .inl (fun _ => 0))), (q3, .inl (cq0, 301, .inl (fun _ => 0))), (q4, .inl (cq0, 30, .inl (fun _ => 0))), (q5, .inl (cq0, 60, .inl (fun _ => 0))), (q6, .inl (cq0, 12, .inl (fun _ => 0))), (q7, .inl (cq0, 12, .inl (fun _ => 0))), (q8, .inl (cq0, 6513, .inl (fun _ => 0)))] H := hP
  have hD : va_D A [(h0, .inr (9, [.int 0, .ref q0, .ref q1, .ref q2, .int 0, .ref q3, .int 0, .int 0, .int 0, .int 0, .ref q4, .int 0, .ref q5, .ref q6, .ref q7, .int 0, .ref q8, .null, .null, .null, .null, .null])), (q0, .inl (cq0, 11360, .inl (fun _ => 0))), (q1, .inl (cq0, 524288, .inl (fun _ => 0))), (q2, .inl (cq0, 524288, .inl (fun _ => 0))), (q3, .inl (cq0, 301, .inl (fun _ => 0))), (q4, .inl (cq0, 30, .inl (fun _ => 0))), (q5, .inl (cq0, 60, .inl (fun _ => 0))), (q6, .inl (cq0, 12, .inl (fun _ => 0))), (q7, .inl (cq0, 12, .inl (fun _ => 0))), (q8, .inl (cq0, 6513, .inl (fun _ => 0)))] := hD
  refine lv_aload_n hx hb dX10_init_79 rfl (lv_at hl 0 rfl) ?_
  refine lv_bipush (v := 12) hx hb dX10_init_80 (by decide) ?_
  refine va_newa (atype := .int) (ty := .int) (N' := 12) (a0 := (12, .inl (fun _ => 0))) hx hb (hts _ ac_w.2.2.2) rfl hK hP hD hS hA (fun _ => rfl) (by decide) (by decide +kernel) (by decide) (Nat.le_of_ble_eq_true rfl) (Nat.le_of_ble_eq_true rfl) dX10_init_82 (fun q9 cq9 H hKx hP hD hS => ?_)
  have hcq : cq0 = cq9 := Option.some.inj ((va_nm_int (hK.2 0 _ rfl).2).symm.trans (va_nm_int (hKx.2 1 _ rfl).2))
  subst hcq
  have hP : va_P D vwCl [(h0, .inr (9, [.int 0, .ref q0, .ref q1, .ref q2, .int 0, .ref q3, .int 0, .int 0, .int 0, .int 0, .ref q4, .int 0, .ref q5, .ref q6, .ref q7, .int 0, .ref q8, .null, .null, .null, .null, .null])), (q0, .inl (cq0, 11360, .inl (fun _ => 0))), (q1, .inl (cq0, 524288, .inl (fun _ => 0))), (q2, .inl (cq0, 524288, .inl (fun _ => 0))), (q3, .inl (cq0, 301, .inl (fun _ => 0))), (q4, .inl (cq0, 30, .inl (fun _ => 0))), (q5, .inl (cq0, 60, .inl (fun _ => 0))), (q6, .inl (cq0, 12, .inl (fun _ => 0))), (q7, .inl (cq0, 12, .inl (fun _ => 0))), (q8, .inl (cq0, 6513, .inl (fun _ => 0))), (q9, .inl (cq0, 12, .inl (fun _ => 0)))] H := hP
  have hD : va_D A [(h0, .inr (9, [.int 0, .ref q0, .ref q1, .ref q2, .int 0, .ref q3, .int 0, .int 0, .int 0, .int 0, .ref q4, .int 0, .ref q5, .ref q6, .ref q7, .int 0, .ref q8, .null, .null, .null, .null, .null])), (q0, .inl (cq0, 11360, .inl (fun _ => 0))), (q1, .inl (cq0, 524288, .inl (fun _ => 0))), (q2, .inl (cq0, 524288, .inl (fun _ => 0))), (q3, .inl (cq0, 301, .inl (fun _ => 0))), (q4, .inl (cq0, 30, .inl (fun _ => 0))), (q5, .inl (cq0, 60, .inl (fun _ => 0))), (q6, .inl (cq0, 12, .inl (fun _ => 0))), (q7, .inl (cq0, 12, .inl (fun _ => 0))), (q8, .inl (cq0, 6513, .inl (fun _ => 0))), (q9, .inl (cq0, 12, .inl (fun _ => 0)))] := hD
  refine va_putF (D := D) (ci := 9) (v := .ref q9) (ty := .array .int) (C := RX10) (T := TX10) (N := 22) hx hb hts iX10 tyX10 tyX10_ok nmX10 hown hK hP hD hS 0 rfl rfl 17 (by decide) (hts _ ki_X10_38) (fun _ h9 => h9) rfl hin rfl (by decide +kernel) rfl rfl (Nat.le_of_ble_eq_true rfl) dX10_init_84 (fun H locs hP hD hS => ?_)
  have hP : va_P D vwCl [(h0, .inr (9, [.int 0, .ref q0, .ref q1, .ref q2, .int 0, .ref q3, .int 0, .int 0, .int 0, .int 0, .ref q4, .int 0, .ref q5, .ref q6, .ref q7, .int 0, .ref q8, .ref q9, .null, .null, .null, .null])), (q0, .inl (cq0, 11360, .inl (fun _ => 0))), (q1, .inl (cq0, 524288, .inl (fun _ => 0))), (q2, .inl (cq0, 524288, .inl (fun _ => 0))), (q3, .inl (cq0, 301, .inl (fun _ => 0))), (q4, .inl (cq0, 30, .inl (fun _ => 0))), (q5, .inl (cq0, 60, .inl (fun _ => 0))), (q6, .inl (cq0, 12, .inl (fun _ => 0))), (q7, .inl (cq0, 12, .inl (fun _ => 0))), (q8, .inl (cq0, 6513, .inl (fun _ => 0))), (q9, .inl (cq0, 12, .inl (fun _ => 0)))] H := hP
  have hD : va_D A [(h0, .inr (9, [.int 0, .ref q0, .ref q1, .ref q2, .int 0, .ref q3, .int 0, .int 0, .int 0, .int 0, .ref q4, .int 0, .ref q5, .ref q6, .ref q7, .int 0, .ref q8, .ref q9, .null, .null, .null, .null])), (q0, .inl (cq0, 11360, .inl (fun _ => 0))), (q1, .inl (cq0, 524288, .inl (fun _ => 0))), (q2, .inl (cq0, 524288, .inl (fun _ => 0))), (q3, .inl (cq0, 301, .inl (fun _ => 0))), (q4, .inl (cq0, 30, .inl (fun _ => 0))), (q5, .inl (cq0, 60, .inl (fun _ => 0))), (q6, .inl (cq0, 12, .inl (fun _ => 0))), (q7, .inl (cq0, 12, .inl (fun _ => 0))), (q8, .inl (cq0, 6513, .inl (fun _ => 0))), (q9, .inl (cq0, 12, .inl (fun _ => 0)))] := hD
  refine lv_aload_n hx hb dX10_init_87 rfl (lv_at hl 0 rfl) ?_
  refine lv_bipush (v := 12) hx hb dX10_init_88 (by decide) ?_
  refine va_newa (atype := .int) (ty := .int) (N' := 12) (a0 := (12, .inl (fun _ => 0))) hx hb (hts _ ac_w.2.2.2) rfl hK hP hD hS hA (fun _ => rfl) (by decide) (by decide +kernel) (by decide) (Nat.le_of_ble_eq_true rfl) (Nat.le_of_ble_eq_true rfl) dX10_init_90 (fun q10 cq10 H hKx hP hD hS => ?_)
  have hcq : cq0 = cq10 := Option.some.inj ((va_nm_int (hK.2 0 _ rfl).2).symm.trans (va_nm_int (hKx.2 1 _ rfl).2))
  subst hcq
  have hP : va_P D vwCl [(h0, .inr (9, [.int 0, .ref q0, .ref q1, .ref q2, .int 0, .ref q3, .int 0, .int 0, .int 0, .int 0, .ref q4, .int 0, .ref q5, .ref q6, .ref q7, .int 0, .ref q8, .ref q9, .null, .null, .null, .null])), (q0, .inl (cq0, 11360, .inl (fun _ => 0))), (q1, .inl (cq0, 524288, .inl (fun _ => 0))), (q2, .inl (cq0, 524288, .inl (fun _ => 0))), (q3, .inl (cq0, 301, .inl (fun _ => 0))), (q4, .inl (cq0, 30, .inl (fun _ => 0))), (q5, .inl (cq0, 60, .inl (fun _ => 0))), (q6, .inl (cq0, 12, .inl (fun _ => 0))), (q7, .inl (cq0, 12, .inl (fun _ => 0))), (q8, .inl (cq0, 6513, .inl (fun _ => 0))), (q9, .inl (cq0, 12, .inl (fun _ => 0))), (q10, .inl (cq0, 12, .inl (fun _ => 0)))] H := hP
  have hD : va_D A [(h0, .inr (9, [.int 0, .ref q0, .ref q1, .ref q2, .int 0, .ref q3, .int 0, .int 0, .int 0, .int 0, .ref q4, .int 0, .ref q5, .ref q6, .ref q7, .int 0, .ref q8, .ref q9, .null, .null, .null, .null])), (q0, .inl (cq0, 11360, .inl (fun _ => 0))), (q1, .inl (cq0, 524288, .inl (fun _ => 0))), (q2, .inl (cq0, 524288, .inl (fun _ => 0))), (q3, .inl (cq0, 301, .inl (fun _ => 0))), (q4, .inl (cq0, 30, .inl (fun _ => 0))), (q5, .inl (cq0, 60, .inl (fun _ => 0))), (q6, .inl (cq0, 12, .inl (fun _ => 0))), (q7, .inl (cq0, 12, .inl (fun _ => 0))), (q8, .inl (cq0, 6513, .inl (fun _ => 0))), (q9, .inl (cq0, 12, .inl (fun _ => 0))), (q10, .inl (cq0, 12, .inl (fun _ => 0)))] := hD
  refine va_putF (D := D) (ci := 9) (v := .ref q10) (ty := .array .int) (C := RX10) (T := TX10) (N := 22) hx hb hts iX10 tyX10 tyX10_ok nmX10 hown hK hP hD hS 0 rfl rfl 18 (by decide) (hts _ ki_X10_41) (fun _ h9 => h9) rfl hin rfl (by decide +kernel) rfl rfl (Nat.le_of_ble_eq_true rfl) dX10_init_92 (fun H locs hP hD hS => ?_)
  have hP : va_P D vwCl [(h0, .inr (9, [.int 0, .ref q0, .ref q1, .ref q2, .int 0, .ref q3, .int 0, .int 0, .int 0, .int 0, .ref q4, .int 0, .ref q5, .ref q6, .ref q7, .int 0, .ref q8, .ref q9, .ref q10, .null, .null, .null])), (q0, .inl (cq0, 11360, .inl (fun _ => 0))), (q1, .inl (cq0, 524288, .inl (fun _ => 0))), (q2, .inl (cq0, 524288, .inl (fun _ => 0))), (q3, .inl (cq0, 301, .inl (fun _ => 0))), (q4, .inl (cq0, 30, .inl (fun _ => 0))), (q5, .inl (cq0, 60, .inl (fun _ => 0))), (q6, .inl (cq0, 12, .inl (fun _ => 0))), (q7, .inl (cq0, 12, .inl (fun _ => 0))), (q8, .inl (cq0, 6513, .inl (fun _ => 0))), (q9, .inl (cq0, 12, .inl (fun _ => 0))), (q10, .inl (cq0, 12, .inl (fun _ => 0)))] H := hP
  have hD : va_D A [(h0, .inr (9, [.int 0, .ref q0, .ref q1, .ref q2, .int 0, .ref q3, .int 0, .int 0, .int 0, .int 0, .ref q4, .int 0, .ref q5, .ref q6, .ref q7, .int 0, .ref q8, .ref q9, .ref q10, .null, .null, .null])), (q0, .inl (cq0, 11360, .inl (fun _ => 0))), (q1, .inl (cq0, 524288, .inl (fun _ => 0))), (q2, .inl (cq0, 524288, .inl (fun _ => 0))), (q3, .inl (cq0, 301, .inl (fun _ => 0))), (q4, .inl (cq0, 30, .inl (fun _ => 0))), (q5, .inl (cq0, 60, .inl (fun _ => 0))), (q6, .inl (cq0, 12, .inl (fun _ => 0))), (q7, .inl (cq0, 12, .inl (fun _ => 0))), (q8, .inl (cq0, 6513, .inl (fun _ => 0))), (q9, .inl (cq0, 12, .inl (fun _ => 0))), (q10, .inl (cq0, 12, .inl (fun _ => 0)))] := hD
  refine lv_aload_n hx hb dX10_init_95 rfl (lv_at hl 0 rfl) ?_
  refine lv_bipush (v := 60) hx hb dX10_init_96 (by decide) ?_
  refine va_newa (atype := .int) (ty := .int) (N' := 60) (a0 := (60, .inl (fun _ => 0))) hx hb (hts _ ac_w.2.2.2) rfl hK hP hD hS hA (fun _ => rfl) (by decide) (by decide +kernel) (by decide) (Nat.le_of_ble_eq_true rfl) (Nat.le_of_ble_eq_true rfl) dX10_init_98 (fun q11 cq11 H hKx hP hD hS => ?_)
  have hcq : cq0 = cq11 := Option.some.inj ((va_nm_int (hK.2 0 _ rfl).2).symm.trans (va_nm_int (hKx.2 1 _ rfl).2))
  subst hcq
  have hP : va_P D vwCl [(h0, .inr (9, [.int 0, .ref q0, .ref q1, .ref q2, .int 0, .ref q3, .int 0, .int 0, .int 0, .int 0, .ref q4, .int 0, .ref q5, .ref q6, .ref q7, .int 0, .ref q8, .ref q9, .ref q10, .null, .null, .null])), (q0, .inl (cq0, 11360, .inl (fun _ => 0))), (q1, .inl (cq0, 524288, .inl (fun _ => 0))), (q2, .inl (cq0, 524288, .inl (fun _ => 0))), (q3, .inl (cq0, 301, .inl (fun _ => 0))), (q4, .inl (cq0, 30, .inl (fun _ => 0))), (q5, .inl (cq0, 60, .inl (fun _ => 0))), (q6, .inl (cq0, 12, .inl (fun _ => 0))), (q7, .inl (cq0, 12, .inl (fun _ => 0))), (q8, .inl (cq0, 6513, .inl (fun _ => 0))), (q9, .inl (cq0, 12, .inl (fun _ => 0))), (q10, .inl (cq0, 12, .inl (fun _ => 0))), (q11, .inl (cq0, 60, .inl (fun _ => 0)))] H := hP
  have hD : va_D A [(h0, .inr (9, [.int 0, .ref q0, .ref q1, .ref q2, .int 0, .ref q3, .int 0, .int 0, .int 0, .int 0, .ref q4, .int 0, .ref q5, .ref q6, .ref q7, .int 0, .ref q8, .ref q9, .ref q10, .null, .null, .null])), (q0, .inl (cq0, 11360, .inl (fun _ => 0))), (q1, .inl (cq0, 524288, .inl (fun _ => 0))), (q2, .inl (cq0, 524288, .inl (fun _ => 0))), (q3, .inl (cq0, 301, .inl (fun _ => 0))), (q4, .inl (cq0, 30, .inl (fun _ => 0))), (q5, .inl (cq0, 60, .inl (fun _ => 0))), (q6, .inl (cq0, 12, .inl (fun _ => 0))), (q7, .inl (cq0, 12, .inl (fun _ => 0))), (q8, .inl (cq0, 6513, .inl (fun _ => 0))), (q9, .inl (cq0, 12, .inl (fun _ => 0))), (q10, .inl (cq0, 12, .inl (fun _ => 0))), (q11, .inl (cq0, 60, .inl (fun _ => 0)))] := hD
  refine va_putF (D := D) (ci := 9) (v := .ref q11) (ty := .array .int) (C := RX10) (T := TX10) (N := 22) hx hb hts iX10 tyX10 tyX10_ok nmX10 hown hK hP hD hS 0 rfl rfl 19 (by decide) (hts _ ki_X10_44) (fun _ h9 => h9) rfl hin rfl (by decide +kernel) rfl rfl (Nat.le_of_ble_eq_true rfl) dX10_init_100 (fun H locs hP hD hS => ?_)
  have hP : va_P D vwCl [(h0, .inr (9, [.int 0, .ref q0, .ref q1, .ref q2, .int 0, .ref q3, .int 0, .int 0, .int 0, .int 0, .ref q4, .int 0, .ref q5, .ref q6, .ref q7, .int 0, .ref q8, .ref q9, .ref q10, .ref q11, .null, .null])), (q0, .inl (cq0, 11360, .inl (fun _ => 0))), (q1, .inl (cq0, 524288, .inl (fun _ => 0))), (q2, .inl (cq0, 524288, .inl (fun _ => 0))), (q3, .inl (cq0, 301, .inl (fun _ => 0))), (q4, .inl (cq0, 30, .inl (fun _ => 0))), (q5, .inl (cq0, 60, .inl (fun _ => 0))), (q6, .inl (cq0, 12, .inl (fun _ => 0))), (q7, .inl (cq0, 12, .inl (fun _ => 0))), (q8, .inl (cq0, 6513, .inl (fun _ => 0))), (q9, .inl (cq0, 12, .inl (fun _ => 0))), (q10, .inl (cq0, 12, .inl (fun _ => 0))), (q11, .inl (cq0, 60, .inl (fun _ => 0)))] H := hP
  have hD : va_D A [(h0, .inr (9, [.int 0, .ref q0, .ref q1, .ref q2, .int 0, .ref q3, .int 0, .int 0, .int 0, .int 0, .ref q4, .int 0, .ref q5, .ref q6, .ref q7, .int 0, .ref q8, .ref q9, .ref q10, .ref q11, .null, .null])), (q0, .inl (cq0, 11360, .inl (fun _ => 0))), (q1, .inl (cq0, 524288, .inl (fun _ => 0))), (q2, .inl (cq0, 524288, .inl (fun _ => 0))), (q3, .inl (cq0, 301, .inl (fun _ => 0))), (q4, .inl (cq0, 30, .inl (fun _ => 0))), (q5, .inl (cq0, 60, .inl (fun _ => 0))), (q6, .inl (cq0, 12, .inl (fun _ => 0))), (q7, .inl (cq0, 12, .inl (fun _ => 0))), (q8, .inl (cq0, 6513, .inl (fun _ => 0))), (q9, .inl (cq0, 12, .inl (fun _ => 0))), (q10, .inl (cq0, 12, .inl (fun _ => 0))), (q11, .inl (cq0, 60, .inl (fun _ => 0)))] := hD
  refine lv_aload_n hx hb dX10_init_103 rfl (lv_at hl 0 rfl) ?_
  refine lv_iconst (v := 3) hx hb dX10_init_104 (by decide) ?_
  refine va_newa (atype := .int) (ty := .int) (N' := 3) (a0 := (3, .inl (fun _ => 0))) hx hb (hts _ ac_w.2.2.2) rfl hK hP hD hS hA (fun _ => rfl) (by decide) (by decide +kernel) (by decide) (Nat.le_of_ble_eq_true rfl) (Nat.le_of_ble_eq_true rfl) dX10_init_105 (fun q12 cq12 H hKx hP hD hS => ?_)
  have hcq : cq0 = cq12 := Option.some.inj ((va_nm_int (hK.2 0 _ rfl).2).symm.trans (va_nm_int (hKx.2 1 _ rfl).2))
  subst hcq
  have hP : va_P D vwCl [(h0, .inr (9, [.int 0, .ref q0, .ref q1, .ref q2, .int 0, .ref q3, .int 0, .int 0, .int 0, .int 0, .ref q4, .int 0, .ref q5, .ref q6, .ref q7, .int 0, .ref q8, .ref q9, .ref q10, .ref q11, .null, .null])), (q0, .inl (cq0, 11360, .inl (fun _ => 0))), (q1, .inl (cq0, 524288, .inl (fun _ => 0))), (q2, .inl (cq0, 524288, .inl (fun _ => 0))), (q3, .inl (cq0, 301, .inl (fun _ => 0))), (q4, .inl (cq0, 30, .inl (fun _ => 0))), (q5, .inl (cq0, 60, .inl (fun _ => 0))), (q6, .inl (cq0, 12, .inl (fun _ => 0))), (q7, .inl (cq0, 12, .inl (fun _ => 0))), (q8, .inl (cq0, 6513, .inl (fun _ => 0))), (q9, .inl (cq0, 12, .inl (fun _ => 0))), (q10, .inl (cq0, 12, .inl (fun _ => 0))), (q11, .inl (cq0, 60, .inl (fun _ => 0))), (q12, .inl (cq0, 3, .inl (fun _ => 0)))] H := hP
  have hD : va_D A [(h0, .inr (9, [.int 0, .ref q0, .ref q1, .ref q2, .int 0, .ref q3, .int 0, .int 0, .int 0, .int 0, .ref q4, .int 0, .ref q5, .ref q6, .ref q7, .int 0, .ref q8, .ref q9, .ref q10, .ref q11, .null, .null])), (q0, .inl (cq0, 11360, .inl (fun _ => 0))), (q1, .inl (cq0, 524288, .inl (fun _ => 0))), (q2, .inl (cq0, 524288, .inl (fun _ => 0))), (q3, .inl (cq0, 301, .inl (fun _ => 0))), (q4, .inl (cq0, 30, .inl (fun _ => 0))), (q5, .inl (cq0, 60, .inl (fun _ => 0))), (q6, .inl (cq0, 12, .inl (fun _ => 0))), (q7, .inl (cq0, 12, .inl (fun _ => 0))), (q8, .inl (cq0, 6513, .inl (fun _ => 0))), (q9, .inl (cq0, 12, .inl (fun _ => 0))), (q10, .inl (cq0, 12, .inl (fun _ => 0))), (q11, .inl (cq0, 60, .inl (fun _ => 0))), (q12, .inl (cq0, 3, .inl (fun _ => 0)))] := hD
  refine va_putF (D := D) (ci := 9) (v := .ref q12) (ty := .array .int) (C := RX10) (T := TX10) (N := 22) hx hb hts iX10 tyX10 tyX10_ok nmX10 hown hK hP hD hS 0 rfl rfl 20 (by decide) (hts _ ki_X10_47) (fun _ h9 => h9) rfl hin rfl (by decide +kernel) rfl rfl (Nat.le_of_ble_eq_true rfl) dX10_init_107 (fun H locs hP hD hS => ?_)
  have hP : va_P D vwCl [(h0, .inr (9, [.int 0, .ref q0, .ref q1, .ref q2, .int 0, .ref q3, .int 0, .int 0, .int 0, .int 0, .ref q4, .int 0, .ref q5, .ref q6, .ref q7, .int 0, .ref q8, .ref q9, .ref q10, .ref q11, .ref q12, .null])), (q0, .inl (cq0, 11360, .inl (fun _ => 0))), (q1, .inl (cq0, 524288, .inl (fun _ => 0))), (q2, .inl (cq0, 524288, .inl (fun _ => 0))), (q3, .inl (cq0, 301, .inl (fun _ => 0))), (q4, .inl (cq0, 30, .inl (fun _ => 0))), (q5, .inl (cq0, 60, .inl (fun _ => 0))), (q6, .inl (cq0, 12, .inl (fun _ => 0))), (q7, .inl (cq0, 12, .inl (fun _ => 0))), (q8, .inl (cq0, 6513, .inl (fun _ => 0))), (q9, .inl (cq0, 12, .inl (fun _ => 0))), (q10, .inl (cq0, 12, .inl (fun _ => 0))), (q11, .inl (cq0, 60, .inl (fun _ => 0))), (q12, .inl (cq0, 3, .inl (fun _ => 0)))] H := hP
  have hD : va_D A [(h0, .inr (9, [.int 0, .ref q0, .ref q1, .ref q2, .int 0, .ref q3, .int 0, .int 0, .int 0, .int 0, .ref q4, .int 0, .ref q5, .ref q6, .ref q7, .int 0, .ref q8, .ref q9, .ref q10, .ref q11, .ref q12, .null])), (q0, .inl (cq0, 11360, .inl (fun _ => 0))), (q1, .inl (cq0, 524288, .inl (fun _ => 0))), (q2, .inl (cq0, 524288, .inl (fun _ => 0))), (q3, .inl (cq0, 301, .inl (fun _ => 0))), (q4, .inl (cq0, 30, .inl (fun _ => 0))), (q5, .inl (cq0, 60, .inl (fun _ => 0))), (q6, .inl (cq0, 12, .inl (fun _ => 0))), (q7, .inl (cq0, 12, .inl (fun _ => 0))), (q8, .inl (cq0, 6513, .inl (fun _ => 0))), (q9, .inl (cq0, 12, .inl (fun _ => 0))), (q10, .inl (cq0, 12, .inl (fun _ => 0))), (q11, .inl (cq0, 60, .inl (fun _ => 0))), (q12, .inl (cq0, 3, .inl (fun _ => 0)))] := hD
  refine lv_aload_n hx hb dX10_init_110 rfl (lv_at hl 0 rfl) ?_
  refine lv_bipush (v := 60) hx hb dX10_init_111 (by decide) ?_
  refine va_newa (atype := .int) (ty := .int) (N' := 60) (a0 := (60, .inl (fun _ => 0))) hx hb (hts _ ac_w.2.2.2) rfl hK hP hD hS hA (fun _ => rfl) (by decide) (by decide +kernel) (by decide) (Nat.le_of_ble_eq_true rfl) (Nat.le_of_ble_eq_true rfl) dX10_init_113 (fun q13 cq13 H hKx hP hD hS => ?_)
  have hcq : cq0 = cq13 := Option.some.inj ((va_nm_int (hK.2 0 _ rfl).2).symm.trans (va_nm_int (hKx.2 1 _ rfl).2))
  subst hcq
  have hP : va_P D vwCl [(h0, .inr (9, [.int 0, .ref q0, .ref q1, .ref q2, .int 0, .ref q3, .int 0, .int 0, .int 0, .int 0, .ref q4, .int 0, .ref q5, .ref q6, .ref q7, .int 0, .ref q8, .ref q9, .ref q10, .ref q11, .ref q12, .null])), (q0, .inl (cq0, 11360, .inl (fun _ => 0))), (q1, .inl (cq0, 524288, .inl (fun _ => 0))), (q2, .inl (cq0, 524288, .inl (fun _ => 0))), (q3, .inl (cq0, 301, .inl (fun _ => 0))), (q4, .inl (cq0, 30, .inl (fun _ => 0))), (q5, .inl (cq0, 60, .inl (fun _ => 0))), (q6, .inl (cq0, 12, .inl (fun _ => 0))), (q7, .inl (cq0, 12, .inl (fun _ => 0))), (q8, .inl (cq0, 6513, .inl (fun _ => 0))), (q9, .inl (cq0, 12, .inl (fun _ => 0))), (q10, .inl (cq0, 12, .inl (fun _ => 0))), (q11, .inl (cq0, 60, .inl (fun _ => 0))), (q12, .inl (cq0, 3, .inl (fun _ => 0))), (q13, .inl (cq0, 60, .inl (fun _ => 0)))] H := hP
  have hD : va_D A [(h0, .inr (9, [.int 0, .ref q0, .ref q1, .ref q2, .int 0, .ref q3, .int 0, .int 0, .int 0, .int 0, .ref q4, .int 0, .ref q5, .ref q6, .ref q7, .int 0, .ref q8, .ref q9, .ref q10, .ref q11, .ref q12, .null])), (q0, .inl (cq0, 11360, .inl (fun _ => 0))), (q1, .inl (cq0, 524288, .inl (fun _ => 0))), (q2, .inl (cq0, 524288, .inl (fun _ => 0))), (q3, .inl (cq0, 301, .inl (fun _ => 0))), (q4, .inl (cq0, 30, .inl (fun _ => 0))), (q5, .inl (cq0, 60, .inl (fun _ => 0))), (q6, .inl (cq0, 12, .inl (fun _ => 0))), (q7, .inl (cq0, 12, .inl (fun _ => 0))), (q8, .inl (cq0, 6513, .inl (fun _ => 0))), (q9, .inl (cq0, 12, .inl (fun _ => 0))), (q10, .inl (cq0, 12, .inl (fun _ => 0))), (q11, .inl (cq0, 60, .inl (fun _ => 0))), (q12, .inl (cq0, 3, .inl (fun _ => 0))), (q13, .inl (cq0, 60, .inl (fun _ => 0)))] := hD
  refine va_putF (D := D) (ci := 9) (v := .ref q13) (ty := .array .int) (C := RX10) (T := TX10) (N := 22) hx hb hts iX10 tyX10 tyX10_ok nmX10 hown hK hP hD hS 0 rfl rfl 21 (by decide) (hts _ ki_X10_50) (fun _ h9 => h9) rfl hin rfl (by decide +kernel) rfl rfl (Nat.le_of_ble_eq_true rfl) dX10_init_115 (fun H locs hP hD hS => ?_)
  have hP : va_P D vwCl [(h0, .inr (9, [.int 0, .ref q0, .ref q1, .ref q2, .int 0, .ref q3, .int 0, .int 0, .int 0, .int 0, .ref q4, .int 0, .ref q5, .ref q6, .ref q7, .int 0, .ref q8, .ref q9, .ref q10, .ref q11, .ref q12, .ref q13])), (q0, .inl (cq0, 11360, .inl (fun _ => 0))), (q1, .inl (cq0, 524288, .inl (fun _ => 0))), (q2, .inl (cq0, 524288, .inl (fun _ => 0))), (q3, .inl (cq0, 301, .inl (fun _ => 0))), (q4, .inl (cq0, 30, .inl (fun _ => 0))), (q5, .inl (cq0, 60, .inl (fun _ => 0))), (q6, .inl (cq0, 12, .inl (fun _ => 0))), (q7, .inl (cq0, 12, .inl (fun _ => 0))), (q8, .inl (cq0, 6513, .inl (fun _ => 0))), (q9, .inl (cq0, 12, .inl (fun _ => 0))), (q10, .inl (cq0, 12, .inl (fun _ => 0))), (q11, .inl (cq0, 60, .inl (fun _ => 0))), (q12, .inl (cq0, 3, .inl (fun _ => 0))), (q13, .inl (cq0, 60, .inl (fun _ => 0)))] H := hP
  have hD : va_D A [(h0, .inr (9, [.int 0, .ref q0, .ref q1, .ref q2, .int 0, .ref q3, .int 0, .int 0, .int 0, .int 0, .ref q4, .int 0, .ref q5, .ref q6, .ref q7, .int 0, .ref q8, .ref q9, .ref q10, .ref q11, .ref q12, .ref q13])), (q0, .inl (cq0, 11360, .inl (fun _ => 0))), (q1, .inl (cq0, 524288, .inl (fun _ => 0))), (q2, .inl (cq0, 524288, .inl (fun _ => 0))), (q3, .inl (cq0, 301, .inl (fun _ => 0))), (q4, .inl (cq0, 30, .inl (fun _ => 0))), (q5, .inl (cq0, 60, .inl (fun _ => 0))), (q6, .inl (cq0, 12, .inl (fun _ => 0))), (q7, .inl (cq0, 12, .inl (fun _ => 0))), (q8, .inl (cq0, 6513, .inl (fun _ => 0))), (q9, .inl (cq0, 12, .inl (fun _ => 0))), (q10, .inl (cq0, 12, .inl (fun _ => 0))), (q11, .inl (cq0, 60, .inl (fun _ => 0))), (q12, .inl (cq0, 3, .inl (fun _ => 0))), (q13, .inl (cq0, 60, .inl (fun _ => 0)))] := hD
  refine lv_aload_n hx hb dX10_init_118 rfl (lv_at hl 0 rfl) ?_
  refine va_get (D := D) (ci := 9) (v := .ref q0) (C := RX10) (T := TX10) (N := 22) hx hb hts iX10 hown hK hP 0 rfl rfl 1 (by decide) (hts _ ki_X10_7) (fun _ h9 => h9) rfl dX10_init_119 ?_
  refine lv_sipush (v := 11353) hx hb dX10_init_122 (by decide) ?_
  refine lv_bipush (v := 100) hx hb dX10_init_125 (by decide) ?_
  refine va_iast hx hb hK hP hD hS 1 0 rfl rfl (nI_in (c := 11353) (N := 11360) (by decide) (by decide)) dX10_init_127 (fun H locs hP hD hS => ?_)
  have hP : va_P D vwCl [(h0, .inr (9, [.int 0, .ref q0, .ref q1, .ref q2, .int 0, .ref q3, .int 0, .int 0, .int 0, .int 0, .ref q4, .int 0, .ref q5, .ref q6, .ref q7, .int 0, .ref q8, .ref q9, .ref q10, .ref q11, .ref q12, .ref q13])), (q0, .inl (cq0, 11360, .inl (upd (fun _ => 0) (11353 : Int32).toNatClampNeg 100))), (q1, .inl (cq0, 524288, .inl (fun _ => 0))), (q2, .inl (cq0, 524288, .inl (fun _ => 0))), (q3, .inl (cq0, 301, .inl (fun _ => 0))), (q4, .inl (cq0, 30, .inl (fun _ => 0))), (q5, .inl (cq0, 60, .inl (fun _ => 0))), (q6, .inl (cq0, 12, .inl (fun _ => 0))), (q7, .inl (cq0, 12, .inl (fun _ => 0))), (q8, .inl (cq0, 6513, .inl (fun _ => 0))), (q9, .inl (cq0, 12, .inl (fun _ => 0))), (q10, .inl (cq0, 12, .inl (fun _ => 0))), (q11, .inl (cq0, 60, .inl (fun _ => 0))), (q12, .inl (cq0, 3, .inl (fun _ => 0))), (q13, .inl (cq0, 60, .inl (fun _ => 0)))] H := hP
  have hD : va_D A [(h0, .inr (9, [.int 0, .ref q0, .ref q1, .ref q2, .int 0, .ref q3, .int 0, .int 0, .int 0, .int 0, .ref q4, .int 0, .ref q5, .ref q6, .ref q7, .int 0, .ref q8, .ref q9, .ref q10, .ref q11, .ref q12, .ref q13])), (q0, .inl (cq0, 11360, .inl (upd (fun _ => 0) (11353 : Int32).toNatClampNeg 100))), (q1, .inl (cq0, 524288, .inl (fun _ => 0))), (q2, .inl (cq0, 524288, .inl (fun _ => 0))), (q3, .inl (cq0, 301, .inl (fun _ => 0))), (q4, .inl (cq0, 30, .inl (fun _ => 0))), (q5, .inl (cq0, 60, .inl (fun _ => 0))), (q6, .inl (cq0, 12, .inl (fun _ => 0))), (q7, .inl (cq0, 12, .inl (fun _ => 0))), (q8, .inl (cq0, 6513, .inl (fun _ => 0))), (q9, .inl (cq0, 12, .inl (fun _ => 0))), (q10, .inl (cq0, 12, .inl (fun _ => 0))), (q11, .inl (cq0, 60, .inl (fun _ => 0))), (q12, .inl (cq0, 3, .inl (fun _ => 0))), (q13, .inl (cq0, 60, .inl (fun _ => 0)))] := hD
  refine lv_aload_n hx hb dX10_init_128 rfl (lv_at hl 0 rfl) ?_
  refine va_get (D := D) (ci := 9) (v := .ref q0) (C := RX10) (T := TX10) (N := 22) hx hb hts iX10 hown hK hP 0 rfl rfl 1 (by decide) (hts _ ki_X10_7) (fun _ h9 => h9) rfl dX10_init_129 ?_
  refine lv_sipush (v := 11354) hx hb dX10_init_132 (by decide) ?_
  refine lv_bipush (v := 100) hx hb dX10_init_135 (by decide) ?_
  refine va_iast hx hb hK hP hD hS 1 0 rfl rfl (nI_in (c := 11354) (N := 11360) (by decide) (by decide)) dX10_init_137 (fun H locs hP hD hS => ?_)
  have hP : va_P D vwCl [(h0, .inr (9, [.int 0, .ref q0, .ref q1, .ref q2, .int 0, .ref q3, .int 0, .int 0, .int 0, .int 0, .ref q4, .int 0, .ref q5, .ref q6, .ref q7, .int 0, .ref q8, .ref q9, .ref q10, .ref q11, .ref q12, .ref q13])), (q0, .inl (cq0, 11360, .inl (upd (upd (fun _ => 0) (11353 : Int32).toNatClampNeg 100) (11354 : Int32).toNatClampNeg 100))), (q1, .inl (cq0, 524288, .inl (fun _ => 0))), (q2, .inl (cq0, 524288, .inl (fun _ => 0))), (q3, .inl (cq0, 301, .inl (fun _ => 0))), (q4, .inl (cq0, 30, .inl (fun _ => 0))), (q5, .inl (cq0, 60, .inl (fun _ => 0))), (q6, .inl (cq0, 12, .inl (fun _ => 0))), (q7, .inl (cq0, 12, .inl (fun _ => 0))), (q8, .inl (cq0, 6513, .inl (fun _ => 0))), (q9, .inl (cq0, 12, .inl (fun _ => 0))), (q10, .inl (cq0, 12, .inl (fun _ => 0))), (q11, .inl (cq0, 60, .inl (fun _ => 0))), (q12, .inl (cq0, 3, .inl (fun _ => 0))), (q13, .inl (cq0, 60, .inl (fun _ => 0)))] H := hP
  have hD : va_D A [(h0, .inr (9, [.int 0, .ref q0, .ref q1, .ref q2, .int 0, .ref q3, .int 0, .int 0, .int 0, .int 0, .ref q4, .int 0, .ref q5, .ref q6, .ref q7, .int 0, .ref q8, .ref q9, .ref q10, .ref q11, .ref q12, .ref q13])), (q0, .inl (cq0, 11360, .inl (upd (upd (fun _ => 0) (11353 : Int32).toNatClampNeg 100) (11354 : Int32).toNatClampNeg 100))), (q1, .inl (cq0, 524288, .inl (fun _ => 0))), (q2, .inl (cq0, 524288, .inl (fun _ => 0))), (q3, .inl (cq0, 301, .inl (fun _ => 0))), (q4, .inl (cq0, 30, .inl (fun _ => 0))), (q5, .inl (cq0, 60, .inl (fun _ => 0))), (q6, .inl (cq0, 12, .inl (fun _ => 0))), (q7, .inl (cq0, 12, .inl (fun _ => 0))), (q8, .inl (cq0, 6513, .inl (fun _ => 0))), (q9, .inl (cq0, 12, .inl (fun _ => 0))), (q10, .inl (cq0, 12, .inl (fun _ => 0))), (q11, .inl (cq0, 60, .inl (fun _ => 0))), (q12, .inl (cq0, 3, .inl (fun _ => 0))), (q13, .inl (cq0, 60, .inl (fun _ => 0)))] := hD
  refine lv_aload_n hx hb dX10_init_138 rfl (lv_at hl 0 rfl) ?_
  refine va_get (D := D) (ci := 9) (v := .ref q0) (C := RX10) (T := TX10) (N := 22) hx hb hts iX10 hown hK hP 0 rfl rfl 1 (by decide) (hts _ ki_X10_7) (fun _ h9 => h9) rfl dX10_init_139 ?_
  refine lv_sipush (v := 11355) hx hb dX10_init_142 (by decide) ?_
  refine lv_bipush (v := 100) hx hb dX10_init_145 (by decide) ?_
  refine va_iast hx hb hK hP hD hS 1 0 rfl rfl (nI_in (c := 11355) (N := 11360) (by decide) (by decide)) dX10_init_147 (fun H locs hP hD hS => ?_)
  have hP : va_P D vwCl [(h0, .inr (9, [.int 0, .ref q0, .ref q1, .ref q2, .int 0, .ref q3, .int 0, .int 0, .int 0, .int 0, .ref q4, .int 0, .ref q5, .ref q6, .ref q7, .int 0, .ref q8, .ref q9, .ref q10, .ref q11, .ref q12, .ref q13])), (q0, .inl (cq0, 11360, .inl (upd (upd (upd (fun _ => 0) (11353 : Int32).toNatClampNeg 100) (11354 : Int32).toNatClampNeg 100) (11355 : Int32).toNatClampNeg 100))), (q1, .inl (cq0, 524288, .inl (fun _ => 0))), (q2, .inl (cq0, 524288, .inl (fun _ => 0))), (q3, .inl (cq0, 301, .inl (fun _ => 0))), (q4, .inl (cq0, 30, .inl (fun _ => 0))), (q5, .inl (cq0, 60, .inl (fun _ => 0))), (q6, .inl (cq0, 12, .inl (fun _ => 0))), (q7, .inl (cq0, 12, .inl (fun _ => 0))), (q8, .inl (cq0, 6513, .inl (fun _ => 0))), (q9, .inl (cq0, 12, .inl (fun _ => 0))), (q10, .inl (cq0, 12, .inl (fun _ => 0))), (q11, .inl (cq0, 60, .inl (fun _ => 0))), (q12, .inl (cq0, 3, .inl (fun _ => 0))), (q13, .inl (cq0, 60, .inl (fun _ => 0)))] H := hP
  have hD : va_D A [(h0, .inr (9, [.int 0, .ref q0, .ref q1, .ref q2, .int 0, .ref q3, .int 0, .int 0, .int 0, .int 0, .ref q4, .int 0, .ref q5, .ref q6, .ref q7, .int 0, .ref q8, .ref q9, .ref q10, .ref q11, .ref q12, .ref q13])), (q0, .inl (cq0, 11360, .inl (upd (upd (upd (fun _ => 0) (11353 : Int32).toNatClampNeg 100) (11354 : Int32).toNatClampNeg 100) (11355 : Int32).toNatClampNeg 100))), (q1, .inl (cq0, 524288, .inl (fun _ => 0))), (q2, .inl (cq0, 524288, .inl (fun _ => 0))), (q3, .inl (cq0, 301, .inl (fun _ => 0))), (q4, .inl (cq0, 30, .inl (fun _ => 0))), (q5, .inl (cq0, 60, .inl (fun _ => 0))), (q6, .inl (cq0, 12, .inl (fun _ => 0))), (q7, .inl (cq0, 12, .inl (fun _ => 0))), (q8, .inl (cq0, 6513, .inl (fun _ => 0))), (q9, .inl (cq0, 12, .inl (fun _ => 0))), (q10, .inl (cq0, 12, .inl (fun _ => 0))), (q11, .inl (cq0, 60, .inl (fun _ => 0))), (q12, .inl (cq0, 3, .inl (fun _ => 0))), (q13, .inl (cq0, 60, .inl (fun _ => 0)))] := hD
  exact W.vret hx hb hr (fun t ht hW => ⟨⟨((q0, q1, q2, q3, q4, q5, q6, q7, q8, q9, q10, q11, q12, q13), cq0), rfl, trivial, by rw [ht]; exact hP, va_K.moved hW.alike hK, hD⟩, hS.F ht⟩) hS.2.2 dX10_init_148 hlocks
theorem mi_X10_init : Cond.instanceMethod yX10_init ∈ lw_good ∧ Cond.initialized yX10_init.cls ∈ lw_good ∧ Cond.code yX10_init cX10_init 1 none ∈ lw_good := by decide +kernel
theorem mi_X3_init : Cond.instanceMethod yX3_init ∈ lw_good ∧ Cond.initialized yX3_init.cls ∈ lw_good ∧ Cond.code yX3_init cX3_init 2 none ∈ lw_good := by decide +kernel
set_option maxHeartbeats 4000000 in
set_option maxRecDepth 100000 in
theorem ti_X3_init_0 (l : Launch) (D : va_G) (h0 h1 : Nat) (sz : Nat) : Met l yX3_init (.code yX3_init cX3_init 2 none :: lw_good) { frames := 1, cells := 0, slots := 0, locals := 20 } (cPreI D [(h0, .inr (7, [.null]))] sz [.ref h0, .ref h1]) (va_Qv (fun (_ : Unit) => True) (fun u t => va_P D vwCl [(h0, .inr (7, [.ref h1]))] t.heap ∧ va_K D vwCl [] t ∧ va_D (va_A [(h0, .inr (7, [.null]))] sz) [(h0, .inr (7, [.ref h1]))]) (va_A [(h0, .inr (7, [.null]))] sz)) 0 0 (va_A [(h0, .inr (7, [.null]))] sz) := by
  refine entI (own := RX3) (As := [.ref h0, .ref h1]) (by decide +kernel) rfl rfl (Nat.le_of_ble_eq_true rfl) (fun _ _ h => h.1) ?_
  intro p e s m args below meth c ls B hr hlocks hin hv hl
  obtain ⟨-, hsz, hP, hKN, hD0⟩ := hv
  subst hsz
  obtain ⟨hx, hb, hml, hown, hts⟩ := id B
  have hK := hKN.1
  have hD := hD0.self (sz := s.heap.size)
  generalize hAe : va_A [(h0, .inr (7, [.null]))] s.heap.size = A at hD ⊢
  have hA : ∀ q : Nat, s.heap.size ≤ q → A q := fun q h => by rw [← hAe]; exact Or.inr h
  have hS : va_S A s.heap s.heap [] := va_S.rf
  have hl : lv_has ls 2 [(0, .ref h0), (1, .ref h1)] := hl
  refine lv_aload_n hx hb dX3_init_0 rfl (lv_at hl 0 rfl) ?_
  refine W.objInit hx hb hown (hts _ ki_X3_3) (hts _ oi_w.1) (hts _ oi_w.2) rfl (by rw [hml]; exact hl.1) rfl dX3_init_1 (Nat.le_of_ble_eq_true rfl) (Nat.le_of_ble_eq_true rfl) ?_
  refine W.eq (g2 := F0 m 4 ls []) rfl ?_
  refine lv_aload_n hx hb dX3_init_4 rfl (lv_at hl 0 rfl) ?_
  refine lv_aload_n hx hb dX3_init_5 rfl (lv_at hl 1 rfl) ?_
  refine va_putF (D := D) (ci := 7) (v := .ref h1) (ty := .object "WashHouse$Trace") (C := RX8) (T := TX8) (N := 1) hx hb hts iX8 tyX8 tyX8_ok nmX8 hown hK hP hD hS 0 rfl rfl 0 (by decide) (hts _ ki_X3_9) (fun _ h9 => h9) rfl hin rfl (by decide +kernel) rfl rfl (Nat.le_of_ble_eq_true rfl) dX3_init_6 (fun H locs hP hD hS => ?_)
  have hP : va_P D vwCl [(h0, .inr (7, [.ref h1]))] H := hP
  have hD : va_D A [(h0, .inr (7, [.ref h1]))] := hD
  exact W.vret hx hb hr (fun t ht hW => ⟨⟨(), rfl, trivial, by rw [ht]; exact hP, va_K.moved hW.alike hK, hD⟩, hS.F ht⟩) hS.2.2 dX3_init_9 hlocks
set_option maxHeartbeats 4000000 in
set_option maxRecDepth 100000 in
theorem ti_X3_init_1 (l : Launch) (D : va_G) (h0 h1 : Nat) (sz : Nat) : Met l yX3_init (.code yX3_init cX3_init 2 none :: lw_good) { frames := 1, cells := 0, slots := 0, locals := 20 } (cPreI D [(h0, .inr (4, [.null]))] sz [.ref h0, .ref h1]) (va_Qv (fun (_ : Unit) => True) (fun u t => va_P D vwCl [(h0, .inr (4, [.ref h1]))] t.heap ∧ va_K D vwCl [] t ∧ va_D (va_A [(h0, .inr (4, [.null]))] sz) [(h0, .inr (4, [.ref h1]))]) (va_A [(h0, .inr (4, [.null]))] sz)) 0 0 (va_A [(h0, .inr (4, [.null]))] sz) := by
  refine entI (own := RX3) (As := [.ref h0, .ref h1]) (by decide +kernel) rfl rfl (Nat.le_of_ble_eq_true rfl) (fun _ _ h => h.1) ?_
  intro p e s m args below meth c ls B hr hlocks hin hv hl
  obtain ⟨-, hsz, hP, hKN, hD0⟩ := hv
  subst hsz
  obtain ⟨hx, hb, hml, hown, hts⟩ := id B
  have hK := hKN.1
  have hD := hD0.self (sz := s.heap.size)
  generalize hAe : va_A [(h0, .inr (4, [.null]))] s.heap.size = A at hD ⊢
  have hA : ∀ q : Nat, s.heap.size ≤ q → A q := fun q h => by rw [← hAe]; exact Or.inr h
  have hS : va_S A s.heap s.heap [] := va_S.rf
  have hl : lv_has ls 2 [(0, .ref h0), (1, .ref h1)] := hl
  refine lv_aload_n hx hb dX3_init_0 rfl (lv_at hl 0 rfl) ?_
  refine W.objInit hx hb hown (hts _ ki_X3_3) (hts _ oi_w.1) (hts _ oi_w.2) rfl (by rw [hml]; exact hl.1) rfl dX3_init_1 (Nat.le_of_ble_eq_true rfl) (Nat.le_of_ble_eq_true rfl) ?_
  refine W.eq (g2 := F0 m 4 ls []) rfl ?_
  refine lv_aload_n hx hb dX3_init_4 rfl (lv_at hl 0 rfl) ?_
  refine lv_aload_n hx hb dX3_init_5 rfl (lv_at hl 1 rfl) ?_
  refine va_putF (D := D) (ci := 4) (v := .ref h1) (ty := .object "WashHouse$Trace") (C := RX5) (T := TX5) (N := 1) hx hb hts iX5 tyX5 tyX5_ok nmX5 hown hK hP hD hS 0 rfl rfl 0 (by decide) (hts _ ki_X3_9) (fun _ h9 => h9) rfl hin rfl (by decide +kernel) rfl rfl (Nat.le_of_ble_eq_true rfl) dX3_init_6 (fun H locs hP hD hS => ?_)
  have hP : va_P D vwCl [(h0, .inr (4, [.ref h1]))] H := hP
  have hD : va_D A [(h0, .inr (4, [.ref h1]))] := hD
  exact W.vret hx hb hr (fun t ht hW => ⟨⟨(), rfl, trivial, by rw [ht]; exact hP, va_K.moved hW.alike hK, hD⟩, hS.F ht⟩) hS.2.2 dX3_init_9 hlocks
set_option maxHeartbeats 4000000 in
set_option maxRecDepth 100000 in
theorem ti_X3_init_2 (l : Launch) (D : va_G) (h0 h1 : Nat) (sz : Nat) : Met l yX3_init (.code yX3_init cX3_init 2 none :: lw_good) { frames := 1, cells := 0, slots := 0, locals := 20 } (cPreI D [(h0, .inr (2, [.null]))] sz [.ref h0, .ref h1]) (va_Qv (fun (_ : Unit) => True) (fun u t => va_P D vwCl [(h0, .inr (2, [.ref h1]))] t.heap ∧ va_K D vwCl [] t ∧ va_D (va_A [(h0, .inr (2, [.null]))] sz) [(h0, .inr (2, [.ref h1]))]) (va_A [(h0, .inr (2, [.null]))] sz)) 0 0 (va_A [(h0, .inr (2, [.null]))] sz) := by
  refine entI (own := RX3) (As := [.ref h0, .ref h1]) (by decide +kernel) rfl rfl (Nat.le_of_ble_eq_true rfl) (fun _ _ h => h.1) ?_
  intro p e s m args below meth c ls B hr hlocks hin hv hl
  obtain ⟨-, hsz, hP, hKN, hD0⟩ := hv
  subst hsz
  obtain ⟨hx, hb, hml, hown, hts⟩ := id B
  have hK := hKN.1
  have hD := hD0.self (sz := s.heap.size)
  generalize hAe : va_A [(h0, .inr (2, [.null]))] s.heap.size = A at hD ⊢
  have hA : ∀ q : Nat, s.heap.size ≤ q → A q := fun q h => by rw [← hAe]; exact Or.inr h
  have hS : va_S A s.heap s.heap [] := va_S.rf
  have hl : lv_has ls 2 [(0, .ref h0), (1, .ref h1)] := hl
  refine lv_aload_n hx hb dX3_init_0 rfl (lv_at hl 0 rfl) ?_
  refine W.objInit hx hb hown (hts _ ki_X3_3) (hts _ oi_w.1) (hts _ oi_w.2) rfl (by rw [hml]; exact hl.1) rfl dX3_init_1 (Nat.le_of_ble_eq_true rfl) (Nat.le_of_ble_eq_true rfl) ?_
  refine W.eq (g2 := F0 m 4 ls []) rfl ?_
  refine lv_aload_n hx hb dX3_init_4 rfl (lv_at hl 0 rfl) ?_
  refine lv_aload_n hx hb dX3_init_5 rfl (lv_at hl 1 rfl) ?_
  refine va_putF (D := D) (ci := 2) (v := .ref h1) (ty := .object "WashHouse$Trace") (C := RX2) (T := TX2) (N := 1) hx hb hts iX2 tyX2 tyX2_ok nmX2 hown hK hP hD hS 0 rfl rfl 0 (by decide) (hts _ ki_X3_9) (fun _ h9 => h9) rfl hin rfl (by decide +kernel) rfl rfl (Nat.le_of_ble_eq_true rfl) dX3_init_6 (fun H locs hP hD hS => ?_)
  have hP : va_P D vwCl [(h0, .inr (2, [.ref h1]))] H := hP
  have hD : va_D A [(h0, .inr (2, [.ref h1]))] := hD
  exact W.vret hx hb hr (fun t ht hW => ⟨⟨(), rfl, trivial, by rw [ht]; exact hP, va_K.moved hW.alike hK, hD⟩, hS.F ht⟩) hS.2.2 dX3_init_9 hlocks
set_option maxHeartbeats 4000000 in
set_option maxRecDepth 100000 in
theorem ti_X3_init_3 (l : Launch) (D : va_G) (h0 h1 : Nat) (sz : Nat) : Met l yX3_init (.code yX3_init cX3_init 2 none :: lw_good) { frames := 1, cells := 0, slots := 0, locals := 20 } (cPreI D [(h0, .inr (3, [.null]))] sz [.ref h0, .ref h1]) (va_Qv (fun (_ : Unit) => True) (fun u t => va_P D vwCl [(h0, .inr (3, [.ref h1]))] t.heap ∧ va_K D vwCl [] t ∧ va_D (va_A [(h0, .inr (3, [.null]))] sz) [(h0, .inr (3, [.ref h1]))]) (va_A [(h0, .inr (3, [.null]))] sz)) 0 0 (va_A [(h0, .inr (3, [.null]))] sz) := by
  refine entI (own := RX3) (As := [.ref h0, .ref h1]) (by decide +kernel) rfl rfl (Nat.le_of_ble_eq_true rfl) (fun _ _ h => h.1) ?_
  intro p e s m args below meth c ls B hr hlocks hin hv hl
  obtain ⟨-, hsz, hP, hKN, hD0⟩ := hv
  subst hsz
  obtain ⟨hx, hb, hml, hown, hts⟩ := id B
  have hK := hKN.1
  have hD := hD0.self (sz := s.heap.size)
  generalize hAe : va_A [(h0, .inr (3, [.null]))] s.heap.size = A at hD ⊢
  have hA : ∀ q : Nat, s.heap.size ≤ q → A q := fun q h => by rw [← hAe]; exact Or.inr h
  have hS : va_S A s.heap s.heap [] := va_S.rf
  have hl : lv_has ls 2 [(0, .ref h0), (1, .ref h1)] := hl
  refine lv_aload_n hx hb dX3_init_0 rfl (lv_at hl 0 rfl) ?_
  refine W.objInit hx hb hown (hts _ ki_X3_3) (hts _ oi_w.1) (hts _ oi_w.2) rfl (by rw [hml]; exact hl.1) rfl dX3_init_1 (Nat.le_of_ble_eq_true rfl) (Nat.le_of_ble_eq_true rfl) ?_
  refine W.eq (g2 := F0 m 4 ls []) rfl ?_
  refine lv_aload_n hx hb dX3_init_4 rfl (lv_at hl 0 rfl) ?_
  refine lv_aload_n hx hb dX3_init_5 rfl (lv_at hl 1 rfl) ?_
  refine va_putF (D := D) (ci := 3) (v := .ref h1) (ty := .object "WashHouse$Trace") (C := RX4) (T := TX4) (N := 1) hx hb hts iX4 tyX4 tyX4_ok nmX4 hown hK hP hD hS 0 rfl rfl 0 (by decide) (hts _ ki_X3_9) (fun _ h9 => h9) rfl hin rfl (by decide +kernel) rfl rfl (Nat.le_of_ble_eq_true rfl) dX3_init_6 (fun H locs hP hD hS => ?_)
  have hP : va_P D vwCl [(h0, .inr (3, [.ref h1]))] H := hP
  have hD : va_D A [(h0, .inr (3, [.ref h1]))] := hD
  exact W.vret hx hb hr (fun t ht hW => ⟨⟨(), rfl, trivial, by rw [ht]; exact hP, va_K.moved hW.alike hK, hD⟩, hS.F ht⟩) hS.2.2 dX3_init_9 hlocks
set_option maxHeartbeats 4000000 in
set_option maxRecDepth 100000 in
theorem ti_X3_init_4 (l : Launch) (D : va_G) (h0 h1 : Nat) (sz : Nat) : Met l yX3_init (.code yX3_init cX3_init 2 none :: lw_good) { frames := 1, cells := 0, slots := 0, locals := 20 } (cPreI D [(h0, .inr (0, [.null]))] sz [.ref h0, .ref h1]) (va_Qv (fun (_ : Unit) => True) (fun u t => va_P D vwCl [(h0, .inr (0, [.ref h1]))] t.heap ∧ va_K D vwCl [] t ∧ va_D (va_A [(h0, .inr (0, [.null]))] sz) [(h0, .inr (0, [.ref h1]))]) (va_A [(h0, .inr (0, [.null]))] sz)) 0 0 (va_A [(h0, .inr (0, [.null]))] sz) := by
  refine entI (own := RX3) (As := [.ref h0, .ref h1]) (by decide +kernel) rfl rfl (Nat.le_of_ble_eq_true rfl) (fun _ _ h => h.1) ?_
  intro p e s m args below meth c ls B hr hlocks hin hv hl
  obtain ⟨-, hsz, hP, hKN, hD0⟩ := hv
  subst hsz
  obtain ⟨hx, hb, hml, hown, hts⟩ := id B
  have hK := hKN.1
  have hD := hD0.self (sz := s.heap.size)
  generalize hAe : va_A [(h0, .inr (0, [.null]))] s.heap.size = A at hD ⊢
  have hA : ∀ q : Nat, s.heap.size ≤ q → A q := fun q h => by rw [← hAe]; exact Or.inr h
  have hS : va_S A s.heap s.heap [] := va_S.rf
  have hl : lv_has ls 2 [(0, .ref h0), (1, .ref h1)] := hl
  refine lv_aload_n hx hb dX3_init_0 rfl (lv_at hl 0 rfl) ?_
  refine W.objInit hx hb hown (hts _ ki_X3_3) (hts _ oi_w.1) (hts _ oi_w.2) rfl (by rw [hml]; exact hl.1) rfl dX3_init_1 (Nat.le_of_ble_eq_true rfl) (Nat.le_of_ble_eq_true rfl) ?_
  refine W.eq (g2 := F0 m 4 ls []) rfl ?_
  refine lv_aload_n hx hb dX3_init_4 rfl (lv_at hl 0 rfl) ?_
  refine lv_aload_n hx hb dX3_init_5 rfl (lv_at hl 1 rfl) ?_
  refine va_putF (D := D) (ci := 0) (v := .ref h1) (ty := .object "WashHouse$Trace") (C := RX0) (T := TX0) (N := 1) hx hb hts iX0 tyX0 tyX0_ok nmX0 hown hK hP hD hS 0 rfl rfl 0 (by decide) (hts _ ki_X3_9) (fun _ h9 => h9) rfl hin rfl (by decide +kernel) rfl rfl (Nat.le_of_ble_eq_true rfl) dX3_init_6 (fun H locs hP hD hS => ?_)
  have hP : va_P D vwCl [(h0, .inr (0, [.ref h1]))] H := hP
  have hD : va_D A [(h0, .inr (0, [.ref h1]))] := hD
  exact W.vret hx hb hr (fun t ht hW => ⟨⟨(), rfl, trivial, by rw [ht]; exact hP, va_K.moved hW.alike hK, hD⟩, hS.F ht⟩) hS.2.2 dX3_init_9 hlocks
theorem mi_X8_init : Cond.instanceMethod yX8_init ∈ lw_good ∧ Cond.initialized yX8_init.cls ∈ lw_good ∧ Cond.code yX8_init cX8_init 2 none ∈ lw_good := by decide +kernel
set_option maxHeartbeats 4000000 in
set_option maxRecDepth 100000 in
theorem ti_X8_init_0 (l : Launch) (D : va_G) (h0 h1 : Nat) (sz : Nat) : Met l yX8_init (.code yX8_init cX8_init 2 none :: lw_good) { frames := 2, cells := 0, slots := 0, locals := 41 } (cPreI D [(h0, .inr (7, [.null]))] sz [.ref h0, .ref h1]) (va_Qv (fun (_ : Unit) => True) (fun u t => va_P D vwCl [(h0, .inr (7, [.ref h1]))] t.heap ∧ va_K D vwCl [] t ∧ va_D (va_A [(h0, .inr (7, [.null]))] sz) [(h0, .inr (7, [.ref h1]))]) (va_A [(h0, .inr (7, [.null]))] sz)) 0 0 (va_A [(h0, .inr (7, [.null]))] sz) := by
  refine entI (own := RX8) (As := [.ref h0, .ref h1]) (by decide +kernel) rfl rfl (Nat.le_of_ble_eq_true rfl) (fun _ _ h => h.1) ?_
  intro p e s m args below meth c ls B hr hlocks hin hv hl
  obtain ⟨-, hsz, hP, hKN, hD0⟩ := hv
  subst hsz
  obtain ⟨hx, hb, hml, hown, hts⟩ := id B
  have hK := hKN.1
  have hD := hD0.self (sz := s.heap.size)
  generalize hAe : va_A [(h0, .inr (7, [.null]))] s.heap.size = A at hD ⊢
  have hA : ∀ q : Nat, s.heap.size ≤ q → A q := fun q h => by rw [← hAe]; exact Or.inr h
  have hS : va_S A s.heap s.heap [] := va_S.rf
  have hl : lv_has ls 2 [(0, .ref h0), (1, .ref h1)] := hl
  refine lv_aload_n hx hb dX8_init_0 rfl (lv_at hl 0 rfl) ?_
  refine lv_aload_n hx hb dX8_init_1 rfl (lv_at hl 1 rfl) ?_
  have hPc := hP.sub (ws' := [(h0, .inr (7, [.null]))]) [0] rfl
  have hDc := hD.sub (ws' := [(h0, .inr (7, [.null]))]) [0] (by decide) rfl
  have hFc := va_free (wc := [(h0, .inr (7, [.null]))]) hD hS hA [0] rfl
  refine va_callv (runI (As := [.ref h1]) (b := h0) B 1 (ti_X3_init_0 l D h0 h1 s.heap.size) rfl rfl ki_X8_3 mi_X3_init rfl (by decide +kernel) ⟨(Nat.le_of_ble_eq_true rfl), (Nat.le_of_ble_eq_true rfl)⟩ ⟨blindI, preI hKN hPc hDc⟩ rfl hl.1 (Nat.le_of_ble_eq_true rfl) dX8_init_2 ⟨(Nat.le_of_ble_eq_true rfl), (Nat.le_of_ble_eq_true rfl)⟩) hS (fun q _ h => hFc q h) hFc (fun u t H1 locs ht hvm hw hB hz1 hk1 hS => ?_)
  obtain ⟨hP1, hK1, hD1⟩ := hB
  rw [ht] at hP1
  have hK1 := va_K.moved hvm.symm hK1
  have hP1 : va_P D vwCl [(h0, .inr (7, [.ref h1]))] H1 := hP1
  have hD1 : va_D _ [(h0, .inr (7, [.ref h1]))] := hD1
  obtain ⟨hP, hD⟩ := va_join (wr := []) (w1 := [(h0, .inr (7, [.ref h1]))]) hP hD [0] [] rfl rfl (by decide) (by decide) hk1 hFc hP1 hD1
  generalize H1 = H at hP hS ⊢
  have hP : va_P D vwCl [(h0, .inr (7, [.ref h1]))] H := hP
  have hD : va_D A [(h0, .inr (7, [.ref h1]))] := hD
  exact W.vret hx hb hr (fun t ht hW => ⟨⟨(), rfl, trivial, by rw [ht]; exact hP, va_K.moved hW.alike hK, hD⟩, hS.F ht⟩) hS.2.2 dX8_init_5 hlocks
set_option maxHeartbeats 4000000 in
set_option maxRecDepth 100000 in
theorem ti_X8_init_1 (l : Launch) (D : va_G) (h0 h1 : Nat) (sz : Nat) : Met l yX8_init (.code yX8_init cX8_init 2 none :: lw_good) { frames := 2, cells := 0, slots := 0, locals := 41 } (cPreI D [(h0, .inr (4, [.null]))] sz [.ref h0, .ref h1]) (va_Qv (fun (_ : Unit) => True) (fun u t => va_P D vwCl [(h0, .inr (4, [.ref h1]))] t.heap ∧ va_K D vwCl [] t ∧ va_D (va_A [(h0, .inr (4, [.null]))] sz) [(h0, .inr (4, [.ref h1]))]) (va_A [(h0, .inr (4, [.null]))] sz)) 0 0 (va_A [(h0, .inr (4, [.null]))] sz) := by
  refine entI (own := RX8) (As := [.ref h0, .ref h1]) (by decide +kernel) rfl rfl (Nat.le_of_ble_eq_true rfl) (fun _ _ h => h.1) ?_
  intro p e s m args below meth c ls B hr hlocks hin hv hl
  obtain ⟨-, hsz, hP, hKN, hD0⟩ := hv
  subst hsz
  obtain ⟨hx, hb, hml, hown, hts⟩ := id B
  have hK := hKN.1
  have hD := hD0.self (sz := s.heap.size)
  generalize hAe : va_A [(h0, .inr (4, [.null]))] s.heap.size = A at hD ⊢
  have hA : ∀ q : Nat, s.heap.size ≤ q → A q := fun q h => by rw [← hAe]; exact Or.inr h
  have hS : va_S A s.heap s.heap [] := va_S.rf
  have hl : lv_has ls 2 [(0, .ref h0), (1, .ref h1)] := hl
  refine lv_aload_n hx hb dX8_init_0 rfl (lv_at hl 0 rfl) ?_
  refine lv_aload_n hx hb dX8_init_1 rfl (lv_at hl 1 rfl) ?_
  have hPc := hP.sub (ws' := [(h0, .inr (4, [.null]))]) [0] rfl
  have hDc := hD.sub (ws' := [(h0, .inr (4, [.null]))]) [0] (by decide) rfl
  have hFc := va_free (wc := [(h0, .inr (4, [.null]))]) hD hS hA [0] rfl
  refine va_callv (runI (As := [.ref h1]) (b := h0) B 1 (ti_X3_init_1 l D h0 h1 s.heap.size) rfl rfl ki_X8_3 mi_X3_init rfl (by decide +kernel) ⟨(Nat.le_of_ble_eq_true rfl), (Nat.le_of_ble_eq_true rfl)⟩ ⟨blindI, preI hKN hPc hDc⟩ rfl hl.1 (Nat.le_of_ble_eq_true rfl) dX8_init_2 ⟨(Nat.le_of_ble_eq_true rfl), (Nat.le_of_ble_eq_true rfl)⟩) hS (fun q _ h => hFc q h) hFc (fun u t H1 locs ht hvm hw hB hz1 hk1 hS => ?_)
  obtain ⟨hP1, hK1, hD1⟩ := hB
  rw [ht] at hP1
  have hK1 := va_K.moved hvm.symm hK1
  have hP1 : va_P D vwCl [(h0, .inr (4, [.ref h1]))] H1 := hP1
  have hD1 : va_D _ [(h0, .inr (4, [.ref h1]))] := hD1
  obtain ⟨hP, hD⟩ := va_join (wr := []) (w1 := [(h0, .inr (4, [.ref h1]))]) hP hD [0] [] rfl rfl (by decide) (by decide) hk1 hFc hP1 hD1
  generalize H1 = H at hP hS ⊢
  have hP : va_P D vwCl [(h0, .inr (4, [.ref h1]))] H := hP
  have hD : va_D A [(h0, .inr (4, [.ref h1]))] := hD
  exact W.vret hx hb hr (fun t ht hW => ⟨⟨(), rfl, trivial, by rw [ht]; exact hP, va_K.moved hW.alike hK, hD⟩, hS.F ht⟩) hS.2.2 dX8_init_5 hlocks
set_option maxHeartbeats 4000000 in
set_option maxRecDepth 100000 in
theorem ti_X8_init_4 (l : Launch) (D : va_G) (h0 h1 : Nat) (sz : Nat) : Met l yX8_init (.code yX8_init cX8_init 2 none :: lw_good) { frames := 2, cells := 0, slots := 0, locals := 41 } (cPreI D [(h0, .inr (0, [.null]))] sz [.ref h0, .ref h1]) (va_Qv (fun (_ : Unit) => True) (fun u t => va_P D vwCl [(h0, .inr (0, [.ref h1]))] t.heap ∧ va_K D vwCl [] t ∧ va_D (va_A [(h0, .inr (0, [.null]))] sz) [(h0, .inr (0, [.ref h1]))]) (va_A [(h0, .inr (0, [.null]))] sz)) 0 0 (va_A [(h0, .inr (0, [.null]))] sz) := by
  refine entI (own := RX8) (As := [.ref h0, .ref h1]) (by decide +kernel) rfl rfl (Nat.le_of_ble_eq_true rfl) (fun _ _ h => h.1) ?_
  intro p e s m args below meth c ls B hr hlocks hin hv hl
  obtain ⟨-, hsz, hP, hKN, hD0⟩ := hv
  subst hsz
  obtain ⟨hx, hb, hml, hown, hts⟩ := id B
  have hK := hKN.1
  have hD := hD0.self (sz := s.heap.size)
  generalize hAe : va_A [(h0, .inr (0, [.null]))] s.heap.size = A at hD ⊢
  have hA : ∀ q : Nat, s.heap.size ≤ q → A q := fun q h => by rw [← hAe]; exact Or.inr h
  have hS : va_S A s.heap s.heap [] := va_S.rf
  have hl : lv_has ls 2 [(0, .ref h0), (1, .ref h1)] := hl
  refine lv_aload_n hx hb dX8_init_0 rfl (lv_at hl 0 rfl) ?_
  refine lv_aload_n hx hb dX8_init_1 rfl (lv_at hl 1 rfl) ?_
  have hPc := hP.sub (ws' := [(h0, .inr (0, [.null]))]) [0] rfl
  have hDc := hD.sub (ws' := [(h0, .inr (0, [.null]))]) [0] (by decide) rfl
  have hFc := va_free (wc := [(h0, .inr (0, [.null]))]) hD hS hA [0] rfl
  refine va_callv (runI (As := [.ref h1]) (b := h0) B 1 (ti_X3_init_4 l D h0 h1 s.heap.size) rfl rfl ki_X8_3 mi_X3_init rfl (by decide +kernel) ⟨(Nat.le_of_ble_eq_true rfl), (Nat.le_of_ble_eq_true rfl)⟩ ⟨blindI, preI hKN hPc hDc⟩ rfl hl.1 (Nat.le_of_ble_eq_true rfl) dX8_init_2 ⟨(Nat.le_of_ble_eq_true rfl), (Nat.le_of_ble_eq_true rfl)⟩) hS (fun q _ h => hFc q h) hFc (fun u t H1 locs ht hvm hw hB hz1 hk1 hS => ?_)
  obtain ⟨hP1, hK1, hD1⟩ := hB
  rw [ht] at hP1
  have hK1 := va_K.moved hvm.symm hK1
  have hP1 : va_P D vwCl [(h0, .inr (0, [.ref h1]))] H1 := hP1
  have hD1 : va_D _ [(h0, .inr (0, [.ref h1]))] := hD1
  obtain ⟨hP, hD⟩ := va_join (wr := []) (w1 := [(h0, .inr (0, [.ref h1]))]) hP hD [0] [] rfl rfl (by decide) (by decide) hk1 hFc hP1 hD1
  generalize H1 = H at hP hS ⊢
  have hP : va_P D vwCl [(h0, .inr (0, [.ref h1]))] H := hP
  have hD : va_D A [(h0, .inr (0, [.ref h1]))] := hD
  exact W.vret hx hb hr (fun t ht hW => ⟨⟨(), rfl, trivial, by rw [ht]; exact hP, va_K.moved hW.alike hK, hD⟩, hS.F ht⟩) hS.2.2 dX8_init_5 hlocks
theorem mi_X2_init : Cond.instanceMethod yX2_init ∈ lw_good ∧ Cond.initialized yX2_init.cls ∈ lw_good ∧ Cond.code yX2_init cX2_init 2 none ∈ lw_good := by decide +kernel
set_option maxHeartbeats 4000000 in
set_option maxRecDepth 100000 in
theorem ti_X2_init_2 (l : Launch) (D : va_G) (h0 h1 : Nat) (sz : Nat) : Met l yX2_init (.code yX2_init cX2_init 2 none :: lw_good) { frames := 2, cells := 0, slots := 0, locals := 41 } (cPreI D [(h0, .inr (2, [.null]))] sz [.ref h0, .ref h1]) (va_Qv (fun (_ : Unit) => True) (fun u t => va_P D vwCl [(h0, .inr (2, [.ref h1]))] t.heap ∧ va_K D vwCl [] t ∧ va_D (va_A [(h0, .inr (2, [.null]))] sz) [(h0, .inr (2, [.ref h1]))]) (va_A [(h0, .inr (2, [.null]))] sz)) 0 0 (va_A [(h0, .inr (2, [.null]))] sz) := by
  refine entI (own := RX2) (As := [.ref h0, .ref h1]) (by decide +kernel) rfl rfl (Nat.le_of_ble_eq_true rfl) (fun _ _ h => h.1) ?_
  intro p e s m args below meth c ls B hr hlocks hin hv hl
  obtain ⟨-, hsz, hP, hKN, hD0⟩ := hv
  subst hsz
  obtain ⟨hx, hb, hml, hown, hts⟩ := id B
  have hK := hKN.1
  have hD := hD0.self (sz := s.heap.size)
  generalize hAe : va_A [(h0, .inr (2, [.null]))] s.heap.size = A at hD ⊢
  have hA : ∀ q : Nat, s.heap.size ≤ q → A q := fun q h => by rw [← hAe]; exact Or.inr h
  have hS : va_S A s.heap s.heap [] := va_S.rf
  have hl : lv_has ls 2 [(0, .ref h0), (1, .ref h1)] := hl
  refine lv_aload_n hx hb dX2_init_0 rfl (lv_at hl 0 rfl) ?_
  refine lv_aload_n hx hb dX2_init_1 rfl (lv_at hl 1 rfl) ?_
  have hPc := hP.sub (ws' := [(h0, .inr (2, [.null]))]) [0] rfl
  have hDc := hD.sub (ws' := [(h0, .inr (2, [.null]))]) [0] (by decide) rfl
  have hFc := va_free (wc := [(h0, .inr (2, [.null]))]) hD hS hA [0] rfl
  refine va_callv (runI (As := [.ref h1]) (b := h0) B 1 (ti_X3_init_2 l D h0 h1 s.heap.size) rfl rfl ki_X2_3 mi_X3_init rfl (by decide +kernel) ⟨(Nat.le_of_ble_eq_true rfl), (Nat.le_of_ble_eq_true rfl)⟩ ⟨blindI, preI hKN hPc hDc⟩ rfl hl.1 (Nat.le_of_ble_eq_true rfl) dX2_init_2 ⟨(Nat.le_of_ble_eq_true rfl), (Nat.le_of_ble_eq_true rfl)⟩) hS (fun q _ h => hFc q h) hFc (fun u t H1 locs ht hvm hw hB hz1 hk1 hS => ?_)
  obtain ⟨hP1, hK1, hD1⟩ := hB
  rw [ht] at hP1
  have hK1 := va_K.moved hvm.symm hK1
  have hP1 : va_P D vwCl [(h0, .inr (2, [.ref h1]))] H1 := hP1
  have hD1 : va_D _ [(h0, .inr (2, [.ref h1]))] := hD1
  obtain ⟨hP, hD⟩ := va_join (wr := []) (w1 := [(h0, .inr (2, [.ref h1]))]) hP hD [0] [] rfl rfl (by decide) (by decide) hk1 hFc hP1 hD1
  generalize H1 = H at hP hS ⊢
  have hP : va_P D vwCl [(h0, .inr (2, [.ref h1]))] H := hP
  have hD : va_D A [(h0, .inr (2, [.ref h1]))] := hD
  exact W.vret hx hb hr (fun t ht hW => ⟨⟨(), rfl, trivial, by rw [ht]; exact hP, va_K.moved hW.alike hK, hD⟩, hS.F ht⟩) hS.2.2 dX2_init_5 hlocks
set_option maxHeartbeats 4000000 in
set_option maxRecDepth 100000 in
theorem ti_X2_init_3 (l : Launch) (D : va_G) (h0 h1 : Nat) (sz : Nat) : Met l yX2_init (.code yX2_init cX2_init 2 none :: lw_good) { frames := 2, cells := 0, slots := 0, locals := 41 } (cPreI D [(h0, .inr (3, [.null]))] sz [.ref h0, .ref h1]) (va_Qv (fun (_ : Unit) => True) (fun u t => va_P D vwCl [(h0, .inr (3, [.ref h1]))] t.heap ∧ va_K D vwCl [] t ∧ va_D (va_A [(h0, .inr (3, [.null]))] sz) [(h0, .inr (3, [.ref h1]))]) (va_A [(h0, .inr (3, [.null]))] sz)) 0 0 (va_A [(h0, .inr (3, [.null]))] sz) := by
  refine entI (own := RX2) (As := [.ref h0, .ref h1]) (by decide +kernel) rfl rfl (Nat.le_of_ble_eq_true rfl) (fun _ _ h => h.1) ?_
  intro p e s m args below meth c ls B hr hlocks hin hv hl
  obtain ⟨-, hsz, hP, hKN, hD0⟩ := hv
  subst hsz
  obtain ⟨hx, hb, hml, hown, hts⟩ := id B
  have hK := hKN.1
  have hD := hD0.self (sz := s.heap.size)
  generalize hAe : va_A [(h0, .inr (3, [.null]))] s.heap.size = A at hD ⊢
  have hA : ∀ q : Nat, s.heap.size ≤ q → A q := fun q h => by rw [← hAe]; exact Or.inr h
  have hS : va_S A s.heap s.heap [] := va_S.rf
  have hl : lv_has ls 2 [(0, .ref h0), (1, .ref h1)] := hl
  refine lv_aload_n hx hb dX2_init_0 rfl (lv_at hl 0 rfl) ?_
  refine lv_aload_n hx hb dX2_init_1 rfl (lv_at hl 1 rfl) ?_
  have hPc := hP.sub (ws' := [(h0, .inr (3, [.null]))]) [0] rfl
  have hDc := hD.sub (ws' := [(h0, .inr (3, [.null]))]) [0] (by decide) rfl
  have hFc := va_free (wc := [(h0, .inr (3, [.null]))]) hD hS hA [0] rfl
  refine va_callv (runI (As := [.ref h1]) (b := h0) B 1 (ti_X3_init_3 l D h0 h1 s.heap.size) rfl rfl ki_X2_3 mi_X3_init rfl (by decide +kernel) ⟨(Nat.le_of_ble_eq_true rfl), (Nat.le_of_ble_eq_true rfl)⟩ ⟨blindI, preI hKN hPc hDc⟩ rfl hl.1 (Nat.le_of_ble_eq_true rfl) dX2_init_2 ⟨(Nat.le_of_ble_eq_true rfl), (Nat.le_of_ble_eq_true rfl)⟩) hS (fun q _ h => hFc q h) hFc (fun u t H1 locs ht hvm hw hB hz1 hk1 hS => ?_)
  obtain ⟨hP1, hK1, hD1⟩ := hB
  rw [ht] at hP1
  have hK1 := va_K.moved hvm.symm hK1
  have hP1 : va_P D vwCl [(h0, .inr (3, [.ref h1]))] H1 := hP1
  have hD1 : va_D _ [(h0, .inr (3, [.ref h1]))] := hD1
  obtain ⟨hP, hD⟩ := va_join (wr := []) (w1 := [(h0, .inr (3, [.ref h1]))]) hP hD [0] [] rfl rfl (by decide) (by decide) hk1 hFc hP1 hD1
  generalize H1 = H at hP hS ⊢
  have hP : va_P D vwCl [(h0, .inr (3, [.ref h1]))] H := hP
  have hD : va_D A [(h0, .inr (3, [.ref h1]))] := hD
  exact W.vret hx hb hr (fun t ht hW => ⟨⟨(), rfl, trivial, by rw [ht]; exact hP, va_K.moved hW.alike hK, hD⟩, hS.F ht⟩) hS.2.2 dX2_init_5 hlocks
theorem mi_X5_init : Cond.instanceMethod yX5_init ∈ lw_good ∧ Cond.initialized yX5_init.cls ∈ lw_good ∧ Cond.code yX5_init cX5_init 2 none ∈ lw_good := by decide +kernel
set_option maxHeartbeats 4000000 in
set_option maxRecDepth 100000 in
theorem ti_X5_init_1 (l : Launch) (D : va_G) (h0 h1 : Nat) (sz : Nat) : Met l yX5_init (.code yX5_init cX5_init 2 none :: lw_good) { frames := 3, cells := 0, slots := 0, locals := 62 } (cPreI D [(h0, .inr (4, [.null]))] sz [.ref h0, .ref h1]) (va_Qv (fun (_ : Unit) => True) (fun u t => va_P D vwCl [(h0, .inr (4, [.ref h1]))] t.heap ∧ va_K D vwCl [] t ∧ va_D (va_A [(h0, .inr (4, [.null]))] sz) [(h0, .inr (4, [.ref h1]))]) (va_A [(h0, .inr (4, [.null]))] sz)) 0 0 (va_A [(h0, .inr (4, [.null]))] sz) := by
  refine entI (own := RX5) (As := [.ref h0, .ref h1]) (by decide +kernel) rfl rfl (Nat.le_of_ble_eq_true rfl) (fun _ _ h => h.1) ?_
  intro p e s m args below meth c ls B hr hlocks hin hv hl
  obtain ⟨-, hsz, hP, hKN, hD0⟩ := hv
  subst hsz
  obtain ⟨hx, hb, hml, hown, hts⟩ := id B
  have hK := hKN.1
  have hD := hD0.self (sz := s.heap.size)
  generalize hAe : va_A [(h0, .inr (4, [.null]))] s.heap.size = A at hD ⊢
  have hA : ∀ q : Nat, s.heap.size ≤ q → A q := fun q h => by rw [← hAe]; exact Or.inr h
  have hS : va_S A s.heap s.heap [] := va_S.rf
  have hl : lv_has ls 2 [(0, .ref h0), (1, .ref h1)] := hl
  refine lv_aload_n hx hb dX5_init_0 rfl (lv_at hl 0 rfl) ?_
  refine lv_aload_n hx hb dX5_init_1 rfl (lv_at hl 1 rfl) ?_
  have hPc := hP.sub (ws' := [(h0, .inr (4, [.null]))]) [0] rfl
  have hDc := hD.sub (ws' := [(h0, .inr (4, [.null]))]) [0] (by decide) rfl
  have hFc := va_free (wc := [(h0, .inr (4, [.null]))]) hD hS hA [0] rfl
  refine va_callv (runI (As := [.ref h1]) (b := h0) B 1 (ti_X8_init_1 l D h0 h1 s.heap.size) rfl rfl ki_X5_3 mi_X8_init rfl (by decide +kernel) ⟨(Nat.le_of_ble_eq_true rfl), (Nat.le_of_ble_eq_true rfl)⟩ ⟨blindI, preI hKN hPc hDc⟩ rfl hl.1 (Nat.le_of_ble_eq_true rfl) dX5_init_2 ⟨(Nat.le_of_ble_eq_true rfl), (Nat.le_of_ble_eq_true rfl)⟩) hS (fun q _ h => hFc q h) hFc (fun u t H1 locs ht hvm hw hB hz1 hk1 hS => ?_)
  obtain ⟨hP1, hK1, hD1⟩ := hB
  rw [ht] at hP1
  have hK1 := va_K.moved hvm.symm hK1
  have hP1 : va_P D vwCl [(h0, .inr (4, [.ref h1]))] H1 := hP1
  have hD1 : va_D _ [(h0, .inr (4, [.ref h1]))] := hD1
  obtain ⟨hP, hD⟩ := va_join (wr := []) (w1 := [(h0, .inr (4, [.ref h1]))]) hP hD [0] [] rfl rfl (by decide) (by decide) hk1 hFc hP1 hD1
  generalize H1 = H at hP hS ⊢
  have hP : va_P D vwCl [(h0, .inr (4, [.ref h1]))] H := hP
  have hD : va_D A [(h0, .inr (4, [.ref h1]))] := hD
  exact W.vret hx hb hr (fun t ht hW => ⟨⟨(), rfl, trivial, by rw [ht]; exact hP, va_K.moved hW.alike hK, hD⟩, hS.F ht⟩) hS.2.2 dX5_init_5 hlocks
theorem mi_X0_init : Cond.instanceMethod yX0_init ∈ lw_good ∧ Cond.initialized yX0_init.cls ∈ lw_good ∧ Cond.code yX0_init cX0_init 2 none ∈ lw_good := by decide +kernel
set_option maxHeartbeats 4000000 in
set_option maxRecDepth 100000 in
theorem ti_X0_init_4 (l : Launch) (D : va_G) (h0 h1 : Nat) (sz : Nat) : Met l yX0_init (.code yX0_init cX0_init 2 none :: lw_good) { frames := 3, cells := 0, slots := 0, locals := 62 } (cPreI D [(h0, .inr (0, [.null]))] sz [.ref h0, .ref h1]) (va_Qv (fun (_ : Unit) => True) (fun u t => va_P D vwCl [(h0, .inr (0, [.ref h1]))] t.heap ∧ va_K D vwCl [] t ∧ va_D (va_A [(h0, .inr (0, [.null]))] sz) [(h0, .inr (0, [.ref h1]))]) (va_A [(h0, .inr (0, [.null]))] sz)) 0 0 (va_A [(h0, .inr (0, [.null]))] sz) := by
  refine entI (own := RX0) (As := [.ref h0, .ref h1]) (by decide +kernel) rfl rfl (Nat.le_of_ble_eq_true rfl) (fun _ _ h => h.1) ?_
  intro p e s m args below meth c ls B hr hlocks hin hv hl
  obtain ⟨-, hsz, hP, hKN, hD0⟩ := hv
  subst hsz
  obtain ⟨hx, hb, hml, hown, hts⟩ := id B
  have hK := hKN.1
  have hD := hD0.self (sz := s.heap.size)
  generalize hAe : va_A [(h0, .inr (0, [.null]))] s.heap.size = A at hD ⊢
  have hA : ∀ q : Nat, s.heap.size ≤ q → A q := fun q h => by rw [← hAe]; exact Or.inr h
  have hS : va_S A s.heap s.heap [] := va_S.rf
  have hl : lv_has ls 2 [(0, .ref h0), (1, .ref h1)] := hl
  refine lv_aload_n hx hb dX0_init_0 rfl (lv_at hl 0 rfl) ?_
  refine lv_aload_n hx hb dX0_init_1 rfl (lv_at hl 1 rfl) ?_
  have hPc := hP.sub (ws' := [(h0, .inr (0, [.null]))]) [0] rfl
  have hDc := hD.sub (ws' := [(h0, .inr (0, [.null]))]) [0] (by decide) rfl
  have hFc := va_free (wc := [(h0, .inr (0, [.null]))]) hD hS hA [0] rfl
  refine va_callv (runI (As := [.ref h1]) (b := h0) B 1 (ti_X8_init_4 l D h0 h1 s.heap.size) rfl rfl ki_X0_3 mi_X8_init rfl (by decide +kernel) ⟨(Nat.le_of_ble_eq_true rfl), (Nat.le_of_ble_eq_true rfl)⟩ ⟨blindI, preI hKN hPc hDc⟩ rfl hl.1 (Nat.le_of_ble_eq_true rfl) dX0_init_2 ⟨(Nat.le_of_ble_eq_true rfl), (Nat.le_of_ble_eq_true rfl)⟩) hS (fun q _ h => hFc q h) hFc (fun u t H1 locs ht hvm hw hB hz1 hk1 hS => ?_)
  obtain ⟨hP1, hK1, hD1⟩ := hB
  rw [ht] at hP1
  have hK1 := va_K.moved hvm.symm hK1
  have hP1 : va_P D vwCl [(h0, .inr (0, [.ref h1]))] H1 := hP1
  have hD1 : va_D _ [(h0, .inr (0, [.ref h1]))] := hD1
  obtain ⟨hP, hD⟩ := va_join (wr := []) (w1 := [(h0, .inr (0, [.ref h1]))]) hP hD [0] [] rfl rfl (by decide) (by decide) hk1 hFc hP1 hD1
  generalize H1 = H at hP hS ⊢
  have hP : va_P D vwCl [(h0, .inr (0, [.ref h1]))] H := hP
  have hD : va_D A [(h0, .inr (0, [.ref h1]))] := hD
  exact W.vret hx hb hr (fun t ht hW => ⟨⟨(), rfl, trivial, by rw [ht]; exact hP, va_K.moved hW.alike hK, hD⟩, hS.F ht⟩) hS.2.2 dX0_init_5 hlocks
theorem mi_X4_init : Cond.instanceMethod yX4_init ∈ lw_good ∧ Cond.initialized yX4_init.cls ∈ lw_good ∧ Cond.code yX4_init cX4_init 2 none ∈ lw_good := by decide +kernel
set_option maxHeartbeats 4000000 in
set_option maxRecDepth 100000 in
theorem ti_X4_init_3 (l : Launch) (D : va_G) (h0 h1 : Nat) (sz : Nat) : Met l yX4_init (.code yX4_init cX4_init 2 none :: lw_good) { frames := 3, cells := 0, slots := 0, locals := 62 } (cPreI D [(h0, .inr (3, [.null]))] sz [.ref h0, .ref h1]) (va_Qv (fun (_ : Unit) => True) (fun u t => va_P D vwCl [(h0, .inr (3, [.ref h1]))] t.heap ∧ va_K D vwCl [] t ∧ va_D (va_A [(h0, .inr (3, [.null]))] sz) [(h0, .inr (3, [.ref h1]))]) (va_A [(h0, .inr (3, [.null]))] sz)) 0 0 (va_A [(h0, .inr (3, [.null]))] sz) := by
  refine entI (own := RX4) (As := [.ref h0, .ref h1]) (by decide +kernel) rfl rfl (Nat.le_of_ble_eq_true rfl) (fun _ _ h => h.1) ?_
  intro p e s m args below meth c ls B hr hlocks hin hv hl
  obtain ⟨-, hsz, hP, hKN, hD0⟩ := hv
  subst hsz
  obtain ⟨hx, hb, hml, hown, hts⟩ := id B
  have hK := hKN.1
  have hD := hD0.self (sz := s.heap.size)
  generalize hAe : va_A [(h0, .inr (3, [.null]))] s.heap.size = A at hD ⊢
  have hA : ∀ q : Nat, s.heap.size ≤ q → A q := fun q h => by rw [← hAe]; exact Or.inr h
  have hS : va_S A s.heap s.heap [] := va_S.rf
  have hl : lv_has ls 2 [(0, .ref h0), (1, .ref h1)] := hl
  refine lv_aload_n hx hb dX4_init_0 rfl (lv_at hl 0 rfl) ?_
  refine lv_aload_n hx hb dX4_init_1 rfl (lv_at hl 1 rfl) ?_
  have hPc := hP.sub (ws' := [(h0, .inr (3, [.null]))]) [0] rfl
  have hDc := hD.sub (ws' := [(h0, .inr (3, [.null]))]) [0] (by decide) rfl
  have hFc := va_free (wc := [(h0, .inr (3, [.null]))]) hD hS hA [0] rfl
  refine va_callv (runI (As := [.ref h1]) (b := h0) B 1 (ti_X2_init_3 l D h0 h1 s.heap.size) rfl rfl ki_X4_3 mi_X2_init rfl (by decide +kernel) ⟨(Nat.le_of_ble_eq_true rfl), (Nat.le_of_ble_eq_true rfl)⟩ ⟨blindI, preI hKN hPc hDc⟩ rfl hl.1 (Nat.le_of_ble_eq_true rfl) dX4_init_2 ⟨(Nat.le_of_ble_eq_true rfl), (Nat.le_of_ble_eq_true rfl)⟩) hS (fun q _ h => hFc q h) hFc (fun u t H1 locs ht hvm hw hB hz1 hk1 hS => ?_)
  obtain ⟨hP1, hK1, hD1⟩ := hB
  rw [ht] at hP1
  have hK1 := va_K.moved hvm.symm hK1
  have hP1 : va_P D vwCl [(h0, .inr (3, [.ref h1]))] H1 := hP1
  have hD1 : va_D _ [(h0, .inr (3, [.ref h1]))] := hD1
  obtain ⟨hP, hD⟩ := va_join (wr := []) (w1 := [(h0, .inr (3, [.ref h1]))]) hP hD [0] [] rfl rfl (by decide) (by decide) hk1 hFc hP1 hD1
  generalize H1 = H at hP hS ⊢
  have hP : va_P D vwCl [(h0, .inr (3, [.ref h1]))] H := hP
  have hD : va_D A [(h0, .inr (3, [.ref h1]))] := hD
  exact W.vret hx hb hr (fun t ht hW => ⟨⟨(), rfl, trivial, by rw [ht]; exact hP, va_K.moved hW.alike hK, hD⟩, hS.F ht⟩) hS.2.2 dX4_init_5 hlocks
