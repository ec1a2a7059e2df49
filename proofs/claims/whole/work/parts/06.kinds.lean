section KN
variable {p : Program} {l : Launch} {e : Env} {R : Room} {s : State} {m : MethodId} {args : Array Value} {below : List Frame} {meth : Method} {c : Code} {H : Heap} {locs : List Loc} {cells slots : Nat} {Q : State → Prop}
variable {cc : ByteArray} {nL pc idx : Nat} {ls : Array Slot} {rest : List Value} {own : String} {G : Gm} {A : Nat → Prop} {H0 : Heap} {la : Nat} {w : CW} {κ : Nat}
theorem GB_X3 (X : CX own cc nL G p s m args c) (h : CH G (cw G la w) A H0 H locs) (hκ : κ < 5) (hl : Cond.fieldLink own idx "WashHouse$Machine" "begun" "LWashHouse$Trace;" ∈ lw_good) (hd : decode cc pc = .ok (.getfield idx, 3)) (k : W p l e R s m args below meth c H locs cells slots Q (F0 m (pc + 3) ls (.ref (gq G 3) :: rest))) : W p l e R s m args below meth c H locs cells slots Q (F0 m pc ls (.ref (gq G (20 + κ)) :: rest)) := by
  have hs : ∀ x, s.fieldFound? "WashHouse$Machine" "begun" "LWashHouse$Trace;" = some x → s.fieldFound? "WashHouse$Machine" "begun" "LWashHouse$Trace;" = some x := fun _ h => h
  rcases (show κ = 0 ∨ κ = 1 ∨ κ = 2 ∨ κ = 3 ∨ κ = 4 by omega) with rfl | rfl | rfl | rfl | rfl
  · exact va_get (D := G.1) (ci := 7) (v := .ref (gq G 3)) (C := RX8) (T := TX8) (N := 1) X.1.1 X.1.2.1 X.1.2.2.2.2 iX8 X.1.2.2.2.1 X.2.1 h.1 20 rfl rfl 0 (by decide) (X.1.2.2.2.2 _ hl) hs rfl hd k
  · exact va_get (D := G.1) (ci := 4) (v := .ref (gq G 3)) (C := RX5) (T := TX5) (N := 1) X.1.1 X.1.2.1 X.1.2.2.2.2 iX5 X.1.2.2.2.1 X.2.1 h.1 21 rfl rfl 0 (by decide) (X.1.2.2.2.2 _ hl) hs rfl hd k
  · exact va_get (D := G.1) (ci := 2) (v := .ref (gq G 3)) (C := RX2) (T := TX2) (N := 1) X.1.1 X.1.2.1 X.1.2.2.2.2 iX2 X.1.2.2.2.1 X.2.1 h.1 22 rfl rfl 0 (by decide) (X.1.2.2.2.2 _ hl) hs rfl hd k
  · exact va_get (D := G.1) (ci := 3) (v := .ref (gq G 3)) (C := RX4) (T := TX4) (N := 1) X.1.1 X.1.2.1 X.1.2.2.2.2 iX4 X.1.2.2.2.1 X.2.1 h.1 23 rfl rfl 0 (by decide) (X.1.2.2.2.2 _ hl) hs rfl hd k
  · exact va_get (D := G.1) (ci := 0) (v := .ref (gq G 3)) (C := RX0) (T := TX0) (N := 1) X.1.1 X.1.2.1 X.1.2.2.2.2 iX0 X.1.2.2.2.1 X.2.1 h.1 24 rfl rfl 0 (by decide) (X.1.2.2.2.2 _ hl) hs rfl hd k
theorem sf_X8 : Cond.sameField "WashHouse$Washer" "WashHouse$Machine" "begun" "LWashHouse$Trace;" ∈ lw_good := by decide +kernel
theorem GB_X8 (X : CX own cc nL G p s m args c) (h : CH G (cw G la w) A H0 H locs) (hκ : κ < 5) (hl : Cond.fieldLink own idx "WashHouse$Washer" "begun" "LWashHouse$Trace;" ∈ lw_good) (hd : decode cc pc = .ok (.getfield idx, 3)) (k : W p l e R s m args below meth c H locs cells slots Q (F0 m (pc + 3) ls (.ref (gq G 3) :: rest))) : W p l e R s m args below meth c H locs cells slots Q (F0 m pc ls (.ref (gq G (20 + κ)) :: rest)) := by
  have hs : ∀ x, s.fieldFound? "WashHouse$Machine" "begun" "LWashHouse$Trace;" = some x → s.fieldFound? "WashHouse$Washer" "begun" "LWashHouse$Trace;" = some x := u_same (X.1.2.2.2.2 _ sf_X8)
  rcases (show κ = 0 ∨ κ = 1 ∨ κ = 2 ∨ κ = 3 ∨ κ = 4 by omega) with rfl | rfl | rfl | rfl | rfl
  · exact va_get (D := G.1) (ci := 7) (v := .ref (gq G 3)) (C := RX8) (T := TX8) (N := 1) X.1.1 X.1.2.1 X.1.2.2.2.2 iX8 X.1.2.2.2.1 X.2.1 h.1 20 rfl rfl 0 (by decide) (X.1.2.2.2.2 _ hl) hs rfl hd k
  · exact va_get (D := G.1) (ci := 4) (v := .ref (gq G 3)) (C := RX5) (T := TX5) (N := 1) X.1.1 X.1.2.1 X.1.2.2.2.2 iX5 X.1.2.2.2.1 X.2.1 h.1 21 rfl rfl 0 (by decide) (X.1.2.2.2.2 _ hl) hs rfl hd k
  · exact va_get (D := G.1) (ci := 2) (v := .ref (gq G 3)) (C := RX2) (T := TX2) (N := 1) X.1.1 X.1.2.1 X.1.2.2.2.2 iX2 X.1.2.2.2.1 X.2.1 h.1 22 rfl rfl 0 (by decide) (X.1.2.2.2.2 _ hl) hs rfl hd k
  · exact va_get (D := G.1) (ci := 3) (v := .ref (gq G 3)) (C := RX4) (T := TX4) (N := 1) X.1.1 X.1.2.1 X.1.2.2.2.2 iX4 X.1.2.2.2.1 X.2.1 h.1 23 rfl rfl 0 (by decide) (X.1.2.2.2.2 _ hl) hs rfl hd k
  · exact va_get (D := G.1) (ci := 0) (v := .ref (gq G 3)) (C := RX0) (T := TX0) (N := 1) X.1.1 X.1.2.1 X.1.2.2.2.2 iX0 X.1.2.2.2.1 X.2.1 h.1 24 rfl rfl 0 (by decide) (X.1.2.2.2.2 _ hl) hs rfl hd k
theorem sf_X5 : Cond.sameField "WashHouse$Spinner" "WashHouse$Machine" "begun" "LWashHouse$Trace;" ∈ lw_good := by decide +kernel
theorem GB_X5 (X : CX own cc nL G p s m args c) (h : CH G (cw G la w) A H0 H locs) (hκ : κ < 5) (hl : Cond.fieldLink own idx "WashHouse$Spinner" "begun" "LWashHouse$Trace;" ∈ lw_good) (hd : decode cc pc = .ok (.getfield idx, 3)) (k : W p l e R s m args below meth c H locs cells slots Q (F0 m (pc + 3) ls (.ref (gq G 3) :: rest))) : W p l e R s m args below meth c H locs cells slots Q (F0 m pc ls (.ref (gq G (20 + κ)) :: rest)) := by
  have hs : ∀ x, s.fieldFound? "WashHouse$Machine" "begun" "LWashHouse$Trace;" = some x → s.fieldFound? "WashHouse$Spinner" "begun" "LWashHouse$Trace;" = some x := u_same (X.1.2.2.2.2 _ sf_X5)
  rcases (show κ = 0 ∨ κ = 1 ∨ κ = 2 ∨ κ = 3 ∨ κ = 4 by omega) with rfl | rfl | rfl | rfl | rfl
  · exact va_get (D := G.1) (ci := 7) (v := .ref (gq G 3)) (C := RX8) (T := TX8) (N := 1) X.1.1 X.1.2.1 X.1.2.2.2.2 iX8 X.1.2.2.2.1 X.2.1 h.1 20 rfl rfl 0 (by decide) (X.1.2.2.2.2 _ hl) hs rfl hd k
  · exact va_get (D := G.1) (ci := 4) (v := .ref (gq G 3)) (C := RX5) (T := TX5) (N := 1) X.1.1 X.1.2.1 X.1.2.2.2.2 iX5 X.1.2.2.2.1 X.2.1 h.1 21 rfl rfl 0 (by decide) (X.1.2.2.2.2 _ hl) hs rfl hd k
  · exact va_get (D := G.1) (ci := 2) (v := .ref (gq G 3)) (C := RX2) (T := TX2) (N := 1) X.1.1 X.1.2.1 X.1.2.2.2.2 iX2 X.1.2.2.2.1 X.2.1 h.1 22 rfl rfl 0 (by decide) (X.1.2.2.2.2 _ hl) hs rfl hd k
  · exact va_get (D := G.1) (ci := 3) (v := .ref (gq G 3)) (C := RX4) (T := TX4) (N := 1) X.1.1 X.1.2.1 X.1.2.2.2.2 iX4 X.1.2.2.2.1 X.2.1 h.1 23 rfl rfl 0 (by decide) (X.1.2.2.2.2 _ hl) hs rfl hd k
  · exact va_get (D := G.1) (ci := 0) (v := .ref (gq G 3)) (C := RX0) (T := TX0) (N := 1) X.1.1 X.1.2.1 X.1.2.2.2.2 iX0 X.1.2.2.2.1 X.2.1 h.1 24 rfl rfl 0 (by decide) (X.1.2.2.2.2 _ hl) hs rfl hd k
theorem sf_X2 : Cond.sameField "WashHouse$Dryer" "WashHouse$Machine" "begun" "LWashHouse$Trace;" ∈ lw_good := by decide +kernel
theorem GB_X2 (X : CX own cc nL G p s m args c) (h : CH G (cw G la w) A H0 H locs) (hκ : κ < 5) (hl : Cond.fieldLink own idx "WashHouse$Dryer" "begun" "LWashHouse$Trace;" ∈ lw_good) (hd : decode cc pc = .ok (.getfield idx, 3)) (k : W p l e R s m args below meth c H locs cells slots Q (F0 m (pc + 3) ls (.ref (gq G 3) :: rest))) : W p l e R s m args below meth c H locs cells slots Q (F0 m pc ls (.ref (gq G (20 + κ)) :: rest)) := by
  have hs : ∀ x, s.fieldFound? "WashHouse$Machine" "begun" "LWashHouse$Trace;" = some x → s.fieldFound? "WashHouse$Dryer" "begun" "LWashHouse$Trace;" = some x := u_same (X.1.2.2.2.2 _ sf_X2)
  rcases (show κ = 0 ∨ κ = 1 ∨ κ = 2 ∨ κ = 3 ∨ κ = 4 by omega) with rfl | rfl | rfl | rfl | rfl
  · exact va_get (D := G.1) (ci := 7) (v := .ref (gq G 3)) (C := RX8) (T := TX8) (N := 1) X.1.1 X.1.2.1 X.1.2.2.2.2 iX8 X.1.2.2.2.1 X.2.1 h.1 20 rfl rfl 0 (by decide) (X.1.2.2.2.2 _ hl) hs rfl hd k
  · exact va_get (D := G.1) (ci := 4) (v := .ref (gq G 3)) (C := RX5) (T := TX5) (N := 1) X.1.1 X.1.2.1 X.1.2.2.2.2 iX5 X.1.2.2.2.1 X.2.1 h.1 21 rfl rfl 0 (by decide) (X.1.2.2.2.2 _ hl) hs rfl hd k
  · exact va_get (D := G.1) (ci := 2) (v := .ref (gq G 3)) (C := RX2) (T := TX2) (N := 1) X.1.1 X.1.2.1 X.1.2.2.2.2 iX2 X.1.2.2.2.1 X.2.1 h.1 22 rfl rfl 0 (by decide) (X.1.2.2.2.2 _ hl) hs rfl hd k
  · exact va_get (D := G.1) (ci := 3) (v := .ref (gq G 3)) (C := RX4) (T := TX4) (N := 1) X.1.1 X.1.2.1 X.1.2.2.2.2 iX4 X.1.2.2.2.1 X.2.1 h.1 23 rfl rfl 0 (by decide) (X.1.2.2.2.2 _ hl) hs rfl hd k
  · exact va_get (D := G.1) (ci := 0) (v := .ref (gq G 3)) (C := RX0) (T := TX0) (N := 1) X.1.1 X.1.2.1 X.1.2.2.2.2 iX0 X.1.2.2.2.1 X.2.1 h.1 24 rfl rfl 0 (by decide) (X.1.2.2.2.2 _ hl) hs rfl hd k
theorem sf_X4 : Cond.sameField "WashHouse$Press" "WashHouse$Machine" "begun" "LWashHouse$Trace;" ∈ lw_good := by decide +kernel
theorem GB_X4 (X : CX own cc nL G p s m args c) (h : CH G (cw G la w) A H0 H locs) (hκ : κ < 5) (hl : Cond.fieldLink own idx "WashHouse$Press" "begun" "LWashHouse$Trace;" ∈ lw_good) (hd : decode cc pc = .ok (.getfield idx, 3)) (k : W p l e R s m args below meth c H locs cells slots Q (F0 m (pc + 3) ls (.ref (gq G 3) :: rest))) : W p l e R s m args below meth c H locs cells slots Q (F0 m pc ls (.ref (gq G (20 + κ)) :: rest)) := by
  have hs : ∀ x, s.fieldFound? "WashHouse$Machine" "begun" "LWashHouse$Trace;" = some x → s.fieldFound? "WashHouse$Press" "begun" "LWashHouse$Trace;" = some x := u_same (X.1.2.2.2.2 _ sf_X4)
  rcases (show κ = 0 ∨ κ = 1 ∨ κ = 2 ∨ κ = 3 ∨ κ = 4 by omega) with rfl | rfl | rfl | rfl | rfl
  · exact va_get (D := G.1) (ci := 7) (v := .ref (gq G 3)) (C := RX8) (T := TX8) (N := 1) X.1.1 X.1.2.1 X.1.2.2.2.2 iX8 X.1.2.2.2.1 X.2.1 h.1 20 rfl rfl 0 (by decide) (X.1.2.2.2.2 _ hl) hs rfl hd k
  · exact va_get (D := G.1) (ci := 4) (v := .ref (gq G 3)) (C := RX5) (T := TX5) (N := 1) X.1.1 X.1.2.1 X.1.2.2.2.2 iX5 X.1.2.2.2.1 X.2.1 h.1 21 rfl rfl 0 (by decide) (X.1.2.2.2.2 _ hl) hs rfl hd k
  · exact va_get (D := G.1) (ci := 2) (v := .ref (gq G 3)) (C := RX2) (T := TX2) (N := 1) X.1.1 X.1.2.1 X.1.2.2.2.2 iX2 X.1.2.2.2.1 X.2.1 h.1 22 rfl rfl 0 (by decide) (X.1.2.2.2.2 _ hl) hs rfl hd k
  · exact va_get (D := G.1) (ci := 3) (v := .ref (gq G 3)) (C := RX4) (T := TX4) (N := 1) X.1.1 X.1.2.1 X.1.2.2.2.2 iX4 X.1.2.2.2.1 X.2.1 h.1 23 rfl rfl 0 (by decide) (X.1.2.2.2.2 _ hl) hs rfl hd k
  · exact va_get (D := G.1) (ci := 0) (v := .ref (gq G 3)) (C := RX0) (T := TX0) (N := 1) X.1.1 X.1.2.1 X.1.2.2.2.2 iX0 X.1.2.2.2.1 X.2.1 h.1 24 rfl rfl 0 (by decide) (X.1.2.2.2.2 _ hl) hs rfl hd k
theorem sf_X0 : Cond.sameField "WashHouse$Bank" "WashHouse$Machine" "begun" "LWashHouse$Trace;" ∈ lw_good := by decide +kernel
theorem GB_X0 (X : CX own cc nL G p s m args c) (h : CH G (cw G la w) A H0 H locs) (hκ : κ < 5) (hl : Cond.fieldLink own idx "WashHouse$Bank" "begun" "LWashHouse$Trace;" ∈ lw_good) (hd : decode cc pc = .ok (.getfield idx, 3)) (k : W p l e R s m args below meth c H locs cells slots Q (F0 m (pc + 3) ls (.ref (gq G 3) :: rest))) : W p l e R s m args below meth c H locs cells slots Q (F0 m pc ls (.ref (gq G (20 + κ)) :: rest)) := by
  have hs : ∀ x, s.fieldFound? "WashHouse$Machine" "begun" "LWashHouse$Trace;" = some x → s.fieldFound? "WashHouse$Bank" "begun" "LWashHouse$Trace;" = some x := u_same (X.1.2.2.2.2 _ sf_X0)
  rcases (show κ = 0 ∨ κ = 1 ∨ κ = 2 ∨ κ = 3 ∨ κ = 4 by omega) with rfl | rfl | rfl | rfl | rfl
  · exact va_get (D := G.1) (ci := 7) (v := .ref (gq G 3)) (C := RX8) (T := TX8) (N := 1) X.1.1 X.1.2.1 X.1.2.2.2.2 iX8 X.1.2.2.2.1 X.2.1 h.1 20 rfl rfl 0 (by decide) (X.1.2.2.2.2 _ hl) hs rfl hd k
  · exact va_get (D := G.1) (ci := 4) (v := .ref (gq G 3)) (C := RX5) (T := TX5) (N := 1) X.1.1 X.1.2.1 X.1.2.2.2.2 iX5 X.1.2.2.2.1 X.2.1 h.1 21 rfl rfl 0 (by decide) (X.1.2.2.2.2 _ hl) hs rfl hd k
  · exact va_get (D := G.1) (ci := 2) (v := .ref (gq G 3)) (C := RX2) (T := TX2) (N := 1) X.1.1 X.1.2.1 X.1.2.2.2.2 iX2 X.1.2.2.2.1 X.2.1 h.1 22 rfl rfl 0 (by decide) (X.1.2.2.2.2 _ hl) hs rfl hd k
  · exact va_get (D := G.1) (ci := 3) (v := .ref (gq G 3)) (C := RX4) (T := TX4) (N := 1) X.1.1 X.1.2.1 X.1.2.2.2.2 iX4 X.1.2.2.2.1 X.2.1 h.1 23 rfl rfl 0 (by decide) (X.1.2.2.2.2 _ hl) hs rfl hd k
  · exact va_get (D := G.1) (ci := 0) (v := .ref (gq G 3)) (C := RX0) (T := TX0) (N := 1) X.1.1 X.1.2.1 X.1.2.2.2.2 iX0 X.1.2.2.2.1 X.2.1 h.1 24 rfl rfl 0 (by decide) (X.1.2.2.2.2 _ hl) hs rfl hd k
def KC (κ : Nat) : String := if κ = 0 then RX8 else if κ = 1 then RX5 else if κ = 2 then RX2 else if κ = 3 then RX4 else RX0
theorem recvK (hK : KK G s) (h : CH G (cw G la w) A H0 H locs) (hκ : κ < 5) : (∃ cell : Cell, H[gq G (20 + κ)]? = some cell ∧ cell.vm.isStatics = false ∧ s.vm.findClass (KC κ) = some cell.cls) ∧ ∃ cC : ClassId, ClassAt s (KC κ) cC := by
  rcases (show κ = 0 ∨ κ = 1 ∨ κ = 2 ∨ κ = 3 ∨ κ = 4 by omega) with rfl | rfl | rfl | rfl | rfl
  · exact ⟨va_recv hK.1 h.1 (ci := 7) (q0 := 20) rfl rfl, _, (hK.1.1 7 _ rfl).2⟩
  · exact ⟨va_recv hK.1 h.1 (ci := 4) (q0 := 21) rfl rfl, _, (hK.1.1 4 _ rfl).2⟩
  · exact ⟨va_recv hK.1 h.1 (ci := 2) (q0 := 22) rfl rfl, _, (hK.1.1 2 _ rfl).2⟩
  · exact ⟨va_recv hK.1 h.1 (ci := 3) (q0 := 23) rfl rfl, _, (hK.1.1 3 _ rfl).2⟩
  · exact ⟨va_recv hK.1 h.1 (ci := 0) (q0 := 24) rfl rfl, _, (hK.1.1 0 _ rfl).2⟩
theorem rw_get {P : Nat} (hP : 25 ≤ P ∧ P < 38) : (cw G la w)[P]? = some (gq G P, .inl (gI G, 501, .inl (w.1 P))) := by
  rcases (show P = 25 ∨ P = 26 ∨ P = 27 ∨ P = 28 ∨ P = 29 ∨ P = 30 ∨ P = 31 ∨ P = 32 ∨ P = 33 ∨ P = 34 ∨ P = 35 ∨ P = 36 ∨ P = 37 by omega) with rfl | rfl | rfl | rfl | rfl | rfl | rfl | rfl | rfl | rfl | rfl | rfl | rfl <;> rfl
theorem rw_set {P : Nat} {g : Nat → Int32} (hP : 25 ≤ P ∧ P < 38) : (cw G la w).set P (gq G P, .inl (gI G, 501, .inl g)) = cw G la (ca w P g) := by
  rcases (show P = 25 ∨ P = 26 ∨ P = 27 ∨ P = 28 ∨ P = 29 ∨ P = 30 ∨ P = 31 ∨ P = 32 ∨ P = 33 ∨ P = 34 ∨ P = 35 ∨ P = 36 ∨ P = 37 by omega) with rfl | rfl | rfl | rfl | rfl | rfl | rfl | rfl | rfl | rfl | rfl | rfl | rfl <;> rfl
theorem AW {i : Int32} (X : CX own cc nL G p s m args c) (h : CH G (cw G la w) A H0 H locs) (hi : inb i 13) (hd : decode cc pc = .ok (.aaload, 1)) (k : W p l e R s m args below meth c H locs cells slots Q (F0 m (pc + 1) ls (.ref (gq G (25 + i.toNatClampNeg)) :: rest))) : W p l e R s m args below meth c H locs cells slots Q (F0 m pc ls (.int i :: .ref (gq G 18) :: rest)) := by
  have hlt : i.toNatClampNeg < 13 := inb_lt hi
  refine W.aald (v := .ref (gq G (25 + i.toNatClampNeg))) (ty := .array .int) X.1.1 X.1.2.1 (h.1 18 _ rfl) ((X.2.1.2 2 _ rfl).1 13 (fun j => va_rf (if j < 13 then some (gq G (25 + j)) else none))) rfl (fun q => by cases q) (by show ¬ (i < 0 ∨ (arrV _ _ _).slots.size ≤ _); rw [arrV_size]; exact hi) (by show (arrV _ _ _).slots[_]? = _; rw [arrV_read _ _ hlt]; show some (va_rf (if i.toNatClampNeg < 13 then some (gq G (25 + i.toNatClampNeg)) else none)) = _; rw [if_pos hlt]; rfl) rfl rfl hd k
theorem LC_row {P : Nat} {i : Int32} (X : CX own cc nL G p s m args c) (h : CH G (cw G la w) A H0 H locs) (hP : 25 ≤ P ∧ P < 38) (hi : inb i 501) (hd : decode cc pc = .ok (.iaload, 1)) (k : W p l e R s m args below meth c H locs cells slots Q (F0 m (pc + 1) ls (.int (w.1 P i.toNatClampNeg) :: rest))) : W p l e R s m args below meth c H locs cells slots Q (F0 m pc ls (.int i :: .ref (gq G P) :: rest)) :=
  va_iald X.1.1 X.1.2.1 X.2.1 h.1 P 0 (rw_get hP) rfl hi hd k
theorem SC_row {P : Nat} {i x : Int32} (X : CX own cc nL G p s m args c) (h : CH G (cw G la w) A H0 H locs) (hP : 25 ≤ P ∧ P < 38) (hi : inb i 501) (hd : decode cc pc = .ok (.iastore, 1)) (k : ∀ (H : Heap) (locs : List Loc), CH G (cw G la (cs w P i.toNatClampNeg x)) A H0 H locs → W p l e R s m args below meth c H locs cells slots Q (F0 m (pc + 1) ls rest)) : W p l e R s m args below meth c H locs cells slots Q (F0 m pc ls (.int x :: .int i :: .ref (gq G P) :: rest)) :=
  va_iast X.1.1 X.1.2.1 X.2.1 h.1 h.2.1 h.2.2 P 0 (rw_get hP) rfl hi hd (fun H locs a b c => k H locs ⟨rw_set hP ▸ a, rw_set hP ▸ b, c⟩)
end KN
section RA
variable {p : Program} {l : Launch} {e : Env} {R : Room} {s : State} {m : MethodId} {args : Array Value} {below : List Frame} {meth : Method} {c : Code} {H : Heap} {locs : List Loc} {cells slots : Nat} {Q : State → Prop}
variable {cc : ByteArray} {nL pc : Nat} {ls : Array Slot} {rest : List Value} {own : String}
variable {y x : MethodName} {bytes : ByteArray} {maxL mc ms n idx : Nat} {ret : Option FieldType} {rm : Room} {Pc : Array Value → State → Prop} {Qc : Array Value → State → Outcome → State → Prop} {free : Addr → Prop} {As st0 : List Value} {b : Addr} {C : String}
theorem runA {owner : String} (B : CB own cc nL p s m args c) (n : Nat) (hM : Met l y (.code y bytes maxL ret :: lw_good) rm Pc Qc mc ms free) (hrc : rm.cells = mc) (hrs : rm.slots = ms) (hlk : Cond.methodLink own idx x ∈ lw_good)
    (hw : Cond.sameMethod x.cls owner x.name x.desc ∈ lw_good ∧ Cond.selects C x y ∈ lw_good ∧ Cond.instanceMethod y ∈ lw_good ∧ Cond.initialized y.cls ∈ lw_good ∧ Cond.code y bytes maxL ret ∈ lw_good) (hz : va_Nw (.declares ⟨owner, x.name, x.desc⟩) s) (hd : owner ≠ "java/lang/invoke/MethodHandle" ∧ owner ≠ "java/lang/invoke/VarHandle" ∧ (parseMethodDescriptor x.desc).map (fun d => d.parameters.length) = some n) (hR : rm.frames + 1 ≤ R.frames ∧ 8 + (maxL + 11) + rm.locals ≤ R.locals)
    (hp : PreV s H C b Pc As) (hn : As.length = n) (hsize : ls.size = nL) (hrest : (rest.map fun v => v.category).sum ≤ 8) (hdg : decode cc pc = .ok (.invokevirtual idx, 3)) (hf : cells + mc ≤ R.cells ∧ slots + ms ≤ R.slots) :
    va_Run p l e R s m args below meth c H locs cells slots mc ms (F0 m pc ls (As.reverse ++ .ref b :: rest)) rest (Qc (Value.ref b :: As).toArray) free :=
  va_runU B hM (va_cwA n B.2.2.2.2 (good_cons (big := []) hw.2.2.2.2 (fun w h => by
    simp only [List.mem_cons, List.not_mem_nil, or_false] at h
    rcases h with rfl | rfl | rfl | rfl | rfl
    · exact hlk
    · exact hw.1
    · exact hw.2.1
    · exact hw.2.2.1
    · exact hw.2.2.2.1)) rfl hrc hrs hz hd hR) hp rfl hn hsize rfl (lv_room hrest) hdg hf
end RA
def f_X7_begin (x1 : Int32) (x2 : Int32) (w : CW) : Option CW :=
 chk (inb (w.1 3 2) 30) (
 (some (cs (cs w 19 (w.1 3 2).toNatClampNeg ((((10 : Int32)) * x1) + x2)) 3 2 ((((cs w 19 (w.1 3 2).toNatClampNeg ((((10 : Int32)) * x1) + x2)).1 3 2) + ((1 : Int32))) - (((cs w 19 (w.1 3 2).toNatClampNeg ((((10 : Int32)) * x1) + x2)).1 3 2) + ((1 : Int32))) / ((30 : Int32)) * ((30 : Int32))))).bind fun w2 =>
 (some (cs w2 3 1 (if ((30 : Int32)) < ((w2.1 3 1) + ((1 : Int32))) then ((30 : Int32)) else ((w2.1 3 1) + ((1 : Int32)))))).bind fun w3 =>
 some w3)
set_option maxHeartbeats 4000000 in
set_option maxRecDepth 100000 in
theorem t_X7_begin (l : Launch) (G : Gm) (la : Nat) (w0 : CW) (x1 : Int32) (x2 : Int32) (w' : CW) (hf : f_X7_begin x1 x2 w0 = some w') : MetV l yX7_begin cX7_begin 3 1 21 G (cw G la w0) [.ref (gq G 3), .int x1, .int x2] (fun _ => cw G la (w')) 0 := by
  intro sz
  refine ent (own := RX7) (As := [.ref (gq G 3), .int x1, .int x2]) (by decide +kernel) rfl (Nat.le_of_ble_eq_true rfl) (fun _ _ h => h.1) ?_
  intro p e s m args below meth c ls B hr hlocks hv hl
  obtain ⟨-, hsz, hP, hKK, hD⟩ := hv
  subst hsz
  have X : CX RX7 cX7_begin 3 G p s m args c := ⟨B, hKK⟩
  obtain ⟨hx, hb, hml, hown, hts⟩ := id B
  have hA : ∀ q : Nat, s.heap.size ≤ q → va_A (cw G la w0) s.heap.size q := fun q z => Or.inr z
  have h : CH G (cw G la w0) (va_A (cw G la w0) s.heap.size) s.heap s.heap [] := ⟨hP, hD.self, va_S.rf⟩
  obtain ⟨w, rfl⟩ : ∃ z, z = w0 := ⟨_, rfl⟩
  have hl : lv_has ls 3 [(0, .ref (gq G 3)), (1, .int x1), (2, .int x2)] := hl
  unfold f_X7_begin at hf
  refine lv_aload_n hx hb dX7_begin_0 rfl (lv_at hl 0 rfl) ?_
  refine GC_3_0 X h k_X7_11 dX7_begin_1 ?_
  refine lv_aload_n hx hb dX7_begin_4 rfl (lv_at hl 0 rfl) ?_
  refine GC_3_2 X h k_X7_19 dX7_begin_5 ?_
  refine lv_bipush (v := 10) hx hb dX7_begin_8 (by decide) ?_
  refine lv_iload_n hx hb dX7_begin_10 rfl (lv_at hl 1 rfl) ?_
  refine lv_imul hx hb dX7_begin_11 ?_
  refine lv_iload_n hx hb dX7_begin_12 rfl (lv_at hl 2 rfl) ?_
  refine lv_iadd hx hb dX7_begin_13 ?_
  obtain ⟨c1, hf⟩ := chk_some hf
  refine SC_19 X h c1 dX7_begin_14 (fun H locs h => ?_)
  refine lv_aload_n hx hb dX7_begin_15 rfl (lv_at hl 0 rfl) ?_
  refine lv_aload_n hx hb dX7_begin_16 rfl (lv_at hl 0 rfl) ?_
  refine GC_3_2 X h k_X7_19 dX7_begin_17 ?_
  refine lv_iconst (v := 1) hx hb dX7_begin_20 (by decide) ?_
  refine lv_iadd hx hb dX7_begin_21 ?_
  refine lv_bipush (v := 30) hx hb dX7_begin_22 (by decide) ?_
  refine lv_irem hx hb dX7_begin_24 (by decide) ?_
  refine PC_3_2 X h k_X7_19 dX7_begin_25 (fun H locs h => ?_)
  obtain ⟨w2, ew2, hf⟩ := bnd_some hf
  have h := (Option.some.inj ew2) ▸ h
  refine lv_aload_n hx hb dX7_begin_28 rfl (lv_at hl 0 rfl) ?_
  refine lv_aload_n hx hb dX7_begin_29 rfl (lv_at hl 0 rfl) ?_
  refine GC_3_1 X h k_X7_15 dX7_begin_30 ?_
  refine lv_iconst (v := 1) hx hb dX7_begin_33 (by decide) ?_
  refine lv_iadd hx hb dX7_begin_34 ?_
  refine lv_bipush (v := 30) hx hb dX7_begin_35 (by decide) ?_
  refine m_min X.1 hl.1 k_X7_22 mn_w ⟨(Nat.le_of_ble_eq_true rfl), (Nat.le_of_ble_eq_true rfl)⟩ ⟨Nat.zero_le _, Nat.zero_le _⟩ dX7_begin_37 ?_
  refine PC_3_1 X h k_X7_15 dX7_begin_40 (fun H locs h => ?_)
  obtain ⟨w3, ew3, hf⟩ := bnd_some hf
  have h := (Option.some.inj ew3) ▸ h
  exact e0_v (Wf := cw G la) X.1 hr hlocks hf h dX7_begin_43
theorem m_X7_begin : Cond.instanceMethod yX7_begin ∈ lw_good ∧ Cond.selects RX7 yX7_begin yX7_begin ∈ lw_good ∧ Cond.initialized RX7 ∈ lw_good ∧ Cond.code yX7_begin cX7_begin 3 none ∈ lw_good := by decide +kernel
theorem k_X7_begin {p : Program} {l : Launch} {e : Env} {R : Room} {s : State} {m : MethodId} {args : Array Value} {below : List Frame} {meth : Method} {c : Code} {H : Heap} {locs : List Loc} {cells slots : Nat} {Q : State → Prop} {cc : ByteArray} {nL pc idx : Nat} {ls : Array Slot} {rest : List Value} {own : String} {G : Gm} {A : Nat → Prop} {H0 : Heap} {la : Nat} {w : CW} {x1 : Int32} {x2 : Int32} {w' : CW} (X : CX own cc nL G p s m args c) (h : CH G (cw G la w) A H0 H locs) (hA : ∀ q, H0.size ≤ q → A q) (hf : f_X7_begin x1 x2 w = some w') (hlk : Cond.methodLink own idx yX7_begin ∈ lw_good) (hd : decode cc pc = .ok (.invokevirtual idx, 3)) (hsz : ls.size = nL) (hR : 2 ≤ R.frames ∧ 43 ≤ R.locals) (hrest : (rest.map fun v => v.category).sum ≤ 8) (hk : cells ≤ R.cells ∧ slots ≤ R.slots) (k : ∀ (H : Heap) (locs : List Loc), CH G (cw G la (w')) A H0 H locs → W p l e R s m args below meth c H locs cells slots Q (F0 m (pc + 3) ls (rest))) : W p l e R s m args below meth c H locs cells slots Q (F0 m pc ls (.int x2 :: .int x1 :: .ref (gq G 3) :: rest)) :=
  fin_v (n := 0) (runV (As := [.int x1, .int x2]) X.1 2 (t_X7_begin l G la w x1 x2 w' hf _) rfl rfl hlk m_X7_begin (by decide +kernel) ⟨hR.1, hR.2⟩ ⟨blindM, va_recv X.2.1 h.1 (ci := 6) (q0 := 3) rfl rfl, preM X.2 h⟩ rfl hsz hrest hd hk) h hA (fun _ H locs h => k H locs h)
def f_X8_fills (κ : Nat) (w : CW) : Option Int32 :=
 some ((1 : Int32))
set_option maxHeartbeats 4000000 in
set_option maxRecDepth 100000 in
theorem t_X8_fills (l : Launch) (G : Gm) (la : Nat) (w : CW) (κ : Nat) (hκ : κ = 0 ∨ κ = 1 ∨ κ = 4) (r : Int32) (hf : f_X8_fills κ w = some r) : MetR l yX8_fills cX8_fills 1 (some .boolean) 0 0 G (cw G la w) [.ref (gq G (20 + κ))] (.int r) := by
  refine ent (own := RX8) (As := [.ref (gq G (20 + κ))]) (by decide +kernel) rfl (Nat.le_of_ble_eq_true rfl) (fun _ _ h => h.1) ?_
  intro p e s m args below meth c ls B hr hlocks hv hl
  obtain ⟨-, hP, hKK, hD⟩ := hv
  have X : CX RX8 cX8_fills 1 G p s m args c := ⟨B, hKK⟩
  obtain ⟨hx, hb, hml, hown, hts⟩ := id B
  have h : CH G (cw G la w) (fun _ => True) s.heap s.heap [] := ⟨hP, hD, va_S.rf⟩
  have hl : lv_has ls 1 [(0, .ref (gq G (20 + κ)))] := hl
  unfold f_X8_fills at hf
  refine lv_iconst (v := 1) hx hb dX8_fills_0 (by decide) ?_
  cases hf
  exact rr_z X.1 hr hlocks (Or.inr rfl) dX8_fills_1
def f_X3_fills (κ : Nat) (w : CW) : Option Int32 :=
 some ((0 : Int32))
set_option maxHeartbeats 4000000 in
set_option maxRecDepth 100000 in
theorem t_X3_fills (l : Launch) (G : Gm) (la : Nat) (w : CW) (κ : Nat) (hκ : κ = 0 ∨ κ = 1 ∨ κ = 2 ∨ κ = 3 ∨ κ = 4) (r : Int32) (hf : f_X3_fills κ w = some r) : MetR l yX3_fills cX3_fills 1 (some .boolean) 0 0 G (cw G la w) [.ref (gq G (20 + κ))] (.int r) := by
  refine ent (own := RX3) (As := [.ref (gq G (20 + κ))]) (by decide +kernel) rfl (Nat.le_of_ble_eq_true rfl) (fun _ _ h => h.1) ?_
  intro p e s m args below meth c ls B hr hlocks hv hl
  obtain ⟨-, hP, hKK, hD⟩ := hv
  have X : CX RX3 cX3_fills 1 G p s m args c := ⟨B, hKK⟩
  obtain ⟨hx, hb, hml, hown, hts⟩ := id B
  have h : CH G (cw G la w) (fun _ => True) s.heap s.heap [] := ⟨hP, hD, va_S.rf⟩
  have hl : lv_has ls 1 [(0, .ref (gq G (20 + κ)))] := hl
  unfold f_X3_fills at hf
  refine lv_iconst (v := 0) hx hb dX3_fills_0 (by decide) ?_
  cases hf
  exact rr_z X.1 hr hlocks (Or.inl rfl) dX3_fills_1
def f_X8_turns (κ : Nat) (w : CW) : Option Int32 :=
 some ((1 : Int32))
set_option maxHeartbeats 4000000 in
set_option maxRecDepth 100000 in
theorem t_X8_turns (l : Launch) (G : Gm) (la : Nat) (w : CW) (κ : Nat) (hκ : κ = 0 ∨ κ = 1 ∨ κ = 4) (r : Int32) (hf : f_X8_turns κ w = some r) : MetR l yX8_turns cX8_turns 1 (some .boolean) 0 0 G (cw G la w) [.ref (gq G (20 + κ))] (.int r) := by
  refine ent (own := RX8) (As := [.ref (gq G (20 + κ))]) (by decide +kernel) rfl (Nat.le_of_ble_eq_true rfl) (fun _ _ h => h.1) ?_
  intro p e s m args below meth c ls B hr hlocks hv hl
  obtain ⟨-, hP, hKK, hD⟩ := hv
  have X : CX RX8 cX8_turns 1 G p s m args c := ⟨B, hKK⟩
  obtain ⟨hx, hb, hml, hown, hts⟩ := id B
  have h : CH G (cw G la w) (fun _ => True) s.heap s.heap [] := ⟨hP, hD, va_S.rf⟩
  have hl : lv_has ls 1 [(0, .ref (gq G (20 + κ)))] := hl
  unfold f_X8_turns at hf
  refine lv_iconst (v := 1) hx hb dX8_turns_0 (by decide) ?_
  cases hf
  exact rr_z X.1 hr hlocks (Or.inr rfl) dX8_turns_1
def f_X2_turns (κ : Nat) (w : CW) : Option Int32 :=
 some ((1 : Int32))
set_option maxHeartbeats 4000000 in
set_option maxRecDepth 100000 in
theorem t_X2_turns (l : Launch) (G : Gm) (la : Nat) (w : CW) (κ : Nat) (hκ : κ = 2 ∨ κ = 3) (r : Int32) (hf : f_X2_turns κ w = some r) : MetR l yX2_turns cX2_turns 1 (some .boolean) 0 0 G (cw G la w) [.ref (gq G (20 + κ))] (.int r) := by
  refine ent (own := RX2) (As := [.ref (gq G (20 + κ))]) (by decide +kernel) rfl (Nat.le_of_ble_eq_true rfl) (fun _ _ h => h.1) ?_
  intro p e s m args below meth c ls B hr hlocks hv hl
  obtain ⟨-, hP, hKK, hD⟩ := hv
  have X : CX RX2 cX2_turns 1 G p s m args c := ⟨B, hKK⟩
  obtain ⟨hx, hb, hml, hown, hts⟩ := id B
  have h : CH G (cw G la w) (fun _ => True) s.heap s.heap [] := ⟨hP, hD, va_S.rf⟩
  have hl : lv_has ls 1 [(0, .ref (gq G (20 + κ)))] := hl
  unfold f_X2_turns at hf
  refine lv_iconst (v := 1) hx hb dX2_turns_0 (by decide) ?_
  cases hf
  exact rr_z X.1 hr hlocks (Or.inr rfl) dX2_turns_1
def f_X4_turns (κ : Nat) (w : CW) : Option Int32 :=
 some ((0 : Int32))
set_option maxHeartbeats 4000000 in
set_option maxRecDepth 100000 in
theorem t_X4_turns (l : Launch) (G : Gm) (la : Nat) (w : CW) (κ : Nat) (hκ : κ = 3) (r : Int32) (hf : f_X4_turns κ w = some r) : MetR l yX4_turns cX4_turns 1 (some .boolean) 0 0 G (cw G la w) [.ref (gq G (20 + κ))] (.int r) := by
  refine ent (own := RX4) (As := [.ref (gq G (20 + κ))]) (by decide +kernel) rfl (Nat.le_of_ble_eq_true rfl) (fun _ _ h => h.1) ?_
  intro p e s m args below meth c ls B hr hlocks hv hl
  obtain ⟨-, hP, hKK, hD⟩ := hv
  have X : CX RX4 cX4_turns 1 G p s m args c := ⟨B, hKK⟩
  obtain ⟨hx, hb, hml, hown, hts⟩ := id B
  have h : CH G (cw G la w) (fun _ => True) s.heap s.heap [] := ⟨hP, hD, va_S.rf⟩
  have hl : lv_has ls 1 [(0, .ref (gq G (20 + κ)))] := hl
  unfold f_X4_turns at hf
  refine lv_iconst (v := 0) hx hb dX4_turns_0 (by decide) ?_
  cases hf
  exact rr_z X.1 hr hlocks (Or.inl rfl) dX4_turns_1
def f_X3_warms (κ : Nat) (w : CW) : Option Int32 :=
 some ((0 : Int32))
set_option maxHeartbeats 4000000 in
set_option maxRecDepth 100000 in
theorem t_X3_warms (l : Launch) (G : Gm) (la : Nat) (w : CW) (κ : Nat) (hκ : κ = 0 ∨ κ = 1 ∨ κ = 2 ∨ κ = 3 ∨ κ = 4) (r : Int32) (hf : f_X3_warms κ w = some r) : MetR l yX3_warms cX3_warms 1 (some .boolean) 0 0 G (cw G la w) [.ref (gq G (20 + κ))] (.int r) := by
  refine ent (own := RX3) (As := [.ref (gq G (20 + κ))]) (by decide +kernel) rfl (Nat.le_of_ble_eq_true rfl) (fun _ _ h => h.1) ?_
  intro p e s m args below meth c ls B hr hlocks hv hl
  obtain ⟨-, hP, hKK, hD⟩ := hv
  have X : CX RX3 cX3_warms 1 G p s m args c := ⟨B, hKK⟩
  obtain ⟨hx, hb, hml, hown, hts⟩ := id B
  have h : CH G (cw G la w) (fun _ => True) s.heap s.heap [] := ⟨hP, hD, va_S.rf⟩
  have hl : lv_has ls 1 [(0, .ref (gq G (20 + κ)))] := hl
  unfold f_X3_warms at hf
  refine lv_iconst (v := 0) hx hb dX3_warms_0 (by decide) ?_
  cases hf
  exact rr_z X.1 hr hlocks (Or.inl rfl) dX3_warms_1
def f_X2_warms (κ : Nat) (w : CW) : Option Int32 :=
 some ((1 : Int32))
set_option maxHeartbeats 4000000 in
set_option maxRecDepth 100000 in
theorem t_X2_warms (l : Launch) (G : Gm) (la : Nat) (w : CW) (κ : Nat) (hκ : κ = 2 ∨ κ = 3) (r : Int32) (hf : f_X2_warms κ w = some r) : MetR l yX2_warms cX2_warms 1 (some .boolean) 0 0 G (cw G la w) [.ref (gq G (20 + κ))] (.int r) := by
  refine ent (own := RX2) (As := [.ref (gq G (20 + κ))]) (by decide +kernel) rfl (Nat.le_of_ble_eq_true rfl) (fun _ _ h => h.1) ?_
  intro p e s m args below meth c ls B hr hlocks hv hl
  obtain ⟨-, hP, hKK, hD⟩ := hv
  have X : CX RX2 cX2_warms 1 G p s m args c := ⟨B, hKK⟩
  obtain ⟨hx, hb, hml, hown, hts⟩ := id B
  have h : CH G (cw G la w) (fun _ => True) s.heap s.heap [] := ⟨hP, hD, va_S.rf⟩
  have hl : lv_has ls 1 [(0, .ref (gq G (20 + κ)))] := hl
  unfold f_X2_warms at hf
  refine lv_iconst (v := 1) hx hb dX2_warms_0 (by decide) ?_
  cases hf
  exact rr_z X.1 hr hlocks (Or.inr rfl) dX2_warms_1
def f_X3_water (κ : Nat) (x1 : Int32) (x2 : Int32) (w : CW) : Option (Int32 × CW) :=
 (f_X7_begin ((5 : Int32)) ((0 : Int32)) w).bind fun y1 =>
 some ((0 : Int32), y1)
set_option maxHeartbeats 4000000 in
set_option maxRecDepth 100000 in
theorem t_X3_water (l : Launch) (G : Gm) (la : Nat) (w0 : CW) (κ : Nat) (x1 : Int32) (x2 : Int32) (hκ : κ = 0 ∨ κ = 1 ∨ κ = 2 ∨ κ = 3 ∨ κ = 4) (r : Int32) (w' : CW) (hf : f_X3_water κ x1 x2 w0 = some (r, w')) : MetI l yX3_water cX3_water 3 (some .int) 2 43 G (cw G la w0) [.ref (gq G (20 + κ)), .int x1, .int x2] r (fun _ => cw G la (w')) 0 := by
  intro sz
  refine ent (own := RX3) (As := [.ref (gq G (20 + κ)), .int x1, .int x2]) (by decide +kernel) rfl (Nat.le_of_ble_eq_true rfl) (fun _ _ h => h.1) ?_
  intro p e s m args below meth c ls B hr hlocks hv hl
  obtain ⟨-, hsz, hP, hKK, hD⟩ := hv
  subst hsz
  have X : CX RX3 cX3_water 3 G p s m args c := ⟨B, hKK⟩
  obtain ⟨hx, hb, hml, hown, hts⟩ := id B
  have hA : ∀ q : Nat, s.heap.size ≤ q → va_A (cw G la w0) s.heap.size q := fun q z => Or.inr z
  have h : CH G (cw G la w0) (va_A (cw G la w0) s.heap.size) s.heap s.heap [] := ⟨hP, hD.self, va_S.rf⟩
  obtain ⟨w, rfl⟩ : ∃ z, z = w0 := ⟨_, rfl⟩
  have hl : lv_has ls 3 [(0, .ref (gq G (20 + κ))), (1, .int x1), (2, .int x2)] := hl
  unfold f_X3_water at hf
  refine lv_aload_n hx hb dX3_water_0 rfl (lv_at hl 0 rfl) ?_
  refine GB_X3 X h (by omega) k_X3_9 dX3_water_1 ?_
  refine lv_iconst (v := 5) hx hb dX3_water_4 (by decide) ?_
  refine lv_iconst (v := 0) hx hb dX3_water_5 (by decide) ?_
  obtain ⟨y1, ey1, hf⟩ := bnd_some hf
  refine k_X7_begin X h hA ey1 k_X3_25 dX3_water_6 hl.1 ⟨(Nat.le_of_ble_eq_true rfl), (Nat.le_of_ble_eq_true rfl)⟩ (Nat.le_of_ble_eq_true rfl) ⟨Nat.zero_le _, Nat.zero_le _⟩ (fun H locs h => ?_)
  refine lv_iconst (v := 0) hx hb dX3_water_9 (by decide) ?_
  exact e0_i (Wf := cw G la) X.1 hr hlocks hf h dX3_water_10
theorem m_X3_water : Cond.sameMethod yX3_water.cls yX3_water.cls yX3_water.name yX3_water.desc ∈ lw_good ∧ Cond.instanceMethod yX3_water ∈ lw_good ∧ Cond.initialized yX3_water.cls ∈ lw_good ∧ Cond.code yX3_water cX3_water 3 (some .int) ∈ lw_good := by decide +kernel
theorem ks_X3_water {p : Program} {l : Launch} {e : Env} {R : Room} {s : State} {m : MethodId} {args : Array Value} {below : List Frame} {meth : Method} {c : Code} {H : Heap} {locs : List Loc} {cells slots : Nat} {Q : State → Prop} {cc : ByteArray} {nL pc idx : Nat} {ls : Array Slot} {rest : List Value} {own : String} {G : Gm} {A : Nat → Prop} {H0 : Heap} {la : Nat} {w : CW} {κ : Nat} {x1 : Int32} {x2 : Int32} {y : Int32 × CW} (X : CX own cc nL G p s m args c) (h : CH G (cw G la w) A H0 H locs) (hA : ∀ q, H0.size ≤ q → A q) (hκ : κ = 0 ∨ κ = 1 ∨ κ = 2 ∨ κ = 3 ∨ κ = 4) (hf : f_X3_water κ x1 x2 w = some y) (hlk : Cond.methodLink own idx yX3_water ∈ lw_good) (hsu : Cond.superclass own yX3_water.cls ∈ lw_good) (hd : decode cc pc = .ok (.invokespecial idx, 3)) (hsz : ls.size = nL) (hR : 3 ≤ R.frames ∧ 65 ≤ R.locals) (hrest : (rest.map fun v => v.category).sum ≤ 8) (hk : cells ≤ R.cells ∧ slots ≤ R.slots) (k : ∀ (H : Heap) (locs : List Loc), CH G (cw G la y.2) A H0 H locs → W p l e R s m args below meth c H locs cells slots Q (F0 m (pc + 3) ls (.int y.1 :: rest))) : W p l e R s m args below meth c H locs cells slots Q (F0 m pc ls (.int x2 :: .int x1 :: .ref (gq G (20 + κ)) :: rest)) := by
  obtain ⟨hrc, cC, hat⟩ := recvK X.2 h (show κ < 5 by omega)
  exact fin_i (n := 0) (runSU (C := KC κ) (As := [.int x1, .int x2]) hat X.1 2 (t_X3_water l G la w κ x1 x2 hκ y.1 y.2 hf _) rfl rfl hlk ⟨m_X3_water.1, hsu, m_X3_water.2.1, m_X3_water.2.2.1, m_X3_water.2.2.2⟩ (by decide +kernel) ⟨hR.1, hR.2⟩ ⟨blindM, hrc, preM X.2 h⟩ rfl hsz hrest hd hk) h hA (fun _ H locs h => k H locs h)
def f_X8_water (κ : Nat) (x1 : Int32) (x2 : Int32) (w : CW) : Option (Int32 × CW) :=
 (f_X7_begin ((0 : Int32)) ((0 : Int32)) w).bind fun y1 =>
 if x1 = 0 then
 (some ((10 : Int32), y1))
 else
 ((f_X3_water κ x1 x2 y1).bind fun y3 =>
 some (y3.1, y3.2))
set_option maxHeartbeats 4000000 in
set_option maxRecDepth 100000 in
theorem t_X8_water (l : Launch) (G : Gm) (la : Nat) (w0 : CW) (κ : Nat) (x1 : Int32) (x2 : Int32) (hκ : κ = 0 ∨ κ = 1 ∨ κ = 4) (r : Int32) (w' : CW) (hf : f_X8_water κ x1 x2 w0 = some (r, w')) : MetI l yX8_water cX8_water 3 (some .int) 3 65 G (cw G la w0) [.ref (gq G (20 + κ)), .int x1, .int x2] r (fun _ => cw G la (w')) 0 := by
  intro sz
  refine ent (own := RX8) (As := [.ref (gq G (20 + κ)), .int x1, .int x2]) (by decide +kernel) rfl (Nat.le_of_ble_eq_true rfl) (fun _ _ h => h.1) ?_
  intro p e s m args below meth c ls B hr hlocks hv hl
  obtain ⟨-, hsz, hP, hKK, hD⟩ := hv
  subst hsz
  have X : CX RX8 cX8_water 3 G p s m args c := ⟨B, hKK⟩
  obtain ⟨hx, hb, hml, hown, hts⟩ := id B
  have hA : ∀ q : Nat, s.heap.size ≤ q → va_A (cw G la w0) s.heap.size q := fun q z => Or.inr z
  have h : CH G (cw G la w0) (va_A (cw G la w0) s.heap.size) s.heap s.heap [] := ⟨hP, hD.self, va_S.rf⟩
  obtain ⟨w, rfl⟩ : ∃ z, z = w0 := ⟨_, rfl⟩
  have hl : lv_has ls 3 [(0, .ref (gq G (20 + κ))), (1, .int x1), (2, .int x2)] := hl
  unfold f_X8_water at hf
  refine lv_aload_n hx hb dX8_water_0 rfl (lv_at hl 0 rfl) ?_
  refine GB_X8 X h (by omega) k_X8_9 dX8_water_1 ?_
  refine lv_iconst (v := 0) hx hb dX8_water_4 (by decide) ?_
  refine lv_iconst (v := 0) hx hb dX8_water_5 (by decide) ?_
  obtain ⟨y1, ey1, hf⟩ := bnd_some hf
  refine k_X7_begin X h hA ey1 k_X8_15 dX8_water_6 hl.1 ⟨(Nat.le_of_ble_eq_true rfl), (Nat.le_of_ble_eq_true rfl)⟩ (Nat.le_of_ble_eq_true rfl) ⟨Nat.zero_le _, Nat.zero_le _⟩ (fun H locs h => ?_)
  refine lv_iload_n hx hb dX8_water_9 rfl (lv_at hl 1 rfl) ?_
  refine lv_if_ne (tgt := 18) hx hb dX8_water_10 (by decide) (fun c2 => ?_) (fun c2 => ?_)
  · have hf := if_f c2 hf
    refine lv_aload_n hx hb dX8_water_18 rfl (lv_at hl 0 rfl) ?_
    refine lv_iload_n hx hb dX8_water_19 rfl (lv_at hl 1 rfl) ?_
    refine lv_iload_n hx hb dX8_water_20 rfl (lv_at hl 2 rfl) ?_
    obtain ⟨y3, ey3, hf⟩ := bnd_some hf
    refine ks_X3_water X h hA (by omega) ey3 k_X8_21 k_X8_su dX8_water_21 hl.1 ⟨(Nat.le_of_ble_eq_true rfl), (Nat.le_of_ble_eq_true rfl)⟩ (Nat.le_of_ble_eq_true rfl) ⟨Nat.zero_le _, Nat.zero_le _⟩ (fun H locs h => ?_)
    exact e0_i (Wf := cw G la) X.1 hr hlocks hf h dX8_water_24
  · have hf := if_t c2 hf
    refine lv_bipush (v := 10) hx hb dX8_water_13 (by decide) ?_
    refine lv_goto (tgt := 24) hx hb dX8_water_15 (by decide) ?_
    exact e0_i (Wf := cw G la) X.1 hr hlocks hf h dX8_water_24
theorem m_X8_water : Cond.sameMethod yX8_water.cls yX8_water.cls yX8_water.name yX8_water.desc ∈ lw_good ∧ Cond.instanceMethod yX8_water ∈ lw_good ∧ Cond.initialized yX8_water.cls ∈ lw_good ∧ Cond.code yX8_water cX8_water 3 (some .int) ∈ lw_good := by decide +kernel
theorem ks_X8_water {p : Program} {l : Launch} {e : Env} {R : Room} {s : State} {m : MethodId} {args : Array Value} {below : List Frame} {meth : Method} {c : Code} {H : Heap} {locs : List Loc} {cells slots : Nat} {Q : State → Prop} {cc : ByteArray} {nL pc idx : Nat} {ls : Array Slot} {rest : List Value} {own : String} {G : Gm} {A : Nat → Prop} {H0 : Heap} {la : Nat} {w : CW} {κ : Nat} {x1 : Int32} {x2 : Int32} {y : Int32 × CW} (X : CX own cc nL G p s m args c) (h : CH G (cw G la w) A H0 H locs) (hA : ∀ q, H0.size ≤ q → A q) (hκ : κ = 0 ∨ κ = 1 ∨ κ = 4) (hf : f_X8_water κ x1 x2 w = some y) (hlk : Cond.methodLink own idx yX8_water ∈ lw_good) (hsu : Cond.superclass own yX8_water.cls ∈ lw_good) (hd : decode cc pc = .ok (.invokespecial idx, 3)) (hsz : ls.size = nL) (hR : 4 ≤ R.frames ∧ 87 ≤ R.locals) (hrest : (rest.map fun v => v.category).sum ≤ 8) (hk : cells ≤ R.cells ∧ slots ≤ R.slots) (k : ∀ (H : Heap) (locs : List Loc), CH G (cw G la y.2) A H0 H locs → W p l e R s m args below meth c H locs cells slots Q (F0 m (pc + 3) ls (.int y.1 :: rest))) : W p l e R s m args below meth c H locs cells slots Q (F0 m pc ls (.int x2 :: .int x1 :: .ref (gq G (20 + κ)) :: rest)) := by
  obtain ⟨hrc, cC, hat⟩ := recvK X.2 h (show κ < 5 by omega)
  exact fin_i (n := 0) (runSU (C := KC κ) (As := [.int x1, .int x2]) hat X.1 2 (t_X8_water l G la w κ x1 x2 hκ y.1 y.2 hf _) rfl rfl hlk ⟨m_X8_water.1, hsu, m_X8_water.2.1, m_X8_water.2.2.1, m_X8_water.2.2.2⟩ (by decide +kernel) ⟨hR.1, hR.2⟩ ⟨blindM, hrc, preM X.2 h⟩ rfl hsz hrest hd hk) h hA (fun _ H locs h => k H locs h)
def f_X0_water (κ : Nat) (x1 : Int32) (x2 : Int32) (w : CW) : Option (Int32 × CW) :=
 (f_X7_begin ((4 : Int32)) ((0 : Int32)) w).bind fun y1 =>
 (f_X8_water κ x1 x2 y1).bind fun y2 =>
 some (y2.1 * x2, y2.2)
set_option maxHeartbeats 4000000 in
set_option maxRecDepth 100000 in
theorem t_X0_water (l : Launch) (G : Gm) (la : Nat) (w0 : CW) (κ : Nat) (x1 : Int32) (x2 : Int32) (hκ : κ = 4) (r : Int32) (w' : CW) (hf : f_X0_water κ x1 x2 w0 = some (r, w')) : MetI l yX0_water cX0_water 3 (some .int) 4 87 G (cw G la w0) [.ref (gq G (20 + κ)), .int x1, .int x2] r (fun _ => cw G la (w')) 0 := by
  intro sz
  refine ent (own := RX0) (As := [.ref (gq G (20 + κ)), .int x1, .int x2]) (by decide +kernel) rfl (Nat.le_of_ble_eq_true rfl) (fun _ _ h => h.1) ?_
  intro p e s m args below meth c ls B hr hlocks hv hl
  obtain ⟨-, hsz, hP, hKK, hD⟩ := hv
  subst hsz
  have X : CX RX0 cX0_water 3 G p s m args c := ⟨B, hKK⟩
  obtain ⟨hx, hb, hml, hown, hts⟩ := id B
  have hA : ∀ q : Nat, s.heap.size ≤ q → va_A (cw G la w0) s.heap.size q := fun q z => Or.inr z
  have h : CH G (cw G la w0) (va_A (cw G la w0) s.heap.size) s.heap s.heap [] := ⟨hP, hD.self, va_S.rf⟩
  obtain ⟨w, rfl⟩ : ∃ z, z = w0 := ⟨_, rfl⟩
  have hl : lv_has ls 3 [(0, .ref (gq G (20 + κ))), (1, .int x1), (2, .int x2)] := hl
  unfold f_X0_water at hf
  refine lv_aload_n hx hb dX0_water_0 rfl (lv_at hl 0 rfl) ?_
  refine GB_X0 X h (by omega) k_X0_9 dX0_water_1 ?_
  refine lv_iconst (v := 4) hx hb dX0_water_4 (by decide) ?_
  refine lv_iconst (v := 0) hx hb dX0_water_5 (by decide) ?_
  obtain ⟨y1, ey1, hf⟩ := bnd_some hf
  refine k_X7_begin X h hA ey1 k_X0_15 dX0_water_6 hl.1 ⟨(Nat.le_of_ble_eq_true rfl), (Nat.le_of_ble_eq_true rfl)⟩ (Nat.le_of_ble_eq_true rfl) ⟨Nat.zero_le _, Nat.zero_le _⟩ (fun H locs h => ?_)
  refine lv_aload_n hx hb dX0_water_9 rfl (lv_at hl 0 rfl) ?_
  refine lv_iload_n hx hb dX0_water_10 rfl (lv_at hl 1 rfl) ?_
  refine lv_iload_n hx hb dX0_water_11 rfl (lv_at hl 2 rfl) ?_
  obtain ⟨y2, ey2, hf⟩ := bnd_some hf
  refine ks_X8_water X h hA (by omega) ey2 k_X0_21 k_X0_su dX0_water_12 hl.1 ⟨(Nat.le_of_ble_eq_true rfl), (Nat.le_of_ble_eq_true rfl)⟩ (Nat.le_of_ble_eq_true rfl) ⟨Nat.zero_le _, Nat.zero_le _⟩ (fun H locs h => ?_)
  refine lv_iload_n hx hb dX0_water_15 rfl (lv_at hl 2 rfl) ?_
  refine lv_imul hx hb dX0_water_16 ?_
  exact e0_i (Wf := cw G la) X.1 hr hlocks hf h dX0_water_17
def f_X3_heat (κ : Nat) (x1 : Int32) (x2 : Int32) (w : CW) : Option (Int32 × CW) :=
 (f_X7_begin ((5 : Int32)) ((1 : Int32)) w).bind fun y1 =>
 some ((0 : Int32), y1)
set_option maxHeartbeats 4000000 in
set_option maxRecDepth 100000 in
theorem t_X3_heat (l : Launch) (G : Gm) (la : Nat) (w0 : CW) (κ : Nat) (x1 : Int32) (x2 : Int32) (hκ : κ = 0 ∨ κ = 1 ∨ κ = 2 ∨ κ = 3 ∨ κ = 4) (r : Int32) (w' : CW) (hf : f_X3_heat κ x1 x2 w0 = some (r, w')) : MetI l yX3_heat cX3_heat 3 (some .int) 2 43 G (cw G la w0) [.ref (gq G (20 + κ)), .int x1, .int x2] r (fun _ => cw G la (w')) 0 := by
  intro sz
  refine ent (own := RX3) (As := [.ref (gq G (20 + κ)), .int x1, .int x2]) (by decide +kernel) rfl (Nat.le_of_ble_eq_true rfl) (fun _ _ h => h.1) ?_
  intro p e s m args below meth c ls B hr hlocks hv hl
  obtain ⟨-, hsz, hP, hKK, hD⟩ := hv
  subst hsz
  have X : CX RX3 cX3_heat 3 G p s m args c := ⟨B, hKK⟩
  obtain ⟨hx, hb, hml, hown, hts⟩ := id B
  have hA : ∀ q : Nat, s.heap.size ≤ q → va_A (cw G la w0) s.heap.size q := fun q z => Or.inr z
  have h : CH G (cw G la w0) (va_A (cw G la w0) s.heap.size) s.heap s.heap [] := ⟨hP, hD.self, va_S.rf⟩
  obtain ⟨w, rfl⟩ : ∃ z, z = w0 := ⟨_, rfl⟩
  have hl : lv_has ls 3 [(0, .ref (gq G (20 + κ))), (1, .int x1), (2, .int x2)] := hl
  unfold f_X3_heat at hf
  refine lv_aload_n hx hb dX3_heat_0 rfl (lv_at hl 0 rfl) ?_
  refine GB_X3 X h (by omega) k_X3_9 dX3_heat_1 ?_
  refine lv_iconst (v := 5) hx hb dX3_heat_4 (by decide) ?_
  refine lv_iconst (v := 1) hx hb dX3_heat_5 (by decide) ?_
  obtain ⟨y1, ey1, hf⟩ := bnd_some hf
  refine k_X7_begin X h hA ey1 k_X3_25 dX3_heat_6 hl.1 ⟨(Nat.le_of_ble_eq_true rfl), (Nat.le_of_ble_eq_true rfl)⟩ (Nat.le_of_ble_eq_true rfl) ⟨Nat.zero_le _, Nat.zero_le _⟩ (fun H locs h => ?_)
  refine lv_iconst (v := 0) hx hb dX3_heat_9 (by decide) ?_
  exact e0_i (Wf := cw G la) X.1 hr hlocks hf h dX3_heat_10
theorem m_X3_heat : Cond.sameMethod yX3_heat.cls yX3_heat.cls yX3_heat.name yX3_heat.desc ∈ lw_good ∧ Cond.instanceMethod yX3_heat ∈ lw_good ∧ Cond.initialized yX3_heat.cls ∈ lw_good ∧ Cond.code yX3_heat cX3_heat 3 (some .int) ∈ lw_good := by decide +kernel
theorem ks_X3_heat {p : Program} {l : Launch} {e : Env} {R : Room} {s : State} {m : MethodId} {args : Array Value} {below : List Frame} {meth : Method} {c : Code} {H : Heap} {locs : List Loc} {cells slots : Nat} {Q : State → Prop} {cc : ByteArray} {nL pc idx : Nat} {ls : Array Slot} {rest : List Value} {own : String} {G : Gm} {A : Nat → Prop} {H0 : Heap} {la : Nat} {w : CW} {κ : Nat} {x1 : Int32} {x2 : Int32} {y : Int32 × CW} (X : CX own cc nL G p s m args c) (h : CH G (cw G la w) A H0 H locs) (hA : ∀ q, H0.size ≤ q → A q) (hκ : κ = 0 ∨ κ = 1 ∨ κ = 2 ∨ κ = 3 ∨ κ = 4) (hf : f_X3_heat κ x1 x2 w = some y) (hlk : Cond.methodLink own idx yX3_heat ∈ lw_good) (hsu : Cond.superclass own yX3_heat.cls ∈ lw_good) (hd : decode cc pc = .ok (.invokespecial idx, 3)) (hsz : ls.size = nL) (hR : 3 ≤ R.frames ∧ 65 ≤ R.locals) (hrest : (rest.map fun v => v.category).sum ≤ 8) (hk : cells ≤ R.cells ∧ slots ≤ R.slots) (k : ∀ (H : Heap) (locs : List Loc), CH G (cw G la y.2) A H0 H locs → W p l e R s m args below meth c H locs cells slots Q (F0 m (pc + 3) ls (.int y.1 :: rest))) : W p l e R s m args below meth c H locs cells slots Q (F0 m pc ls (.int x2 :: .int x1 :: .ref (gq G (20 + κ)) :: rest)) := by
  obtain ⟨hrc, cC, hat⟩ := recvK X.2 h (show κ < 5 by omega)
  exact fin_i (n := 0) (runSU (C := KC κ) (As := [.int x1, .int x2]) hat X.1 2 (t_X3_heat l G la w κ x1 x2 hκ y.1 y.2 hf _) rfl rfl hlk ⟨m_X3_heat.1, hsu, m_X3_heat.2.1, m_X3_heat.2.2.1, m_X3_heat.2.2.2⟩ (by decide +kernel) ⟨hR.1, hR.2⟩ ⟨blindM, hrc, preM X.2 h⟩ rfl hsz hrest hd hk) h hA (fun _ H locs h => k H locs h)
def f_X8_heat (κ : Nat) (x1 : Int32) (x2 : Int32) (w : CW) : Option (Int32 × CW) :=
 (f_X7_begin ((0 : Int32)) ((1 : Int32)) w).bind fun y1 =>
 if x1 = ((1 : Int32)) then
 (some ((4 : Int32), y1))
 else
 ((f_X3_heat κ x1 x2 y1).bind fun y3 =>
 some (y3.1, y3.2))
set_option maxHeartbeats 4000000 in
set_option maxRecDepth 100000 in
theorem t_X8_heat (l : Launch) (G : Gm) (la : Nat) (w0 : CW) (κ : Nat) (x1 : Int32) (x2 : Int32) (hκ : κ = 0 ∨ κ = 1 ∨ κ = 4) (r : Int32) (w' : CW) (hf : f_X8_heat κ x1 x2 w0 = some (r, w')) : MetI l yX8_heat cX8_heat 3 (some .int) 3 65 G (cw G la w0) [.ref (gq G (20 + κ)), .int x1, .int x2] r (fun _ => cw G la (w')) 0 := by
  intro sz
  refine ent (own := RX8) (As := [.ref (gq G (20 + κ)), .int x1, .int x2]) (by decide +kernel) rfl (Nat.le_of_ble_eq_true rfl) (fun _ _ h => h.1) ?_
  intro p e s m args below meth c ls B hr hlocks hv hl
  obtain ⟨-, hsz, hP, hKK, hD⟩ := hv
  subst hsz
  have X : CX RX8 cX8_heat 3 G p s m args c := ⟨B, hKK⟩
  obtain ⟨hx, hb, hml, hown, hts⟩ := id B
  have hA : ∀ q : Nat, s.heap.size ≤ q → va_A (cw G la w0) s.heap.size q := fun q z => Or.inr z
  have h : CH G (cw G la w0) (va_A (cw G la w0) s.heap.size) s.heap s.heap [] := ⟨hP, hD.self, va_S.rf⟩
  obtain ⟨w, rfl⟩ : ∃ z, z = w0 := ⟨_, rfl⟩
  have hl : lv_has ls 3 [(0, .ref (gq G (20 + κ))), (1, .int x1), (2, .int x2)] := hl
  unfold f_X8_heat at hf
  refine lv_aload_n hx hb dX8_heat_0 rfl (lv_at hl 0 rfl) ?_
  refine GB_X8 X h (by omega) k_X8_9 dX8_heat_1 ?_
  refine lv_iconst (v := 0) hx hb dX8_heat_4 (by decide) ?_
  refine lv_iconst (v := 1) hx hb dX8_heat_5 (by decide) ?_
  obtain ⟨y1, ey1, hf⟩ := bnd_some hf
  refine k_X7_begin X h hA ey1 k_X8_15 dX8_heat_6 hl.1 ⟨(Nat.le_of_ble_eq_true rfl), (Nat.le_of_ble_eq_true rfl)⟩ (Nat.le_of_ble_eq_true rfl) ⟨Nat.zero_le _, Nat.zero_le _⟩ (fun H locs h => ?_)
  refine lv_iload_n hx hb dX8_heat_9 rfl (lv_at hl 1 rfl) ?_
  refine lv_iconst (v := 1) hx hb dX8_heat_10 (by decide) ?_
  refine lv_icmp_ne (tgt := 18) hx hb dX8_heat_11 (by decide) (fun c2 => ?_) (fun c2 => ?_)
  · have hf := if_f c2 hf
    refine lv_aload_n hx hb dX8_heat_18 rfl (lv_at hl 0 rfl) ?_
    refine lv_iload_n hx hb dX8_heat_19 rfl (lv_at hl 1 rfl) ?_
    refine lv_iload_n hx hb dX8_heat_20 rfl (lv_at hl 2 rfl) ?_
    obtain ⟨y3, ey3, hf⟩ := bnd_some hf
    refine ks_X3_heat X h hA (by omega) ey3 k_X8_25 k_X8_su dX8_heat_21 hl.1 ⟨(Nat.le_of_ble_eq_true rfl), (Nat.le_of_ble_eq_true rfl)⟩ (Nat.le_of_ble_eq_true rfl) ⟨Nat.zero_le _, Nat.zero_le _⟩ (fun H locs h => ?_)
    exact e0_i (Wf := cw G la) X.1 hr hlocks hf h dX8_heat_24
  · have hf := if_t c2 hf
    refine lv_iconst (v := 4) hx hb dX8_heat_14 (by decide) ?_
    refine lv_goto (tgt := 24) hx hb dX8_heat_15 (by decide) ?_
    exact e0_i (Wf := cw G la) X.1 hr hlocks hf h dX8_heat_24
theorem m_X8_heat : Cond.sameMethod yX8_heat.cls yX8_heat.cls yX8_heat.name yX8_heat.desc ∈ lw_good ∧ Cond.instanceMethod yX8_heat ∈ lw_good ∧ Cond.initialized yX8_heat.cls ∈ lw_good ∧ Cond.code yX8_heat cX8_heat 3 (some .int) ∈ lw_good := by decide +kernel
theorem ks_X8_heat {p : Program} {l : Launch} {e : Env} {R : Room} {s : State} {m : MethodId} {args : Array Value} {below : List Frame} {meth : Method} {c : Code} {H : Heap} {locs : List Loc} {cells slots : Nat} {Q : State → Prop} {cc : ByteArray} {nL pc idx : Nat} {ls : Array Slot} {rest : List Value} {own : String} {G : Gm} {A : Nat → Prop} {H0 : Heap} {la : Nat} {w : CW} {κ : Nat} {x1 : Int32} {x2 : Int32} {y : Int32 × CW} (X : CX own cc nL G p s m args c) (h : CH G (cw G la w) A H0 H locs) (hA : ∀ q, H0.size ≤ q → A q) (hκ : κ = 0 ∨ κ = 1 ∨ κ = 4) (hf : f_X8_heat κ x1 x2 w = some y) (hlk : Cond.methodLink own idx yX8_heat ∈ lw_good) (hsu : Cond.superclass own yX8_heat.cls ∈ lw_good) (hd : decode cc pc = .ok (.invokespecial idx, 3)) (hsz : ls.size = nL) (hR : 4 ≤ R.frames ∧ 87 ≤ R.locals) (hrest : (rest.map fun v => v.category).sum ≤ 8) (hk : cells ≤ R.cells ∧ slots ≤ R.slots) (k : ∀ (H : Heap) (locs : List Loc), CH G (cw G la y.2) A H0 H locs → W p l e R s m args below meth c H locs cells slots Q (F0 m (pc + 3) ls (.int y.1 :: rest))) : W p l e R s m args below meth c H locs cells slots Q (F0 m pc ls (.int x2 :: .int x1 :: .ref (gq G (20 + κ)) :: rest)) := by
  obtain ⟨hrc, cC, hat⟩ := recvK X.2 h (show κ < 5 by omega)
  exact fin_i (n := 0) (runSU (C := KC κ) (As := [.int x1, .int x2]) hat X.1 2 (t_X8_heat l G la w κ x1 x2 hκ y.1 y.2 hf _) rfl rfl hlk ⟨m_X8_heat.1, hsu, m_X8_heat.2.1, m_X8_heat.2.2.1, m_X8_heat.2.2.2⟩ (by decide +kernel) ⟨hR.1, hR.2⟩ ⟨blindM, hrc, preM X.2 h⟩ rfl hsz hrest hd hk) h hA (fun _ H locs h => k H locs h)
def f_X5_heat (κ : Nat) (x1 : Int32) (x2 : Int32) (w : CW) : Option (Int32 × CW) :=
 (f_X7_begin ((1 : Int32)) ((1 : Int32)) w).bind fun y1 =>
 (f_X8_heat κ x1 x2 y1).bind fun y2 =>
 some (y2.1 / ((2 : Int32)), y2.2)
set_option maxHeartbeats 4000000 in
set_option maxRecDepth 100000 in
theorem t_X5_heat (l : Launch) (G : Gm) (la : Nat) (w0 : CW) (κ : Nat) (x1 : Int32) (x2 : Int32) (hκ : κ = 1) (r : Int32) (w' : CW) (hf : f_X5_heat κ x1 x2 w0 = some (r, w')) : MetI l yX5_heat cX5_heat 3 (some .int) 4 87 G (cw G la w0) [.ref (gq G (20 + κ)), .int x1, .int x2] r (fun _ => cw G la (w')) 0 := by
  intro sz
  refine ent (own := RX5) (As := [.ref (gq G (20 + κ)), .int x1, .int x2]) (by decide +kernel) rfl (Nat.le_of_ble_eq_true rfl) (fun _ _ h => h.1) ?_
  intro p e s m args below meth c ls B hr hlocks hv hl
  obtain ⟨-, hsz, hP, hKK, hD⟩ := hv
  subst hsz
  have X : CX RX5 cX5_heat 3 G p s m args c := ⟨B, hKK⟩
  obtain ⟨hx, hb, hml, hown, hts⟩ := id B
  have hA : ∀ q : Nat, s.heap.size ≤ q → va_A (cw G la w0) s.heap.size q := fun q z => Or.inr z
  have h : CH G (cw G la w0) (va_A (cw G la w0) s.heap.size) s.heap s.heap [] := ⟨hP, hD.self, va_S.rf⟩
  obtain ⟨w, rfl⟩ : ∃ z, z = w0 := ⟨_, rfl⟩
  have hl : lv_has ls 3 [(0, .ref (gq G (20 + κ))), (1, .int x1), (2, .int x2)] := hl
  unfold f_X5_heat at hf
  refine lv_aload_n hx hb dX5_heat_0 rfl (lv_at hl 0 rfl) ?_
  refine GB_X5 X h (by omega) k_X5_9 dX5_heat_1 ?_
  refine lv_iconst (v := 1) hx hb dX5_heat_4 (by decide) ?_
  refine lv_iconst (v := 1) hx hb dX5_heat_5 (by decide) ?_
  obtain ⟨y1, ey1, hf⟩ := bnd_some hf
  refine k_X7_begin X h hA ey1 k_X5_15 dX5_heat_6 hl.1 ⟨(Nat.le_of_ble_eq_true rfl), (Nat.le_of_ble_eq_true rfl)⟩ (Nat.le_of_ble_eq_true rfl) ⟨Nat.zero_le _, Nat.zero_le _⟩ (fun H locs h => ?_)
  refine lv_aload_n hx hb dX5_heat_9 rfl (lv_at hl 0 rfl) ?_
  refine lv_iload_n hx hb dX5_heat_10 rfl (lv_at hl 1 rfl) ?_
  refine lv_iload_n hx hb dX5_heat_11 rfl (lv_at hl 2 rfl) ?_
  obtain ⟨y2, ey2, hf⟩ := bnd_some hf
  refine ks_X8_heat X h hA (by omega) ey2 k_X5_21 k_X5_su dX5_heat_12 hl.1 ⟨(Nat.le_of_ble_eq_true rfl), (Nat.le_of_ble_eq_true rfl)⟩ (Nat.le_of_ble_eq_true rfl) ⟨Nat.zero_le _, Nat.zero_le _⟩ (fun H locs h => ?_)
  refine lv_iconst (v := 2) hx hb dX5_heat_15 (by decide) ?_
  refine lv_idiv hx hb dX5_heat_16 (by decide) ?_
  exact e0_i (Wf := cw G la) X.1 hr hlocks hf h dX5_heat_17
def f_X2_heat (κ : Nat) (x1 : Int32) (x2 : Int32) (w : CW) : Option (Int32 × CW) :=
 (f_X7_begin ((2 : Int32)) ((1 : Int32)) w).bind fun y1 =>
 if x1 = ((2 : Int32)) then
 (some ((9 : Int32), y1))
 else
 (if x1 = ((1 : Int32)) then
 (some ((5 : Int32), y1))
 else
 ((f_X3_heat κ x1 x2 y1).bind fun y4 =>
 some (y4.1, y4.2)))
set_option maxHeartbeats 4000000 in
set_option maxRecDepth 100000 in
theorem t_X2_heat (l : Launch) (G : Gm) (la : Nat) (w0 : CW) (κ : Nat) (x1 : Int32) (x2 : Int32) (hκ : κ = 2 ∨ κ = 3) (r : Int32) (w' : CW) (hf : f_X2_heat κ x1 x2 w0 = some (r, w')) : MetI l yX2_heat cX2_heat 3 (some .int) 3 65 G (cw G la w0) [.ref (gq G (20 + κ)), .int x1, .int x2] r (fun _ => cw G la (w')) 0 := by
  intro sz
  refine ent (own := RX2) (As := [.ref (gq G (20 + κ)), .int x1, .int x2]) (by decide +kernel) rfl (Nat.le_of_ble_eq_true rfl) (fun _ _ h => h.1) ?_
  intro p e s m args below meth c ls B hr hlocks hv hl
  obtain ⟨-, hsz, hP, hKK, hD⟩ := hv
  subst hsz
  have X : CX RX2 cX2_heat 3 G p s m args c := ⟨B, hKK⟩
  obtain ⟨hx, hb, hml, hown, hts⟩ := id B
  have hA : ∀ q : Nat, s.heap.size ≤ q → va_A (cw G la w0) s.heap.size q := fun q z => Or.inr z
  have h : CH G (cw G la w0) (va_A (cw G la w0) s.heap.size) s.heap s.heap [] := ⟨hP, hD.self, va_S.rf⟩
  obtain ⟨w, rfl⟩ : ∃ z, z = w0 := ⟨_, rfl⟩
  have hl : lv_has ls 3 [(0, .ref (gq G (20 + κ))), (1, .int x1), (2, .int x2)] := hl
  unfold f_X2_heat at hf
  refine lv_aload_n hx hb dX2_heat_0 rfl (lv_at hl 0 rfl) ?_
  refine GB_X2 X h (by omega) k_X2_9 dX2_heat_1 ?_
  refine lv_iconst (v := 2) hx hb dX2_heat_4 (by decide) ?_
  refine lv_iconst (v := 1) hx hb dX2_heat_5 (by decide) ?_
  obtain ⟨y1, ey1, hf⟩ := bnd_some hf
  refine k_X7_begin X h hA ey1 k_X2_15 dX2_heat_6 hl.1 ⟨(Nat.le_of_ble_eq_true rfl), (Nat.le_of_ble_eq_true rfl)⟩ (Nat.le_of_ble_eq_true rfl) ⟨Nat.zero_le _, Nat.zero_le _⟩ (fun H locs h => ?_)
  refine lv_iload_n hx hb dX2_heat_9 rfl (lv_at hl 1 rfl) ?_
  refine lv_iconst (v := 2) hx hb dX2_heat_10 (by decide) ?_
  refine lv_icmp_ne (tgt := 17) hx hb dX2_heat_11 (by decide) (fun c2 => ?_) (fun c2 => ?_)
  · have hf := if_f c2 hf
    refine lv_iload_n hx hb dX2_heat_17 rfl (lv_at hl 1 rfl) ?_
    refine lv_iconst (v := 1) hx hb dX2_heat_18 (by decide) ?_
    refine lv_icmp_ne (tgt := 26) hx hb dX2_heat_19 (by decide) (fun c3 => ?_) (fun c3 => ?_)
    · have hf := if_f c3 hf
      refine lv_aload_n hx hb dX2_heat_26 rfl (lv_at hl 0 rfl) ?_
      refine lv_iload_n hx hb dX2_heat_27 rfl (lv_at hl 1 rfl) ?_
      refine lv_iload_n hx hb dX2_heat_28 rfl (lv_at hl 2 rfl) ?_
      obtain ⟨y4, ey4, hf⟩ := bnd_some hf
      refine ks_X3_heat X h hA (by omega) ey4 k_X2_21 k_X2_su dX2_heat_29 hl.1 ⟨(Nat.le_of_ble_eq_true rfl), (Nat.le_of_ble_eq_true rfl)⟩ (Nat.le_of_ble_eq_true rfl) ⟨Nat.zero_le _, Nat.zero_le _⟩ (fun H locs h => ?_)
      exact e0_i (Wf := cw G la) X.1 hr hlocks hf h dX2_heat_32
    · have hf := if_t c3 hf
      refine lv_iconst (v := 5) hx hb dX2_heat_22 (by decide) ?_
      refine lv_goto (tgt := 32) hx hb dX2_heat_23 (by decide) ?_
      exact e0_i (Wf := cw G la) X.1 hr hlocks hf h dX2_heat_32
  · have hf := if_t c2 hf
    refine lv_bipush (v := 9) hx hb dX2_heat_14 (by decide) ?_
    exact e0_i (Wf := cw G la) X.1 hr hlocks hf h dX2_heat_16
theorem m_X2_heat : Cond.sameMethod yX2_heat.cls yX2_heat.cls yX2_heat.name yX2_heat.desc ∈ lw_good ∧ Cond.instanceMethod yX2_heat ∈ lw_good ∧ Cond.initialized yX2_heat.cls ∈ lw_good ∧ Cond.code yX2_heat cX2_heat 3 (some .int) ∈ lw_good := by decide +kernel
theorem ks_X2_heat {p : Program} {l : Launch} {e : Env} {R : Room} {s : State} {m : MethodId} {args : Array Value} {below : List Frame} {meth : Method} {c : Code} {H : Heap} {locs : List Loc} {cells slots : Nat} {Q : State → Prop} {cc : ByteArray} {nL pc idx : Nat} {ls : Array Slot} {rest : List Value} {own : String} {G : Gm} {A : Nat → Prop} {H0 : Heap} {la : Nat} {w : CW} {κ : Nat} {x1 : Int32} {x2 : Int32} {y : Int32 × CW} (X : CX own cc nL G p s m args c) (h : CH G (cw G la w) A H0 H locs) (hA : ∀ q, H0.size ≤ q → A q) (hκ : κ = 2 ∨ κ = 3) (hf : f_X2_heat κ x1 x2 w = some y) (hlk : Cond.methodLink own idx yX2_heat ∈ lw_good) (hsu : Cond.superclass own yX2_heat.cls ∈ lw_good) (hd : decode cc pc = .ok (.invokespecial idx, 3)) (hsz : ls.size = nL) (hR : 4 ≤ R.frames ∧ 87 ≤ R.locals) (hrest : (rest.map fun v => v.category).sum ≤ 8) (hk : cells ≤ R.cells ∧ slots ≤ R.slots) (k : ∀ (H : Heap) (locs : List Loc), CH G (cw G la y.2) A H0 H locs → W p l e R s m args below meth c H locs cells slots Q (F0 m (pc + 3) ls (.int y.1 :: rest))) : W p l e R s m args below meth c H locs cells slots Q (F0 m pc ls (.int x2 :: .int x1 :: .ref (gq G (20 + κ)) :: rest)) := by
  obtain ⟨hrc, cC, hat⟩ := recvK X.2 h (show κ < 5 by omega)
  exact fin_i (n := 0) (runSU (C := KC κ) (As := [.int x1, .int x2]) hat X.1 2 (t_X2_heat l G la w κ x1 x2 hκ y.1 y.2 hf _) rfl rfl hlk ⟨m_X2_heat.1, hsu, m_X2_heat.2.1, m_X2_heat.2.2.1, m_X2_heat.2.2.2⟩ (by decide +kernel) ⟨hR.1, hR.2⟩ ⟨blindM, hrc, preM X.2 h⟩ rfl hsz hrest hd hk) h hA (fun _ H locs h => k H locs h)
def f_X4_heat (κ : Nat) (x1 : Int32) (x2 : Int32) (w : CW) : Option (Int32 × CW) :=
 (f_X7_begin ((3 : Int32)) ((1 : Int32)) w).bind fun y1 =>
 if x1 = ((2 : Int32)) then
 (some ((7 : Int32), y1))
 else
 ((f_X2_heat κ x1 x2 y1).bind fun y3 =>
 some (y3.1, y3.2))
set_option maxHeartbeats 4000000 in
set_option maxRecDepth 100000 in
theorem t_X4_heat (l : Launch) (G : Gm) (la : Nat) (w0 : CW) (κ : Nat) (x1 : Int32) (x2 : Int32) (hκ : κ = 3) (r : Int32) (w' : CW) (hf : f_X4_heat κ x1 x2 w0 = some (r, w')) : MetI l yX4_heat cX4_heat 3 (some .int) 4 87 G (cw G la w0) [.ref (gq G (20 + κ)), .int x1, .int x2] r (fun _ => cw G la (w')) 0 := by
  intro sz
  refine ent (own := RX4) (As := [.ref (gq G (20 + κ)), .int x1, .int x2]) (by decide +kernel) rfl (Nat.le_of_ble_eq_true rfl) (fun _ _ h => h.1) ?_
  intro p e s m args below meth c ls B hr hlocks hv hl
  obtain ⟨-, hsz, hP, hKK, hD⟩ := hv
  subst hsz
  have X : CX RX4 cX4_heat 3 G p s m args c := ⟨B, hKK⟩
  obtain ⟨hx, hb, hml, hown, hts⟩ := id B
  have hA : ∀ q : Nat, s.heap.size ≤ q → va_A (cw G la w0) s.heap.size q := fun q z => Or.inr z
  have h : CH G (cw G la w0) (va_A (cw G la w0) s.heap.size) s.heap s.heap [] := ⟨hP, hD.self, va_S.rf⟩
  obtain ⟨w, rfl⟩ : ∃ z, z = w0 := ⟨_, rfl⟩
  have hl : lv_has ls 3 [(0, .ref (gq G (20 + κ))), (1, .int x1), (2, .int x2)] := hl
  unfold f_X4_heat at hf
  refine lv_aload_n hx hb dX4_heat_0 rfl (lv_at hl 0 rfl) ?_
  refine GB_X4 X h (by omega) k_X4_9 dX4_heat_1 ?_
  refine lv_iconst (v := 3) hx hb dX4_heat_4 (by decide) ?_
  refine lv_iconst (v := 1) hx hb dX4_heat_5 (by decide) ?_
  obtain ⟨y1, ey1, hf⟩ := bnd_some hf
  refine k_X7_begin X h hA ey1 k_X4_15 dX4_heat_6 hl.1 ⟨(Nat.le_of_ble_eq_true rfl), (Nat.le_of_ble_eq_true rfl)⟩ (Nat.le_of_ble_eq_true rfl) ⟨Nat.zero_le _, Nat.zero_le _⟩ (fun H locs h => ?_)
  refine lv_iload_n hx hb dX4_heat_9 rfl (lv_at hl 1 rfl) ?_
  refine lv_iconst (v := 2) hx hb dX4_heat_10 (by decide) ?_
  refine lv_icmp_ne (tgt := 19) hx hb dX4_heat_11 (by decide) (fun c2 => ?_) (fun c2 => ?_)
  · have hf := if_f c2 hf
    refine lv_aload_n hx hb dX4_heat_19 rfl (lv_at hl 0 rfl) ?_
    refine lv_iload_n hx hb dX4_heat_20 rfl (lv_at hl 1 rfl) ?_
    refine lv_iload_n hx hb dX4_heat_21 rfl (lv_at hl 2 rfl) ?_
    obtain ⟨y3, ey3, hf⟩ := bnd_some hf
    refine ks_X2_heat X h hA (by omega) ey3 k_X4_21 k_X4_su dX4_heat_22 hl.1 ⟨(Nat.le_of_ble_eq_true rfl), (Nat.le_of_ble_eq_true rfl)⟩ (Nat.le_of_ble_eq_true rfl) ⟨Nat.zero_le _, Nat.zero_le _⟩ (fun H locs h => ?_)
    exact e0_i (Wf := cw G la) X.1 hr hlocks hf h dX4_heat_25
  · have hf := if_t c2 hf
    refine lv_bipush (v := 7) hx hb dX4_heat_14 (by decide) ?_
    refine lv_goto (tgt := 25) hx hb dX4_heat_16 (by decide) ?_
    exact e0_i (Wf := cw G la) X.1 hr hlocks hf h dX4_heat_25
def f_X0_heat (κ : Nat) (x1 : Int32) (x2 : Int32) (w : CW) : Option (Int32 × CW) :=
 (f_X7_begin ((4 : Int32)) ((1 : Int32)) w).bind fun y1 =>
 (f_X8_heat κ x1 x2 y1).bind fun y2 =>
 some (y2.1 * x2, y2.2)
set_option maxHeartbeats 4000000 in
set_option maxRecDepth 100000 in
theorem t_X0_heat (l : Launch) (G : Gm) (la : Nat) (w0 : CW) (κ : Nat) (x1 : Int32) (x2 : Int32) (hκ : κ = 4) (r : Int32) (w' : CW) (hf : f_X0_heat κ x1 x2 w0 = some (r, w')) : MetI l yX0_heat cX0_heat 3 (some .int) 4 87 G (cw G la w0) [.ref (gq G (20 + κ)), .int x1, .int x2] r (fun _ => cw G la (w')) 0 := by
  intro sz
  refine ent (own := RX0) (As := [.ref (gq G (20 + κ)), .int x1, .int x2]) (by decide +kernel) rfl (Nat.le_of_ble_eq_true rfl) (fun _ _ h => h.1) ?_
  intro p e s m args below meth c ls B hr hlocks hv hl
  obtain ⟨-, hsz, hP, hKK, hD⟩ := hv
  subst hsz
  have X : CX RX0 cX0_heat 3 G p s m args c := ⟨B, hKK⟩
  obtain ⟨hx, hb, hml, hown, hts⟩ := id B
  have hA : ∀ q : Nat, s.heap.size ≤ q → va_A (cw G la w0) s.heap.size q := fun q z => Or.inr z
  have h : CH G (cw G la w0) (va_A (cw G la w0) s.heap.size) s.heap s.heap [] := ⟨hP, hD.self, va_S.rf⟩
  obtain ⟨w, rfl⟩ : ∃ z, z = w0 := ⟨_, rfl⟩
  have hl : lv_has ls 3 [(0, .ref (gq G (20 + κ))), (1, .int x1), (2, .int x2)] := hl
  unfold f_X0_heat at hf
  refine lv_aload_n hx hb dX0_heat_0 rfl (lv_at hl 0 rfl) ?_
  refine GB_X0 X h (by omega) k_X0_9 dX0_heat_1 ?_
  refine lv_iconst (v := 4) hx hb dX0_heat_4 (by decide) ?_
  refine lv_iconst (v := 1) hx hb dX0_heat_5 (by decide) ?_
  obtain ⟨y1, ey1, hf⟩ := bnd_some hf
  refine k_X7_begin X h hA ey1 k_X0_15 dX0_heat_6 hl.1 ⟨(Nat.le_of_ble_eq_true rfl), (Nat.le_of_ble_eq_true rfl)⟩ (Nat.le_of_ble_eq_true rfl) ⟨Nat.zero_le _, Nat.zero_le _⟩ (fun H locs h => ?_)
  refine lv_aload_n hx hb dX0_heat_9 rfl (lv_at hl 0 rfl) ?_
  refine lv_iload_n hx hb dX0_heat_10 rfl (lv_at hl 1 rfl) ?_
  refine lv_iload_n hx hb dX0_heat_11 rfl (lv_at hl 2 rfl) ?_
  obtain ⟨y2, ey2, hf⟩ := bnd_some hf
  refine ks_X8_heat X h hA (by omega) ey2 k_X0_25 k_X0_su dX0_heat_12 hl.1 ⟨(Nat.le_of_ble_eq_true rfl), (Nat.le_of_ble_eq_true rfl)⟩ (Nat.le_of_ble_eq_true rfl) ⟨Nat.zero_le _, Nat.zero_le _⟩ (fun H locs h => ?_)
  refine lv_iload_n hx hb dX0_heat_15 rfl (lv_at hl 2 rfl) ?_
  refine lv_imul hx hb dX0_heat_16 ?_
  exact e0_i (Wf := cw G la) X.1 hr hlocks hf h dX0_heat_17
def f_X3_power (κ : Nat) (x1 : Int32) (x2 : Int32) (w : CW) : Option (Int32 × CW) :=
 (f_X7_begin ((5 : Int32)) ((2 : Int32)) w).bind fun y1 =>
 some ((1 : Int32), y1)
set_option maxHeartbeats 4000000 in
set_option maxRecDepth 100000 in
theorem t_X3_power (l : Launch) (G : Gm) (la : Nat) (w0 : CW) (κ : Nat) (x1 : Int32) (x2 : Int32) (hκ : κ = 0 ∨ κ = 1 ∨ κ = 2 ∨ κ = 3 ∨ κ = 4) (r : Int32) (w' : CW) (hf : f_X3_power κ x1 x2 w0 = some (r, w')) : MetI l yX3_power cX3_power 3 (some .int) 2 43 G (cw G la w0) [.ref (gq G (20 + κ)), .int x1, .int x2] r (fun _ => cw G la (w')) 0 := by
  intro sz
  refine ent (own := RX3) (As := [.ref (gq G (20 + κ)), .int x1, .int x2]) (by decide +kernel) rfl (Nat.le_of_ble_eq_true rfl) (fun _ _ h => h.1) ?_
  intro p e s m args below meth c ls B hr hlocks hv hl
  obtain ⟨-, hsz, hP, hKK, hD⟩ := hv
  subst hsz
  have X : CX RX3 cX3_power 3 G p s m args c := ⟨B, hKK⟩
  obtain ⟨hx, hb, hml, hown, hts⟩ := id B
  have hA : ∀ q : Nat, s.heap.size ≤ q → va_A (cw G la w0) s.heap.size q := fun q z => Or.inr z
  have h : CH G (cw G la w0) (va_A (cw G la w0) s.heap.size) s.heap s.heap [] := ⟨hP, hD.self, va_S.rf⟩
  obtain ⟨w, rfl⟩ : ∃ z, z = w0 := ⟨_, rfl⟩
  have hl : lv_has ls 3 [(0, .ref (gq G (20 + κ))), (1, .int x1), (2, .int x2)] := hl
  unfold f_X3_power at hf
  refine lv_aload_n hx hb dX3_power_0 rfl (lv_at hl 0 rfl) ?_
  refine GB_X3 X h (by omega) k_X3_9 dX3_power_1 ?_
  refine lv_iconst (v := 5) hx hb dX3_power_4 (by decide) ?_
  refine lv_iconst (v := 2) hx hb dX3_power_5 (by decide) ?_
  obtain ⟨y1, ey1, hf⟩ := bnd_some hf
  refine k_X7_begin X h hA ey1 k_X3_25 dX3_power_6 hl.1 ⟨(Nat.le_of_ble_eq_true rfl), (Nat.le_of_ble_eq_true rfl)⟩ (Nat.le_of_ble_eq_true rfl) ⟨Nat.zero_le _, Nat.zero_le _⟩ (fun H locs h => ?_)
  refine lv_iconst (v := 1) hx hb dX3_power_9 (by decide) ?_
  exact e0_i (Wf := cw G la) X.1 hr hlocks hf h dX3_power_10
theorem m_X3_power : Cond.sameMethod yX3_power.cls yX3_power.cls yX3_power.name yX3_power.desc ∈ lw_good ∧ Cond.instanceMethod yX3_power ∈ lw_good ∧ Cond.initialized yX3_power.cls ∈ lw_good ∧ Cond.code yX3_power cX3_power 3 (some .int) ∈ lw_good := by decide +kernel
theorem ks_X3_power {p : Program} {l : Launch} {e : Env} {R : Room} {s : State} {m : MethodId} {args : Array Value} {below : List Frame} {meth : Method} {c : Code} {H : Heap} {locs : List Loc} {cells slots : Nat} {Q : State → Prop} {cc : ByteArray} {nL pc idx : Nat} {ls : Array Slot} {rest : List Value} {own : String} {G : Gm} {A : Nat → Prop} {H0 : Heap} {la : Nat} {w : CW} {κ : Nat} {x1 : Int32} {x2 : Int32} {y : Int32 × CW} (X : CX own cc nL G p s m args c) (h : CH G (cw G la w) A H0 H locs) (hA : ∀ q, H0.size ≤ q → A q) (hκ : κ = 0 ∨ κ = 1 ∨ κ = 2 ∨ κ = 3 ∨ κ = 4) (hf : f_X3_power κ x1 x2 w = some y) (hlk : Cond.methodLink own idx yX3_power ∈ lw_good) (hsu : Cond.superclass own yX3_power.cls ∈ lw_good) (hd : decode cc pc = .ok (.invokespecial idx, 3)) (hsz : ls.size = nL) (hR : 3 ≤ R.frames ∧ 65 ≤ R.locals) (hrest : (rest.map fun v => v.category).sum ≤ 8) (hk : cells ≤ R.cells ∧ slots ≤ R.slots) (k : ∀ (H : Heap) (locs : List Loc), CH G (cw G la y.2) A H0 H locs → W p l e R s m args below meth c H locs cells slots Q (F0 m (pc + 3) ls (.int y.1 :: rest))) : W p l e R s m args below meth c H locs cells slots Q (F0 m pc ls (.int x2 :: .int x1 :: .ref (gq G (20 + κ)) :: rest)) := by
  obtain ⟨hrc, cC, hat⟩ := recvK X.2 h (show κ < 5 by omega)
  exact fin_i (n := 0) (runSU (C := KC κ) (As := [.int x1, .int x2]) hat X.1 2 (t_X3_power l G la w κ x1 x2 hκ y.1 y.2 hf _) rfl rfl hlk ⟨m_X3_power.1, hsu, m_X3_power.2.1, m_X3_power.2.2.1, m_X3_power.2.2.2⟩ (by decide +kernel) ⟨hR.1, hR.2⟩ ⟨blindM, hrc, preM X.2 h⟩ rfl hsz hrest hd hk) h hA (fun _ H locs h => k H locs h)
def f_X8_power (κ : Nat) (x1 : Int32) (x2 : Int32) (w : CW) : Option (Int32 × CW) :=
 (f_X7_begin ((0 : Int32)) ((2 : Int32)) w).bind fun y1 =>
 (f_X3_power κ x1 x2 y1).bind fun y2 =>
 if x1 = ((1 : Int32)) then
 (some (y2.1 + ((2 : Int32)), y2.2))
 else
 (if x1 = ((3 : Int32)) then
 (some (y2.1 + ((2 : Int32)), y2.2))
 else
 (some (y2.1 + ((0 : Int32)), y2.2)))
set_option maxHeartbeats 4000000 in
set_option maxRecDepth 100000 in
theorem t_X8_power (l : Launch) (G : Gm) (la : Nat) (w0 : CW) (κ : Nat) (x1 : Int32) (x2 : Int32) (hκ : κ = 0 ∨ κ = 1 ∨ κ = 4) (r : Int32) (w' : CW) (hf : f_X8_power κ x1 x2 w0 = some (r, w')) : MetI l yX8_power cX8_power 3 (some .int) 3 65 G (cw G la w0) [.ref (gq G (20 + κ)), .int x1, .int x2] r (fun _ => cw G la (w')) 0 := by
  intro sz
  refine ent (own := RX8) (As := [.ref (gq G (20 + κ)), .int x1, .int x2]) (by decide +kernel) rfl (Nat.le_of_ble_eq_true rfl) (fun _ _ h => h.1) ?_
  intro p e s m args below meth c ls B hr hlocks hv hl
  obtain ⟨-, hsz, hP, hKK, hD⟩ := hv
  subst hsz
  have X : CX RX8 cX8_power 3 G p s m args c := ⟨B, hKK⟩
  obtain ⟨hx, hb, hml, hown, hts⟩ := id B
  have hA : ∀ q : Nat, s.heap.size ≤ q → va_A (cw G la w0) s.heap.size q := fun q z => Or.inr z
  have h : CH G (cw G la w0) (va_A (cw G la w0) s.heap.size) s.heap s.heap [] := ⟨hP, hD.self, va_S.rf⟩
  obtain ⟨w, rfl⟩ : ∃ z, z = w0 := ⟨_, rfl⟩
  have hl : lv_has ls 3 [(0, .ref (gq G (20 + κ))), (1, .int x1), (2, .int x2)] := hl
  unfold f_X8_power at hf
  refine lv_aload_n hx hb dX8_power_0 rfl (lv_at hl 0 rfl) ?_
  refine GB_X8 X h (by omega) k_X8_9 dX8_power_1 ?_
  refine lv_iconst (v := 0) hx hb dX8_power_4 (by decide) ?_
  refine lv_iconst (v := 2) hx hb dX8_power_5 (by decide) ?_
  obtain ⟨y1, ey1, hf⟩ := bnd_some hf
  refine k_X7_begin X h hA ey1 k_X8_15 dX8_power_6 hl.1 ⟨(Nat.le_of_ble_eq_true rfl), (Nat.le_of_ble_eq_true rfl)⟩ (Nat.le_of_ble_eq_true rfl) ⟨Nat.zero_le _, Nat.zero_le _⟩ (fun H locs h => ?_)
  refine lv_aload_n hx hb dX8_power_9 rfl (lv_at hl 0 rfl) ?_
  refine lv_iload_n hx hb dX8_power_10 rfl (lv_at hl 1 rfl) ?_
  refine lv_iload_n hx hb dX8_power_11 rfl (lv_at hl 2 rfl) ?_
  obtain ⟨y2, ey2, hf⟩ := bnd_some hf
  refine ks_X3_power X h hA (by omega) ey2 k_X8_28 k_X8_su dX8_power_12 hl.1 ⟨(Nat.le_of_ble_eq_true rfl), (Nat.le_of_ble_eq_true rfl)⟩ (Nat.le_of_ble_eq_true rfl) ⟨Nat.zero_le _, Nat.zero_le _⟩ (fun H locs h => ?_)
  refine lv_iload_n hx hb dX8_power_15 rfl (lv_at hl 1 rfl) ?_
  refine lv_iconst (v := 1) hx hb dX8_power_16 (by decide) ?_
  refine lv_icmp_eq (tgt := 25) hx hb dX8_power_17 (by decide) (fun c3 => ?_) (fun c3 => ?_)
  · have hf := if_t c3 hf
    refine lv_iconst (v := 2) hx hb dX8_power_25 (by decide) ?_
    refine lv_goto (tgt := 30) hx hb dX8_power_26 (by decide) ?_
    refine lv_iadd hx hb dX8_power_30 ?_
    exact e0_i (Wf := cw G la) X.1 hr hlocks hf h dX8_power_31
  · have hf := if_f c3 hf
    refine lv_iload_n hx hb dX8_power_20 rfl (lv_at hl 1 rfl) ?_
    refine lv_iconst (v := 3) hx hb dX8_power_21 (by decide) ?_
    refine lv_icmp_ne (tgt := 29) hx hb dX8_power_22 (by decide) (fun c4 => ?_) (fun c4 => ?_)
    · have hf := if_f c4 hf
      refine lv_iconst (v := 0) hx hb dX8_power_29 (by decide) ?_
      refine lv_iadd hx hb dX8_power_30 ?_
      exact e0_i (Wf := cw G la) X.1 hr hlocks hf h dX8_power_31
    · have hf := if_t c4 hf
      refine lv_iconst (v := 2) hx hb dX8_power_25 (by decide) ?_
      refine lv_goto (tgt := 30) hx hb dX8_power_26 (by decide) ?_
      refine lv_iadd hx hb dX8_power_30 ?_
      exact e0_i (Wf := cw G la) X.1 hr hlocks hf h dX8_power_31
theorem m_X8_power : Cond.sameMethod yX8_power.cls yX8_power.cls yX8_power.name yX8_power.desc ∈ lw_good ∧ Cond.instanceMethod yX8_power ∈ lw_good ∧ Cond.initialized yX8_power.cls ∈ lw_good ∧ Cond.code yX8_power cX8_power 3 (some .int) ∈ lw_good := by decide +kernel
theorem ks_X8_power {p : Program} {l : Launch} {e : Env} {R : Room} {s : State} {m : MethodId} {args : Array Value} {below : List Frame} {meth : Method} {c : Code} {H : Heap} {locs : List Loc} {cells slots : Nat} {Q : State → Prop} {cc : ByteArray} {nL pc idx : Nat} {ls : Array Slot} {rest : List Value} {own : String} {G : Gm} {A : Nat → Prop} {H0 : Heap} {la : Nat} {w : CW} {κ : Nat} {x1 : Int32} {x2 : Int32} {y : Int32 × CW} (X : CX own cc nL G p s m args c) (h : CH G (cw G la w) A H0 H locs) (hA : ∀ q, H0.size ≤ q → A q) (hκ : κ = 0 ∨ κ = 1 ∨ κ = 4) (hf : f_X8_power κ x1 x2 w = some y) (hlk : Cond.methodLink own idx yX8_power ∈ lw_good) (hsu : Cond.superclass own yX8_power.cls ∈ lw_good) (hd : decode cc pc = .ok (.invokespecial idx, 3)) (hsz : ls.size = nL) (hR : 4 ≤ R.frames ∧ 87 ≤ R.locals) (hrest : (rest.map fun v => v.category).sum ≤ 8) (hk : cells ≤ R.cells ∧ slots ≤ R.slots) (k : ∀ (H : Heap) (locs : List Loc), CH G (cw G la y.2) A H0 H locs → W p l e R s m args below meth c H locs cells slots Q (F0 m (pc + 3) ls (.int y.1 :: rest))) : W p l e R s m args below meth c H locs cells slots Q (F0 m pc ls (.int x2 :: .int x1 :: .ref (gq G (20 + κ)) :: rest)) := by
  obtain ⟨hrc, cC, hat⟩ := recvK X.2 h (show κ < 5 by omega)
  exact fin_i (n := 0) (runSU (C := KC κ) (As := [.int x1, .int x2]) hat X.1 2 (t_X8_power l G la w κ x1 x2 hκ y.1 y.2 hf _) rfl rfl hlk ⟨m_X8_power.1, hsu, m_X8_power.2.1, m_X8_power.2.2.1, m_X8_power.2.2.2⟩ (by decide +kernel) ⟨hR.1, hR.2⟩ ⟨blindM, hrc, preM X.2 h⟩ rfl hsz hrest hd hk) h hA (fun _ H locs h => k H locs h)
def f_X5_power (κ : Nat) (x1 : Int32) (x2 : Int32) (w : CW) : Option (Int32 × CW) :=
 (f_X7_begin ((1 : Int32)) ((2 : Int32)) w).bind fun y1 =>
 (f_X8_power κ x1 x2 y1).bind fun y2 =>
 some (((2 : Int32)) * y2.1, y2.2)
set_option maxHeartbeats 4000000 in
set_option maxRecDepth 100000 in
theorem t_X5_power (l : Launch) (G : Gm) (la : Nat) (w0 : CW) (κ : Nat) (x1 : Int32) (x2 : Int32) (hκ : κ = 1) (r : Int32) (w' : CW) (hf : f_X5_power κ x1 x2 w0 = some (r, w')) : MetI l yX5_power cX5_power 3 (some .int) 4 87 G (cw G la w0) [.ref (gq G (20 + κ)), .int x1, .int x2] r (fun _ => cw G la (w')) 0 := by
  intro sz
  refine ent (own := RX5) (As := [.ref (gq G (20 + κ)), .int x1, .int x2]) (by decide +kernel) rfl (Nat.le_of_ble_eq_true rfl) (fun _ _ h => h.1) ?_
  intro p e s m args below meth c ls B hr hlocks hv hl
  obtain ⟨-, hsz, hP, hKK, hD⟩ := hv
  subst hsz
  have X : CX RX5 cX5_power 3 G p s m args c := ⟨B, hKK⟩
  obtain ⟨hx, hb, hml, hown, hts⟩ := id B
  have hA : ∀ q : Nat, s.heap.size ≤ q → va_A (cw G la w0) s.heap.size q := fun q z => Or.inr z
  have h : CH G (cw G la w0) (va_A (cw G la w0) s.heap.size) s.heap s.heap [] := ⟨hP, hD.self, va_S.rf⟩
  obtain ⟨w, rfl⟩ : ∃ z, z = w0 := ⟨_, rfl⟩
  have hl : lv_has ls 3 [(0, .ref (gq G (20 + κ))), (1, .int x1), (2, .int x2)] := hl
  unfold f_X5_power at hf
  refine lv_aload_n hx hb dX5_power_0 rfl (lv_at hl 0 rfl) ?_
  refine GB_X5 X h (by omega) k_X5_9 dX5_power_1 ?_
  refine lv_iconst (v := 1) hx hb dX5_power_4 (by decide) ?_
  refine lv_iconst (v := 2) hx hb dX5_power_5 (by decide) ?_
  obtain ⟨y1, ey1, hf⟩ := bnd_some hf
  refine k_X7_begin X h hA ey1 k_X5_15 dX5_power_6 hl.1 ⟨(Nat.le_of_ble_eq_true rfl), (Nat.le_of_ble_eq_true rfl)⟩ (Nat.le_of_ble_eq_true rfl) ⟨Nat.zero_le _, Nat.zero_le _⟩ (fun H locs h => ?_)
  refine lv_iconst (v := 2) hx hb dX5_power_9 (by decide) ?_
  refine lv_aload_n hx hb dX5_power_10 rfl (lv_at hl 0 rfl) ?_
  refine lv_iload_n hx hb dX5_power_11 rfl (lv_at hl 1 rfl) ?_
  refine lv_iload_n hx hb dX5_power_12 rfl (lv_at hl 2 rfl) ?_
  obtain ⟨y2, ey2, hf⟩ := bnd_some hf
  refine ks_X8_power X h hA (by omega) ey2 k_X5_25 k_X5_su dX5_power_13 hl.1 ⟨(Nat.le_of_ble_eq_true rfl), (Nat.le_of_ble_eq_true rfl)⟩ (Nat.le_of_ble_eq_true rfl) ⟨Nat.zero_le _, Nat.zero_le _⟩ (fun H locs h => ?_)
  refine lv_imul hx hb dX5_power_16 ?_
  exact e0_i (Wf := cw G la) X.1 hr hlocks hf h dX5_power_17
def f_X2_power (κ : Nat) (x1 : Int32) (x2 : Int32) (w : CW) : Option (Int32 × CW) :=
 (f_X7_begin ((2 : Int32)) ((2 : Int32)) w).bind fun y1 =>
 (f_X3_power κ x1 x2 y1).bind fun y2 =>
 if x1 = ((1 : Int32)) then
 (some (y2.1 + ((3 : Int32)), y2.2))
 else
 (some (y2.1 + ((0 : Int32)), y2.2))
set_option maxHeartbeats 4000000 in
set_option maxRecDepth 100000 in
theorem t_X2_power (l : Launch) (G : Gm) (la : Nat) (w0 : CW) (κ : Nat) (x1 : Int32) (x2 : Int32) (hκ : κ = 2 ∨ κ = 3) (r : Int32) (w' : CW) (hf : f_X2_power κ x1 x2 w0 = some (r, w')) : MetI l yX2_power cX2_power 3 (some .int) 3 65 G (cw G la w0) [.ref (gq G (20 + κ)), .int x1, .int x2] r (fun _ => cw G la (w')) 0 := by
  intro sz
  refine ent (own := RX2) (As := [.ref (gq G (20 + κ)), .int x1, .int x2]) (by decide +kernel) rfl (Nat.le_of_ble_eq_true rfl) (fun _ _ h => h.1) ?_
  intro p e s m args below meth c ls B hr hlocks hv hl
  obtain ⟨-, hsz, hP, hKK, hD⟩ := hv
  subst hsz
  have X : CX RX2 cX2_power 3 G p s m args c := ⟨B, hKK⟩
  obtain ⟨hx, hb, hml, hown, hts⟩ := id B
  have hA : ∀ q : Nat, s.heap.size ≤ q → va_A (cw G la w0) s.heap.size q := fun q z => Or.inr z
  have h : CH G (cw G la w0) (va_A (cw G la w0) s.heap.size) s.heap s.heap [] := ⟨hP, hD.self, va_S.rf⟩
  obtain ⟨w, rfl⟩ : ∃ z, z = w0 := ⟨_, rfl⟩
  have hl : lv_has ls 3 [(0, .ref (gq G (20 + κ))), (1, .int x1), (2, .int x2)] := hl
  unfold f_X2_power at hf
  refine lv_aload_n hx hb dX2_power_0 rfl (lv_at hl 0 rfl) ?_
  refine GB_X2 X h (by omega) k_X2_9 dX2_power_1 ?_
  refine lv_iconst (v := 2) hx hb dX2_power_4 (by decide) ?_
  refine lv_iconst (v := 2) hx hb dX2_power_5 (by decide) ?_
  obtain ⟨y1, ey1, hf⟩ := bnd_some hf
  refine k_X7_begin X h hA ey1 k_X2_15 dX2_power_6 hl.1 ⟨(Nat.le_of_ble_eq_true rfl), (Nat.le_of_ble_eq_true rfl)⟩ (Nat.le_of_ble_eq_true rfl) ⟨Nat.zero_le _, Nat.zero_le _⟩ (fun H locs h => ?_)
  refine lv_aload_n hx hb dX2_power_9 rfl (lv_at hl 0 rfl) ?_
  refine lv_iload_n hx hb dX2_power_10 rfl (lv_at hl 1 rfl) ?_
  refine lv_iload_n hx hb dX2_power_11 rfl (lv_at hl 2 rfl) ?_
  obtain ⟨y2, ey2, hf⟩ := bnd_some hf
  refine ks_X3_power X h hA (by omega) ey2 k_X2_25 k_X2_su dX2_power_12 hl.1 ⟨(Nat.le_of_ble_eq_true rfl), (Nat.le_of_ble_eq_true rfl)⟩ (Nat.le_of_ble_eq_true rfl) ⟨Nat.zero_le _, Nat.zero_le _⟩ (fun H locs h => ?_)
  refine lv_iload_n hx hb dX2_power_15 rfl (lv_at hl 1 rfl) ?_
  refine lv_iconst (v := 1) hx hb dX2_power_16 (by decide) ?_
  refine lv_icmp_ne (tgt := 24) hx hb dX2_power_17 (by decide) (fun c3 => ?_) (fun c3 => ?_)
  · have hf := if_f c3 hf
    refine lv_iconst (v := 0) hx hb dX2_power_24 (by decide) ?_
    refine lv_iadd hx hb dX2_power_25 ?_
    exact e0_i (Wf := cw G la) X.1 hr hlocks hf h dX2_power_26
  · have hf := if_t c3 hf
    refine lv_iconst (v := 3) hx hb dX2_power_20 (by decide) ?_
    refine lv_goto (tgt := 25) hx hb dX2_power_21 (by decide) ?_
    refine lv_iadd hx hb dX2_power_25 ?_
    exact e0_i (Wf := cw G la) X.1 hr hlocks hf h dX2_power_26
def f_X0_power (κ : Nat) (x1 : Int32) (x2 : Int32) (w : CW) : Option (Int32 × CW) :=
 (f_X7_begin ((4 : Int32)) ((2 : Int32)) w).bind fun y1 =>
 (f_X8_power κ x1 x2 y1).bind fun y2 =>
 some (y2.1 + x2, y2.2)
set_option maxHeartbeats 4000000 in
set_option maxRecDepth 100000 in
theorem t_X0_power (l : Launch) (G : Gm) (la : Nat) (w0 : CW) (κ : Nat) (x1 : Int32) (x2 : Int32) (hκ : κ = 4) (r : Int32) (w' : CW) (hf : f_X0_power κ x1 x2 w0 = some (r, w')) : MetI l yX0_power cX0_power 3 (some .int) 4 87 G (cw G la w0) [.ref (gq G (20 + κ)), .int x1, .int x2] r (fun _ => cw G la (w')) 0 := by
  intro sz
  refine ent (own := RX0) (As := [.ref (gq G (20 + κ)), .int x1, .int x2]) (by decide +kernel) rfl (Nat.le_of_ble_eq_true rfl) (fun _ _ h => h.1) ?_
  intro p e s m args below meth c ls B hr hlocks hv hl
  obtain ⟨-, hsz, hP, hKK, hD⟩ := hv
  subst hsz
  have X : CX RX0 cX0_power 3 G p s m args c := ⟨B, hKK⟩
  obtain ⟨hx, hb, hml, hown, hts⟩ := id B
  have hA : ∀ q : Nat, s.heap.size ≤ q → va_A (cw G la w0) s.heap.size q := fun q z => Or.inr z
  have h : CH G (cw G la w0) (va_A (cw G la w0) s.heap.size) s.heap s.heap [] := ⟨hP, hD.self, va_S.rf⟩
  obtain ⟨w, rfl⟩ : ∃ z, z = w0 := ⟨_, rfl⟩
  have hl : lv_has ls 3 [(0, .ref (gq G (20 + κ))), (1, .int x1), (2, .int x2)] := hl
  unfold f_X0_power at hf
  refine lv_aload_n hx hb dX0_power_0 rfl (lv_at hl 0 rfl) ?_
  refine GB_X0 X h (by omega) k_X0_9 dX0_power_1 ?_
  refine lv_iconst (v := 4) hx hb dX0_power_4 (by decide) ?_
  refine lv_iconst (v := 2) hx hb dX0_power_5 (by decide) ?_
  obtain ⟨y1, ey1, hf⟩ := bnd_some hf
  refine k_X7_begin X h hA ey1 k_X0_15 dX0_power_6 hl.1 ⟨(Nat.le_of_ble_eq_true rfl), (Nat.le_of_ble_eq_true rfl)⟩ (Nat.le_of_ble_eq_true rfl) ⟨Nat.zero_le _, Nat.zero_le _⟩ (fun H locs h => ?_)
  refine lv_aload_n hx hb dX0_power_9 rfl (lv_at hl 0 rfl) ?_
  refine lv_iload_n hx hb dX0_power_10 rfl (lv_at hl 1 rfl) ?_
  refine lv_iload_n hx hb dX0_power_11 rfl (lv_at hl 2 rfl) ?_
  obtain ⟨y2, ey2, hf⟩ := bnd_some hf
  refine ks_X8_power X h hA (by omega) ey2 k_X0_28 k_X0_su dX0_power_12 hl.1 ⟨(Nat.le_of_ble_eq_true rfl), (Nat.le_of_ble_eq_true rfl)⟩ (Nat.le_of_ble_eq_true rfl) ⟨Nat.zero_le _, Nat.zero_le _⟩ (fun H locs h => ?_)
  refine lv_iload_n hx hb dX0_power_15 rfl (lv_at hl 2 rfl) ?_
  refine lv_iadd hx hb dX0_power_16 ?_
  exact e0_i (Wf := cw G la) X.1 hr hlocks hf h dX0_power_17
def f_X8_speed (κ : Nat) (w : CW) : Option (Int32 × CW) :=
 (f_X7_begin ((0 : Int32)) ((3 : Int32)) w).bind fun y1 =>
 some ((2 : Int32), y1)
set_option maxHeartbeats 4000000 in
set_option maxRecDepth 100000 in
theorem t_X8_speed (l : Launch) (G : Gm) (la : Nat) (w0 : CW) (κ : Nat) (hκ : κ = 0 ∨ κ = 1 ∨ κ = 4) (r : Int32) (w' : CW) (hf : f_X8_speed κ w0 = some (r, w')) : MetI l yX8_speed cX8_speed 1 (some .int) 2 43 G (cw G la w0) [.ref (gq G (20 + κ))] r (fun _ => cw G la (w')) 0 := by
  intro sz
  refine ent (own := RX8) (As := [.ref (gq G (20 + κ))]) (by decide +kernel) rfl (Nat.le_of_ble_eq_true rfl) (fun _ _ h => h.1) ?_
  intro p e s m args below meth c ls B hr hlocks hv hl
  obtain ⟨-, hsz, hP, hKK, hD⟩ := hv
  subst hsz
  have X : CX RX8 cX8_speed 1 G p s m args c := ⟨B, hKK⟩
  obtain ⟨hx, hb, hml, hown, hts⟩ := id B
  have hA : ∀ q : Nat, s.heap.size ≤ q → va_A (cw G la w0) s.heap.size q := fun q z => Or.inr z
  have h : CH G (cw G la w0) (va_A (cw G la w0) s.heap.size) s.heap s.heap [] := ⟨hP, hD.self, va_S.rf⟩
  obtain ⟨w, rfl⟩ : ∃ z, z = w0 := ⟨_, rfl⟩
  have hl : lv_has ls 1 [(0, .ref (gq G (20 + κ)))] := hl
  unfold f_X8_speed at hf
  refine lv_aload_n hx hb dX8_speed_0 rfl (lv_at hl 0 rfl) ?_
  refine GB_X8 X h (by omega) k_X8_9 dX8_speed_1 ?_
  refine lv_iconst (v := 0) hx hb dX8_speed_4 (by decide) ?_
  refine lv_iconst (v := 3) hx hb dX8_speed_5 (by decide) ?_
  obtain ⟨y1, ey1, hf⟩ := bnd_some hf
  refine k_X7_begin X h hA ey1 k_X8_15 dX8_speed_6 hl.1 ⟨(Nat.le_of_ble_eq_true rfl), (Nat.le_of_ble_eq_true rfl)⟩ (Nat.le_of_ble_eq_true rfl) ⟨Nat.zero_le _, Nat.zero_le _⟩ (fun H locs h => ?_)
  refine lv_iconst (v := 2) hx hb dX8_speed_9 (by decide) ?_
  exact e0_i (Wf := cw G la) X.1 hr hlocks hf h dX8_speed_10
theorem m_X8_speed : Cond.sameMethod yX8_speed.cls yX8_speed.cls yX8_speed.name yX8_speed.desc ∈ lw_good ∧ Cond.instanceMethod yX8_speed ∈ lw_good ∧ Cond.initialized yX8_speed.cls ∈ lw_good ∧ Cond.code yX8_speed cX8_speed 1 (some .int) ∈ lw_good := by decide +kernel
theorem ks_X8_speed {p : Program} {l : Launch} {e : Env} {R : Room} {s : State} {m : MethodId} {args : Array Value} {below : List Frame} {meth : Method} {c : Code} {H : Heap} {locs : List Loc} {cells slots : Nat} {Q : State → Prop} {cc : ByteArray} {nL pc idx : Nat} {ls : Array Slot} {rest : List Value} {own : String} {G : Gm} {A : Nat → Prop} {H0 : Heap} {la : Nat} {w : CW} {κ : Nat} {y : Int32 × CW} (X : CX own cc nL G p s m args c) (h : CH G (cw G la w) A H0 H locs) (hA : ∀ q, H0.size ≤ q → A q) (hκ : κ = 0 ∨ κ = 1 ∨ κ = 4) (hf : f_X8_speed κ w = some y) (hlk : Cond.methodLink own idx yX8_speed ∈ lw_good) (hsu : Cond.superclass own yX8_speed.cls ∈ lw_good) (hd : decode cc pc = .ok (.invokespecial idx, 3)) (hsz : ls.size = nL) (hR : 3 ≤ R.frames ∧ 63 ≤ R.locals) (hrest : (rest.map fun v => v.category).sum ≤ 8) (hk : cells ≤ R.cells ∧ slots ≤ R.slots) (k : ∀ (H : Heap) (locs : List Loc), CH G (cw G la y.2) A H0 H locs → W p l e R s m args below meth c H locs cells slots Q (F0 m (pc + 3) ls (.int y.1 :: rest))) : W p l e R s m args below meth c H locs cells slots Q (F0 m pc ls (.ref (gq G (20 + κ)) :: rest)) := by
  obtain ⟨hrc, cC, hat⟩ := recvK X.2 h (show κ < 5 by omega)
  exact fin_i (n := 0) (runSU (C := KC κ) (As := []) hat X.1 0 (t_X8_speed l G la w κ hκ y.1 y.2 hf _) rfl rfl hlk ⟨m_X8_speed.1, hsu, m_X8_speed.2.1, m_X8_speed.2.2.1, m_X8_speed.2.2.2⟩ (by decide +kernel) ⟨hR.1, hR.2⟩ ⟨blindM, hrc, preM X.2 h⟩ rfl hsz hrest hd hk) h hA (fun _ H locs h => k H locs h)
def f_X5_speed (κ : Nat) (w : CW) : Option (Int32 × CW) :=
 (f_X7_begin ((1 : Int32)) ((3 : Int32)) w).bind fun y1 =>
 (f_X8_speed κ y1).bind fun y2 =>
 some (((3 : Int32)) * y2.1, y2.2)
set_option maxHeartbeats 4000000 in
set_option maxRecDepth 100000 in
theorem t_X5_speed (l : Launch) (G : Gm) (la : Nat) (w0 : CW) (κ : Nat) (hκ : κ = 1) (r : Int32) (w' : CW) (hf : f_X5_speed κ w0 = some (r, w')) : MetI l yX5_speed cX5_speed 1 (some .int) 3 63 G (cw G la w0) [.ref (gq G (20 + κ))] r (fun _ => cw G la (w')) 0 := by
  intro sz
  refine ent (own := RX5) (As := [.ref (gq G (20 + κ))]) (by decide +kernel) rfl (Nat.le_of_ble_eq_true rfl) (fun _ _ h => h.1) ?_
  intro p e s m args below meth c ls B hr hlocks hv hl
  obtain ⟨-, hsz, hP, hKK, hD⟩ := hv
  subst hsz
  have X : CX RX5 cX5_speed 1 G p s m args c := ⟨B, hKK⟩
  obtain ⟨hx, hb, hml, hown, hts⟩ := id B
  have hA : ∀ q : Nat, s.heap.size ≤ q → va_A (cw G la w0) s.heap.size q := fun q z => Or.inr z
  have h : CH G (cw G la w0) (va_A (cw G la w0) s.heap.size) s.heap s.heap [] := ⟨hP, hD.self, va_S.rf⟩
  obtain ⟨w, rfl⟩ : ∃ z, z = w0 := ⟨_, rfl⟩
  have hl : lv_has ls 1 [(0, .ref (gq G (20 + κ)))] := hl
  unfold f_X5_speed at hf
  refine lv_aload_n hx hb dX5_speed_0 rfl (lv_at hl 0 rfl) ?_
  refine GB_X5 X h (by omega) k_X5_9 dX5_speed_1 ?_
  refine lv_iconst (v := 1) hx hb dX5_speed_4 (by decide) ?_
  refine lv_iconst (v := 3) hx hb dX5_speed_5 (by decide) ?_
  obtain ⟨y1, ey1, hf⟩ := bnd_some hf
  refine k_X7_begin X h hA ey1 k_X5_15 dX5_speed_6 hl.1 ⟨(Nat.le_of_ble_eq_true rfl), (Nat.le_of_ble_eq_true rfl)⟩ (Nat.le_of_ble_eq_true rfl) ⟨Nat.zero_le _, Nat.zero_le _⟩ (fun H locs h => ?_)
  refine lv_iconst (v := 3) hx hb dX5_speed_9 (by decide) ?_
  refine lv_aload_n hx hb dX5_speed_10 rfl (lv_at hl 0 rfl) ?_
  obtain ⟨y2, ey2, hf⟩ := bnd_some hf
  refine ks_X8_speed X h hA (by omega) ey2 k_X5_28 k_X5_su dX5_speed_11 hl.1 ⟨(Nat.le_of_ble_eq_true rfl), (Nat.le_of_ble_eq_true rfl)⟩ (Nat.le_of_ble_eq_true rfl) ⟨Nat.zero_le _, Nat.zero_le _⟩ (fun H locs h => ?_)
  refine lv_imul hx hb dX5_speed_14 ?_
  exact e0_i (Wf := cw G la) X.1 hr hlocks hf h dX5_speed_15
def f_X2_speed (κ : Nat) (w : CW) : Option (Int32 × CW) :=
 (f_X7_begin ((2 : Int32)) ((3 : Int32)) w).bind fun y1 =>
 some ((1 : Int32), y1)
set_option maxHeartbeats 4000000 in
set_option maxRecDepth 100000 in
theorem t_X2_speed (l : Launch) (G : Gm) (la : Nat) (w0 : CW) (κ : Nat) (hκ : κ = 2 ∨ κ = 3) (r : Int32) (w' : CW) (hf : f_X2_speed κ w0 = some (r, w')) : MetI l yX2_speed cX2_speed 1 (some .int) 2 43 G (cw G la w0) [.ref (gq G (20 + κ))] r (fun _ => cw G la (w')) 0 := by
  intro sz
  refine ent (own := RX2) (As := [.ref (gq G (20 + κ))]) (by decide +kernel) rfl (Nat.le_of_ble_eq_true rfl) (fun _ _ h => h.1) ?_
  intro p e s m args below meth c ls B hr hlocks hv hl
  obtain ⟨-, hsz, hP, hKK, hD⟩ := hv
  subst hsz
  have X : CX RX2 cX2_speed 1 G p s m args c := ⟨B, hKK⟩
  obtain ⟨hx, hb, hml, hown, hts⟩ := id B
  have hA : ∀ q : Nat, s.heap.size ≤ q → va_A (cw G la w0) s.heap.size q := fun q z => Or.inr z
  have h : CH G (cw G la w0) (va_A (cw G la w0) s.heap.size) s.heap s.heap [] := ⟨hP, hD.self, va_S.rf⟩
  obtain ⟨w, rfl⟩ : ∃ z, z = w0 := ⟨_, rfl⟩
  have hl : lv_has ls 1 [(0, .ref (gq G (20 + κ)))] := hl
  unfold f_X2_speed at hf
  refine lv_aload_n hx hb dX2_speed_0 rfl (lv_at hl 0 rfl) ?_
  refine GB_X2 X h (by omega) k_X2_9 dX2_speed_1 ?_
  refine lv_iconst (v := 2) hx hb dX2_speed_4 (by decide) ?_
  refine lv_iconst (v := 3) hx hb dX2_speed_5 (by decide) ?_
  obtain ⟨y1, ey1, hf⟩ := bnd_some hf
  refine k_X7_begin X h hA ey1 k_X2_15 dX2_speed_6 hl.1 ⟨(Nat.le_of_ble_eq_true rfl), (Nat.le_of_ble_eq_true rfl)⟩ (Nat.le_of_ble_eq_true rfl) ⟨Nat.zero_le _, Nat.zero_le _⟩ (fun H locs h => ?_)
  refine lv_iconst (v := 1) hx hb dX2_speed_9 (by decide) ?_
  exact e0_i (Wf := cw G la) X.1 hr hlocks hf h dX2_speed_10
def fv_speed (κ : Nat) (w : CW) : Option (Int32 × CW) := if κ = 0 then f_X8_speed 0 w else if κ = 1 then f_X5_speed 1 w else if κ = 2 then f_X2_speed 2 w else if κ = 3 then f_X2_speed 3 w else f_X8_speed 4 w
theorem vw_speed_0 : Cond.sameMethod "WashHouse$Machine" "WashHouse$Machine" "speed" "()I" ∈ lw_good ∧ Cond.selects RX8 ⟨"WashHouse$Machine", "speed", "()I"⟩ yX8_speed ∈ lw_good ∧ Cond.instanceMethod yX8_speed ∈ lw_good ∧ Cond.initialized yX8_speed.cls ∈ lw_good ∧ Cond.code yX8_speed cX8_speed 1 (some .int) ∈ lw_good := by decide +kernel
theorem vw_speed_1 : Cond.sameMethod "WashHouse$Machine" "WashHouse$Machine" "speed" "()I" ∈ lw_good ∧ Cond.selects RX5 ⟨"WashHouse$Machine", "speed", "()I"⟩ yX5_speed ∈ lw_good ∧ Cond.instanceMethod yX5_speed ∈ lw_good ∧ Cond.initialized yX5_speed.cls ∈ lw_good ∧ Cond.code yX5_speed cX5_speed 1 (some .int) ∈ lw_good := by decide +kernel
theorem vw_speed_2 : Cond.sameMethod "WashHouse$Machine" "WashHouse$Machine" "speed" "()I" ∈ lw_good ∧ Cond.selects RX2 ⟨"WashHouse$Machine", "speed", "()I"⟩ yX2_speed ∈ lw_good ∧ Cond.instanceMethod yX2_speed ∈ lw_good ∧ Cond.initialized yX2_speed.cls ∈ lw_good ∧ Cond.code yX2_speed cX2_speed 1 (some .int) ∈ lw_good := by decide +kernel
theorem vw_speed_3 : Cond.sameMethod "WashHouse$Machine" "WashHouse$Machine" "speed" "()I" ∈ lw_good ∧ Cond.selects RX4 ⟨"WashHouse$Machine", "speed", "()I"⟩ yX2_speed ∈ lw_good ∧ Cond.instanceMethod yX2_speed ∈ lw_good ∧ Cond.initialized yX2_speed.cls ∈ lw_good ∧ Cond.code yX2_speed cX2_speed 1 (some .int) ∈ lw_good := by decide +kernel
theorem vw_speed_4 : Cond.sameMethod "WashHouse$Machine" "WashHouse$Machine" "speed" "()I" ∈ lw_good ∧ Cond.selects RX0 ⟨"WashHouse$Machine", "speed", "()I"⟩ yX8_speed ∈ lw_good ∧ Cond.instanceMethod yX8_speed ∈ lw_good ∧ Cond.initialized yX8_speed.cls ∈ lw_good ∧ Cond.code yX8_speed cX8_speed 1 (some .int) ∈ lw_good := by decide +kernel
theorem kv_speed {p : Program} {l : Launch} {e : Env} {R : Room} {s : State} {m : MethodId} {args : Array Value} {below : List Frame} {meth : Method} {c : Code} {H : Heap} {locs : List Loc} {cells slots : Nat} {Q : State → Prop} {cc : ByteArray} {nL pc idx : Nat} {ls : Array Slot} {rest : List Value} {own : String} {G : Gm} {A : Nat → Prop} {H0 : Heap} {la : Nat} {w : CW} {κ : Nat} {y : Int32 × CW} (X : CX own cc nL G p s m args c) (h : CH G (cw G la w) A H0 H locs) (hA : ∀ q, H0.size ≤ q → A q) (hκ : κ < 5) (hf : fv_speed κ w = some y) (hlk : Cond.methodLink own idx ⟨"WashHouse$Machine", "speed", "()I"⟩ ∈ lw_good) (hd : decode cc pc = .ok (.invokevirtual idx, 3)) (hsz : ls.size = nL) (hR : 4 ≤ R.frames ∧ 83 ≤ R.locals) (hrest : (rest.map fun v => v.category).sum ≤ 8) (hk : cells ≤ R.cells ∧ slots ≤ R.slots) (k : ∀ (H : Heap) (locs : List Loc), CH G (cw G la y.2) A H0 H locs → W p l e R s m args below meth c H locs cells slots Q (F0 m (pc + 3) ls (.int y.1 :: rest))) : W p l e R s m args below meth c H locs cells slots Q (F0 m pc ls (.ref (gq G (20 + κ)) :: rest)) := by
  rcases (show κ = 0 ∨ κ = 1 ∨ κ = 2 ∨ κ = 3 ∨ κ = 4 by omega) with rfl | rfl | rfl | rfl | rfl
  · have hf : f_X8_speed 0 w = some y := hf
    exact fin_i (n := 0) (runA (C := RX8) (x := ⟨"WashHouse$Machine", "speed", "()I"⟩) (owner := "WashHouse$Machine") (As := []) X.1 0 (t_X8_speed l G la w 0 (by decide) y.1 y.2 hf _) rfl rfl hlk vw_speed_0 (X.2.2 _ (by decide +kernel)) (by decide +kernel) ⟨Nat.le_trans (Nat.le_of_ble_eq_true rfl) hR.1, Nat.le_trans (Nat.le_of_ble_eq_true rfl) hR.2⟩ ⟨blindM, va_recv X.2.1 h.1 (ci := 7) (q0 := 20) rfl rfl, preM X.2 h⟩ rfl hsz hrest hd hk) h hA (fun _ H locs h => k H locs h)
  · have hf : f_X5_speed 1 w = some y := hf
    exact fin_i (n := 0) (runA (C := RX5) (x := ⟨"WashHouse$Machine", "speed", "()I"⟩) (owner := "WashHouse$Machine") (As := []) X.1 0 (t_X5_speed l G la w 1 (by decide) y.1 y.2 hf _) rfl rfl hlk vw_speed_1 (X.2.2 _ (by decide +kernel)) (by decide +kernel) ⟨Nat.le_trans (Nat.le_of_ble_eq_true rfl) hR.1, Nat.le_trans (Nat.le_of_ble_eq_true rfl) hR.2⟩ ⟨blindM, va_recv X.2.1 h.1 (ci := 4) (q0 := 21) rfl rfl, preM X.2 h⟩ rfl hsz hrest hd hk) h hA (fun _ H locs h => k H locs h)
  · have hf : f_X2_speed 2 w = some y := hf
    exact fin_i (n := 0) (runA (C := RX2) (x := ⟨"WashHouse$Machine", "speed", "()I"⟩) (owner := "WashHouse$Machine") (As := []) X.1 0 (t_X2_speed l G la w 2 (by decide) y.1 y.2 hf _) rfl rfl hlk vw_speed_2 (X.2.2 _ (by decide +kernel)) (by decide +kernel) ⟨Nat.le_trans (Nat.le_of_ble_eq_true rfl) hR.1, Nat.le_trans (Nat.le_of_ble_eq_true rfl) hR.2⟩ ⟨blindM, va_recv X.2.1 h.1 (ci := 2) (q0 := 22) rfl rfl, preM X.2 h⟩ rfl hsz hrest hd hk) h hA (fun _ H locs h => k H locs h)
  · have hf : f_X2_speed 3 w = some y := hf
    exact fin_i (n := 0) (runA (C := RX4) (x := ⟨"WashHouse$Machine", "speed", "()I"⟩) (owner := "WashHouse$Machine") (As := []) X.1 0 (t_X2_speed l G la w 3 (by decide) y.1 y.2 hf _) rfl rfl hlk vw_speed_3 (X.2.2 _ (by decide +kernel)) (by decide +kernel) ⟨Nat.le_trans (Nat.le_of_ble_eq_true rfl) hR.1, Nat.le_trans (Nat.le_of_ble_eq_true rfl) hR.2⟩ ⟨blindM, va_recv X.2.1 h.1 (ci := 3) (q0 := 23) rfl rfl, preM X.2 h⟩ rfl hsz hrest hd hk) h hA (fun _ H locs h => k H locs h)
  · have hf : f_X8_speed 4 w = some y := hf
    exact fin_i (n := 0) (runA (C := RX0) (x := ⟨"WashHouse$Machine", "speed", "()I"⟩) (owner := "WashHouse$Machine") (As := []) X.1 0 (t_X8_speed l G la w 4 (by decide) y.1 y.2 hf _) rfl rfl hlk vw_speed_4 (X.2.2 _ (by decide +kernel)) (by decide +kernel) ⟨Nat.le_trans (Nat.le_of_ble_eq_true rfl) hR.1, Nat.le_trans (Nat.le_of_ble_eq_true rfl) hR.2⟩ ⟨blindM, va_recv X.2.1 h.1 (ci := 0) (q0 := 24) rfl rfl, preM X.2 h⟩ rfl hsz hrest hd hk) h hA (fun _ H locs h => k H locs h)
def f_X3_wear (κ : Nat) (x1 : Int32) (w : CW) : Option (Int32 × CW) :=
 (f_X7_begin ((6 : Int32)) ((4 : Int32)) w).bind fun y1 =>
 chk (κ < 5) (
 (fv_speed κ y1).bind fun y2 =>
 some (x1 * y2.1, y2.2))
set_option maxHeartbeats 4000000 in
set_option maxRecDepth 100000 in
theorem t_X3_wear (l : Launch) (G : Gm) (la : Nat) (w0 : CW) (κ : Nat) (x1 : Int32) (hκ : κ = 0 ∨ κ = 1 ∨ κ = 2 ∨ κ = 3 ∨ κ = 4) (r : Int32) (w' : CW) (hf : f_X3_wear κ x1 w0 = some (r, w')) : MetI l yX3_wear cX3_wear 2 (some .int) 4 83 G (cw G la w0) [.ref (gq G (20 + κ)), .int x1] r (fun _ => cw G la (w')) 0 := by
  intro sz
  refine ent (own := RX3) (As := [.ref (gq G (20 + κ)), .int x1]) (by decide +kernel) rfl (Nat.le_of_ble_eq_true rfl) (fun _ _ h => h.1) ?_
  intro p e s m args below meth c ls B hr hlocks hv hl
  obtain ⟨-, hsz, hP, hKK, hD⟩ := hv
  subst hsz
  have X : CX RX3 cX3_wear 2 G p s m args c := ⟨B, hKK⟩
  obtain ⟨hx, hb, hml, hown, hts⟩ := id B
  have hA : ∀ q : Nat, s.heap.size ≤ q → va_A (cw G la w0) s.heap.size q := fun q z => Or.inr z
  have h : CH G (cw G la w0) (va_A (cw G la w0) s.heap.size) s.heap s.heap [] := ⟨hP, hD.self, va_S.rf⟩
  obtain ⟨w, rfl⟩ : ∃ z, z = w0 := ⟨_, rfl⟩
  have hl : lv_has ls 2 [(0, .ref (gq G (20 + κ))), (1, .int x1)] := hl
  unfold f_X3_wear at hf
  refine lv_aload_n hx hb dX3_wear_0 rfl (lv_at hl 0 rfl) ?_
  refine GB_X3 X h (by omega) k_X3_9 dX3_wear_1 ?_
  refine lv_bipush (v := 6) hx hb dX3_wear_4 (by decide) ?_
  refine lv_iconst (v := 4) hx hb dX3_wear_6 (by decide) ?_
  obtain ⟨y1, ey1, hf⟩ := bnd_some hf
  refine k_X7_begin X h hA ey1 k_X3_25 dX3_wear_7 hl.1 ⟨(Nat.le_of_ble_eq_true rfl), (Nat.le_of_ble_eq_true rfl)⟩ (Nat.le_of_ble_eq_true rfl) ⟨Nat.zero_le _, Nat.zero_le _⟩ (fun H locs h => ?_)
  refine lv_iload_n hx hb dX3_wear_10 rfl (lv_at hl 1 rfl) ?_
  refine lv_aload_n hx hb dX3_wear_11 rfl (lv_at hl 0 rfl) ?_
  obtain ⟨c3, hf⟩ := chk_some hf
  obtain ⟨y2, ey2, hf⟩ := bnd_some hf
  refine kv_speed X h hA c3 ey2 k_X3_31 dX3_wear_12 hl.1 ⟨(Nat.le_of_ble_eq_true rfl), (Nat.le_of_ble_eq_true rfl)⟩ (Nat.le_of_ble_eq_true rfl) ⟨Nat.zero_le _, Nat.zero_le _⟩ (fun H locs h => ?_)
  refine lv_imul hx hb dX3_wear_15 ?_
  exact e0_i (Wf := cw G la) X.1 hr hlocks hf h dX3_wear_16
def fv_fills (κ : Nat) (w : CW) : Option Int32 := if κ = 0 then f_X8_fills 0 w else if κ = 1 then f_X8_fills 1 w else if κ = 2 then f_X3_fills 2 w else if κ = 3 then f_X3_fills 3 w else f_X8_fills 4 w
theorem vw_fills_0 : Cond.sameMethod "WashHouse$Machine" "WashHouse$Machine" "fills" "()Z" ∈ lw_good ∧ Cond.instanceMethod ⟨"WashHouse$Machine", "fills", "()Z"⟩ ∈ lw_good ∧ Cond.selects RX8 ⟨"WashHouse$Machine", "fills", "()Z"⟩ yX8_fills ∈ lw_good ∧ Cond.instanceMethod yX8_fills ∈ lw_good ∧ Cond.initialized yX8_fills.cls ∈ lw_good ∧ Cond.code yX8_fills cX8_fills 1 (some .boolean) ∈ lw_good := by decide +kernel
theorem vb_fills : Cond.code ⟨"WashHouse$Machine", "fills", "()Z"⟩ cX3_fills 1 (some .boolean) ∈ lw_good := by decide +kernel
theorem vw_fills_1 : Cond.sameMethod "WashHouse$Machine" "WashHouse$Machine" "fills" "()Z" ∈ lw_good ∧ Cond.instanceMethod ⟨"WashHouse$Machine", "fills", "()Z"⟩ ∈ lw_good ∧ Cond.selects RX5 ⟨"WashHouse$Machine", "fills", "()Z"⟩ yX8_fills ∈ lw_good ∧ Cond.instanceMethod yX8_fills ∈ lw_good ∧ Cond.initialized yX8_fills.cls ∈ lw_good ∧ Cond.code yX8_fills cX8_fills 1 (some .boolean) ∈ lw_good := by decide +kernel
theorem vw_fills_2 : Cond.sameMethod "WashHouse$Machine" "WashHouse$Machine" "fills" "()Z" ∈ lw_good ∧ Cond.selects RX2 ⟨"WashHouse$Machine", "fills", "()Z"⟩ yX3_fills ∈ lw_good ∧ Cond.instanceMethod yX3_fills ∈ lw_good ∧ Cond.initialized yX3_fills.cls ∈ lw_good ∧ Cond.code yX3_fills cX3_fills 1 (some .boolean) ∈ lw_good := by decide +kernel
theorem vw_fills_3 : Cond.sameMethod "WashHouse$Machine" "WashHouse$Machine" "fills" "()Z" ∈ lw_good ∧ Cond.selects RX4 ⟨"WashHouse$Machine", "fills", "()Z"⟩ yX3_fills ∈ lw_good ∧ Cond.instanceMethod yX3_fills ∈ lw_good ∧ Cond.initialized yX3_fills.cls ∈ lw_good ∧ Cond.code yX3_fills cX3_fills 1 (some .boolean) ∈ lw_good := by decide +kernel
theorem vw_fills_4 : Cond.sameMethod "WashHouse$Machine" "WashHouse$Machine" "fills" "()Z" ∈ lw_good ∧ Cond.instanceMethod ⟨"WashHouse$Machine", "fills", "()Z"⟩ ∈ lw_good ∧ Cond.selects RX0 ⟨"WashHouse$Machine", "fills", "()Z"⟩ yX8_fills ∈ lw_good ∧ Cond.instanceMethod yX8_fills ∈ lw_good ∧ Cond.initialized yX8_fills.cls ∈ lw_good ∧ Cond.code yX8_fills cX8_fills 1 (some .boolean) ∈ lw_good := by decide +kernel
theorem kv_fills {p : Program} {l : Launch} {e : Env} {R : Room} {s : State} {m : MethodId} {args : Array Value} {below : List Frame} {meth : Method} {c : Code} {H : Heap} {locs : List Loc} {cells slots : Nat} {Q : State → Prop} {cc : ByteArray} {nL pc idx : Nat} {ls : Array Slot} {rest : List Value} {own : String} {G : Gm} {A : Nat → Prop} {H0 : Heap} {la : Nat} {w : CW} {κ : Nat} {r : Int32} (X : CX own cc nL G p s m args c) (h : CH G (cw G la w) A H0 H locs) (hκ : κ < 5) (hf : fv_fills κ w = some r) (hlk : Cond.methodLink own idx ⟨"WashHouse$Machine", "fills", "()Z"⟩ ∈ lw_good) (hd : decode cc pc = .ok (.invokevirtual idx, 3)) (hsz : ls.size = nL) (hR : 1 ≤ R.frames ∧ 20 ≤ R.locals) (hrest : (rest.map fun v => v.category).sum ≤ 8) (hk : cells ≤ R.cells ∧ slots ≤ R.slots) (k : W p l e R s m args below meth c H locs cells slots Q (F0 m (pc + 3) ls (.int r :: rest))) : W p l e R s m args below meth c H locs cells slots Q (F0 m pc ls (.ref (gq G (20 + κ)) :: rest)) := by
  rcases (show κ = 0 ∨ κ = 1 ∨ κ = 2 ∨ κ = 3 ∨ κ = 4 by omega) with rfl | rfl | rfl | rfl | rfl
  · have hf : f_X8_fills 0 w = some r := hf
    exact fin_r (runO (C := RX8) (x := ⟨"WashHouse$Machine", "fills", "()Z"⟩) (owner := "WashHouse$Machine") (As := []) X.1 0 (t_X8_fills l G la w 0 (by decide) r hf) rfl rfl hlk vw_fills_0 vb_fills (by decide +kernel) ⟨Nat.le_trans (Nat.le_of_ble_eq_true rfl) hR.1, Nat.le_trans (Nat.le_of_ble_eq_true rfl) hR.2⟩ ⟨blindR, va_recv X.2.1 h.1 (ci := 7) (q0 := 20) rfl rfl, preR X.2 h⟩ rfl hsz hrest hd hk) k
  · have hf : f_X8_fills 1 w = some r := hf
    exact fin_r (runO (C := RX5) (x := ⟨"WashHouse$Machine", "fills", "()Z"⟩) (owner := "WashHouse$Machine") (As := []) X.1 0 (t_X8_fills l G la w 1 (by decide) r hf) rfl rfl hlk vw_fills_1 vb_fills (by decide +kernel) ⟨Nat.le_trans (Nat.le_of_ble_eq_true rfl) hR.1, Nat.le_trans (Nat.le_of_ble_eq_true rfl) hR.2⟩ ⟨blindR, va_recv X.2.1 h.1 (ci := 4) (q0 := 21) rfl rfl, preR X.2 h⟩ rfl hsz hrest hd hk) k
  · have hf : f_X3_fills 2 w = some r := hf
    exact fin_r (runU (C := RX2) (x := ⟨"WashHouse$Machine", "fills", "()Z"⟩) (owner := "WashHouse$Machine") (As := []) X.1 0 (t_X3_fills l G la w 2 (by decide) r hf) rfl rfl hlk vw_fills_2 rfl (by decide +kernel) ⟨Nat.le_trans (Nat.le_of_ble_eq_true rfl) hR.1, Nat.le_trans (Nat.le_of_ble_eq_true rfl) hR.2⟩ ⟨blindR, va_recv X.2.1 h.1 (ci := 2) (q0 := 22) rfl rfl, preR X.2 h⟩ rfl hsz hrest hd hk) k
  · have hf : f_X3_fills 3 w = some r := hf
    exact fin_r (runU (C := RX4) (x := ⟨"WashHouse$Machine", "fills", "()Z"⟩) (owner := "WashHouse$Machine") (As := []) X.1 0 (t_X3_fills l G la w 3 (by decide) r hf) rfl rfl hlk vw_fills_3 rfl (by decide +kernel) ⟨Nat.le_trans (Nat.le_of_ble_eq_true rfl) hR.1, Nat.le_trans (Nat.le_of_ble_eq_true rfl) hR.2⟩ ⟨blindR, va_recv X.2.1 h.1 (ci := 3) (q0 := 23) rfl rfl, preR X.2 h⟩ rfl hsz hrest hd hk) k
  · have hf : f_X8_fills 4 w = some r := hf
    exact fin_r (runO (C := RX0) (x := ⟨"WashHouse$Machine", "fills", "()Z"⟩) (owner := "WashHouse$Machine") (As := []) X.1 0 (t_X8_fills l G la w 4 (by decide) r hf) rfl rfl hlk vw_fills_4 vb_fills (by decide +kernel) ⟨Nat.le_trans (Nat.le_of_ble_eq_true rfl) hR.1, Nat.le_trans (Nat.le_of_ble_eq_true rfl) hR.2⟩ ⟨blindR, va_recv X.2.1 h.1 (ci := 0) (q0 := 24) rfl rfl, preR X.2 h⟩ rfl hsz hrest hd hk) k
def fv_turns (κ : Nat) (w : CW) : Option Int32 := if κ = 0 then f_X8_turns 0 w else if κ = 1 then f_X8_turns 1 w else if κ = 2 then f_X2_turns 2 w else if κ = 3 then f_X4_turns 3 w else f_X8_turns 4 w
theorem vw_turns_0 : Cond.sameMethod "WashHouse$Machine" "WashHouse$Machine" "turns" "()Z" ∈ lw_good ∧ Cond.instanceMethod ⟨"WashHouse$Machine", "turns", "()Z"⟩ ∈ lw_good ∧ Cond.selects RX8 ⟨"WashHouse$Machine", "turns", "()Z"⟩ yX8_turns ∈ lw_good ∧ Cond.instanceMethod yX8_turns ∈ lw_good ∧ Cond.initialized yX8_turns.cls ∈ lw_good ∧ Cond.code yX8_turns cX8_turns 1 (some .boolean) ∈ lw_good := by decide +kernel
theorem vb_turns : Cond.code ⟨"WashHouse$Machine", "turns", "()Z"⟩ cX3_turns 1 (some .boolean) ∈ lw_good := by decide +kernel
theorem vw_turns_1 : Cond.sameMethod "WashHouse$Machine" "WashHouse$Machine" "turns" "()Z" ∈ lw_good ∧ Cond.instanceMethod ⟨"WashHouse$Machine", "turns", "()Z"⟩ ∈ lw_good ∧ Cond.selects RX5 ⟨"WashHouse$Machine", "turns", "()Z"⟩ yX8_turns ∈ lw_good ∧ Cond.instanceMethod yX8_turns ∈ lw_good ∧ Cond.initialized yX8_turns.cls ∈ lw_good ∧ Cond.code yX8_turns cX8_turns 1 (some .boolean) ∈ lw_good := by decide +kernel
theorem vw_turns_2 : Cond.sameMethod "WashHouse$Machine" "WashHouse$Machine" "turns" "()Z" ∈ lw_good ∧ Cond.instanceMethod ⟨"WashHouse$Machine", "turns", "()Z"⟩ ∈ lw_good ∧ Cond.selects RX2 ⟨"WashHouse$Machine", "turns", "()Z"⟩ yX2_turns ∈ lw_good ∧ Cond.instanceMethod yX2_turns ∈ lw_good ∧ Cond.initialized yX2_turns.cls ∈ lw_good ∧ Cond.code yX2_turns cX2_turns 1 (some .boolean) ∈ lw_good := by decide +kernel
theorem vw_turns_3 : Cond.sameMethod "WashHouse$Machine" "WashHouse$Machine" "turns" "()Z" ∈ lw_good ∧ Cond.instanceMethod ⟨"WashHouse$Machine", "turns", "()Z"⟩ ∈ lw_good ∧ Cond.selects RX4 ⟨"WashHouse$Machine", "turns", "()Z"⟩ yX4_turns ∈ lw_good ∧ Cond.instanceMethod yX4_turns ∈ lw_good ∧ Cond.initialized yX4_turns.cls ∈ lw_good ∧ Cond.code yX4_turns cX4_turns 1 (some .boolean) ∈ lw_good := by decide +kernel
theorem vw_turns_4 : Cond.sameMethod "WashHouse$Machine" "WashHouse$Machine" "turns" "()Z" ∈ lw_good ∧ Cond.instanceMethod ⟨"WashHouse$Machine", "turns", "()Z"⟩ ∈ lw_good ∧ Cond.selects RX0 ⟨"WashHouse$Machine", "turns", "()Z"⟩ yX8_turns ∈ lw_good ∧ Cond.instanceMethod yX8_turns ∈ lw_good ∧ Cond.initialized yX8_turns.cls ∈ lw_good ∧ Cond.code yX8_turns cX8_turns 1 (some .boolean) ∈ lw_good := by decide +kernel
theorem kv_turns {p : Program} {l : Launch} {e : Env} {R : Room} {s : State} {m : MethodId} {args : Array Value} {below : List Frame} {meth : Method} {c : Code} {H : Heap} {locs : List Loc} {cells slots : Nat} {Q : State → Prop} {cc : ByteArray} {nL pc idx : Nat} {ls : Array Slot} {rest : List Value} {own : String} {G : Gm} {A : Nat → Prop} {H0 : Heap} {la : Nat} {w : CW} {κ : Nat} {r : Int32} (X : CX own cc nL G p s m args c) (h : CH G (cw G la w) A H0 H locs) (hκ : κ < 5) (hf : fv_turns κ w = some r) (hlk : Cond.methodLink own idx ⟨"WashHouse$Machine", "turns", "()Z"⟩ ∈ lw_good) (hd : decode cc pc = .ok (.invokevirtual idx, 3)) (hsz : ls.size = nL) (hR : 1 ≤ R.frames ∧ 20 ≤ R.locals) (hrest : (rest.map fun v => v.category).sum ≤ 8) (hk : cells ≤ R.cells ∧ slots ≤ R.slots) (k : W p l e R s m args below meth c H locs cells slots Q (F0 m (pc + 3) ls (.int r :: rest))) : W p l e R s m args below meth c H locs cells slots Q (F0 m pc ls (.ref (gq G (20 + κ)) :: rest)) := by
  rcases (show κ = 0 ∨ κ = 1 ∨ κ = 2 ∨ κ = 3 ∨ κ = 4 by omega) with rfl | rfl | rfl | rfl | rfl
  · have hf : f_X8_turns 0 w = some r := hf
    exact fin_r (runO (C := RX8) (x := ⟨"WashHouse$Machine", "turns", "()Z"⟩) (owner := "WashHouse$Machine") (As := []) X.1 0 (t_X8_turns l G la w 0 (by decide) r hf) rfl rfl hlk vw_turns_0 vb_turns (by decide +kernel) ⟨Nat.le_trans (Nat.le_of_ble_eq_true rfl) hR.1, Nat.le_trans (Nat.le_of_ble_eq_true rfl) hR.2⟩ ⟨blindR, va_recv X.2.1 h.1 (ci := 7) (q0 := 20) rfl rfl, preR X.2 h⟩ rfl hsz hrest hd hk) k
  · have hf : f_X8_turns 1 w = some r := hf
    exact fin_r (runO (C := RX5) (x := ⟨"WashHouse$Machine", "turns", "()Z"⟩) (owner := "WashHouse$Machine") (As := []) X.1 0 (t_X8_turns l G la w 1 (by decide) r hf) rfl rfl hlk vw_turns_1 vb_turns (by decide +kernel) ⟨Nat.le_trans (Nat.le_of_ble_eq_true rfl) hR.1, Nat.le_trans (Nat.le_of_ble_eq_true rfl) hR.2⟩ ⟨blindR, va_recv X.2.1 h.1 (ci := 4) (q0 := 21) rfl rfl, preR X.2 h⟩ rfl hsz hrest hd hk) k
  · have hf : f_X2_turns 2 w = some r := hf
    exact fin_r (runO (C := RX2) (x := ⟨"WashHouse$Machine", "turns", "()Z"⟩) (owner := "WashHouse$Machine") (As := []) X.1 0 (t_X2_turns l G la w 2 (by decide) r hf) rfl rfl hlk vw_turns_2 vb_turns (by decide +kernel) ⟨Nat.le_trans (Nat.le_of_ble_eq_true rfl) hR.1, Nat.le_trans (Nat.le_of_ble_eq_true rfl) hR.2⟩ ⟨blindR, va_recv X.2.1 h.1 (ci := 2) (q0 := 22) rfl rfl, preR X.2 h⟩ rfl hsz hrest hd hk) k
  · have hf : f_X4_turns 3 w = some r := hf
    exact fin_r (runO (C := RX4) (x := ⟨"WashHouse$Machine", "turns", "()Z"⟩) (owner := "WashHouse$Machine") (As := []) X.1 0 (t_X4_turns l G la w 3 (by decide) r hf) rfl rfl hlk vw_turns_3 vb_turns (by decide +kernel) ⟨Nat.le_trans (Nat.le_of_ble_eq_true rfl) hR.1, Nat.le_trans (Nat.le_of_ble_eq_true rfl) hR.2⟩ ⟨blindR, va_recv X.2.1 h.1 (ci := 3) (q0 := 23) rfl rfl, preR X.2 h⟩ rfl hsz hrest hd hk) k
  · have hf : f_X8_turns 4 w = some r := hf
    exact fin_r (runO (C := RX0) (x := ⟨"WashHouse$Machine", "turns", "()Z"⟩) (owner := "WashHouse$Machine") (As := []) X.1 0 (t_X8_turns l G la w 4 (by decide) r hf) rfl rfl hlk vw_turns_4 vb_turns (by decide +kernel) ⟨Nat.le_trans (Nat.le_of_ble_eq_true rfl) hR.1, Nat.le_trans (Nat.le_of_ble_eq_true rfl) hR.2⟩ ⟨blindR, va_recv X.2.1 h.1 (ci := 0) (q0 := 24) rfl rfl, preR X.2 h⟩ rfl hsz hrest hd hk) k
def fv_warms (κ : Nat) (w : CW) : Option Int32 := if κ = 0 then f_X3_warms 0 w else if κ = 1 then f_X3_warms 1 w else if κ = 2 then f_X2_warms 2 w else if κ = 3 then f_X2_warms 3 w else f_X3_warms 4 w
theorem vw_warms_0 : Cond.sameMethod "WashHouse$Machine" "WashHouse$Machine" "warms" "()Z" ∈ lw_good ∧ Cond.selects RX8 ⟨"WashHouse$Machine", "warms", "()Z"⟩ yX3_warms ∈ lw_good ∧ Cond.instanceMethod yX3_warms ∈ lw_good ∧ Cond.initialized yX3_warms.cls ∈ lw_good ∧ Cond.code yX3_warms cX3_warms 1 (some .boolean) ∈ lw_good := by decide +kernel
theorem vw_warms_1 : Cond.sameMethod "WashHouse$Machine" "WashHouse$Machine" "warms" "()Z" ∈ lw_good ∧ Cond.selects RX5 ⟨"WashHouse$Machine", "warms", "()Z"⟩ yX3_warms ∈ lw_good ∧ Cond.instanceMethod yX3_warms ∈ lw_good ∧ Cond.initialized yX3_warms.cls ∈ lw_good ∧ Cond.code yX3_warms cX3_warms 1 (some .boolean) ∈ lw_good := by decide +kernel
theorem vw_warms_2 : Cond.sameMethod "WashHouse$Machine" "WashHouse$Machine" "warms" "()Z" ∈ lw_good ∧ Cond.instanceMethod ⟨"WashHouse$Machine", "warms", "()Z"⟩ ∈ lw_good ∧ Cond.selects RX2 ⟨"WashHouse$Machine", "warms", "()Z"⟩ yX2_warms ∈ lw_good ∧ Cond.instanceMethod yX2_warms ∈ lw_good ∧ Cond.initialized yX2_warms.cls ∈ lw_good ∧ Cond.code yX2_warms cX2_warms 1 (some .boolean) ∈ lw_good := by decide +kernel
theorem vb_warms : Cond.code ⟨"WashHouse$Machine", "warms", "()Z"⟩ cX3_warms 1 (some .boolean) ∈ lw_good := by decide +kernel
theorem vw_warms_3 : Cond.sameMethod "WashHouse$Machine" "WashHouse$Machine" "warms" "()Z" ∈ lw_good ∧ Cond.instanceMethod ⟨"WashHouse$Machine", "warms", "()Z"⟩ ∈ lw_good ∧ Cond.selects RX4 ⟨"WashHouse$Machine", "warms", "()Z"⟩ yX2_warms ∈ lw_good ∧ Cond.instanceMethod yX2_warms ∈ lw_good ∧ Cond.initialized yX2_warms.cls ∈ lw_good ∧ Cond.code yX2_warms cX2_warms 1 (some .boolean) ∈ lw_good := by decide +kernel
theorem vw_warms_4 : Cond.sameMethod "WashHouse$Machine" "WashHouse$Machine" "warms" "()Z" ∈ lw_good ∧ Cond.selects RX0 ⟨"WashHouse$Machine", "warms", "()Z"⟩ yX3_warms ∈ lw_good ∧ Cond.instanceMethod yX3_warms ∈ lw_good ∧ Cond.initialized yX3_warms.cls ∈ lw_good ∧ Cond.code yX3_warms cX3_warms 1 (some .boolean) ∈ lw_good := by decide +kernel
theorem kv_warms {p : Program} {l : Launch} {e : Env} {R : Room} {s : State} {m : MethodId} {args : Array Value} {below : List Frame} {meth : Method} {c : Code} {H : Heap} {locs : List Loc} {cells slots : Nat} {Q : State → Prop} {cc : ByteArray} {nL pc idx : Nat} {ls : Array Slot} {rest : List Value} {own : String} {G : Gm} {A : Nat → Prop} {H0 : Heap} {la : Nat} {w : CW} {κ : Nat} {r : Int32} (X : CX own cc nL G p s m args c) (h : CH G (cw G la w) A H0 H locs) (hκ : κ < 5) (hf : fv_warms κ w = some r) (hlk : Cond.methodLink own idx ⟨"WashHouse$Machine", "warms", "()Z"⟩ ∈ lw_good) (hd : decode cc pc = .ok (.invokevirtual idx, 3)) (hsz : ls.size = nL) (hR : 1 ≤ R.frames ∧ 20 ≤ R.locals) (hrest : (rest.map fun v => v.category).sum ≤ 8) (hk : cells ≤ R.cells ∧ slots ≤ R.slots) (k : W p l e R s m args below meth c H locs cells slots Q (F0 m (pc + 3) ls (.int r :: rest))) : W p l e R s m args below meth c H locs cells slots Q (F0 m pc ls (.ref (gq G (20 + κ)) :: rest)) := by
  rcases (show κ = 0 ∨ κ = 1 ∨ κ = 2 ∨ κ = 3 ∨ κ = 4 by omega) with rfl | rfl | rfl | rfl | rfl
  · have hf : f_X3_warms 0 w = some r := hf
    exact fin_r (runU (C := RX8) (x := ⟨"WashHouse$Machine", "warms", "()Z"⟩) (owner := "WashHouse$Machine") (As := []) X.1 0 (t_X3_warms l G la w 0 (by decide) r hf) rfl rfl hlk vw_warms_0 rfl (by decide +kernel) ⟨Nat.le_trans (Nat.le_of_ble_eq_true rfl) hR.1, Nat.le_trans (Nat.le_of_ble_eq_true rfl) hR.2⟩ ⟨blindR, va_recv X.2.1 h.1 (ci := 7) (q0 := 20) rfl rfl, preR X.2 h⟩ rfl hsz hrest hd hk) k
  · have hf : f_X3_warms 1 w = some r := hf
    exact fin_r (runU (C := RX5) (x := ⟨"WashHouse$Machine", "warms", "()Z"⟩) (owner := "WashHouse$Machine") (As := []) X.1 0 (t_X3_warms l G la w 1 (by decide) r hf) rfl rfl hlk vw_warms_1 rfl (by decide +kernel) ⟨Nat.le_trans (Nat.le_of_ble_eq_true rfl) hR.1, Nat.le_trans (Nat.le_of_ble_eq_true rfl) hR.2⟩ ⟨blindR, va_recv X.2.1 h.1 (ci := 4) (q0 := 21) rfl rfl, preR X.2 h⟩ rfl hsz hrest hd hk) k
  · have hf : f_X2_warms 2 w = some r := hf
    exact fin_r (runO (C := RX2) (x := ⟨"WashHouse$Machine", "warms", "()Z"⟩) (owner := "WashHouse$Machine") (As := []) X.1 0 (t_X2_warms l G la w 2 (by decide) r hf) rfl rfl hlk vw_warms_2 vb_warms (by decide +kernel) ⟨Nat.le_trans (Nat.le_of_ble_eq_true rfl) hR.1, Nat.le_trans (Nat.le_of_ble_eq_true rfl) hR.2⟩ ⟨blindR, va_recv X.2.1 h.1 (ci := 2) (q0 := 22) rfl rfl, preR X.2 h⟩ rfl hsz hrest hd hk) k
  · have hf : f_X2_warms 3 w = some r := hf
    exact fin_r (runO (C := RX4) (x := ⟨"WashHouse$Machine", "warms", "()Z"⟩) (owner := "WashHouse$Machine") (As := []) X.1 0 (t_X2_warms l G la w 3 (by decide) r hf) rfl rfl hlk vw_warms_3 vb_warms (by decide +kernel) ⟨Nat.le_trans (Nat.le_of_ble_eq_true rfl) hR.1, Nat.le_trans (Nat.le_of_ble_eq_true rfl) hR.2⟩ ⟨blindR, va_recv X.2.1 h.1 (ci := 3) (q0 := 23) rfl rfl, preR X.2 h⟩ rfl hsz hrest hd hk) k
  · have hf : f_X3_warms 4 w = some r := hf
    exact fin_r (runU (C := RX0) (x := ⟨"WashHouse$Machine", "warms", "()Z"⟩) (owner := "WashHouse$Machine") (As := []) X.1 0 (t_X3_warms l G la w 4 (by decide) r hf) rfl rfl hlk vw_warms_4 rfl (by decide +kernel) ⟨Nat.le_trans (Nat.le_of_ble_eq_true rfl) hR.1, Nat.le_trans (Nat.le_of_ble_eq_true rfl) hR.2⟩ ⟨blindR, va_recv X.2.1 h.1 (ci := 0) (q0 := 24) rfl rfl, preR X.2 h⟩ rfl hsz hrest hd hk) k
def f_X3_canDo (κ : Nat) (x1 : Int32) (w : CW) : Option Int32 :=
 if x1 = (0 : Int32) then
 (chk (κ < 5) (
 (fv_fills κ w).bind fun y2 =>
 chk (y2 = 0 ∨ y2 = 1) (
 some y2)))
 else
 (if x1 = (1 : Int32) then
 (chk (κ < 5) (
 (fv_turns κ w).bind fun y6 =>
 chk (y6 = 0 ∨ y6 = 1) (
 some y6)))
 else
 (if x1 = (2 : Int32) then
 (chk (κ < 5) (
 (fv_warms κ w).bind fun y10 =>
 chk (y10 = 0 ∨ y10 = 1) (
 some y10)))
 else
 (if x1 = (3 : Int32) then
 (chk (κ < 5) (
 (fv_fills κ w).bind fun y14 =>
 chk (y14 = 0 ∨ y14 = 1) (
 some y14)))
 else
 (some ((1 : Int32))))))
set_option maxHeartbeats 4000000 in
set_option maxRecDepth 100000 in
theorem t_X3_canDo (l : Launch) (G : Gm) (la : Nat) (w : CW) (κ : Nat) (x1 : Int32) (hκ : κ = 0 ∨ κ = 1 ∨ κ = 2 ∨ κ = 3 ∨ κ = 4) (r : Int32) (hf : f_X3_canDo κ x1 w = some r) : MetR l yX3_canDo cX3_canDo 2 (some .boolean) 1 20 G (cw G la w) [.ref (gq G (20 + κ)), .int x1] (.int r) := by
  refine ent (own := RX3) (As := [.ref (gq G (20 + κ)), .int x1]) (by decide +kernel) rfl (Nat.le_of_ble_eq_true rfl) (fun _ _ h => h.1) ?_
  intro p e s m args below meth c ls B hr hlocks hv hl
  obtain ⟨-, hP, hKK, hD⟩ := hv
  have X : CX RX3 cX3_canDo 2 G p s m args c := ⟨B, hKK⟩
  obtain ⟨hx, hb, hml, hown, hts⟩ := id B
  have h : CH G (cw G la w) (fun _ => True) s.heap s.heap [] := ⟨hP, hD, va_S.rf⟩
  have hl : lv_has ls 2 [(0, .ref (gq G (20 + κ))), (1, .int x1)] := hl
  unfold f_X3_canDo at hf
  refine lv_iload_n hx hb dX3_canDo_0 rfl (lv_at hl 1 rfl) ?_
  by_cases c1 : x1 = (0 : Int32)
  · have hf := if_t c1 hf
    refine lv_tableIn (tgt := 32) hx hb dX3_canDo_1 (by rw [c1]; decide) (by rw [c1]; decide) (by rw [c1]; rfl) (by decide) ?_
    refine lv_aload_n hx hb dX3_canDo_32 rfl (lv_at hl 0 rfl) ?_
    obtain ⟨c3, hf⟩ := chk_some hf
    obtain ⟨y2, ey2, hf⟩ := bnd_some hf
    refine kv_fills X h c3 ey2 k_X3_15 dX3_canDo_33 hl.1 ⟨(Nat.le_of_ble_eq_true rfl), (Nat.le_of_ble_eq_true rfl)⟩ (Nat.le_of_ble_eq_true rfl) ⟨Nat.zero_le _, Nat.zero_le _⟩ ?_
    obtain ⟨c4, hf⟩ := chk_some hf
    cases hf
    exact rr_z X.1 hr hlocks c4 dX3_canDo_36
  · have hf := if_f c1 hf
    have nc1 := lv_neT (a := 0) c1 (by decide)
    by_cases c5 : x1 = (1 : Int32)
    · have hf := if_t c5 hf
      refine lv_tableIn (tgt := 37) hx hb dX3_canDo_1 (by rw [c5]; decide) (by rw [c5]; decide) (by rw [c5]; rfl) (by decide) ?_
      refine lv_aload_n hx hb dX3_canDo_37 rfl (lv_at hl 0 rfl) ?_
      obtain ⟨c7, hf⟩ := chk_some hf
      obtain ⟨y6, ey6, hf⟩ := bnd_some hf
      refine kv_turns X h c7 ey6 k_X3_19 dX3_canDo_38 hl.1 ⟨(Nat.le_of_ble_eq_true rfl), (Nat.le_of_ble_eq_true rfl)⟩ (Nat.le_of_ble_eq_true rfl) ⟨Nat.zero_le _, Nat.zero_le _⟩ ?_
      obtain ⟨c8, hf⟩ := chk_some hf
      cases hf
      exact rr_z X.1 hr hlocks c8 dX3_canDo_41
    · have hf := if_f c5 hf
      have nc5 := lv_neT (a := 1) c5 (by decide)
      by_cases c9 : x1 = (2 : Int32)
      · have hf := if_t c9 hf
        refine lv_tableIn (tgt := 42) hx hb dX3_canDo_1 (by rw [c9]; decide) (by rw [c9]; decide) (by rw [c9]; rfl) (by decide) ?_
        refine lv_aload_n hx hb dX3_canDo_42 rfl (lv_at hl 0 rfl) ?_
        obtain ⟨c11, hf⟩ := chk_some hf
        obtain ⟨y10, ey10, hf⟩ := bnd_some hf
        refine kv_warms X h c11 ey10 k_X3_22 dX3_canDo_43 hl.1 ⟨(Nat.le_of_ble_eq_true rfl), (Nat.le_of_ble_eq_true rfl)⟩ (Nat.le_of_ble_eq_true rfl) ⟨Nat.zero_le _, Nat.zero_le _⟩ ?_
        obtain ⟨c12, hf⟩ := chk_some hf
        cases hf
        exact rr_z X.1 hr hlocks c12 dX3_canDo_46
      · have hf := if_f c9 hf
        have nc9 := lv_neT (a := 2) c9 (by decide)
        by_cases c13 : x1 = (3 : Int32)
        · have hf := if_t c13 hf
          refine lv_tableIn (tgt := 32) hx hb dX3_canDo_1 (by rw [c13]; decide) (by rw [c13]; decide) (by rw [c13]; rfl) (by decide) ?_
          refine lv_aload_n hx hb dX3_canDo_32 rfl (lv_at hl 0 rfl) ?_
          obtain ⟨c15, hf⟩ := chk_some hf
          obtain ⟨y14, ey14, hf⟩ := bnd_some hf
          refine kv_fills X h c15 ey14 k_X3_15 dX3_canDo_33 hl.1 ⟨(Nat.le_of_ble_eq_true rfl), (Nat.le_of_ble_eq_true rfl)⟩ (Nat.le_of_ble_eq_true rfl) ⟨Nat.zero_le _, Nat.zero_le _⟩ ?_
          obtain ⟨c16, hf⟩ := chk_some hf
          cases hf
          exact rr_z X.1 hr hlocks c16 dX3_canDo_36
        · have hf := if_f c13 hf
          have nc13 := lv_neT (a := 3) c13 (by decide)
          refine lv_tableOut (tgt := 47) hx hb dX3_canDo_1 (by omega) (by decide) ?_
          refine lv_iconst (v := 1) hx hb dX3_canDo_47 (by decide) ?_
          cases hf
          exact rr_z X.1 hr hlocks (Or.inr rfl) dX3_canDo_48
def f_X3_turns (κ : Nat) (w : CW) : Option Int32 :=
 some ((0 : Int32))
set_option maxHeartbeats 4000000 in
set_option maxRecDepth 100000 in
theorem t_X3_turns (l : Launch) (G : Gm) (la : Nat) (w : CW) (κ : Nat) (hκ : κ = 0 ∨ κ = 1 ∨ κ = 2 ∨ κ = 3 ∨ κ = 4) (r : Int32) (hf : f_X3_turns κ w = some r) : MetR l yX3_turns cX3_turns 1 (some .boolean) 0 0 G (cw G la w) [.ref (gq G (20 + κ))] (.int r) := by
  refine ent (own := RX3) (As := [.ref (gq G (20 + κ))]) (by decide +kernel) rfl (Nat.le_of_ble_eq_true rfl) (fun _ _ h => h.1) ?_
  intro p e s m args below meth c ls B hr hlocks hv hl
  obtain ⟨-, hP, hKK, hD⟩ := hv
  have X : CX RX3 cX3_turns 1 G p s m args c := ⟨B, hKK⟩
  obtain ⟨hx, hb, hml, hown, hts⟩ := id B
  have h : CH G (cw G la w) (fun _ => True) s.heap s.heap [] := ⟨hP, hD, va_S.rf⟩
  have hl : lv_has ls 1 [(0, .ref (gq G (20 + κ)))] := hl
  unfold f_X3_turns at hf
  refine lv_iconst (v := 0) hx hb dX3_turns_0 (by decide) ?_
  cases hf
  exact rr_z X.1 hr hlocks (Or.inl rfl) dX3_turns_1
def fv_canDo (κ : Nat) (x1 : Int32) (w : CW) : Option Int32 := if κ = 0 then f_X3_canDo 0 x1 w else if κ = 1 then f_X3_canDo 1 x1 w else if κ = 2 then f_X3_canDo 2 x1 w else if κ = 3 then f_X3_canDo 3 x1 w else f_X3_canDo 4 x1 w
theorem vw_canDo_0 : Cond.sameMethod "WashHouse$Machine" "WashHouse$Machine" "canDo" "(I)Z" ∈ lw_good ∧ Cond.selects RX8 ⟨"WashHouse$Machine", "canDo", "(I)Z"⟩ yX3_canDo ∈ lw_good ∧ Cond.instanceMethod yX3_canDo ∈ lw_good ∧ Cond.initialized yX3_canDo.cls ∈ lw_good ∧ Cond.code yX3_canDo cX3_canDo 2 (some .boolean) ∈ lw_good := by decide +kernel
theorem vw_canDo_1 : Cond.sameMethod "WashHouse$Machine" "WashHouse$Machine" "canDo" "(I)Z" ∈ lw_good ∧ Cond.selects RX5 ⟨"WashHouse$Machine", "canDo", "(I)Z"⟩ yX3_canDo ∈ lw_good ∧ Cond.instanceMethod yX3_canDo ∈ lw_good ∧ Cond.initialized yX3_canDo.cls ∈ lw_good ∧ Cond.code yX3_canDo cX3_canDo 2 (some .boolean) ∈ lw_good := by decide +kernel
theorem vw_canDo_2 : Cond.sameMethod "WashHouse$Machine" "WashHouse$Machine" "canDo" "(I)Z" ∈ lw_good ∧ Cond.selects RX2 ⟨"WashHouse$Machine", "canDo", "(I)Z"⟩ yX3_canDo ∈ lw_good ∧ Cond.instanceMethod yX3_canDo ∈ lw_good ∧ Cond.initialized yX3_canDo.cls ∈ lw_good ∧ Cond.code yX3_canDo cX3_canDo 2 (some .boolean) ∈ lw_good := by decide +kernel
theorem vw_canDo_3 : Cond.sameMethod "WashHouse$Machine" "WashHouse$Machine" "canDo" "(I)Z" ∈ lw_good ∧ Cond.selects RX4 ⟨"WashHouse$Machine", "canDo", "(I)Z"⟩ yX3_canDo ∈ lw_good ∧ Cond.instanceMethod yX3_canDo ∈ lw_good ∧ Cond.initialized yX3_canDo.cls ∈ lw_good ∧ Cond.code yX3_canDo cX3_canDo 2 (some .boolean) ∈ lw_good := by decide +kernel
theorem vw_canDo_4 : Cond.sameMethod "WashHouse$Machine" "WashHouse$Machine" "canDo" "(I)Z" ∈ lw_good ∧ Cond.selects RX0 ⟨"WashHouse$Machine", "canDo", "(I)Z"⟩ yX3_canDo ∈ lw_good ∧ Cond.instanceMethod yX3_canDo ∈ lw_good ∧ Cond.initialized yX3_canDo.cls ∈ lw_good ∧ Cond.code yX3_canDo cX3_canDo 2 (some .boolean) ∈ lw_good := by decide +kernel
theorem kv_canDo {p : Program} {l : Launch} {e : Env} {R : Room} {s : State} {m : MethodId} {args : Array Value} {below : List Frame} {meth : Method} {c : Code} {H : Heap} {locs : List Loc} {cells slots : Nat} {Q : State → Prop} {cc : ByteArray} {nL pc idx : Nat} {ls : Array Slot} {rest : List Value} {own : String} {G : Gm} {A : Nat → Prop} {H0 : Heap} {la : Nat} {w : CW} {κ : Nat} {x1 : Int32} {r : Int32} (X : CX own cc nL G p s m args c) (h : CH G (cw G la w) A H0 H locs) (hκ : κ < 5) (hf : fv_canDo κ x1 w = some r) (hlk : Cond.methodLink own idx ⟨"WashHouse$Machine", "canDo", "(I)Z"⟩ ∈ lw_good) (hd : decode cc pc = .ok (.invokevirtual idx, 3)) (hsz : ls.size = nL) (hR : 2 ≤ R.frames ∧ 41 ≤ R.locals) (hrest : (rest.map fun v => v.category).sum ≤ 8) (hk : cells ≤ R.cells ∧ slots ≤ R.slots) (k : W p l e R s m args below meth c H locs cells slots Q (F0 m (pc + 3) ls (.int r :: rest))) : W p l e R s m args below meth c H locs cells slots Q (F0 m pc ls (.int x1 :: .ref (gq G (20 + κ)) :: rest)) := by
  rcases (show κ = 0 ∨ κ = 1 ∨ κ = 2 ∨ κ = 3 ∨ κ = 4 by omega) with rfl | rfl | rfl | rfl | rfl
  · have hf : f_X3_canDo 0 x1 w = some r := hf
    exact fin_r (runU (C := RX8) (x := ⟨"WashHouse$Machine", "canDo", "(I)Z"⟩) (owner := "WashHouse$Machine") (As := [.int x1]) X.1 1 (t_X3_canDo l G la w 0 x1 (by decide) r hf) rfl rfl hlk vw_canDo_0 rfl (by decide +kernel) ⟨Nat.le_trans (Nat.le_of_ble_eq_true rfl) hR.1, Nat.le_trans (Nat.le_of_ble_eq_true rfl) hR.2⟩ ⟨blindR, va_recv X.2.1 h.1 (ci := 7) (q0 := 20) rfl rfl, preR X.2 h⟩ rfl hsz hrest hd hk) k
  · have hf : f_X3_canDo 1 x1 w = some r := hf
    exact fin_r (runU (C := RX5) (x := ⟨"WashHouse$Machine", "canDo", "(I)Z"⟩) (owner := "WashHouse$Machine") (As := [.int x1]) X.1 1 (t_X3_canDo l G la w 1 x1 (by decide) r hf) rfl rfl hlk vw_canDo_1 rfl (by decide +kernel) ⟨Nat.le_trans (Nat.le_of_ble_eq_true rfl) hR.1, Nat.le_trans (Nat.le_of_ble_eq_true rfl) hR.2⟩ ⟨blindR, va_recv X.2.1 h.1 (ci := 4) (q0 := 21) rfl rfl, preR X.2 h⟩ rfl hsz hrest hd hk) k
  · have hf : f_X3_canDo 2 x1 w = some r := hf
    exact fin_r (runU (C := RX2) (x := ⟨"WashHouse$Machine", "canDo", "(I)Z"⟩) (owner := "WashHouse$Machine") (As := [.int x1]) X.1 1 (t_X3_canDo l G la w 2 x1 (by decide) r hf) rfl rfl hlk vw_canDo_2 rfl (by decide +kernel) ⟨Nat.le_trans (Nat.le_of_ble_eq_true rfl) hR.1, Nat.le_trans (Nat.le_of_ble_eq_true rfl) hR.2⟩ ⟨blindR, va_recv X.2.1 h.1 (ci := 2) (q0 := 22) rfl rfl, preR X.2 h⟩ rfl hsz hrest hd hk) k
  · have hf : f_X3_canDo 3 x1 w = some r := hf
    exact fin_r (runU (C := RX4) (x := ⟨"WashHouse$Machine", "canDo", "(I)Z"⟩) (owner := "WashHouse$Machine") (As := [.int x1]) X.1 1 (t_X3_canDo l G la w 3 x1 (by decide) r hf) rfl rfl hlk vw_canDo_3 rfl (by decide +kernel) ⟨Nat.le_trans (Nat.le_of_ble_eq_true rfl) hR.1, Nat.le_trans (Nat.le_of_ble_eq_true rfl) hR.2⟩ ⟨blindR, va_recv X.2.1 h.1 (ci := 3) (q0 := 23) rfl rfl, preR X.2 h⟩ rfl hsz hrest hd hk) k
  · have hf : f_X3_canDo 4 x1 w = some r := hf
    exact fin_r (runU (C := RX0) (x := ⟨"WashHouse$Machine", "canDo", "(I)Z"⟩) (owner := "WashHouse$Machine") (As := [.int x1]) X.1 1 (t_X3_canDo l G la w 4 x1 (by decide) r hf) rfl rfl hlk vw_canDo_4 rfl (by decide +kernel) ⟨Nat.le_trans (Nat.le_of_ble_eq_true rfl) hR.1, Nat.le_trans (Nat.le_of_ble_eq_true rfl) hR.2⟩ ⟨blindR, va_recv X.2.1 h.1 (ci := 0) (q0 := 24) rfl rfl, preR X.2 h⟩ rfl hsz hrest hd hk) k
def fv_water (κ : Nat) (x1 : Int32) (x2 : Int32) (w : CW) : Option (Int32 × CW) := if κ = 0 then f_X8_water 0 x1 x2 w else if κ = 1 then f_X8_water 1 x1 x2 w else if κ = 2 then f_X3_water 2 x1 x2 w else if κ = 3 then f_X3_water 3 x1 x2 w else f_X0_water 4 x1 x2 w
theorem vw_water_0 : Cond.sameMethod "WashHouse$Machine" "WashHouse$Machine" "water" "(II)I" ∈ lw_good ∧ Cond.instanceMethod ⟨"WashHouse$Machine", "water", "(II)I"⟩ ∈ lw_good ∧ Cond.selects RX8 ⟨"WashHouse$Machine", "water", "(II)I"⟩ yX8_water ∈ lw_good ∧ Cond.instanceMethod yX8_water ∈ lw_good ∧ Cond.initialized yX8_water.cls ∈ lw_good ∧ Cond.code yX8_water cX8_water 3 (some .int) ∈ lw_good := by decide +kernel
theorem vb_water : Cond.code ⟨"WashHouse$Machine", "water", "(II)I"⟩ cX3_water 3 (some .int) ∈ lw_good := by decide +kernel
theorem vw_water_1 : Cond.sameMethod "WashHouse$Machine" "WashHouse$Machine" "water" "(II)I" ∈ lw_good ∧ Cond.instanceMethod ⟨"WashHouse$Machine", "water", "(II)I"⟩ ∈ lw_good ∧ Cond.selects RX5 ⟨"WashHouse$Machine", "water", "(II)I"⟩ yX8_water ∈ lw_good ∧ Cond.instanceMethod yX8_water ∈ lw_good ∧ Cond.initialized yX8_water.cls ∈ lw_good ∧ Cond.code yX8_water cX8_water 3 (some .int) ∈ lw_good := by decide +kernel
theorem vw_water_2 : Cond.sameMethod "WashHouse$Machine" "WashHouse$Machine" "water" "(II)I" ∈ lw_good ∧ Cond.selects RX2 ⟨"WashHouse$Machine", "water", "(II)I"⟩ yX3_water ∈ lw_good ∧ Cond.instanceMethod yX3_water ∈ lw_good ∧ Cond.initialized yX3_water.cls ∈ lw_good ∧ Cond.code yX3_water cX3_water 3 (some .int) ∈ lw_good := by decide +kernel
theorem vw_water_3 : Cond.sameMethod "WashHouse$Machine" "WashHouse$Machine" "water" "(II)I" ∈ lw_good ∧ Cond.selects RX4 ⟨"WashHouse$Machine", "water", "(II)I"⟩ yX3_water ∈ lw_good ∧ Cond.instanceMethod yX3_water ∈ lw_good ∧ Cond.initialized yX3_water.cls ∈ lw_good ∧ Cond.code yX3_water cX3_water 3 (some .int) ∈ lw_good := by decide +kernel
theorem vw_water_4 : Cond.sameMethod "WashHouse$Machine" "WashHouse$Machine" "water" "(II)I" ∈ lw_good ∧ Cond.instanceMethod ⟨"WashHouse$Machine", "water", "(II)I"⟩ ∈ lw_good ∧ Cond.selects RX0 ⟨"WashHouse$Machine", "water", "(II)I"⟩ yX0_water ∈ lw_good ∧ Cond.instanceMethod yX0_water ∈ lw_good ∧ Cond.initialized yX0_water.cls ∈ lw_good ∧ Cond.code yX0_water cX0_water 3 (some .int) ∈ lw_good := by decide +kernel
theorem kv_water {p : Program} {l : Launch} {e : Env} {R : Room} {s : State} {m : MethodId} {args : Array Value} {below : List Frame} {meth : Method} {c : Code} {H : Heap} {locs : List Loc} {cells slots : Nat} {Q : State → Prop} {cc : ByteArray} {nL pc idx : Nat} {ls : Array Slot} {rest : List Value} {own : String} {G : Gm} {A : Nat → Prop} {H0 : Heap} {la : Nat} {w : CW} {κ : Nat} {x1 : Int32} {x2 : Int32} {y : Int32 × CW} (X : CX own cc nL G p s m args c) (h : CH G (cw G la w) A H0 H locs) (hA : ∀ q, H0.size ≤ q → A q) (hκ : κ < 5) (hf : fv_water κ x1 x2 w = some y) (hlk : Cond.methodLink own idx ⟨"WashHouse$Machine", "water", "(II)I"⟩ ∈ lw_good) (hd : decode cc pc = .ok (.invokevirtual idx, 3)) (hsz : ls.size = nL) (hR : 5 ≤ R.frames ∧ 109 ≤ R.locals) (hrest : (rest.map fun v => v.category).sum ≤ 8) (hk : cells ≤ R.cells ∧ slots ≤ R.slots) (k : ∀ (H : Heap) (locs : List Loc), CH G (cw G la y.2) A H0 H locs → W p l e R s m args below meth c H locs cells slots Q (F0 m (pc + 3) ls (.int y.1 :: rest))) : W p l e R s m args below meth c H locs cells slots Q (F0 m pc ls (.int x2 :: .int x1 :: .ref (gq G (20 + κ)) :: rest)) := by
  rcases (show κ = 0 ∨ κ = 1 ∨ κ = 2 ∨ κ = 3 ∨ κ = 4 by omega) with rfl | rfl | rfl | rfl | rfl
  · have hf : f_X8_water 0 x1 x2 w = some y := hf
    exact fin_i (n := 0) (runO (C := RX8) (x := ⟨"WashHouse$Machine", "water", "(II)I"⟩) (owner := "WashHouse$Machine") (As := [.int x1, .int x2]) X.1 2 (t_X8_water l G la w 0 x1 x2 (by decide) y.1 y.2 hf _) rfl rfl hlk vw_water_0 vb_water (by decide +kernel) ⟨Nat.le_trans (Nat.le_of_ble_eq_true rfl) hR.1, Nat.le_trans (Nat.le_of_ble_eq_true rfl) hR.2⟩ ⟨blindM, va_recv X.2.1 h.1 (ci := 7) (q0 := 20) rfl rfl, preM X.2 h⟩ rfl hsz hrest hd hk) h hA (fun _ H locs h => k H locs h)
  · have hf : f_X8_water 1 x1 x2 w = some y := hf
    exact fin_i (n := 0) (runO (C := RX5) (x := ⟨"WashHouse$Machine", "water", "(II)I"⟩) (owner := "WashHouse$Machine") (As := [.int x1, .int x2]) X.1 2 (t_X8_water l G la w 1 x1 x2 (by decide) y.1 y.2 hf _) rfl rfl hlk vw_water_1 vb_water (by decide +kernel) ⟨Nat.le_trans (Nat.le_of_ble_eq_true rfl) hR.1, Nat.le_trans (Nat.le_of_ble_eq_true rfl) hR.2⟩ ⟨blindM, va_recv X.2.1 h.1 (ci := 4) (q0 := 21) rfl rfl, preM X.2 h⟩ rfl hsz hrest hd hk) h hA (fun _ H locs h => k H locs h)
  · have hf : f_X3_water 2 x1 x2 w = some y := hf
    exact fin_i (n := 0) (runU (C := RX2) (x := ⟨"WashHouse$Machine", "water", "(II)I"⟩) (owner := "WashHouse$Machine") (As := [.int x1, .int x2]) X.1 2 (t_X3_water l G la w 2 x1 x2 (by decide) y.1 y.2 hf _) rfl rfl hlk vw_water_2 rfl (by decide +kernel) ⟨Nat.le_trans (Nat.le_of_ble_eq_true rfl) hR.1, Nat.le_trans (Nat.le_of_ble_eq_true rfl) hR.2⟩ ⟨blindM, va_recv X.2.1 h.1 (ci := 2) (q0 := 22) rfl rfl, preM X.2 h⟩ rfl hsz hrest hd hk) h hA (fun _ H locs h => k H locs h)
  · have hf : f_X3_water 3 x1 x2 w = some y := hf
    exact fin_i (n := 0) (runU (C := RX4) (x := ⟨"WashHouse$Machine", "water", "(II)I"⟩) (owner := "WashHouse$Machine") (As := [.int x1, .int x2]) X.1 2 (t_X3_water l G la w 3 x1 x2 (by decide) y.1 y.2 hf _) rfl rfl hlk vw_water_3 rfl (by decide +kernel) ⟨Nat.le_trans (Nat.le_of_ble_eq_true rfl) hR.1, Nat.le_trans (Nat.le_of_ble_eq_true rfl) hR.2⟩ ⟨blindM, va_recv X.2.1 h.1 (ci := 3) (q0 := 23) rfl rfl, preM X.2 h⟩ rfl hsz hrest hd hk) h hA (fun _ H locs h => k H locs h)
  · have hf : f_X0_water 4 x1 x2 w = some y := hf
    exact fin_i (n := 0) (runO (C := RX0) (x := ⟨"WashHouse$Machine", "water", "(II)I"⟩) (owner := "WashHouse$Machine") (As := [.int x1, .int x2]) X.1 2 (t_X0_water l G la w 4 x1 x2 (by decide) y.1 y.2 hf _) rfl rfl hlk vw_water_4 vb_water (by decide +kernel) ⟨Nat.le_trans (Nat.le_of_ble_eq_true rfl) hR.1, Nat.le_trans (Nat.le_of_ble_eq_true rfl) hR.2⟩ ⟨blindM, va_recv X.2.1 h.1 (ci := 0) (q0 := 24) rfl rfl, preM X.2 h⟩ rfl hsz hrest hd hk) h hA (fun _ H locs h => k H locs h)
def fv_heat (κ : Nat) (x1 : Int32) (x2 : Int32) (w : CW) : Option (Int32 × CW) := if κ = 0 then f_X8_heat 0 x1 x2 w else if κ = 1 then f_X5_heat 1 x1 x2 w else if κ = 2 then f_X2_heat 2 x1 x2 w else if κ = 3 then f_X4_heat 3 x1 x2 w else f_X0_heat 4 x1 x2 w
theorem vw_heat_0 : Cond.sameMethod "WashHouse$Machine" "WashHouse$Machine" "heat" "(II)I" ∈ lw_good ∧ Cond.instanceMethod ⟨"WashHouse$Machine", "heat", "(II)I"⟩ ∈ lw_good ∧ Cond.selects RX8 ⟨"WashHouse$Machine", "heat", "(II)I"⟩ yX8_heat ∈ lw_good ∧ Cond.instanceMethod yX8_heat ∈ lw_good ∧ Cond.initialized yX8_heat.cls ∈ lw_good ∧ Cond.code yX8_heat cX8_heat 3 (some .int) ∈ lw_good := by decide +kernel
theorem vb_heat : Cond.code ⟨"WashHouse$Machine", "heat", "(II)I"⟩ cX3_heat 3 (some .int) ∈ lw_good := by decide +kernel
theorem vw_heat_1 : Cond.sameMethod "WashHouse$Machine" "WashHouse$Machine" "heat" "(II)I" ∈ lw_good ∧ Cond.instanceMethod ⟨"WashHouse$Machine", "heat", "(II)I"⟩ ∈ lw_good ∧ Cond.selects RX5 ⟨"WashHouse$Machine", "heat", "(II)I"⟩ yX5_heat ∈ lw_good ∧ Cond.instanceMethod yX5_heat ∈ lw_good ∧ Cond.initialized yX5_heat.cls ∈ lw_good ∧ Cond.code yX5_heat cX5_heat 3 (some .int) ∈ lw_good := by decide +kernel
theorem vw_heat_2 : Cond.sameMethod "WashHouse$Machine" "WashHouse$Machine" "heat" "(II)I" ∈ lw_good ∧ Cond.instanceMethod ⟨"WashHouse$Machine", "heat", "(II)I"⟩ ∈ lw_good ∧ Cond.selects RX2 ⟨"WashHouse$Machine", "heat", "(II)I"⟩ yX2_heat ∈ lw_good ∧ Cond.instanceMethod yX2_heat ∈ lw_good ∧ Cond.initialized yX2_heat.cls ∈ lw_good ∧ Cond.code yX2_heat cX2_heat 3 (some .int) ∈ lw_good := by decide +kernel
theorem vw_heat_3 : Cond.sameMethod "WashHouse$Machine" "WashHouse$Machine" "heat" "(II)I" ∈ lw_good ∧ Cond.instanceMethod ⟨"WashHouse$Machine", "heat", "(II)I"⟩ ∈ lw_good ∧ Cond.selects RX4 ⟨"WashHouse$Machine", "heat", "(II)I"⟩ yX4_heat ∈ lw_good ∧ Cond.instanceMethod yX4_heat ∈ lw_good ∧ Cond.initialized yX4_heat.cls ∈ lw_good ∧ Cond.code yX4_heat cX4_heat 3 (some .int) ∈ lw_good := by decide +kernel
theorem vw_heat_4 : Cond.sameMethod "WashHouse$Machine" "WashHouse$Machine" "heat" "(II)I" ∈ lw_good ∧ Cond.instanceMethod ⟨"WashHouse$Machine", "heat", "(II)I"⟩ ∈ lw_good ∧ Cond.selects RX0 ⟨"WashHouse$Machine", "heat", "(II)I"⟩ yX0_heat ∈ lw_good ∧ Cond.instanceMethod yX0_heat ∈ lw_good ∧ Cond.initialized yX0_heat.cls ∈ lw_good ∧ Cond.code yX0_heat cX0_heat 3 (some .int) ∈ lw_good := by decide +kernel
theorem kv_heat {p : Program} {l : Launch} {e : Env} {R : Room} {s : State} {m : MethodId} {args : Array Value} {below : List Frame} {meth : Method} {c : Code} {H : Heap} {locs : List Loc} {cells slots : Nat} {Q : State → Prop} {cc : ByteArray} {nL pc idx : Nat} {ls : Array Slot} {rest : List Value} {own : String} {G : Gm} {A : Nat → Prop} {H0 : Heap} {la : Nat} {w : CW} {κ : Nat} {x1 : Int32} {x2 : Int32} {y : Int32 × CW} (X : CX own cc nL G p s m args c) (h : CH G (cw G la w) A H0 H locs) (hA : ∀ q, H0.size ≤ q → A q) (hκ : κ < 5) (hf : fv_heat κ x1 x2 w = some y) (hlk : Cond.methodLink own idx ⟨"WashHouse$Machine", "heat", "(II)I"⟩ ∈ lw_good) (hd : decode cc pc = .ok (.invokevirtual idx, 3)) (hsz : ls.size = nL) (hR : 5 ≤ R.frames ∧ 109 ≤ R.locals) (hrest : (rest.map fun v => v.category).sum ≤ 8) (hk : cells ≤ R.cells ∧ slots ≤ R.slots) (k : ∀ (H : Heap) (locs : List Loc), CH G (cw G la y.2) A H0 H locs → W p l e R s m args below meth c H locs cells slots Q (F0 m (pc + 3) ls (.int y.1 :: rest))) : W p l e R s m args below meth c H locs cells slots Q (F0 m pc ls (.int x2 :: .int x1 :: .ref (gq G (20 + κ)) :: rest)) := by
  rcases (show κ = 0 ∨ κ = 1 ∨ κ = 2 ∨ κ = 3 ∨ κ = 4 by omega) with rfl | rfl | rfl | rfl | rfl
  · have hf : f_X8_heat 0 x1 x2 w = some y := hf
    exact fin_i (n := 0) (runO (C := RX8) (x := ⟨"WashHouse$Machine", "heat", "(II)I"⟩) (owner := "WashHouse$Machine") (As := [.int x1, .int x2]) X.1 2 (t_X8_heat l G la w 0 x1 x2 (by decide) y.1 y.2 hf _) rfl rfl hlk vw_heat_0 vb_heat (by decide +kernel) ⟨Nat.le_trans (Nat.le_of_ble_eq_true rfl) hR.1, Nat.le_trans (Nat.le_of_ble_eq_true rfl) hR.2⟩ ⟨blindM, va_recv X.2.1 h.1 (ci := 7) (q0 := 20) rfl rfl, preM X.2 h⟩ rfl hsz hrest hd hk) h hA (fun _ H locs h => k H locs h)
  · have hf : f_X5_heat 1 x1 x2 w = some y := hf
    exact fin_i (n := 0) (runO (C := RX5) (x := ⟨"WashHouse$Machine", "heat", "(II)I"⟩) (owner := "WashHouse$Machine") (As := [.int x1, .int x2]) X.1 2 (t_X5_heat l G la w 1 x1 x2 (by decide) y.1 y.2 hf _) rfl rfl hlk vw_heat_1 vb_heat (by decide +kernel) ⟨Nat.le_trans (Nat.le_of_ble_eq_true rfl) hR.1, Nat.le_trans (Nat.le_of_ble_eq_true rfl) hR.2⟩ ⟨blindM, va_recv X.2.1 h.1 (ci := 4) (q0 := 21) rfl rfl, preM X.2 h⟩ rfl hsz hrest hd hk) h hA (fun _ H locs h => k H locs h)
  · have hf : f_X2_heat 2 x1 x2 w = some y := hf
    exact fin_i (n := 0) (runO (C := RX2) (x := ⟨"WashHouse$Machine", "heat", "(II)I"⟩) (owner := "WashHouse$Machine") (As := [.int x1, .int x2]) X.1 2 (t_X2_heat l G la w 2 x1 x2 (by decide) y.1 y.2 hf _) rfl rfl hlk vw_heat_2 vb_heat (by decide +kernel) ⟨Nat.le_trans (Nat.le_of_ble_eq_true rfl) hR.1, Nat.le_trans (Nat.le_of_ble_eq_true rfl) hR.2⟩ ⟨blindM, va_recv X.2.1 h.1 (ci := 2) (q0 := 22) rfl rfl, preM X.2 h⟩ rfl hsz hrest hd hk) h hA (fun _ H locs h => k H locs h)
  · have hf : f_X4_heat 3 x1 x2 w = some y := hf
    exact fin_i (n := 0) (runO (C := RX4) (x := ⟨"WashHouse$Machine", "heat", "(II)I"⟩) (owner := "WashHouse$Machine") (As := [.int x1, .int x2]) X.1 2 (t_X4_heat l G la w 3 x1 x2 (by decide) y.1 y.2 hf _) rfl rfl hlk vw_heat_3 vb_heat (by decide +kernel) ⟨Nat.le_trans (Nat.le_of_ble_eq_true rfl) hR.1, Nat.le_trans (Nat.le_of_ble_eq_true rfl) hR.2⟩ ⟨blindM, va_recv X.2.1 h.1 (ci := 3) (q0 := 23) rfl rfl, preM X.2 h⟩ rfl hsz hrest hd hk) h hA (fun _ H locs h => k H locs h)
  · have hf : f_X0_heat 4 x1 x2 w = some y := hf
    exact fin_i (n := 0) (runO (C := RX0) (x := ⟨"WashHouse$Machine", "heat", "(II)I"⟩) (owner := "WashHouse$Machine") (As := [.int x1, .int x2]) X.1 2 (t_X0_heat l G la w 4 x1 x2 (by decide) y.1 y.2 hf _) rfl rfl hlk vw_heat_4 vb_heat (by decide +kernel) ⟨Nat.le_trans (Nat.le_of_ble_eq_true rfl) hR.1, Nat.le_trans (Nat.le_of_ble_eq_true rfl) hR.2⟩ ⟨blindM, va_recv X.2.1 h.1 (ci := 0) (q0 := 24) rfl rfl, preM X.2 h⟩ rfl hsz hrest hd hk) h hA (fun _ H locs h => k H locs h)
def fv_power (κ : Nat) (x1 : Int32) (x2 : Int32) (w : CW) : Option (Int32 × CW) := if κ = 0 then f_X8_power 0 x1 x2 w else if κ = 1 then f_X5_power 1 x1 x2 w else if κ = 2 then f_X2_power 2 x1 x2 w else if κ = 3 then f_X2_power 3 x1 x2 w else f_X0_power 4 x1 x2 w
theorem vw_power_0 : Cond.sameMethod "WashHouse$Machine" "WashHouse$Machine" "power" "(II)I" ∈ lw_good ∧ Cond.instanceMethod ⟨"WashHouse$Machine", "power", "(II)I"⟩ ∈ lw_good ∧ Cond.selects RX8 ⟨"WashHouse$Machine", "power", "(II)I"⟩ yX8_power ∈ lw_good ∧ Cond.instanceMethod yX8_power ∈ lw_good ∧ Cond.initialized yX8_power.cls ∈ lw_good ∧ Cond.code yX8_power cX8_power 3 (some .int) ∈ lw_good := by decide +kernel
theorem vb_power : Cond.code ⟨"WashHouse$Machine", "power", "(II)I"⟩ cX3_power 3 (some .int) ∈ lw_good := by decide +kernel
theorem vw_power_1 : Cond.sameMethod "WashHouse$Machine" "WashHouse$Machine" "power" "(II)I" ∈ lw_good ∧ Cond.instanceMethod ⟨"WashHouse$Machine", "power", "(II)I"⟩ ∈ lw_good ∧ Cond.selects RX5 ⟨"WashHouse$Machine", "power", "(II)I"⟩ yX5_power ∈ lw_good ∧ Cond.instanceMethod yX5_power ∈ lw_good ∧ Cond.initialized yX5_power.cls ∈ lw_good ∧ Cond.code yX5_power cX5_power 3 (some .int) ∈ lw_good := by decide +kernel
theorem vw_power_2 : Cond.sameMethod "WashHouse$Machine" "WashHouse$Machine" "power" "(II)I" ∈ lw_good ∧ Cond.instanceMethod ⟨"WashHouse$Machine", "power", "(II)I"⟩ ∈ lw_good ∧ Cond.selects RX2 ⟨"WashHouse$Machine", "power", "(II)I"⟩ yX2_power ∈ lw_good ∧ Cond.instanceMethod yX2_power ∈ lw_good ∧ Cond.initialized yX2_power.cls ∈ lw_good ∧ Cond.code yX2_power cX2_power 3 (some .int) ∈ lw_good := by decide +kernel
theorem vw_power_3 : Cond.sameMethod "WashHouse$Machine" "WashHouse$Machine" "power" "(II)I" ∈ lw_good ∧ Cond.instanceMethod ⟨"WashHouse$Machine", "power", "(II)I"⟩ ∈ lw_good ∧ Cond.selects RX4 ⟨"WashHouse$Machine", "power", "(II)I"⟩ yX2_power ∈ lw_good ∧ Cond.instanceMethod yX2_power ∈ lw_good ∧ Cond.initialized yX2_power.cls ∈ lw_good ∧ Cond.code yX2_power cX2_power 3 (some .int) ∈ lw_good := by decide +kernel
theorem vw_power_4 : Cond.sameMethod "WashHouse$Machine" "WashHouse$Machine" "power" "(II)I" ∈ lw_good ∧ Cond.instanceMethod ⟨"WashHouse$Machine", "power", "(II)I"⟩ ∈ lw_good ∧ Cond.selects RX0 ⟨"WashHouse$Machine", "power", "(II)I"⟩ yX0_power ∈ lw_good ∧ Cond.instanceMethod yX0_power ∈ lw_good ∧ Cond.initialized yX0_power.cls ∈ lw_good ∧ Cond.code yX0_power cX0_power 3 (some .int) ∈ lw_good := by decide +kernel
theorem kv_power {p : Program} {l : Launch} {e : Env} {R : Room} {s : State} {m : MethodId} {args : Array Value} {below : List Frame} {meth : Method} {c : Code} {H : Heap} {locs : List Loc} {cells slots : Nat} {Q : State → Prop} {cc : ByteArray} {nL pc idx : Nat} {ls : Array Slot} {rest : List Value} {own : String} {G : Gm} {A : Nat → Prop} {H0 : Heap} {la : Nat} {w : CW} {κ : Nat} {x1 : Int32} {x2 : Int32} {y : Int32 × CW} (X : CX own cc nL G p s m args c) (h : CH G (cw G la w) A H0 H locs) (hA : ∀ q, H0.size ≤ q → A q) (hκ : κ < 5) (hf : fv_power κ x1 x2 w = some y) (hlk : Cond.methodLink own idx ⟨"WashHouse$Machine", "power", "(II)I"⟩ ∈ lw_good) (hd : decode cc pc = .ok (.invokevirtual idx, 3)) (hsz : ls.size = nL) (hR : 5 ≤ R.frames ∧ 109 ≤ R.locals) (hrest : (rest.map fun v => v.category).sum ≤ 8) (hk : cells ≤ R.cells ∧ slots ≤ R.slots) (k : ∀ (H : Heap) (locs : List Loc), CH G (cw G la y.2) A H0 H locs → W p l e R s m args below meth c H locs cells slots Q (F0 m (pc + 3) ls (.int y.1 :: rest))) : W p l e R s m args below meth c H locs cells slots Q (F0 m pc ls (.int x2 :: .int x1 :: .ref (gq G (20 + κ)) :: rest)) := by
  rcases (show κ = 0 ∨ κ = 1 ∨ κ = 2 ∨ κ = 3 ∨ κ = 4 by omega) with rfl | rfl | rfl | rfl | rfl
  · have hf : f_X8_power 0 x1 x2 w = some y := hf
    exact fin_i (n := 0) (runO (C := RX8) (x := ⟨"WashHouse$Machine", "power", "(II)I"⟩) (owner := "WashHouse$Machine") (As := [.int x1, .int x2]) X.1 2 (t_X8_power l G la w 0 x1 x2 (by decide) y.1 y.2 hf _) rfl rfl hlk vw_power_0 vb_power (by decide +kernel) ⟨Nat.le_trans (Nat.le_of_ble_eq_true rfl) hR.1, Nat.le_trans (Nat.le_of_ble_eq_true rfl) hR.2⟩ ⟨blindM, va_recv X.2.1 h.1 (ci := 7) (q0 := 20) rfl rfl, preM X.2 h⟩ rfl hsz hrest hd hk) h hA (fun _ H locs h => k H locs h)
  · have hf : f_X5_power 1 x1 x2 w = some y := hf
    exact fin_i (n := 0) (runO (C := RX5) (x := ⟨"WashHouse$Machine", "power", "(II)I"⟩) (owner := "WashHouse$Machine") (As := [.int x1, .int x2]) X.1 2 (t_X5_power l G la w 1 x1 x2 (by decide) y.1 y.2 hf _) rfl rfl hlk vw_power_1 vb_power (by decide +kernel) ⟨Nat.le_trans (Nat.le_of_ble_eq_true rfl) hR.1, Nat.le_trans (Nat.le_of_ble_eq_true rfl) hR.2⟩ ⟨blindM, va_recv X.2.1 h.1 (ci := 4) (q0 := 21) rfl rfl, preM X.2 h⟩ rfl hsz hrest hd hk) h hA (fun _ H locs h => k H locs h)
  · have hf : f_X2_power 2 x1 x2 w = some y := hf
    exact fin_i (n := 0) (runO (C := RX2) (x := ⟨"WashHouse$Machine", "power", "(II)I"⟩) (owner := "WashHouse$Machine") (As := [.int x1, .int x2]) X.1 2 (t_X2_power l G la w 2 x1 x2 (by decide) y.1 y.2 hf _) rfl rfl hlk vw_power_2 vb_power (by decide +kernel) ⟨Nat.le_trans (Nat.le_of_ble_eq_true rfl) hR.1, Nat.le_trans (Nat.le_of_ble_eq_true rfl) hR.2⟩ ⟨blindM, va_recv X.2.1 h.1 (ci := 2) (q0 := 22) rfl rfl, preM X.2 h⟩ rfl hsz hrest hd hk) h hA (fun _ H locs h => k H locs h)
  · have hf : f_X2_power 3 x1 x2 w = some y := hf
    exact fin_i (n := 0) (runO (C := RX4) (x := ⟨"WashHouse$Machine", "power", "(II)I"⟩) (owner := "WashHouse$Machine") (As := [.int x1, .int x2]) X.1 2 (t_X2_power l G la w 3 x1 x2 (by decide) y.1 y.2 hf _) rfl rfl hlk vw_power_3 vb_power (by decide +kernel) ⟨Nat.le_trans (Nat.le_of_ble_eq_true rfl) hR.1, Nat.le_trans (Nat.le_of_ble_eq_true rfl) hR.2⟩ ⟨blindM, va_recv X.2.1 h.1 (ci := 3) (q0 := 23) rfl rfl, preM X.2 h⟩ rfl hsz hrest hd hk) h hA (fun _ H locs h => k H locs h)
  · have hf : f_X0_power 4 x1 x2 w = some y := hf
    exact fin_i (n := 0) (runO (C := RX0) (x := ⟨"WashHouse$Machine", "power", "(II)I"⟩) (owner := "WashHouse$Machine") (As := [.int x1, .int x2]) X.1 2 (t_X0_power l G la w 4 x1 x2 (by decide) y.1 y.2 hf _) rfl rfl hlk vw_power_4 vb_power (by decide +kernel) ⟨Nat.le_trans (Nat.le_of_ble_eq_true rfl) hR.1, Nat.le_trans (Nat.le_of_ble_eq_true rfl) hR.2⟩ ⟨blindM, va_recv X.2.1 h.1 (ci := 0) (q0 := 24) rfl rfl, preM X.2 h⟩ rfl hsz hrest hd hk) h hA (fun _ H locs h => k H locs h)
def fv_wear (κ : Nat) (x1 : Int32) (w : CW) : Option (Int32 × CW) := if κ = 0 then f_X3_wear 0 x1 w else if κ = 1 then f_X3_wear 1 x1 w else if κ = 2 then f_X3_wear 2 x1 w else if κ = 3 then f_X3_wear 3 x1 w else f_X3_wear 4 x1 w
theorem vw_wear_0 : Cond.sameMethod "WashHouse$Machine" "WashHouse$Machine" "wear" "(I)I" ∈ lw_good ∧ Cond.selects RX8 ⟨"WashHouse$Machine", "wear", "(I)I"⟩ yX3_wear ∈ lw_good ∧ Cond.instanceMethod yX3_wear ∈ lw_good ∧ Cond.initialized yX3_wear.cls ∈ lw_good ∧ Cond.code yX3_wear cX3_wear 2 (some .int) ∈ lw_good := by decide +kernel
theorem vw_wear_1 : Cond.sameMethod "WashHouse$Machine" "WashHouse$Machine" "wear" "(I)I" ∈ lw_good ∧ Cond.selects RX5 ⟨"WashHouse$Machine", "wear", "(I)I"⟩ yX3_wear ∈ lw_good ∧ Cond.instanceMethod yX3_wear ∈ lw_good ∧ Cond.initialized yX3_wear.cls ∈ lw_good ∧ Cond.code yX3_wear cX3_wear 2 (some .int) ∈ lw_good := by decide +kernel
theorem vw_wear_2 : Cond.sameMethod "WashHouse$Machine" "WashHouse$Machine" "wear" "(I)I" ∈ lw_good ∧ Cond.selects RX2 ⟨"WashHouse$Machine", "wear", "(I)I"⟩ yX3_wear ∈ lw_good ∧ Cond.instanceMethod yX3_wear ∈ lw_good ∧ Cond.initialized yX3_wear.cls ∈ lw_good ∧ Cond.code yX3_wear cX3_wear 2 (some .int) ∈ lw_good := by decide +kernel
theorem vw_wear_3 : Cond.sameMethod "WashHouse$Machine" "WashHouse$Machine" "wear" "(I)I" ∈ lw_good ∧ Cond.selects RX4 ⟨"WashHouse$Machine", "wear", "(I)I"⟩ yX3_wear ∈ lw_good ∧ Cond.instanceMethod yX3_wear ∈ lw_good ∧ Cond.initialized yX3_wear.cls ∈ lw_good ∧ Cond.code yX3_wear cX3_wear 2 (some .int) ∈ lw_good := by decide +kernel
theorem vw_wear_4 : Cond.sameMethod "WashHouse$Machine" "WashHouse$Machine" "wear" "(I)I" ∈ lw_good ∧ Cond.selects RX0 ⟨"WashHouse$Machine", "wear", "(I)I"⟩ yX3_wear ∈ lw_good ∧ Cond.instanceMethod yX3_wear ∈ lw_good ∧ Cond.initialized yX3_wear.cls ∈ lw_good ∧ Cond.code yX3_wear cX3_wear 2 (some .int) ∈ lw_good := by decide +kernel
theorem kv_wear {p : Program} {l : Launch} {e : Env} {R : Room} {s : State} {m : MethodId} {args : Array Value} {below : List Frame} {meth : Method} {c : Code} {H : Heap} {locs : List Loc} {cells slots : Nat} {Q : State → Prop} {cc : ByteArray} {nL pc idx : Nat} {ls : Array Slot} {rest : List Value} {own : String} {G : Gm} {A : Nat → Prop} {H0 : Heap} {la : Nat} {w : CW} {κ : Nat} {x1 : Int32} {y : Int32 × CW} (X : CX own cc nL G p s m args c) (h : CH G (cw G la w) A H0 H locs) (hA : ∀ q, H0.size ≤ q → A q) (hκ : κ < 5) (hf : fv_wear κ x1 w = some y) (hlk : Cond.methodLink own idx ⟨"WashHouse$Machine", "wear", "(I)I"⟩ ∈ lw_good) (hd : decode cc pc = .ok (.invokevirtual idx, 3)) (hsz : ls.size = nL) (hR : 5 ≤ R.frames ∧ 104 ≤ R.locals) (hrest : (rest.map fun v => v.category).sum ≤ 8) (hk : cells ≤ R.cells ∧ slots ≤ R.slots) (k : ∀ (H : Heap) (locs : List Loc), CH G (cw G la y.2) A H0 H locs → W p l e R s m args below meth c H locs cells slots Q (F0 m (pc + 3) ls (.int y.1 :: rest))) : W p l e R s m args below meth c H locs cells slots Q (F0 m pc ls (.int x1 :: .ref (gq G (20 + κ)) :: rest)) := by
  rcases (show κ = 0 ∨ κ = 1 ∨ κ = 2 ∨ κ = 3 ∨ κ = 4 by omega) with rfl | rfl | rfl | rfl | rfl
  · have hf : f_X3_wear 0 x1 w = some y := hf
    exact fin_i (n := 0) (runU (C := RX8) (x := ⟨"WashHouse$Machine", "wear", "(I)I"⟩) (owner := "WashHouse$Machine") (As := [.int x1]) X.1 1 (t_X3_wear l G la w 0 x1 (by decide) y.1 y.2 hf _) rfl rfl hlk vw_wear_0 rfl (by decide +kernel) ⟨Nat.le_trans (Nat.le_of_ble_eq_true rfl) hR.1, Nat.le_trans (Nat.le_of_ble_eq_true rfl) hR.2⟩ ⟨blindM, va_recv X.2.1 h.1 (ci := 7) (q0 := 20) rfl rfl, preM X.2 h⟩ rfl hsz hrest hd hk) h hA (fun _ H locs h => k H locs h)
  · have hf : f_X3_wear 1 x1 w = some y := hf
    exact fin_i (n := 0) (runU (C := RX5) (x := ⟨"WashHouse$Machine", "wear", "(I)I"⟩) (owner := "WashHouse$Machine") (As := [.int x1]) X.1 1 (t_X3_wear l G la w 1 x1 (by decide) y.1 y.2 hf _) rfl rfl hlk vw_wear_1 rfl (by decide +kernel) ⟨Nat.le_trans (Nat.le_of_ble_eq_true rfl) hR.1, Nat.le_trans (Nat.le_of_ble_eq_true rfl) hR.2⟩ ⟨blindM, va_recv X.2.1 h.1 (ci := 4) (q0 := 21) rfl rfl, preM X.2 h⟩ rfl hsz hrest hd hk) h hA (fun _ H locs h => k H locs h)
  · have hf : f_X3_wear 2 x1 w = some y := hf
    exact fin_i (n := 0) (runU (C := RX2) (x := ⟨"WashHouse$Machine", "wear", "(I)I"⟩) (owner := "WashHouse$Machine") (As := [.int x1]) X.1 1 (t_X3_wear l G la w 2 x1 (by decide) y.1 y.2 hf _) rfl rfl hlk vw_wear_2 rfl (by decide +kernel) ⟨Nat.le_trans (Nat.le_of_ble_eq_true rfl) hR.1, Nat.le_trans (Nat.le_of_ble_eq_true rfl) hR.2⟩ ⟨blindM, va_recv X.2.1 h.1 (ci := 2) (q0 := 22) rfl rfl, preM X.2 h⟩ rfl hsz hrest hd hk) h hA (fun _ H locs h => k H locs h)
  · have hf : f_X3_wear 3 x1 w = some y := hf
    exact fin_i (n := 0) (runU (C := RX4) (x := ⟨"WashHouse$Machine", "wear", "(I)I"⟩) (owner := "WashHouse$Machine") (As := [.int x1]) X.1 1 (t_X3_wear l G la w 3 x1 (by decide) y.1 y.2 hf _) rfl rfl hlk vw_wear_3 rfl (by decide +kernel) ⟨Nat.le_trans (Nat.le_of_ble_eq_true rfl) hR.1, Nat.le_trans (Nat.le_of_ble_eq_true rfl) hR.2⟩ ⟨blindM, va_recv X.2.1 h.1 (ci := 3) (q0 := 23) rfl rfl, preM X.2 h⟩ rfl hsz hrest hd hk) h hA (fun _ H locs h => k H locs h)
  · have hf : f_X3_wear 4 x1 w = some y := hf
    exact fin_i (n := 0) (runU (C := RX0) (x := ⟨"WashHouse$Machine", "wear", "(I)I"⟩) (owner := "WashHouse$Machine") (As := [.int x1]) X.1 1 (t_X3_wear l G la w 4 x1 (by decide) y.1 y.2 hf _) rfl rfl hlk vw_wear_4 rfl (by decide +kernel) ⟨Nat.le_trans (Nat.le_of_ble_eq_true rfl) hR.1, Nat.le_trans (Nat.le_of_ble_eq_true rfl) hR.2⟩ ⟨blindM, va_recv X.2.1 h.1 (ci := 0) (q0 := 24) rfl rfl, preM X.2 h⟩ rfl hsz hrest hd hk) h hA (fun _ H locs h => k H locs h)
