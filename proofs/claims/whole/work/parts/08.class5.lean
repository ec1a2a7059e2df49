def f_X9_status (w : CW) : Option Int32 :=
 some (w.1 0 12)
set_option maxHeartbeats 4000000 in
set_option maxRecDepth 100000 in
theorem t_X9_status (l : Launch) (G : Gm) (la : Nat) (w : CW) (r : Int32) (hf : f_X9_status w = some r) : MetR l yX9_status cX9_status 1 (some .int) 0 0 G (cw G la w) [.ref (gq G 0)] (.int r) := by
  refine ent (own := RX9) (As := [.ref (gq G 0)]) (by decide +kernel) rfl (Nat.le_of_ble_eq_true rfl) (fun _ _ h => h.1) ?_
  intro p e s m args below meth c ls B hr hlocks hv hl
  obtain ⟨-, hP, hKK, hD⟩ := hv
  have X : CX RX9 cX9_status 1 G p s m args c := ⟨B, hKK⟩
  obtain ⟨hx, hb, hml, hown, hts⟩ := id B
  have h : CH G (cw G la w) (fun _ => True) s.heap s.heap [] := ⟨hP, hD, va_S.rf⟩
  have hl : lv_has ls 1 [(0, .ref (gq G 0))] := hl
  unfold f_X9_status at hf
  refine lv_aload_n hx hb dX9_status_0 rfl (lv_at hl 0 rfl) ?_
  refine GC_0_12 X h k_X9_81 dX9_status_1 ?_
  cases hf
  exact rr_i X.1 hr hlocks dX9_status_4
theorem m_X9_status : Cond.instanceMethod yX9_status ∈ lw_good ∧ Cond.selects RX9 yX9_status yX9_status ∈ lw_good ∧ Cond.initialized RX9 ∈ lw_good ∧ Cond.code yX9_status cX9_status 1 (some .int) ∈ lw_good := by decide +kernel
theorem k_X9_status {p : Program} {l : Launch} {e : Env} {R : Room} {s : State} {m : MethodId} {args : Array Value} {below : List Frame} {meth : Method} {c : Code} {H : Heap} {locs : List Loc} {cells slots : Nat} {Q : State → Prop} {cc : ByteArray} {nL pc idx : Nat} {ls : Array Slot} {rest : List Value} {own : String} {G : Gm} {A : Nat → Prop} {H0 : Heap} {la : Nat} {w : CW} {r : Int32} (X : CX own cc nL G p s m args c) (h : CH G (cw G la w) A H0 H locs) (hf : f_X9_status w = some r) (hlk : Cond.methodLink own idx yX9_status ∈ lw_good) (hd : decode cc pc = .ok (.invokevirtual idx, 3)) (hsz : ls.size = nL) (hR : 1 ≤ R.frames ∧ 20 ≤ R.locals) (hrest : (rest.map fun v => v.category).sum ≤ 8) (hk : cells ≤ R.cells ∧ slots ≤ R.slots) (k : W p l e R s m args below meth c H locs cells slots Q (F0 m (pc + 3) ls (.int r :: rest))) : W p l e R s m args below meth c H locs cells slots Q (F0 m pc ls (.ref (gq G 0) :: rest)) :=
  fin_r (runV (As := []) X.1 0 (t_X9_status l G la w r hf) rfl rfl hlk m_X9_status (by decide +kernel) ⟨hR.1, hR.2⟩ ⟨blindR, va_recv X.2.1 h.1 (ci := 8) (q0 := 0) rfl rfl, preR X.2 h⟩ rfl hsz hrest hd hk) k
