section N2
variable {n : Nat} {w : CW} {wm : MW} {now s : Nat → Int32} {T p : Nat}
def tkN (now : Nat → Int32) (p l L i : Nat) : Nat → Int32 := fun j => if 78 * p + 19 ≤ j ∧ j < 78 * p + (19 + i) ∧ now j = nI l then now (78 * p + (19 + L)) else now j
theorem takeC {τ O Z N l L : Nat} {hist : Nat → Nat → Int32} (hp : p < 60) (hl : l < 500) (hL : L < 8) : ∀ (d k i b : Nat) (w : CW), i + d = L → d < k → HCx w τ T O b Z hist → w.1 11 = tkN now p l L i → b + d + 2 < 120000 →
    OkI (f_X9_takeFrom_l28 k (nI p) (nI l) (nI L) (nI i) w) w τ T O (b + d + 2) Z hist (nI p) (upd (upd (tkN now p l L L) (78 * p + 9) (nI L)) (5920 + 5 * l + 3) (-2))
  | d, 0, i, b, w, _, h, _, _, _ => by omega
  | 0, k + 1, i, b, w, h, _, h1, e1, hb => by
    have : i = L := by omega
    subst this
    show OkI (f_X9_takeFrom_l28_body (f_X9_takeFrom_l28 k) (nI p) (nI l) (nI i) (nI i) w) _ _ _ _ _ _ _ _ _
    unfold f_X9_takeFrom_l28_body
    rw [if_pos (nI_le (Nat.le_refl _) (by omega)), lcell_s (k := 3) (by rfl)]
    simp only [Option.bind_some]
    exact (write_k (k := 9) rfl h1 e1 hp (by omega) (by omega)).bi fun _ h2 e2 _ => (set_k h2 e2 (by omega) (by omega)).bi fun _ h3 e3 _ => OkI.dn h3 e3
  | d + 1, k + 1, i, b, w, h, h0, h1, e1, hb => by
    show OkI (f_X9_takeFrom_l28_body (f_X9_takeFrom_l28 k) (nI p) (nI l) (nI L) (nI i) w) _ _ _ _ _ _ _ _ _
    unfold f_X9_takeFrom_l28_body f_X9_takeFrom_b67
    have ei : tkN now p l L i (78 * p + (19 + i)) = now (78 * p + (19 + i)) := if_neg (by omega)
    have eL : tkN now p l L i (78 * p + (19 + L)) = now (78 * p + (19 + L)) := if_neg (by omega)
    rw [if_neg (nI_ge (by omega) (by omega)), read_k (k := 19 + i) (by exact nI_add 19 i) hp (by omega), Option.bind_some, read_k (k := 19 + L) (by exact nI_add 19 L) hp (by omega), Option.bind_some, e1, ei, eL, nI_1]
    by_cases hz : now (78 * p + (19 + i)) = nI l
    · rw [if_pos hz]
      refine (write_k (k := 19 + i) (nI_add 19 i) h1 e1 hp (by omega) (by omega)).bi fun w2 h2 e2 _ => ?_
      have e3 : w2.1 11 = tkN now p l L (i + 1) := by
        rw [e2]
        funext j
        by_cases hj : j = 78 * p + (19 + i)
        · subst hj
          rw [upd_at]
          exact (if_pos ⟨by omega, by omega, hz⟩).symm
        · rw [upd_ne _ _ hj]
          unfold tkN
          by_cases h3 : 78 * p + 19 ≤ j ∧ j < 78 * p + (19 + i) ∧ now j = nI l
          · rw [if_pos h3, if_pos ⟨h3.1, by omega, h3.2.2⟩]
          · rw [if_neg h3, if_neg (fun q => h3 ⟨q.1, by omega, q.2.2⟩)]
      have := takeC (N := N) hp hl hL d k (i + 1) (b + 1) w2 (by omega) (by omega) h2 e3 (by omega)
      rw [show b + 1 + d + 2 = b + (d + 1) + 2 by omega] at this
      exact this
    · rw [if_neg hz]
      have e3 : w.1 11 = tkN now p l L (i + 1) := by
        rw [e1]
        funext j
        unfold tkN
        by_cases h3 : 78 * p + 19 ≤ j ∧ j < 78 * p + (19 + i) ∧ now j = nI l
        · rw [if_pos h3, if_pos ⟨h3.1, by omega, h3.2.2⟩]
        · rw [if_neg h3, if_neg (fun q => h3 ⟨q.1, by
            have : j ≠ 78 * p + (19 + i) := fun e => hz (by rw [← e]; exact q.2.2)
            omega, q.2.2⟩)]
      exact (takeC (N := N) hp hl hL d k (i + 1) b w (by omega) (by omega) h1 e3 (by omega)).mono (by omega)
theorem repl_perm {l z : Nat} {D : List Nat} (hn : (D ++ [z]).Nodup) (hl : l ∈ D ++ [z]) : (D.map (fun x => if x = l then z else x)).Nodup ∧ ∀ x, x ∈ D.map (fun x => if x = l then z else x) ↔ x ∈ D ++ [z] ∧ x ≠ l := by
  obtain ⟨h1, h2, h3⟩ := List.nodup_append.mp hn
  have hz : z ∉ D := fun q => h3 z q z List.mem_cons_self rfl
  have key : ∀ (E : List Nat), E.Nodup → (∀ x, x ∈ E → x ≠ z) → (E.map (fun x => if x = l then z else x)).Nodup ∧ ∀ x, x ∈ E.map (fun x => if x = l then z else x) ↔ (x ∈ E ∧ x ≠ l) ∨ (x = z ∧ l ∈ E) := by
    intro E
    induction E with
    | nil => intro _ _; exact ⟨List.nodup_nil, fun x => by simp⟩
    | cons a E ih =>
      intro hE hzE
      obtain ⟨ha, hE'⟩ := List.nodup_cons.mp hE
      obtain ⟨i1, i2⟩ := ih hE' (fun x hx => hzE x (List.mem_cons_of_mem _ hx))
      rw [List.map_cons]
      by_cases e : a = l
      · subst e
        rw [if_pos rfl]
        refine ⟨List.nodup_cons.mpr ⟨fun q => ?_, i1⟩, fun x => ?_⟩
        · rcases (i2 z).mp q with ⟨q1, -⟩ | ⟨-, q1⟩
          · exact hzE z (List.mem_cons_of_mem _ q1) rfl
          · exact ha q1
        · rw [List.mem_cons, i2 x, List.mem_cons]
          constructor
          · rintro (q | ⟨q1, q2⟩ | ⟨q1, q2⟩)
            · exact Or.inr ⟨q, List.mem_cons_self⟩
            · exact Or.inl ⟨Or.inr q1, q2⟩
            · exact absurd q2 ha
          · rintro (⟨q1 | q1, q2⟩ | ⟨q1, -⟩)
            · exact absurd q1 q2
            · exact Or.inr (Or.inl ⟨q1, q2⟩)
            · exact Or.inl q1
      · rw [if_neg e]
        refine ⟨List.nodup_cons.mpr ⟨fun q => ?_, i1⟩, fun x => ?_⟩
        · rcases (i2 a).mp q with ⟨q1, -⟩ | ⟨q1, -⟩
          · exact ha q1
          · exact hzE a List.mem_cons_self q1
        · rw [List.mem_cons, i2 x, List.mem_cons, List.mem_cons]
          constructor
          · rintro (q | ⟨q1, q2⟩ | ⟨q1, q2⟩)
            · exact Or.inl ⟨Or.inl q, by rw [q]; exact e⟩
            · exact Or.inl ⟨Or.inr q1, q2⟩
            · exact Or.inr ⟨q1, Or.inr q2⟩
          · rintro (⟨q1 | q1, q2⟩ | ⟨q1, q2 | q2⟩)
            · exact Or.inl q1
            · exact Or.inr (Or.inl ⟨q1, q2⟩)
            · exact absurd q2.symm e
            · exact Or.inr (Or.inr ⟨q1, q2⟩)
  obtain ⟨k1, k2⟩ := key D h1 (fun x hx q => hz (by rw [← q]; exact hx))
  refine ⟨k1, fun x => ?_⟩
  rw [k2 x, List.mem_append, List.mem_singleton]
  rw [List.mem_append, List.mem_singleton] at hl
  constructor
  · rintro (⟨q1, q2⟩ | ⟨q1, q2⟩)
    · exact ⟨Or.inl q1, q2⟩
    · exact ⟨Or.inr q1, fun q => hz (by rw [← q1, q]; exact q2)⟩
  · rintro ⟨q1 | q1, q2⟩
    · exact Or.inl ⟨q1, q2⟩
    · refine Or.inr ⟨q1, ?_⟩
      rcases hl with hl | hl
      · exact hl
      · exact absurd (q1.trans hl.symm) q2
theorem eq_fetch (hR : Rl n w wm) (hn : n < 513) (a1 : Int32) : ∃ r w2 wm2 n2, f_X9_fetch a1 w = some ((r, w2), n2) ∧ f_X10_fetch a1 wm = some (r, wm2) ∧ Rl (n + 1) w2 wm2 ∧ 4096 * n2 + 2 * w.2 = 2 * w2.2 := by
  have hR1 : Rl n w (mst wm 0 0 0) := hR.thr
  unfold f_X9_fetch f_X10_fetch
  generalize mst wm 0 0 0 = m at hR1 ⊢
  show Eq1 n w _ _
  obtain ⟨T0, O0, hc0, hm0, -, -, -, -, g30, -, -⟩ := id hR1
  obtain ⟨N, l1, l2, l3, l4, l5, l6⟩ := g30.2.1
  rw [isLoad_s a1 l2, misLoad_s a1 l3]
  simp only [Option.bind_some, gd]
  refine Eq1.ite (fun h => ?_) (fun _ => Eq1.ret hR1 hn)
  obtain ⟨l, hl, rfl⟩ := rngL (by omega) h
  rw [lcell_s (k := 3) (by rfl), Option.bind_some, get_s (by omega), Option.bind_some, l4 l (by omega) 3 (by omega), la3_s, chk_t (inb_nI (by omega) (by omega)), nI_clamp (by omega), isPlace_s, Option.bind_some, gd]
  have hw0 : whr (m 1) l = m 1 (8844 + 5 * l + 3) := rfl
  rcases (l5 l hl).1 with hw | hw | ⟨p, hp, hw, h3⟩
  · rw [hw0] at hw
    rw [hw, if_neg (by decide), if_neg (by decide)]; exact Eq1.fnd hR1 hn
  · rw [hw0] at hw
    rw [hw, if_neg (by decide), if_neg (by decide)]; exact Eq1.fnd hR1 hn
  rw [hw0] at hw
  rw [hw, if_pos ⟨nI_pos' (by omega), show nI p ≤ nI 59 from nI_le (by omega) (by omega)⟩, if_pos (nI_pos' (by omega)), enter_s hp, mtouch_s hp, Option.bind_some, Option.bind_some, mv7 g30 hp]
  obtain ⟨v, hv⟩ : ∃ v, v = 1 + w.1 11 (78 * p + 8) := ⟨_, rfl⟩
  rw [← hv]
  have hRt := hR1.touch (p := p) (v := v)
  have ew : (enC w p v).1 11 = w.1 11 := enC_ne (by decide)
  have em : (toM m p v) 1 = m 1 := toM_ne (by decide)
  obtain ⟨T, O, hc, hm, b1, b2, g1, g2, g3, g4, g5⟩ := id hRt
  have g3' : Rs (w.1 11) (m 1) T := by rw [lvC_ne (by decide), ew, em] at g3; exact g3
  have g3'' : Rs ((enC w p v).1 11) ((toM m p v) 1) T := by rw [ew, em]; exact g3'
  refine Eq1E.out hp hv ?_
  unfold f_X9_takeFrom
  obtain ⟨hr1, hr2⟩ := hasRun_s g3'' hp
  rw [hr1, Option.bind_some, gd, em, of_s (k := 26) (by rfl) (by omega), Option.bind_some, em]
  refine Eq1E.ite (fun _ => Eq1E.fnd hRt hn) (fun h26 => ?_)
  obtain ⟨Ls, y1, y2, y3, y4, y5, y6⟩ := lst_ex g3'.2.1 hp l1 l3
  have hlm : l ∈ Ls := y4.mem_iff.mpr (mem_inP.mpr ⟨hl, hw⟩)
  have hne : Ls ≠ [] := fun q => by rw [q] at hlm; exact absurd hlm List.not_mem_nil
  obtain ⟨D, z, rfl⟩ : ∃ D z, Ls = D ++ [z] := ⟨Ls.dropLast, Ls.getLast hne, (List.dropLast_concat_getLast hne).symm⟩
  have hlen : (D ++ [z]).length = D.length + 1 := by rw [List.length_append]; rfl
  rw [hlen] at y1 y2
  rw [read_k (k := 9) (by rfl) hp (by omega), Option.bind_some, ew, y2, show nI (D.length + 1) - (1 : Int32) = nI (D.length + 1 - 1) from pk_sub (a := D.length + 1) (b := 1) (by omega), Nat.add_sub_cancel]
  have ez : w.1 11 (78 * p + (19 + D.length)) = nI z := by
    rw [y3 D.length (by omega)]
    congr 1
    simp
  have ed : ∀ i, ∀ hi : i < D.length, w.1 11 (78 * p + (19 + i)) = nI D[i] := fun i hi => by
    rw [y3 i (by omega)]
    congr 1
    rw [List.getElem_append_left hi]
  have tk0 : (enC w p v).1 11 = tkN (w.1 11) p l D.length 0 := by
    rw [ew]; funext j; exact (if_neg (by omega)).symm
  refine Eq1E.fin hn b2 g4 g5 (takeC (N := N) hp (by omega) (by omega) D.length FU 0 _ _ (by omega) (by unfold FU; omega) g1.vl tk0 (by omega)) ((w_k g2 em (by omega) (by omega) (by omega)).bi fun _ h1 e1 _ => OkMI.dn h1 e1) (by omega) (by omega) (by omega) ?_ (by rw [upd_ne _ _ (by omega), upd_ne _ _ (by omega), ew]; exact if_neg (by omega))
  have hnl : ∀ x, x ∈ D → x < N := fun x hx => (y6 x (List.mem_append_left _ hx)).1
  have hzN : z < N := (y6 z (List.mem_append_right _ List.mem_cons_self)).1
  obtain ⟨r1, r2⟩ := repl_perm y5 hlm
  refine move_rs (p := p) (N := N) (l := l) (v := -2) (Ls' := D.map (fun x => if x = l then z else x)) g3' hp l1 l3 hl h3 (Or.inl rfl) (fun q hq hqp => by
      rw [hw0, hw]; exact fun e => hqp (nI_inj (by omega) (by omega) e).symm) (fun j h1 h2 h3 => by
      rw [upd_ne _ _ h1, upd_ne _ _ h2]; exact if_neg (by omega)) (upd_at _ _ _) (fun j h1 => upd_ne _ _ h1) (upd_at _ _ _) (by rw [List.length_map]; omega) (by rw [upd_ne _ _ (by omega), upd_at, List.length_map]) (fun i x hx => ?_) ?_
  · rw [List.getElem?_map] at hx
    obtain ⟨y, hy, hx2⟩ := Option.map_eq_some_iff.mp hx
    obtain ⟨hi, hy2⟩ := List.getElem?_eq_some_iff.mp hy
    rw [upd_ne _ _ (by omega), upd_ne _ _ (by omega)]
    have hdi := ed i hi
    rw [hy2] at hdi
    have hyN := hnl y (by rw [← hy2]; exact List.getElem_mem hi)
    unfold tkN
    by_cases e : y = l
    · rw [if_pos e] at hx2
      rw [if_pos ⟨by omega, by omega, by rw [hdi, e]⟩, ez, hx2]
    · rw [if_neg e] at hx2
      rw [if_neg (fun q => e (by rw [hdi] at q; exact nI_inj (by omega) (by omega) q.2.2)), hdi, hx2]
  · refine (List.perm_ext_iff_of_nodup r1 (inP_nodup _ _ _)).mpr (fun x => ?_)
    rw [r2 x, mem_inP]
    by_cases e : x = l
    · subst e
      refine ⟨fun q => absurd rfl q.2, fun q => ?_⟩
      have : whr (upd (m 1) (8844 + 5 * x + 3) (-2)) x = -2 := upd_at _ _ _
      rw [this] at q
      exact absurd q.2 (neg_ne (by decide) (by omega))
    · have : whr (upd (m 1) (8844 + 5 * l + 3) (-2)) x = whr (m 1) x := upd_ne _ _ (by omega)
      rw [this]
      constructor
      · rintro ⟨q, -⟩
        exact y6 x q
      · intro q
        exact ⟨y4.mem_iff.mpr (mem_inP.mpr q), e⟩
end N2
