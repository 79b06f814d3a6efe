
section QLs
variable {z : Nat} {ad : Nat → Nat} {D : va_G} {cA : Nat → ClassId} {m d : Nat} {p : Program} {l : Launch} {e : Env} {R : Room} {s : State} {mm : MethodId} {args : Array Value} {below : List Frame} {meth : Method} {c : Code} {Q : State → Prop} {c0 s0 pc : Nat} {ls st : List q_V} {v : q_H} {G : q_Gr}
/-- a store of two words -/
theorem q_L.store2 {n k : Nat} {LS LS' : Array Slot} {y : Int} (h : q_L z ad ls LS n) (hk : q_lok m k = true) (hg : q_lg m ls) (h' : lv_has LS' n ((k, q_tv z ad (.inr (.inl y))) :: (q_lv z ad ls).filter (fun q => !(q.1 == k) && (!(q.1 == k + 1) && !(q.1 + 1 == k && q.2.category == 2))))) : q_L z ad ((ls.set k (.inr (.inl y))).set (k + 1) (.inr (.inr (.inr ())))) LS' n := by
  refine ⟨h'.1, by rw [List.length_set, List.length_set]; exact h.2.1, h'.2.1, fun i c hi hc => ?_⟩
  by_cases e1 : k + 1 = i
  · subst e1
    rw [List.getElem?_set] at hi
    simp only [if_true] at hi
    split at hi
    · cases hi; exact absurd rfl hc
    · cases hi
  rw [List.getElem?_set_ne e1] at hi
  by_cases e : k = i
  · subst e
    rw [List.getElem?_set] at hi
    simp only [if_true] at hi
    split at hi
    · cases hi
      exact h'.2.2 (k, _) List.mem_cons_self
    · cases hi
  · rw [List.getElem?_set_ne e] at hi
    refine h'.2.2 (i, q_tv z ad c) (List.mem_cons_of_mem _ (List.mem_filter.mpr ⟨q_lv_mem.mpr ⟨c, hi, hc, rfl⟩, ?_⟩))
    simp only [Bool.and_eq_true, Bool.not_eq_true', beq_eq_false_iff_ne, Bool.and_eq_false_iff, ne_eq]
    refine ⟨fun q => e q.symm, fun q => e1 q.symm, ?_⟩
    by_cases e2 : i + 1 = k
    · right
      intro h2
      obtain ⟨k2, rfl⟩ := q_cat.mp h2
      have := hg i k2 hi
      simp only [q_lok, Bool.and_eq_true, Bool.not_eq_true', Bool.and_eq_false_iff, decide_eq_true_eq, decide_eq_false_iff_not] at hk
      have hc2 := q_contains.mpr this
      rw [show i = k - 1 by omega] at hc2
      rcases hk.2 with q | q
      · omega
      · rw [hc2] at q; cases q
    · left
      exact e2
theorem q_lg.store2 {k : Nat} {y : Int} (hg : q_lg m ls) (hk : q_lok m k = true) : q_lg m ((ls.set k (.inr (.inl y))).set (k + 1) (.inr (.inr (.inr ())))) := by
  intro i a hi
  by_cases e1 : k + 1 = i
  · subst e1
    rw [List.getElem?_set] at hi
    simp only [if_true] at hi
    split at hi
    · cases hi
    · cases hi
  rw [List.getElem?_set_ne e1] at hi
  by_cases e : k = i
  · subst e
    simp only [q_lok, Bool.and_eq_true] at hk
    exact q_contains.mp hk.1.2
  · rw [List.getElem?_set_ne e] at hi
    exact hg i a hi
theorem q_s_lstore_n (X : q_Cx z ad D cA m d p R s mm args meth c) {a : Int} {i : Fin 4} (hd : decode (q_m m).2.1 pc = .ok (.lstore_n i, 1)) (hk : q_lok m i = true) (k : q_At z ad D cA m p l e R s mm args below meth c Q c0 s0 (pc + 1, (ls.set i (.inr (.inl a))).set (i + 1) (.inr (.inr (.inr ()))), st, v, G)) : q_At z ad D cA m p l e R s mm args below meth c Q c0 s0 (pc, ls, .inr (.inl a) :: st, v, G) := by
  intro H locs LS hW hK hS hL hg hc hs
  refine lv_lstore_n X.1 X.2.1 hd rfl hL.has (by simp only [q_lok, Bool.and_eq_true, decide_eq_true_eq] at hk; exact hk.1.1) rfl (fun LS' h' => ?_)
  exact k H locs LS' hW hK hS (hL.store2 (y := a) hk hg h') (hg.store2 hk) hc hs
theorem q_s_lstore (X : q_Cx z ad D cA m d p R s mm args meth c) {a : Int} {i : Nat} (hd : decode (q_m m).2.1 pc = .ok (.lstore i, 2)) (hk : q_lok m i = true) (k : q_At z ad D cA m p l e R s mm args below meth c Q c0 s0 (pc + 2, (ls.set i (.inr (.inl a))).set (i + 1) (.inr (.inr (.inr ()))), st, v, G)) : q_At z ad D cA m p l e R s mm args below meth c Q c0 s0 (pc, ls, .inr (.inl a) :: st, v, G) := by
  intro H locs LS hW hK hS hL hg hc hs
  refine lv_lstore X.1 X.2.1 hd hL.has (by simp only [q_lok, Bool.and_eq_true, decide_eq_true_eq] at hk; exact hk.1.1) rfl (fun LS' h' => ?_)
  exact k H locs LS' hW hK hS (hL.store2 (y := a) hk hg h') (hg.store2 hk) hc hs
end QLs

/-! ===== every step ===== -/
theorem q_step_mono {x : q_I} {pc : Nat} {ls st : List q_V} {v : q_H} {G : q_Gr} {S : q_S} (h : q_step x pc ls st v G = some S) : G.2.2.1 ≤ S.2.2.2.2.2.2.1 ∧ G.2.2.2 ≤ S.2.2.2.2.2.2.2 := by
  obtain ⟨i, n, x1, x2, x3, x4, xi⟩ := x
  unfold q_step at h
  dsimp only at h
  cases i <;> dsimp only at h <;> first
    | (cases h; done)
    | (cases h; exact ⟨Nat.le_refl _, Nat.le_refl _⟩)
    | ((try simp only [q_1I, q_2I, q_1L, q_2L, q_LI, q_1P, q_1A, q_IA, q_IIA, q_AIA, q_IO, q_PO, q_5, q_lI, q_lL, q_lP, q_jmp, q_br] at h)
       repeat' split at h
       all_goals first | (cases h; done) | (cases h; exact ⟨Nat.le_refl _, Nat.le_refl _⟩) | (cases h; exact ⟨Nat.le_succ _, Nat.le_add_right _ _⟩))
section QT
variable {z : Nat} {ad : Nat → Nat} {D : va_G} {cA : Nat → ClassId} {m d : Nat} {p : Program} {l : Launch} {e : Env} {R : Room} {s : State} {mm : MethodId} {args : Array Value} {below : List Frame} {meth : Method} {c : Code} {Q : State → Prop} {c0 s0 pc : Nat} {ls st : List q_V} {v : q_H} {G : q_Gr}
set_option maxHeartbeats 4000000 in
theorem q_sim_step (X : q_Cx z ad D cA m d p R s mm args meth c) (hm : m < 227) {S : q_S} (h : q_step (q_code m pc) pc ls st v G = some S) (hR : S.2.2.2.2.2.2.1 ≤ c0 + R.cells ∧ S.2.2.2.2.2.2.2 ≤ s0 + R.slots) (k : q_At z ad D cA m p l e R s mm args below meth c Q c0 s0 S) : q_At z ad D cA m p l e R s mm args below meth c Q c0 s0 (pc, ls, st, v, G) := by
  generalize hx : q_code m pc = x at h
  obtain ⟨i, n, x1, x2, x3, x4, xi⟩ := x
  cases i with
  | iconst a =>
    have hd := q_dec_ok hm hx (fun q => by cases q) (fun _ _ _ _ q => by cases q)
    cases h
    exact q_s_iconst X hd k
  | bipush a =>
    have hd := q_dec_ok hm hx (fun q => by cases q) (fun _ _ _ _ q => by cases q)
    by_cases h1 : -128 ≤ a ∧ a ≤ 127
    · simp only [q_step, if_pos h1] at h; cases h
      exact q_s_bipush X hd h1 k
    · simp only [q_step, if_neg h1] at h; cases h
  | sipush a =>
    have hd := q_dec_ok hm hx (fun q => by cases q) (fun _ _ _ _ q => by cases q)
    by_cases h1 : -32768 ≤ a ∧ a ≤ 32767
    · simp only [q_step, if_pos h1] at h; cases h
      exact q_s_sipush X hd h1 k
    · simp only [q_step, if_neg h1] at h; cases h
  | lconst a =>
    have hd := q_dec_ok hm hx (fun q => by cases q) (fun _ _ _ _ q => by cases q)
    cases h
    exact q_s_lconst X hd k
  | aconst_null =>
    have hd := q_dec_ok hm hx (fun q => by cases q) (fun _ _ _ _ q => by cases q)
    cases h
    exact q_s_null X hd k
  | ldc i =>
    have hd := q_dec_ok hm hx (fun q => by cases q) (fun _ _ _ _ q => by cases q)
    have hc := q_chkx_ok hm hx (fun q => by cases q)
    by_cases h1 : x1 = 0
    · simp only [q_step, if_pos h1] at h; cases h
      simp only [q_chkx, if_pos h1] at hc
      exact q_s_ldc X hd hc k
    · simp only [q_step, if_neg h1] at h; cases h
      simp only [q_chkx, if_neg h1, Bool.and_eq_true, decide_eq_true_eq] at hc
      exact q_s_ldcS X hd ⟨hc.1.1.1, hc.1.1.2, hc.1.2, hc.2⟩ k
  | ldc_w i =>
    have hd := q_dec_ok hm hx (fun q => by cases q) (fun _ _ _ _ q => by cases q)
    have hc := q_chkx_ok hm hx (fun q => by cases q)
    by_cases h1 : x1 = 0
    · simp only [q_step, if_pos h1] at h; cases h
      exact q_s_ldcw X hd hc k
    · simp only [q_step, if_neg h1] at h; cases h
  | ldc2_w i =>
    have hd := q_dec_ok hm hx (fun q => by cases q) (fun _ _ _ _ q => by cases q)
    have hc := q_chkx_ok hm hx (fun q => by cases q)
    cases h
    exact q_s_ldc2 X hd hc k
  | iload_n i =>
    have hd := q_dec_ok hm hx (fun q => by cases q) (fun _ _ _ _ q => by cases q)
    obtain ⟨a, hl, h⟩ := q_lI_some h
    cases h
    exact q_s_iload_n X hd hl k
  | iload i =>
    have hd := q_dec_ok hm hx (fun q => by cases q) (fun _ _ _ _ q => by cases q)
    obtain ⟨a, hl, h⟩ := q_lI_some h
    cases h
    exact q_s_iload X hd hl k
  | lload_n i =>
    have hd := q_dec_ok hm hx (fun q => by cases q) (fun _ _ _ _ q => by cases q)
    obtain ⟨a, hl, h⟩ := q_lL_some h
    cases h
    exact q_s_lload_n X hd hl k
  | lload i =>
    have hd := q_dec_ok hm hx (fun q => by cases q) (fun _ _ _ _ q => by cases q)
    obtain ⟨a, hl, h⟩ := q_lL_some h
    cases h
    exact q_s_lload X hd hl k
  | aload_n i =>
    have hd := q_dec_ok hm hx (fun q => by cases q) (fun _ _ _ _ q => by cases q)
    obtain ⟨a, hl, h⟩ := q_lP_some h
    cases h
    exact q_s_aload_n X hd hl k
  | aload i =>
    have hd := q_dec_ok hm hx (fun q => by cases q) (fun _ _ _ _ q => by cases q)
    obtain ⟨a, hl, h⟩ := q_lP_some h
    cases h
    exact q_s_aload X hd hl k
  | istore_n i =>
    have hd := q_dec_ok hm hx (fun q => by cases q) (fun _ _ _ _ q => by cases q)
    have hc := q_chkx_ok hm hx (fun q => by cases q)
    obtain ⟨a, r, rfl, g⟩ := q_1I_some h; replace h := g
    cases h
    exact q_s_istore_n X hd hc k
  | istore i =>
    have hd := q_dec_ok hm hx (fun q => by cases q) (fun _ _ _ _ q => by cases q)
    have hc := q_chkx_ok hm hx (fun q => by cases q)
    obtain ⟨a, r, rfl, g⟩ := q_1I_some h; replace h := g
    cases h
    exact q_s_istore X hd hc k
  | astore_n i =>
    have hd := q_dec_ok hm hx (fun q => by cases q) (fun _ _ _ _ q => by cases q)
    have hc := q_chkx_ok hm hx (fun q => by cases q)
    obtain ⟨a, r, rfl, g⟩ := q_1P_some h; replace h := g
    cases h
    exact q_s_astore_n X hd hc k
  | astore i =>
    have hd := q_dec_ok hm hx (fun q => by cases q) (fun _ _ _ _ q => by cases q)
    have hc := q_chkx_ok hm hx (fun q => by cases q)
    obtain ⟨a, r, rfl, g⟩ := q_1P_some h; replace h := g
    cases h
    exact q_s_astore X hd hc k
  | lstore_n i =>
    have hd := q_dec_ok hm hx (fun q => by cases q) (fun _ _ _ _ q => by cases q)
    have hc := q_chkx_ok hm hx (fun q => by cases q)
    obtain ⟨a, r, rfl, g⟩ := q_1L_some h; replace h := g
    cases h
    exact q_s_lstore_n X hd hc k
  | lstore i =>
    have hd := q_dec_ok hm hx (fun q => by cases q) (fun _ _ _ _ q => by cases q)
    have hc := q_chkx_ok hm hx (fun q => by cases q)
    obtain ⟨a, r, rfl, g⟩ := q_1L_some h; replace h := g
    cases h
    exact q_s_lstore X hd hc k
  | iinc i n =>
    have hd := q_dec_ok hm hx (fun q => by cases q) (fun _ _ _ _ q => by cases q)
    have hc := q_chkx_ok hm hx (fun q => by cases q)
    obtain ⟨a, hl, h⟩ := q_lI_some h
    cases h
    exact q_s_iinc X hd hc hl k
  | iadd =>
    have hd := q_dec_ok hm hx (fun q => by cases q) (fun _ _ _ _ q => by cases q)
    obtain ⟨a, b, r, rfl, g⟩ := q_2I_some h; replace h := g
    cases h
    exact q_s_iadd X hd k
  | isub =>
    have hd := q_dec_ok hm hx (fun q => by cases q) (fun _ _ _ _ q => by cases q)
    obtain ⟨a, b, r, rfl, g⟩ := q_2I_some h; replace h := g
    cases h
    exact q_s_isub X hd k
  | imul =>
    have hd := q_dec_ok hm hx (fun q => by cases q) (fun _ _ _ _ q => by cases q)
    obtain ⟨a, b, r, rfl, g⟩ := q_2I_some h; replace h := g
    cases h
    exact q_s_imul X hd k
  | iand =>
    have hd := q_dec_ok hm hx (fun q => by cases q) (fun _ _ _ _ q => by cases q)
    obtain ⟨a, b, r, rfl, g⟩ := q_2I_some h; replace h := g
    cases h
    exact q_s_iand X hd k
  | idiv =>
    have hd := q_dec_ok hm hx (fun q => by cases q) (fun _ _ _ _ q => by cases q)
    obtain ⟨a, b, r, rfl, g⟩ := q_2I_some h; replace h := g
    try dsimp only at h
    split at h
    · next h1 => cases h; exact q_s_idiv X hd h1 k
    · cases h
  | irem =>
    have hd := q_dec_ok hm hx (fun q => by cases q) (fun _ _ _ _ q => by cases q)
    obtain ⟨a, b, r, rfl, g⟩ := q_2I_some h; replace h := g
    try dsimp only at h
    split at h
    · next h1 => cases h; exact q_s_irem X hd h1 k
    · cases h
  | ladd =>
    have hd := q_dec_ok hm hx (fun q => by cases q) (fun _ _ _ _ q => by cases q)
    obtain ⟨a, b, r, rfl, g⟩ := q_2L_some h; replace h := g
    cases h
    exact q_s_ladd X hd k
  | lmul =>
    have hd := q_dec_ok hm hx (fun q => by cases q) (fun _ _ _ _ q => by cases q)
    obtain ⟨a, b, r, rfl, g⟩ := q_2L_some h; replace h := g
    cases h
    exact q_s_lmul X hd k
  | land =>
    have hd := q_dec_ok hm hx (fun q => by cases q) (fun _ _ _ _ q => by cases q)
    obtain ⟨a, b, r, rfl, g⟩ := q_2L_some h; replace h := g
    cases h
    exact q_s_land X hd k
  | lor =>
    have hd := q_dec_ok hm hx (fun q => by cases q) (fun _ _ _ _ q => by cases q)
    obtain ⟨a, b, r, rfl, g⟩ := q_2L_some h; replace h := g
    cases h
    exact q_s_lor X hd k
  | lrem =>
    have hd := q_dec_ok hm hx (fun q => by cases q) (fun _ _ _ _ q => by cases q)
    obtain ⟨a, b, r, rfl, g⟩ := q_2L_some h; replace h := g
    try dsimp only at h
    split at h
    · next h1 => cases h; exact q_s_lrem X hd h1 k
    · cases h
  | lcmp =>
    have hd := q_dec_ok hm hx (fun q => by cases q) (fun _ _ _ _ q => by cases q)
    obtain ⟨a, b, r, rfl, g⟩ := q_2L_some h; replace h := g
    try dsimp only at h
    split at h
    · next h1 => cases h; exact q_s_lcmp X hd h1 k
    · cases h
  | lshl =>
    have hd := q_dec_ok hm hx (fun q => by cases q) (fun _ _ _ _ q => by cases q)
    obtain ⟨a, b, r, rfl, g⟩ := q_LI_some h; replace h := g
    cases h
    exact q_s_lshl X hd k
  | lshr =>
    have hd := q_dec_ok hm hx (fun q => by cases q) (fun _ _ _ _ q => by cases q)
    obtain ⟨a, b, r, rfl, g⟩ := q_LI_some h; replace h := g
    cases h
    exact q_s_lshr X hd k
  | lushr =>
    have hd := q_dec_ok hm hx (fun q => by cases q) (fun _ _ _ _ q => by cases q)
    obtain ⟨a, b, r, rfl, g⟩ := q_LI_some h; replace h := g
    cases h
    exact q_s_lushr X hd k
  | i2b =>
    have hd := q_dec_ok hm hx (fun q => by cases q) (fun _ _ _ _ q => by cases q)
    obtain ⟨a, r, rfl, g⟩ := q_1I_some h; replace h := g
    cases h
    exact q_s_i2b X hd k
  | i2s =>
    have hd := q_dec_ok hm hx (fun q => by cases q) (fun _ _ _ _ q => by cases q)
    obtain ⟨a, r, rfl, g⟩ := q_1I_some h; replace h := g
    cases h
    exact q_s_i2s X hd k
  | i2l =>
    have hd := q_dec_ok hm hx (fun q => by cases q) (fun _ _ _ _ q => by cases q)
    obtain ⟨a, r, rfl, g⟩ := q_1I_some h; replace h := g
    try dsimp only at h
    split at h
    · next h1 => cases h; exact q_s_i2l X hd h1 k
    · cases h
  | l2i =>
    have hd := q_dec_ok hm hx (fun q => by cases q) (fun _ _ _ _ q => by cases q)
    obtain ⟨a, r, rfl, g⟩ := q_1L_some h; replace h := g
    cases h
    exact q_s_l2i X hd k
  | dup =>
    have hd := q_dec_ok hm hx (fun q => by cases q) (fun _ _ _ _ q => by cases q)
    simp only [q_step] at h
    split at h
    · cases h; exact q_s_dupI X hd k
    · cases h; exact q_s_dupP X hd k
    · cases h
  | pop =>
    have hd := q_dec_ok hm hx (fun q => by cases q) (fun _ _ _ _ q => by cases q)
    simp only [q_step] at h
    split at h
    · cases h; exact q_s_popI X hd k
    · cases h; exact q_s_popP X hd k
    · cases h
  | dup2 =>
    have hd := q_dec_ok hm hx (fun q => by cases q) (fun _ _ _ _ q => by cases q)
    obtain ⟨a, i, r, rfl, g⟩ := q_IA_some h; replace h := g
    cases h
    exact q_s_dup2 X hd k
  | goto off =>
    have hd := q_dec_ok hm hx (fun q => by cases q) (fun _ _ _ _ q => by cases q)
    obtain ⟨t, ht, rfl⟩ := q_jmp_some h
    exact q_s_goto X hd ht k
  | ifCond cd off =>
    have hd := q_dec_ok hm hx (fun q => by cases q) (fun _ _ _ _ q => by cases q)
    obtain ⟨a, r, rfl, g⟩ := q_1I_some h; replace h := g
    try dsimp only at h
    split at h
    · next h1 =>
      obtain ⟨t, ht, rfl⟩ := q_br_some h
      exact q_s_if X hd ⟨h1, by decide⟩ ht k
    · cases h
  | if_icmp cd off =>
    have hd := q_dec_ok hm hx (fun q => by cases q) (fun _ _ _ _ q => by cases q)
    obtain ⟨a, b, r, rfl, g⟩ := q_2I_some h; replace h := g
    try dsimp only at h
    split at h
    · next h1 =>
      obtain ⟨t, ht, rfl⟩ := q_br_some h
      exact q_s_icmp X hd h1 ht k
    · cases h
  | ifnull off =>
    have hd := q_dec_ok hm hx (fun q => by cases q) (fun _ _ _ _ q => by cases q)
    obtain ⟨a, r, rfl, g⟩ := q_1P_some h; replace h := g
    exact q_s_ifnull X hd h k
  | ifnonnull off =>
    have hd := q_dec_ok hm hx (fun q => by cases q) (fun _ _ _ _ q => by cases q)
    obtain ⟨a, r, rfl, g⟩ := q_1P_some h; replace h := g
    exact q_s_ifnonnull X hd h k
  | tableswitch dflt lo hi offs =>
    obtain ⟨n, hd⟩ := q_dec_ts hm hx rfl
    obtain ⟨a, r, rfl, g⟩ := q_1I_some h; replace h := g
    try dsimp only at h
    split at h
    · next h1 => exact q_s_table X hd h1 h k
    · cases h
  | getfield i =>
    have hd := q_dec_ok hm hx (fun q => by cases q) (fun _ _ _ _ q => by cases q)
    have hc := q_chkx_ok hm hx (fun q => by cases q)
    obtain ⟨a, r, rfl, g⟩ := q_1A_some h; replace h := g
    try dsimp only at h
    split at h
    · next h1 =>
      refine q_s_getf X hd hc h1 ?_
      split at h
      · next h2 => cases h; dsimp only at h2 ⊢; rw [if_pos h2]; exact k
      · next h2 => cases h; dsimp only at h2 ⊢; rw [if_neg h2]; exact k
    · cases h
  | putfield i =>
    have hd := q_dec_ok hm hx (fun q => by cases q) (fun _ _ _ _ q => by cases q)
    have hc := q_chkx_ok hm hx (fun q => by cases q)
    simp only [q_chkx, Bool.and_eq_true, Bool.or_eq_true, Bool.not_eq_true', decide_eq_true_eq] at hc
    simp only [q_step] at h
    split at h
    · next h2 =>
      obtain ⟨a, y, r, rfl, g⟩ := q_IO_some h; replace h := g
      try dsimp only at h
      split at h
      · next h1 => cases h; exact q_s_put X hd hc.1 hc.2 h1 (Or.inl ⟨h2, y, rfl, rfl, rfl⟩) k
      · cases h
    · next h2 =>
      obtain ⟨a, y, r, rfl, g⟩ := q_PO_some h; replace h := g
      try dsimp only at h
      split at h
      · next h1 => cases h; exact q_s_put X hd hc.1 hc.2 h1 (Or.inr ⟨h2, y, rfl, rfl, rfl⟩) k
      · cases h
  | getstatic i =>
    have hd := q_dec_ok hm hx (fun q => by cases q) (fun _ _ _ _ q => by cases q)
    have hc := q_chkx_ok hm hx (fun q => by cases q)
    simp only [q_chkx, Bool.and_eq_true, decide_eq_true_eq] at hc
    cases h
    exact q_s_gets X hd hc.1 hc.2 k
  | iaload =>
    have hd := q_dec_ok hm hx (fun q => by cases q) (fun _ _ _ _ q => by cases q)
    obtain ⟨a, i, r, rfl, g⟩ := q_IA_some h; replace h := g
    try dsimp only at h
    split at h
    · next h1 => cases h; exact q_s_iald X hd h1 k
    · cases h
  | baload =>
    have hd := q_dec_ok hm hx (fun q => by cases q) (fun _ _ _ _ q => by cases q)
    obtain ⟨a, i, r, rfl, g⟩ := q_IA_some h; replace h := g
    try dsimp only at h
    split at h
    · next h1 => cases h; exact q_s_bald X hd h1 k
    · cases h
  | aaload =>
    have hd := q_dec_ok hm hx (fun q => by cases q) (fun _ _ _ _ q => by cases q)
    obtain ⟨a, i, r, rfl, g⟩ := q_IA_some h; replace h := g
    try dsimp only at h
    split at h
    · next h1 => cases h; exact q_s_aald X hd h1 k
    · cases h
  | iastore =>
    have hd := q_dec_ok hm hx (fun q => by cases q) (fun _ _ _ _ q => by cases q)
    obtain ⟨a, i, y, r, rfl, g⟩ := q_IIA_some h; replace h := g
    try dsimp only at h
    split at h
    · next h1 => cases h; exact q_s_iast X hd h1 k
    · cases h
  | bastore =>
    have hd := q_dec_ok hm hx (fun q => by cases q) (fun _ _ _ _ q => by cases q)
    obtain ⟨a, i, y, r, rfl, g⟩ := q_IIA_some h; replace h := g
    try dsimp only at h
    split at h
    · next h1 => cases h; exact q_s_bast X hd h1 k
    · cases h
  | aastore =>
    have hd := q_dec_ok hm hx (fun q => by cases q) (fun _ _ _ _ q => by cases q)
    obtain ⟨a, i, b, r, rfl, g⟩ := q_AIA_some h; replace h := g
    try dsimp only at h
    split at h
    · next h1 => cases h; exact q_s_aast X hd h1 k
    · cases h
  | arraylength =>
    have hd := q_dec_ok hm hx (fun q => by cases q) (fun _ _ _ _ q => by cases q)
    obtain ⟨a, r, rfl, g⟩ := q_1A_some h; replace h := g
    try dsimp only at h
    split at h
    · next h1 => cases h; exact q_s_alen X hd h1 k
    · cases h
  | new i =>
    have hd := q_dec_ok hm hx (fun q => by cases q) (fun _ _ _ _ q => by cases q)
    have hc := q_chkx_ok hm hx (fun q => by cases q)
    simp only [q_chkx, Bool.and_eq_true, decide_eq_true_eq] at hc
    simp only [q_step] at h
    split at h
    · next h1 => cases h; exact q_s_new X hd hc.1.1 hc.1.2 hc.2 h1.2 hR k
    · cases h
  | newarray t =>
    have hd := q_dec_ok hm hx (fun q => by cases q) (fun _ _ _ _ q => by cases q)
    obtain ⟨a, r, rfl, g⟩ := q_1I_some h; replace h := g
    try dsimp only at h
    split at h
    · next h1 =>
      try dsimp only at h
      split at h
      · cases h; exact q_s_newa X hd (Or.inl ⟨rfl, rfl⟩) h1.1 h1.2.2 hR k
      · cases h; exact q_s_newa X hd (Or.inr ⟨rfl, rfl⟩) h1.1 h1.2.2 hR k
      · cases h
    · cases h
  | anewarray i =>
    have hd := q_dec_ok hm hx (fun q => by cases q) (fun _ _ _ _ q => by cases q)
    have hc := q_chkx_ok hm hx (fun q => by cases q)
    simp only [q_chkx, Bool.and_eq_true, Bool.or_eq_true, decide_eq_true_eq] at hc
    obtain ⟨a, r, rfl, g⟩ := q_1I_some h; replace h := g
    try dsimp only at h
    split at h
    · next h1 => cases h; exact q_s_anew X hd (or_assoc.mp hc.1) hc.2 h1.1 h1.2.2 hR k
    · cases h
  | invokespecial i =>
    have hd := q_dec_ok hm hx (fun q => by cases q) (fun _ _ _ _ q => by cases q)
    have hc := q_chkx_ok hm hx (fun q => by cases q)
    obtain ⟨a, r, rfl, g⟩ := q_1A_some h; replace h := g
    try dsimp only at h
    split at h
    · next h1 =>
      cases h
      simp only [q_chkx, if_pos h1.1] at hc
      exact q_s_objInit X hd hc h1.2 k
    · cases h
  | invokestatic i =>
    have hd := q_dec_ok hm hx (fun q => by cases q) (fun _ _ _ _ q => by cases q)
    have hc := q_chkx_ok hm hx (fun q => by cases q)
    simp only [q_step] at h
    split at h
    · next h2 =>
      obtain ⟨a, b, r, rfl, g⟩ := q_2I_some h; replace h := g
      try dsimp only at h
      split at h
      · next h1 =>
        cases h
        simp only [q_chkx, h2] at hc
        exact q_s_max X hd hc h1 hR k
      · cases h
    · split at h
      · next h2 =>
        obtain ⟨a, b, r, rfl, g⟩ := q_2I_some h; replace h := g
        try dsimp only at h
        split at h
        · next h1 =>
          cases h
          simp only [q_chkx, h2] at hc
          exact q_s_min X hd hc h1 hR k
        · cases h
      · obtain ⟨a, i2, b, j, n2, r, rfl, g⟩ := q_5_some h; replace h := g
        try dsimp only at h
        split at h
        · next h1 =>
          cases h
          simp only [q_chkx, if_pos h1.1] at hc
          exact q_s_copy X hd hc h1.2 k
        · cases h
  | _ => cases h
end QT
