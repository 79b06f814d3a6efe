/-! THE CLAIM OUT OF ONE WALK OF THE LAW'S BODY. Your part is whole_start (and what it stands on); all else here is the same for every law, but numbers. -/
def R_law : String := "ProvenRowsLaw"
def lw_P (b : Addr) (xs : List Int32) (args : Array Value) (s : State) : Prop := args = #[.ref b] ∧ s.IntsAt b xs ∧ xs.length ≤ 3072 ∧ (Jvm.Cond.and given_1 narrow_1).before args s = true
def lw_Q (_ : Array Value) (s : State) (o : Outcome) (t : State) : Prop := o = .returned (some (.int 1)) ∧ Framed s o t [] 600000 7302250
def lw_Z (below : List Frame) (a : Array Value) (s : State) : State → Prop := fun t => ∃ o, t.status = .running ∧ Ended t below o ∧ lw_Q a s o t
/-- the law's own end, with 1 on the stack, nothing written that was there before, its room as the claim has it -/
theorem lw_ret {p : Program} {l : Launch} {e : Env} {s : State} {m : MethodId} {below : List Frame} {meth : Method} {c : Code} {b : Nat} (hx : p.tables.exec = Jvm.exec) (hb : c.code = code) (hr : meth.sig.returnType = ret) (hlocks : meth.locks = false) {pc : Nat} {H : Heap} {ls : Array Slot} (hdg : decode code pc = .ok (.ireturn, 1)) : W p l e room_1 s m #[Value.ref b] below meth c H [] 600000 7302250 (lw_Z below #[Value.ref b] s) (F0 m pc ls [.int 1]) := by
  intro T hT X
  obtain ⟨fs, hret, hrun, hended, hW, hframe⟩ := X.leave (v := some (.int 1)) (hlocks := hlocks) (fun h => by rw [hr] at h; cases h)
  have hmeth' : T.vm.method? m = some meth := X.method'
  refine ⟨T.setFrames fs, ?_, .returned (some (.int 1)), hrun, hended, rfl, ⟨_, rfl⟩, hW, hframe⟩
  jvm_step X.here [X.here.top, hx, hb, hdg, hmeth', hr, ret, narrow_b1]
  (try refine ⟨rfl, ?_⟩); (try refine ⟨rfl, ?_⟩)
  first | (intro acts; rw [hret _ acts rfl rfl rfl]) | rw [hret _ _ rfl rfl rfl]
  exact Steps.refl _
/-- what holds at the law's entry: the machine, the code, the tables' words (any of lw_tbl by 'hts w (by decide +kernel)'), the script of L ints xs at the cell b, what the Statement gives of the start (any of its parts by flat_of_before) -/
def lw_At (p : Program) (s : State) (m : MethodId) (meth : Method) (c : Code) (b L : Nat) (xs : Nat → Int32) : Prop :=
  p.tables.exec = Jvm.exec ∧ c.code = code ∧ meth.sig.returnType = ret ∧ c.maxLocals = 4 ∧ s.vm.findClass R_law = some m.cls ∧ (∀ w ∈ lw_tbl, w.before #[Value.ref b] s = true) ∧ va_X b L xs s s.heap ∧ b < s.heap.size ∧ meth.locks = false ∧ (Jvm.Cond.and given_1 narrow_1).before #[Value.ref b] s = true

/-! ===== the law's start ===== -/
/-- what stands in the constants: arrays of the class, texts -/
def q_cst : List (List Int) := [[], [1, 2, 3, 4, 5, 5, 6], [-1, 0, 1, 1, 1, 0, 5], [10, 11, 12, 11, 11, 13, 14], [20, 21, 21, 21, 22, 23, 23], [114, 97, 110, 103, 101], [115, 117, 109], [102, 105, 114, 115, 116], [112, 114, 111, 98, 101], [106, 111, 105, 110], [109, 101, 114, 103, 101], [110, 111, 116]]
def q_v0 (xs : Nat → Int32) : q_H := fun a k => if a = 0 then (xs k).toInt else (q_cst.getD a []).getD k 0
def q_sh0 (L : Nat) : Nat → Nat × Nat := fun a => if a = 0 then (20, L) else if a < 5 then (20, 7) else if a < 12 then (50, (q_cst.getD a []).length) else (99, 0)
def q_Gs (L : Nat) : q_Gr := (fun _ _ => none, q_sh0 L, 0, 0)
/-- THE PURE CLAIM: on every script the clean machine runs the law to its end, and answers 1 -/
def q_Pure : Prop := ∀ (L : Nat) (xs : Nat → Int32), L ≤ 3072 → ∃ (N : Nat) (v : q_H) (G : q_Gr), q_exec (q_run N 40) N 225 0 (q_ent [.inr (.inr (.inl (some 0)))] 4) [] (q_v0 xs) (q_Gs L) = some (.inl 1, v, G)
theorem q_step_room {x : q_I} {pc : Nat} {ls st : List q_V} {v : q_H} {G : q_Gr} {S : q_S} (h : q_step x pc ls st v G = some S) (h0 : G.2.2.1 ≤ 600000 ∧ G.2.2.2 ≤ 7302250) : S.2.2.2.2.2.2.1 ≤ 600000 ∧ S.2.2.2.2.2.2.2 ≤ 7302250 := by
  obtain ⟨i, n, x1, x2, x3, x4, xi⟩ := x
  unfold q_step at h
  dsimp only at h
  cases i <;> dsimp only at h <;> first
    | (cases h; done)
    | (cases h; exact h0)
    | ((try simp only [q_1I, q_2I, q_1L, q_2L, q_LI, q_1P, q_1A, q_IA, q_IIA, q_AIA, q_IO, q_PO, q_5, q_lI, q_lL, q_lP, q_jmp, q_br] at h)
       repeat' split at h
       all_goals first | (cases h; done) | (cases h; exact h0) | (next hh => cases h; exact hh) | (next hh => cases h; exact hh.2) | (next hh _ => cases h; exact hh.2) | (next hh _ _ => cases h; exact hh.2))
theorem q_exec_room {call : Nat → List q_V → q_H → q_Gr → Option q_R} (hcall : ∀ m as v G r v' G', call m as v G = some (r, v', G') → G.2.2.1 ≤ 600000 ∧ G.2.2.2 ≤ 7302250 → G'.2.2.1 ≤ 600000 ∧ G'.2.2.2 ≤ 7302250) : ∀ (n m pc : Nat) (ls st : List q_V) (v : q_H) (G : q_Gr) (r : q_V) (v' : q_H) (G' : q_Gr), q_exec call n m pc ls st v G = some (r, v', G') → G.2.2.1 ≤ 600000 ∧ G.2.2.2 ≤ 7302250 → G'.2.2.1 ≤ 600000 ∧ G'.2.2.2 ≤ 7302250 := by
  intro n
  induction n with
  | zero => intro m pc ls st v G r v' G' h; cases h
  | succ n ih =>
    intro m pc ls st v G r v' G' h h0
    simp only [q_exec] at h
    split at h
    · split at h
      · next S1 S2 S3 S4 S5 hs => exact ih _ _ _ _ _ _ _ _ _ h (q_step_room hs h0)
      · cases h
    · split at h
      · split at h
        · next r1 v1 G1 hc => exact ih _ _ _ _ _ _ _ _ _ h (hcall _ _ _ _ _ _ _ hc h0)
        · cases h
      · cases h
    · rw [(q_end_same h).2]
      exact h0
theorem q_run_room (N : Nat) : ∀ (d m : Nat) (as : List q_V) (v : q_H) (G : q_Gr) (r : q_V) (v' : q_H) (G' : q_Gr), q_run N d m as v G = some (r, v', G') → G.2.2.1 ≤ 600000 ∧ G.2.2.2 ≤ 7302250 → G'.2.2.1 ≤ 600000 ∧ G'.2.2.2 ≤ 7302250 := by
  intro d
  induction d with
  | zero => intro m as v G r v' G' h; cases h
  | succ d ih =>
    intro m as v G r v' G' h h0
    simp only [q_run] at h
    split at h
    · split at h
      · exact q_exec_room ih _ _ _ _ _ _ _ _ _ _ h h0
      · cases h
    · split at h
      · rw [(q_str_same h).2]
        exact h0
      · cases h
theorem q_nest_in : ∀ q ∈ q_nest, Cond.methodLinkNest q.1 q.2.1 q.2.2.1 q.2.2.2 ∈ lw_tbl := by decide +kernel
theorem q_ao_in : Cond.arrayOver (.object RX0) ∈ lw_tbl ∧ Cond.arrayOver (.object RX7) ∈ lw_tbl ∧ Cond.arrayOver (.object RX8) ∈ lw_tbl := by decide +kernel
theorem q_sr_in : ∀ j, j < 7 → Cond.stringRef RX4 (q_sidx.getD j 0) (q_stxt.getD j "") ∈ lw_tbl := by decide +kernel
theorem q_ls_in : ∀ j, j < 4 → Cond.laysStatic (q_stat.getD j ("", "")).1 (q_stat.getD j ("", "")).2 "[I" ∈ lw_tbl ∧ Cond.initialized (q_stat.getD j ("", "")).1 ∈ lw_tbl := by decide +kernel
theorem q_ls_cs : Cond.laysStatic "java/lang/String" "COMPACT_STRINGS" "Z" ∈ lw_tbl ∧ Cond.initialized "java/lang/String" ∈ lw_tbl := by decide +kernel
theorem q_ls_fm : Cond.laysStatic "jdk/internal/util/Preconditions" "SIOOBE_FORMATTER" "Ljava/util/function/BiFunction;" ∈ lw_tbl ∧ Cond.initialized "jdk/internal/util/Preconditions" ∈ lw_tbl := by decide +kernel
def q_fl : List Cond := flatC (Jvm.Cond.and given_1 narrow_1)
theorem q_fl_cs : Cond.eq (.static "java/lang/String" "COMPACT_STRINGS" "Z") (.int 1) ∈ q_fl := by decide +kernel
theorem q_fl_fm : Cond.isRef (.static "jdk/internal/util/Preconditions" "SIOOBE_FORMATTER" "Ljava/util/function/BiFunction;") ∈ q_fl := by decide +kernel
abbrev q_stm (j : Nat) : Term := .static (q_stat.getD j ("", "")).1 (q_stat.getD j ("", "")).2 "[I"
theorem q_fl_ar : ∀ j, j < 4 → Cond.arrayOf (q_stm j) .int ∈ q_fl ∧ Cond.eq (.length (q_stm j)) (.int (Int32.ofNat 7)) ∈ q_fl := by decide +kernel
theorem q_fl_el : ∀ j, j < 4 → ∀ k, k < 7 → Cond.eq (.elem (q_stm j) (.int (Int32.ofNat k))) (.int (Int32.ofInt ((q_cst.getD (1 + j) []).getD k 0))) ∈ q_fl := by decide +kernel
abbrev q_txm (j : Nat) : Term := .string RX4 (q_sidx.getD j 0)
def q_tln : List Nat := [5, 3, 5, 5, 4, 5, 3]
def q_tby : List (List Int32) := [[114, 97, 110, 103, 101], [115, 117, 109], [102, 105, 114, 115, 116], [112, 114, 111, 98, 101], [106, 111, 105, 110], [109, 101, 114, 103, 101], [110, 111, 116]]
theorem q_fl_t1 : ∀ j, j < 7 → Cond.exactly (q_txm j) "java/lang/String" ∈ q_fl ∧ Cond.eq (.field (q_txm j) "java/lang/String" "coder" "B") (.int 0) ∈ q_fl ∧ Cond.arrayOf (.field (q_txm j) "java/lang/String" "value" "[B") .byte ∈ q_fl ∧ Cond.eq (.length (.field (q_txm j) "java/lang/String" "value" "[B")) (.int (Int32.ofNat (q_tln.getD j 0))) ∈ q_fl := by decide +kernel
theorem q_fl_t2 : ∀ j, j < 7 → ∀ k, k < q_tln.getD j 0 → Cond.eq (.elem (.field (q_txm j) "java/lang/String" "value" "[B") (.int (Int32.ofNat k))) (.int ((q_tby.getD j []).getD k 0)) ∈ q_fl := by decide +kernel
theorem q_fl_t3 : ∀ i, i < 7 → ∀ j, j < 7 → i ≠ j → Cond.not (Cond.eq (q_txm i) (q_txm j)) ∈ q_fl ∨ Cond.not (Cond.eq (q_txm j) (q_txm i)) ∈ q_fl := by decide +kernel
theorem q_tln_ok : ∀ j, j < 7 → q_tln.getD j 0 < 2 ^ 31 ∧ q_tln.getD j 0 = (q_cst.getD (5 + j) []).length := by decide +kernel
theorem q_tby_ok : ∀ j, j < 7 → ∀ k, k < q_tln.getD j 0 → (q_tby.getD j []).getD k 0 = Int32.ofInt ((q_cst.getD (5 + j) []).getD k 0) ∧ 0 ≤ (q_cst.getD (5 + j) []).getD k 0 ∧ (q_cst.getD (5 + j) []).getD k 0 < 128 := by decide +kernel
theorem q_T.congr {ty : FieldType} {t N : Nat} {f g : Nat → Value} {A : Nat → Prop} {U : State} {H : Heap} (h : va_T ty t N f A U H) (hf : ∀ j, j < N → f j = g j) : va_T ty t N g A U H := by
  obtain ⟨cell, h1, h2, h3, h4, h5, h6, h7⟩ := h
  exact ⟨cell, h1, h2, h3, h4, h5, fun j hj => by rw [h6 j hj, hf j hj], h7⟩
set_option maxHeartbeats 4000000 in
theorem whole_start_open (hPure : q_Pure) {p : Program} {e : Env} {s : State} {m : MethodId} {below : List Frame} {meth : Method} {c : Code} (l : Launch) {b L : Nat} {xs : Nat → Int32} (hL : L ≤ 3072) (C0 : lw_At p s m meth c b L xs) : W p l e room_1 s m #[Value.ref b] below meth c s.heap [] 0 0 (lw_Z below #[Value.ref b] s) (entryFrame m ([Value.ref b] : List Value).toArray 4) := by
  obtain ⟨hx, hb, hr, hml, hown, hts, hX, hbl, hlocks, hgv⟩ := C0
  have hfl : ∀ w ∈ q_fl, w.before #[Value.ref b] s = true := flat_of_before _ hgv
  have hT : ∀ w ∈ q_T, w.before #[Value.ref b] s = true := fun w hw => hts w (q_T_good w hw).1
  have hA : ∀ a : Nat, a < s.heap.size → ¬ q_A s.heap.size a := fun a ha q => by have : s.heap.size ≤ a := q; omega
  -- classes
  have hcls : ∀ k : Nat, ∃ cC : ClassId, ∃ iS : Nat → Nat, ∀ q : vw_C, vwCl[k]? = some q → u_Kn s q.1 q.2.1 q.2.2 cC iS := by
    intro k
    cases hk : vwCl[k]? with
    | none => exact ⟨0, fun _ => 0, fun q h => by cases h⟩
    | some q =>
      obtain ⟨-, -, h1, h2, -⟩ := q_cl_ok hk
      obtain ⟨cC, iS, h3⟩ := u_known hT h1 (hT _ h2.1)
      exact ⟨cC, iS, fun q' h => by cases h; exact h3⟩
  obtain ⟨dC, hcls⟩ := Classical.axiomOfChoice hcls
  obtain ⟨dI, hcls⟩ := Classical.axiomOfChoice hcls
  -- array classes
  obtain ⟨c1, k1, m1, a1, a2, a3⟩ := Cond.arrayClass_spec (hT _ q_aci)
  obtain ⟨c2, k2, m2, b1, b2, b3⟩ := Cond.arrayClass_spec (hT _ q_acb)
  obtain ⟨m3, c3, k3, g1, -, g3, g4, g5⟩ := Cond.arrayOver_spec (hts _ q_ao_in.1)
  obtain ⟨m4, c4, k4, h1, -, h3, h4, h5⟩ := Cond.arrayOver_spec (hts _ q_ao_in.2.1)
  obtain ⟨m5, c5, k5, i1, -, i3, i4, i5⟩ := Cond.arrayOver_spec (hts _ q_ao_in.2.2)
  -- texts
  obtain ⟨adK, adV, hSt, hSe⟩ := vk_Sof (s := s) (args := #[Value.ref b]) (N := 7) (tm := q_txm) (len := q_tln) (byt := q_tby) (A := q_A s.heap.size) (fun i hi => (q_tln_ok i hi).1) (fun i hi => hfl _ (q_fl_t1 i hi).1) (fun i hi => hfl _ (q_fl_t1 i hi).2.1) (fun i hi => hfl _ (q_fl_t1 i hi).2.2.1) (fun i hi => hfl _ (q_fl_t1 i hi).2.2.2) (fun i hi j hj => hfl _ (q_fl_t2 i hi j hj)) (fun i j hi hj hne => (q_fl_t3 i hi j hj hne).imp (hfl _) (hfl _)) hA
  -- arrays of the classes
  have hst : ∀ j : Nat, ∃ t : Nat, j < 4 → (q_stm j).eval #[Value.ref b] s none [] s = some (.ref t) ∧ va_T .int t 7 (fun k => .int (Int32.ofInt ((q_cst.getD (1 + j) []).getD k 0))) (q_A s.heap.size) s s.heap := by
    intro j
    by_cases hj : j < 4
    · obtain ⟨t, t1, t2⟩ := va_Tof (N := 7) (f := fun k => .int (Int32.ofInt ((q_cst.getD (1 + j) []).getD k 0))) (A := q_A s.heap.size) (by decide) (hfl _ (q_fl_ar j hj).1) (va_eqt (hfl _ (q_fl_ar j hj).2)) (fun k hk => va_eqt (hfl _ (q_fl_el j hj k hk))) hA
      exact ⟨t, fun _ => ⟨t1, t2⟩⟩
    · exact ⟨0, fun h => absurd h hj⟩
  obtain ⟨adT, hst⟩ := Classical.axiomOfChoice hst
  have hE : q_E s.heap.size (fun a => if a = 0 then b else if a < 5 then adT (a - 1) else adK (a - 5)) (dC, dI) (fun k => if k = 20 then c1 else if k = 21 then c2 else if k = 30 then c3 else if k = 37 then c4 else c5) s s.heap := by
    refine ⟨⟨fun k q hq => hcls k q hq, ?_⟩, fun q hq => va_Nw.of rfl (hts _ (q_nest_in q hq)), ⟨va_AO.of (hts _ q_ao_in.1), va_AO.of (hts _ q_ao_in.2.1), va_AO.of (hts _ q_ao_in.2.2)⟩, fun j hj => ?_, fun j hj => ?_, ?_, ?_⟩
    · intro k q hq
      match k, hq with
      | 0, hq => cases hq; exact ⟨fun n z => ⟨fun k h => (by cases h), k1, a2, m1, a3⟩, a1⟩
      | 1, hq => cases hq; exact ⟨fun n z => ⟨fun k h => (by cases h), k2, b2, m2, b3⟩, b1⟩
      | 2, hq => cases hq; exact ⟨fun n z => ⟨fun k h => (by cases h), k3, g3, m3, g4⟩, k3, m3, g3, g4, g1, g5⟩
      | 3, hq => cases hq; exact ⟨fun n z => ⟨fun k h => (by cases h), k4, h3, m4, h4⟩, k4, m4, h3, h4, h1, h5⟩
      | 4, hq => cases hq; exact ⟨fun n z => ⟨fun k h => (by cases h), k5, i3, m5, i4⟩, k5, m5, i3, i4, i1, i5⟩
      | k + 5, hq => simp [q_tys] at hq
    · have := hSe j hj
      dsimp only
      rw [show (if 5 + j = 0 then b else if 5 + j < 5 then adT (5 + j - 1) else adK (5 + j - 5)) = adK j by rw [if_neg (by omega), if_neg (by omega), show 5 + j - 5 = j by omega]]
      exact vk_R.of (hts _ (q_sr_in j hj)) this
    · have := hst j hj
      dsimp only
      rw [show (if 1 + j = 0 then b else if 1 + j < 5 then adT (1 + j - 1) else adK (1 + j - 5)) = adT j by rw [if_neg (by omega), if_pos (by omega), show 1 + j - 1 = j by omega]]
      exact va_Zof (hts _ (q_ls_in j hj).1) (hts _ (q_ls_in j hj).2) this.1 hA
    · exact va_Zof (hts _ q_ls_cs.1) (hts _ q_ls_cs.2) (va_eqi (hfl _ q_fl_cs)) hA
    · exact va_Zqof (hts _ q_ls_fm.1) (hts _ q_ls_fm.2) (hfl _ q_fl_fm) hA
  generalize had : (fun a => if a = 0 then b else if a < 5 then adT (a - 1) else adK (a - 5)) = ad at hE
  have ad0 : ad 0 = b := by rw [← had]; rfl
  generalize (fun k => if k = 20 then c1 else if k = 21 then c2 else if k = 30 then c3 else if k = 37 then c4 else c5) = cA at hE
  have hK : q_K s.heap.size ad (q_v0 xs) (q_Gs L) s s.heap := by
    intro a ha
    by_cases e0 : a = 0
    · subst e0
      left
      refine ⟨rfl, ?_⟩
      rw [ad0]
      obtain ⟨scr, x1, x2, x3, x4, x5⟩ := hX
      refine ⟨scr, x1, x2, x3, Nat.le_of_eq x4.symm, by rw [x4]; rfl, fun j hj => ?_, hA b hbl⟩
      have hj : j < L := hj
      rw [x5 j hj]
      simp [q_v0]
    · by_cases e1 : a < 5
      · left
        have hsh : (q_Gs L).2.1 a = (20, 7) := by simp [q_Gs, q_sh0, e0, e1]
        rw [hsh]
        refine ⟨rfl, ?_⟩
        have := (hst (a - 1) (by omega)).2
        rw [show 1 + (a - 1) = a by omega] at this
        rw [← had]
        simp only [if_neg e0, if_pos e1]
        exact q_T.congr this (fun j _ => by simp [q_v0, e0])
      · by_cases e2 : a < 12
        · right; left
          have hsh : (q_Gs L).2.1 a = (50, (q_cst.getD a []).length) := by simp [q_Gs, q_sh0, e0, e1, e2]
          rw [hsh]
          obtain ⟨t1, t2, t3, t4⟩ := hSt.1 (a - 5) (by omega)
          have hln := (q_tln_ok (a - 5) (by omega)).2
          have hby := q_tby_ok (a - 5) (by omega)
          rw [show 5 + (a - 5) = a by omega] at hln hby
          rw [hln] at t4 hby
          have hadr : ad a = adK (a - 5) := by rw [← had]; simp only [if_neg e0, if_neg e1]
          rw [hadr]
          exact ⟨rfl, adV (a - 5), t1, t2, t3, q_T.congr t4 (fun j hj => by rw [(hby j hj).1]; simp [q_v0, e0]), fun j hj => by simp only [q_v0, if_neg e0]; exact (hby j hj).2⟩
        · right; right
          simp [q_Gs, q_sh0, e0, e1, e2]
  have hW : q_W s.heap.size ad (dC, dI) cA (q_v0 xs) (q_Gs L) s.heap := by
    refine ⟨rfl, fun a h1 h2 => ?_, fun a h => ?_, fun a => ?_⟩
    · have h2 : a < 32 + 0 := h2
      omega
    · have h : 32 + 0 ≤ a := h
      simp [q_Gs, q_sh0, show a ≠ 0 by omega, show ¬ a < 5 by omega, show ¬ a < 12 by omega]
    · simp only [q_Gs, q_sh0]
      split
      · show L ≤ _; omega
      · split
        · decide
        · split
          · next h0 h1 h2 =>
            have := (q_tln_ok (a - 5) (by omega))
            rw [show 5 + (a - 5) = a by omega] at this
            show (q_cst.getD a []).length ≤ _
            omega
          · decide
  obtain ⟨N, vF, GF, hrun⟩ := hPure L xs hL
  have hroom := q_exec_room (q_run_room N 40) _ _ _ _ _ _ _ _ _ _ hrun ⟨Nat.zero_le _, Nat.zero_le _⟩
  have X : q_Cx s.heap.size ad (dC, dI) cA 225 40 p room_1 s m #[Value.ref b] meth c := ⟨hx, hb, hml, hown, hT, hr, hlocks, (fun q => absurd q (by decide)), hE, Nat.le_refl _, by decide, by decide⟩
  have key := q_exec_sim (l := l) (e := e) (below := below) (Q := lw_Z below #[Value.ref b] s) (c0 := 0) (s0 := 0) X (by decide) (fun d2 _ => q_ok_all l N d2) (rF := .inl 1) (vF := vF) (GF := GF) (by show _ ≤ 0 + 600000 ∧ _ ≤ 0 + 7302250; omega) ?_ N 0 _ _ _ _ hrun
  · have hent : entryFrame m ([Value.ref b] : List Value).toArray 4 = F0 m 0 ((lg_sl ([.inr (.inr (.inl (some 0)))].map (q_tv s.heap.size ad)) ++ List.replicate (4 - (lg_sl ([.inr (.inr (.inl (some 0)))].map (q_tv s.heap.size ad))).length) Slot.unset).toArray) [] := by
      rw [lg_entry_eq]
      have : [.inr (.inr (.inl (some 0)))].map (q_tv s.heap.size ad) = [Value.ref b] := by
        show [Value.ref (q_ad s.heap.size ad 0)] = _
        rw [show q_ad s.heap.size ad 0 = b by unfold q_ad; rw [if_pos (by decide), ad0]]
      rw [this]
    rw [hent]
    exact key s.heap [] _ hW hK va_S.rf (q_entry [.inr (.inr (.inl (some 0)))] (by decide)) (q_lgB_lg (show q_lgB 225 (q_ent [.inr (.inr (.inl (some 0)))] 4) = true by decide +kernel)) (Nat.zero_le _) (Nat.zero_le _)
  · intro pc ls st v G hk he
    obtain ⟨rfl, rfl⟩ := q_end_same he
    intro H locs LS hW hK hS hL hg hc hs
    dsimp only at hW hK hL hg hc hs ⊢
    generalize hxx : q_code 225 pc = x at he hk
    obtain ⟨i, n, x1, x2, x3, x4, xi⟩ := x
    cases i with
    | ireturn =>
      have hd := q_dec_ok (by decide) hxx (fun q => by cases q) (fun _ _ _ _ q => by cases q)
      have hst1 : st = [.inl 1] := by
        simp only [q_end] at he
        split at he
        · next a heq =>
          split at he
          · cases he; rfl
          · split at he
            · cases he; rfl
            · cases he
          · cases he
        all_goals first | (cases he; done) | (next q => cases q)
      subst hst1
      refine va_forget hS.2.2 ?_
      refine W.widen (k := 600000) (n := 7302250) (by omega) (by omega) ?_
      exact lw_ret hx hb hr hlocks hd
    | _ => exfalso; first | (exact absurd rfl hk.1) | (simp only [q_kind] at hk; split at hk <;> simp at hk; done) | (exact absurd rfl hk.2) | (simp only [q_end] at he; repeat' split at he; all_goals first | (cases he; done) | (next q => cases q; done))
