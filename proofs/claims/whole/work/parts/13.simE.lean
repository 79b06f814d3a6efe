
/-! ===== calls, ends, methods ===== -/
theorem q_meths : ((List.range 227).all fun m => plainName (q_m m).1.cls && decide ((q_m m).1.cls = (q_m m).2.2.2.2.1) && (decide ((q_m m).2.2.2.2.2.2.1 ≠ 2) || decide ((q_m m).1.name = "<init>"))) = true := by decide +kernel
theorem q_meth {m : Nat} (h : m < 227) : plainName (q_m m).1.cls = true ∧ (q_m m).1.cls = (q_m m).2.2.2.2.1 ∧ ((q_m m).2.2.2.2.2.2.1 = 2 → (q_m m).1.name = "<init>") := by
  have := List.all_eq_true.mp q_meths m (List.mem_range.mpr h)
  simp only [Bool.and_eq_true, Bool.or_eq_true, decide_eq_true_eq] at this
  exact ⟨this.1.1, this.1.2, fun q => this.2.resolve_left (fun z => z q)⟩
def q_ws (m : Nat) : List Cond := .code (q_m m).1 (q_m m).2.1 (q_m m).2.2.1 (q_m m).2.2.2.1 :: q_T
def q_rm (d mc ms : Nat) : Room := { frames := d + 1, cells := mc, slots := ms, locals := 60 * d + 30 }
def q_rt (z : Nat) (ad : Nat → Nat) (r : q_V) : Option Value := match r with
  | .inr (.inr (.inr _)) => none
  | r => some (q_tv z ad r)
def q_Pc (z : Nat) (ad : Nat → Nat) (D : va_G) (cA : Nat → ClassId) (as : List q_V) (v : q_H) (G : q_Gr) : Array Value → State → Prop := va_Pc (as.map (q_tv z ad)) (fun U => q_W z ad D cA v G U.heap ∧ q_K z ad v G U U.heap ∧ q_E z ad D cA U U.heap)
def q_Qc (z : Nat) (ad : Nat → Nat) (D : va_G) (cA : Nat → ClassId) (r : q_V) (v : q_H) (G : q_Gr) : Array Value → State → Outcome → State → Prop := fun _ st oc t => oc = .returned (q_rt z ad r) ∧ q_W z ad D cA v G t.heap ∧ va_F (q_A z) st t
theorem q_push_rt {z : Nat} {ad : Nat → Nat} (r : q_V) (st : List q_V) : (q_push r st).map (q_tv z ad) = (q_rt z ad r).toList ++ st.map (q_tv z ad) := by
  rcases r with a | a | a | a <;> rfl
theorem q_T_in {big : List Cond} (h : ∀ w ∈ q_T, w ∈ big) : GoodIn big q_T := fun w hw => ⟨h w hw, (q_T_good w hw).2⟩
theorem q_ws_in {m : Nat} (h : Cond.code (q_m m).1 (q_m m).2.1 (q_m m).2.2.1 (q_m m).2.2.2.1 ∈ q_T) : GoodIn q_T (q_ws m) := fun w hw => by
  rcases List.mem_cons.mp hw with e | e
  · rw [e]; exact ⟨h, (q_T_good _ h).2⟩
  · exact ⟨e, (q_T_good w e).2⟩
section QE
variable {z : Nat} {ad : Nat → Nat} {D : va_G} {cA : Nat → ClassId} {m d : Nat} {p : Program} {l : Launch} {e : Env} {R : Room} {s : State} {mm : MethodId} {args : Array Value} {below : List Frame} {meth : Method} {c : Code} {Q : State → Prop} {c0 s0 pc : Nat} {ls st : List q_V} {v : q_H} {G : q_Gr} {H H1 : Heap} {U : State} {locs : List Loc}
theorem q_E.to (h : q_E z ad D cA s H) (hW : s.WarmedH U.vm) (hq : ∀ a : Nat, a < H.size → ¬ q_A z a → H1[a]? = H[a]?) : q_E z ad D cA U H1 :=
  ⟨va_K.moved hW.alike h.1, fun q hq' => va_Nw.warmM hW (h.2.1 q hq'), ⟨h.2.2.1.1.moved hW.alike, h.2.2.1.2.1.moved hW.alike, h.2.2.1.2.2.moved hW.alike⟩, fun j hj => (h.2.2.2.1 j hj).warm hW, fun j hj => ((h.2.2.2.2.1 j hj).moved hW.alike).kept hq, (h.2.2.2.2.2.1.moved hW.alike).kept hq, (h.2.2.2.2.2.2.moved hW.alike).kept hq⟩
theorem q_K.to (h : q_K z ad v G s H) (hW : s.WarmedH U.vm) (hq : ∀ a : Nat, a < H.size → ¬ q_A z a → H1[a]? = H[a]?) : q_K z ad v G U H1 := by
  intro a ha
  rcases h a ha with ⟨h1, h2⟩ | ⟨h1, b, h2, h3, h4, h5, h6⟩ | h1
  · exact Or.inl ⟨h1, (h2.moved hW.alike).kept hq⟩
  · exact Or.inr (Or.inl ⟨h1, b, (h2.moved hW.alike).kept hq, (h3.moved hW.alike).kept hq, (h4.moved hW.alike).kept hq, (h5.moved hW.alike).kept hq, h6⟩)
  · exact Or.inr (Or.inr h1)
theorem q_blind (as : List q_V) (v : q_H) (G : q_Gr) : FrameBlind (q_Pc z ad D cA as v G) := fun a U g mk q => by
  obtain ⟨q0, q1, q2, q3⟩ := q
  exact ⟨q0, q1, q2.to (U := U.calling g mk a) (State.WarmedH.refl U) (fun _ _ _ => rfl), q3.to (U := U.calling g mk a) (State.WarmedH.refl U) (fun _ _ _ => rfl)⟩
/-- the machine behind a call -/
theorem q_after {cells slots mc ms : Nat} {LS : Array Slot} {st0 rest : List Value} {a : Array Value} {r : q_V} (hr : va_Run p l e R s mm args below meth c H locs cells slots mc ms (F0 mm pc LS st0) rest (q_Qc z ad D cA r v G a) (q_A z)) (hS : va_S (q_A z) s.heap H locs) (kk : ∀ (H1 : Heap) (locs1 : List Loc), q_W z ad D cA v G H1 → va_S (q_A z) s.heap H1 locs1 → W p l e R s mm args below meth c H1 locs1 (cells + mc) (slots + ms) Q (F0 mm (pc + 3) LS ((q_rt z ad r).toList ++ rest))) : W p l e R s mm args below meth c H locs cells slots Q (F0 mm pc LS st0) := by
  intro T hT X
  obtain ⟨v1, st₀, t, T', L, h0, X', hL, e1, e2, ⟨hv, hw, hz, hk⟩, st⟩ := hr T hT X
  injection hv with hv
  subst hv
  rw [h0] at hz hk
  obtain ⟨t2, a1, b1⟩ := kk T'.heap (locs ++ L) (by rw [e1]; exact hw) ⟨Nat.le_trans hS.1 (by rw [e1]; exact hz), fun q h1 h2 => by rw [e1, hk q (Nat.lt_of_lt_of_le h1 hS.1) h2]; exact hS.2.1 q h1 h2, fun q hq => by
      rcases List.mem_append.mp hq with h | h
      · exact hS.2.2 q h
      · exact hL q h⟩ T' rfl X'
  exact ⟨t2, st t2 a1, b1⟩
/-- what a caller hands over -/
theorem q_pre {as : List q_V} {locs : List Loc} (X : q_Cx z ad D cA m d p R s mm args meth c) (hW : q_W z ad D cA v G H) (hK : q_K z ad v G s s.heap) (hS : va_S (q_A z) s.heap H locs) : PreS s H (q_Pc z ad D cA as v G) (as.map (q_tv z ad)) :=
  ⟨q_blind as v G, fun U hU hWm => ⟨rfl, by rw [hU]; exact hW, by rw [hU]; exact hK.to hWm hS.2.1, by rw [hU]; exact X.2.2.2.2.2.2.2.2.1.to hWm hS.2.1⟩⟩
theorem q_sim_call (X : q_Cx z ad D cA m d p R s mm args meth c) (hm : m < 227) {i m2 mc ms d2 : Nat} {x : q_I} {as : List q_V} {r : q_V} {v' : q_H} {G' : q_Gr} (hx : q_code m pc = x) (hk : q_kind x = 1) (hm2 : x.2.2.1 = m2) (hlt : m2 < 227) (hn : x.2.2.2.1 ≤ st.length) (h4 : (st.drop x.2.2.2.1).length ≤ 4) (has : as = (st.take x.2.2.2.1).reverse) (hrc : q_rcv m2 as G = true) (hd2 : d = d2 + 1) (hmc : G.2.2.1 + mc = G'.2.2.1) (hms : G.2.2.2 + ms = G'.2.2.2)
    (hM : Met l (q_m m2).1 (q_ws m2) (q_rm d2 mc ms) (q_Pc z ad D cA as v G) (q_Qc z ad D cA r v' G') mc ms (q_A z)) (hcst : (∀ a, a < 32 → 12 ≤ (G.2.1 a).1) → ∀ a, a < 32 → v' a = v a ∧ G'.2.1 a = G.2.1 a) (hR : G'.2.2.1 ≤ c0 + R.cells ∧ G'.2.2.2 ≤ s0 + R.slots)
    (k : q_At z ad D cA m p l e R s mm args below meth c Q c0 s0 (pc + 3, ls, q_push r (st.drop x.2.2.2.1), v', G')) : q_At z ad D cA m p l e R s mm args below meth c Q c0 s0 (pc, ls, st, v, G) := by
  intro H locs LS hW hK hS hL hg hc hs
  dsimp only at hW hK hL hg hc hs ⊢
  have hcst := hcst (fun a ha => by rcases hK a ha with q | q | q <;> omega)
  have hx0 : x ≠ q_0 := fun q => by rw [q] at hk; cases hk
  have hchk := q_chkx_ok hm hx hx0
  have h8 := q_cats (z := z) (ad := ad) (st.drop x.2.2.2.1)
  have hst : st.map (q_tv z ad) = (as.map (q_tv z ad)).reverse ++ (st.drop x.2.2.2.1).map (q_tv z ad) := by
    rw [has, List.map_reverse, List.reverse_reverse, ← List.map_append, List.take_append_drop]
  have hlen : as.length = x.2.2.2.1 := by rw [has, List.length_reverse, List.length_take]; omega
  have hfin : ∀ (H1 : Heap) (locs1 : List Loc), q_W z ad D cA v' G' H1 → va_S (q_A z) s.heap H1 locs1 → W p l e R s mm args below meth c H1 locs1 (G.2.2.1 - c0 + mc) (G.2.2.2 - s0 + ms) Q (F0 mm (pc + 3) LS ((q_rt z ad r).toList ++ (st.drop x.2.2.2.1).map (q_tv z ad))) := by
    intro H1 locs1 hW1 hS1
    have kk := k H1 locs1 LS hW1 (hK.kept (fun b hb => (hcst b hb).1) (fun b hb => (hcst b hb).2)) hS1 hL hg (by show c0 ≤ G'.2.2.1; omega) (by show s0 ≤ G'.2.2.2; omega)
    have kk : W p l e R s mm args below meth c H1 locs1 (G'.2.2.1 - c0) (G'.2.2.2 - s0) Q (F0 mm (pc + 3) LS ((q_push r (st.drop x.2.2.2.1)).map (q_tv z ad))) := kk
    rw [q_push_rt, show G'.2.2.1 - c0 = G.2.2.1 - c0 + mc by omega, show G'.2.2.2 - s0 = G.2.2.2 - s0 + ms by omega] at kk
    exact kk
  have hroom : (q_rm d2 mc ms).frames + 1 ≤ R.frames ∧ ∀ n, n ≤ 40 → 8 + (n + 11) + (q_rm d2 mc ms).locals ≤ R.locals := by
    have e1 := X.2.2.2.2.2.2.2.2.2.2.1
    have e2 := X.2.2.2.2.2.2.2.2.2.2.2
    refine ⟨by show d2 + 1 + 1 ≤ _; omega, fun n hn => by show 8 + (n + 11) + (60 * d2 + 30) ≤ _; omega⟩
  have hff : G.2.2.1 - c0 + mc ≤ R.cells ∧ G.2.2.2 - s0 + ms ≤ R.slots := by omega
  have hFix : CallFix p mm c (q_m m).2.1 (q_m m).2.2.1 s args q_T (q_m m).2.2.2.2.1 := ⟨X.1, X.2.1, X.2.2.1, X.2.2.2.1, X.2.2.2.2.1⟩
  have hw8 : 2 * (F0 mm pc LS (st.map (q_tv z ad))).monitorRoom + (((st.drop x.2.2.2.1).map (q_tv z ad)).map fun v => v.category).sum ≤ 8 := by show 2 * 0 + _ ≤ 8; omega
  have hpre := q_pre (as := as) X hW hK hS
  rw [hst] at hw8 ⊢
  obtain ⟨ins, n, x1, x2, x3, x4, xi⟩ := x
  dsimp only at hm2 hlen hfin hw8 ⊢
  subst hm2
  have mok : ∀ {b : Bool}, q_mok x1 = true → (Cond.code (q_m x1).1 (q_m x1).2.1 (q_m x1).2.2.1 (q_m x1).2.2.2.1 ∈ q_T ∧ Cond.initialized (q_m x1).1.cls ∈ q_T ∧ (q_m x1).2.2.1 ≤ 40) ∧ ((q_m x1).1.cls ≠ "java/lang/invoke/MethodHandle" ∧ (q_m x1).1.cls ≠ "java/lang/invoke/VarHandle" ∧ (parseMethodDescriptor (q_m x1).1.desc).map (fun d => d.parameters.length) = some (q_m x1).2.2.2.2.2.1) := by
    intro _ hq
    simp only [q_mok, Bool.and_eq_true, decide_eq_true_eq] at hq
    obtain ⟨⟨⟨⟨⟨⟨⟨⟨⟨g1, g2⟩, g3⟩, g4⟩, g5⟩, g6⟩, g7⟩, g8⟩, g9⟩, -⟩ := hq
    exact ⟨⟨q_at_mem g7, q_at_mem g8, g6⟩, g3, g4, g5⟩
  have lnk : ∀ {idx : Nat} {y : MethodName}, q_lnk (q_m m).2.2.2.2.1 (ins, n, x1, x2, x3, x4, xi) idx y = true → (Cond.methodLink (q_m m).2.2.2.2.1 idx y).before args s = true ∨ ∃ host, va_Nw (.methodLinkNest (q_m m).2.2.2.2.1 idx y host) s := by
    intro idx y hq
    simp only [q_lnk] at hq
    split at hq
    · exact Or.inl (X.2.2.2.2.1 _ (q_at_mem hq))
    · right
      simp only [decide_eq_true_eq, Option.map_eq_some_iff] at hq
      obtain ⟨q, q1, q2⟩ := hq
      have := X.2.2.2.2.2.2.2.2.1.2.1 q (List.mem_of_getElem? q1)
      simp only [Prod.mk.injEq] at q2
      obtain ⟨e1, e2, e3⟩ := q2
      rw [e1, e2, e3] at this
      exact ⟨_, this⟩
  cases ins with
  | invokestatic idx =>
    have hd := q_dec_ok hm hx (fun q => by cases q) (fun _ _ _ _ q => by cases q)
    have h1 : ¬ x1 = 1001 := by omega
    have h2 : ¬ x1 = 1004 := by omega
    have h3 : ¬ x1 = 1005 := by omega
    simp only [q_chkx, if_neg h1, if_neg h2, if_neg h3, Bool.and_eq_true, decide_eq_true_eq] at hchk
    obtain ⟨⟨⟨g1, g2⟩, g3⟩, g4⟩ := hchk
    obtain ⟨⟨o1, o2, o3⟩, o4⟩ := mok (b := true) g1
    have hstat : (Cond.static (q_m x1).1).before args s = true := by
      simp only [q_mok, g2, Bool.and_eq_true] at g1
      exact X.2.2.2.2.1 _ (q_at_mem g1.2)
    rcases lnk g4 with hl | ⟨host, hl⟩
    · exact q_after (va_runS (Ts := q_T) hFix hM ⟨callB_of (q_m x1).2.2.2.2.2.1 X.2.2.2.2.1 (q_ws_in o1) rfl rfl rfl (X.2.2.2.2.1 _ o2) hl o4 ⟨hroom.1, hroom.2 _ o3⟩, hstat⟩ hpre rfl (by rw [List.length_map, hlen, g3]) hL.1 rfl hw8 hd hff) hS hfin
    · exact q_after (va_runSN (Ts := q_T) (host := host) hFix hM ⟨va_cnB (q_m x1).2.2.2.2.2.1 X.2.2.2.2.1 (q_ws_in o1) rfl rfl rfl hl (X.2.2.2.2.1 _ o2) o4 ⟨hroom.1, hroom.2 _ o3⟩, hstat, trivial⟩ hpre rfl (by rw [List.length_map, hlen, g3]) hL.1 rfl hw8 hd hff) hS hfin
  | invokespecial idx =>
    have hd := q_dec_ok hm hx (fun q => by cases q) (fun _ _ _ _ q => by cases q)
    have h1 : ¬ x1 = 1000 := by omega
    simp only [q_chkx, if_neg h1, Bool.and_eq_true, decide_eq_true_eq] at hchk
    obtain ⟨⟨⟨g1, g2⟩, g3⟩, g4⟩ := hchk
    obtain ⟨⟨o1, o2, o3⟩, o4⟩ := mok (b := true) g1
    have hin : (Cond.instanceMethod (q_m x1).1).before args s = true ∧ (q_m x1).1.name = "<init>" ∧ (q_m x1).2.2.2.1 = none := by
      simp only [q_mok, g2, Bool.and_eq_true, decide_eq_true_eq] at g1
      exact ⟨X.2.2.2.2.1 _ (q_at_mem g1.2.1.1), g1.2.1.2, g1.2.2⟩
    unfold q_rcv at hrc
    rw [if_neg (by rw [g2]; decide)] at hrc
    split at hrc
    · next a as2 =>
      have hret := hin.2.2
      have e0 : Cond.code (q_m x1).1 (q_m x1).2.1 (q_m x1).2.2.1 none ∈ q_T := by rw [← hret]; exact o1
      have hpre' : PreS s H (q_Pc z ad D cA (.inr (.inr (.inl (some a))) :: as2) v G) (.ref (q_ad z ad a) :: as2.map (q_tv z ad)) := hpre
      have hn2 : (as2.map (q_tv z ad)).length = (q_m x1).2.2.2.2.2.1 := by
        have : as2.length + 1 = x2 := hlen
        rw [List.length_map]
        omega
      have hstk : (F0 mm pc LS ((List.map (q_tv z ad) (.inr (.inr (.inl (some a))) :: as2)).reverse ++ List.map (q_tv z ad) (List.drop x2 st))).stack = (as2.map (q_tv z ad)).reverse ++ .ref (q_ad z ad a) :: (List.drop x2 st).map (q_tv z ad) := by
        show ((q_tv z ad (.inr (.inr (.inl (some a)))) :: as2.map (q_tv z ad)).reverse ++ _) = _
        rw [List.reverse_cons, List.append_assoc]
        rfl
      have hws : q_ws x1 = Cond.code (q_m x1).1 (q_m x1).2.1 (q_m x1).2.2.1 none :: q_T := by unfold q_ws; rw [hret]
      rcases lnk g4 with hl | ⟨host, hl⟩
      · exact q_after (va_runI (Ts := q_T) hFix hM ⟨callB_of (q_m x1).2.2.2.2.2.1 X.2.2.2.2.1 (q_ws_in o1) hws rfl rfl (X.2.2.2.2.1 _ o2) hl o4 ⟨hroom.1, hroom.2 _ o3⟩, hin.2.1, hin.1⟩ hpre' rfl hn2 hL.1 hstk hw8 hd hff) hS hfin
      · exact q_after (va_runIN (Ts := q_T) (host := host) hFix hM ⟨va_cnB (q_m x1).2.2.2.2.2.1 X.2.2.2.2.1 (q_ws_in o1) hws rfl rfl hl (X.2.2.2.2.1 _ o2) o4 ⟨hroom.1, hroom.2 _ o3⟩, hin.2.1, hin.1⟩ hpre' rfl hn2 hL.1 hstk hw8 hd hff) hS hfin
    · cases hrc
  | invokevirtual idx =>
    have hd := q_dec_ok hm hx (fun q => by cases q) (fun _ _ _ _ q => by cases q)
    have h1 : ¬ x1 = 1002 := by omega
    have h2 : ¬ x1 = 1003 := by omega
    simp only [q_chkx, if_neg h1, if_neg h2, Bool.and_eq_true, decide_eq_true_eq] at hchk
    obtain ⟨⟨⟨g1, g2⟩, g3⟩, g4⟩ := hchk
    obtain ⟨⟨o1, o2, o3⟩, o4⟩ := mok (b := true) g1
    have hin : (Cond.instanceMethod (q_m x1).1).before args s = true ∧ (Cond.selects (q_m x1).1.cls (q_m x1).1 (q_m x1).1).before args s = true ∧ (q_m x1).2.2.2.2.2.2.2.1 < 12 ∧ (q_cls (q_m x1).2.2.2.2.2.2.2.1).1 = (q_m x1).1.cls := by
      simp only [q_mok, g2, Bool.and_eq_true, decide_eq_true_eq] at g1
      exact ⟨X.2.2.2.2.1 _ (q_at_mem g1.2.1.1.1), X.2.2.2.2.1 _ (q_at_mem g1.2.1.1.2), g1.2.1.2, g1.2.2⟩
    unfold q_rcv at hrc
    rw [if_neg (by rw [g2]; decide)] at hrc
    split at hrc
    · next a as2 =>
      have hka : (G.2.1 a).1 = (q_m x1).2.2.2.2.2.2.2.1 := by simpa using hrc
      obtain ⟨-, -, cell, q1, q2, q3, -⟩ := q_obj hW hK hka hin.2.2.1
      have hcls := (X.2.2.2.2.2.2.2.2.1.1.1 _ _ (q_cls_get hin.2.2.1)).2.1
      rw [hin.2.2.2] at hcls
      have hpre' : PreV s H (q_m x1).1.cls (q_ad z ad a) (q_Pc z ad D cA (.inr (.inr (.inl (some a))) :: as2) v G) (as2.map (q_tv z ad)) := ⟨hpre.1, ⟨cell, q1, by rw [q3]; rfl, by rw [q2]; exact hcls⟩, hpre.2⟩
      have hn2 : (as2.map (q_tv z ad)).length = (q_m x1).2.2.2.2.2.1 := by
        have : as2.length + 1 = x2 := hlen
        rw [List.length_map]
        omega
      have hstk : (F0 mm pc LS ((List.map (q_tv z ad) (.inr (.inr (.inl (some a))) :: as2)).reverse ++ List.map (q_tv z ad) (List.drop x2 st))).stack = (as2.map (q_tv z ad)).reverse ++ .ref (q_ad z ad a) :: (List.drop x2 st).map (q_tv z ad) := by
        show ((q_tv z ad (.inr (.inr (.inl (some a)))) :: as2.map (q_tv z ad)).reverse ++ _) = _
        rw [List.reverse_cons, List.append_assoc]
        rfl
      rcases lnk g4 with hl | ⟨host, hl⟩
      · exact q_after (va_runV (Ts := q_T) hFix hM ⟨callB_of (q_m x1).2.2.2.2.2.1 X.2.2.2.2.1 (q_ws_in o1) rfl rfl rfl (X.2.2.2.2.1 _ o2) hl o4 ⟨hroom.1, hroom.2 _ o3⟩, hin.1, hin.2.1⟩ hpre' rfl hn2 hL.1 hstk hw8 hd hff) hS hfin
      · exact q_after (va_runVN (Ts := q_T) (host := host) hFix hM ⟨va_cnB (q_m x1).2.2.2.2.2.1 X.2.2.2.2.1 (q_ws_in o1) rfl rfl rfl hl (X.2.2.2.2.1 _ o2) o4 ⟨hroom.1, hroom.2 _ o3⟩, hin.1, hin.2.1⟩ hpre' rfl hn2 hL.1 hstk hw8 hd hff) hS hfin
    · cases hrc
  | _ => cases hk
end QE
