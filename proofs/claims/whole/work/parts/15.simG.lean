
/-! ===== the texts of the code: length(), charAt() ===== -/
def q_Qp (r : Option Value) : Array Value → State → Outcome → State → Prop := fun _ st oc t => oc = .returned r ∧ t.heap = st.heap
def q_r (j : Nat) : Room := { frames := j, cells := 0, slots := 0, locals := 30 * j }
theorem q_afterp {p : Program} {l : Launch} {e : Env} {R : Room} {s : State} {m : MethodId} {args : Array Value} {below : List Frame} {meth : Method} {c : Code} {H : Heap} {locs : List Loc} {cells slots : Nat} {Q : State → Prop} {pc : Nat} {LS : Array Slot} {st0 rest : List Value} {a : Array Value} {r : Option Value} (hr : va_Run p l e R s m args below meth c H locs cells slots 0 0 (F0 m pc LS st0) rest (q_Qp r a) (fun _ => False)) (kk : W p l e R s m args below meth c H locs cells slots Q (F0 m (pc + 3) LS (r.toList ++ rest))) : W p l e R s m args below meth c H locs cells slots Q (F0 m pc LS st0) := by
  intro T hT X
  obtain ⟨v1, st₀, t, T', L, h0, X', hL, e1, e2, ⟨hv, hh⟩, st⟩ := hr T hT X
  injection hv with hv
  subst hv
  obtain ⟨t2, a1, b1⟩ := kk T' (by rw [e1, hh, h0]) (Stand.forget X' (fun q h => (hL q h).elim))
  exact ⟨t2, st t2 a1, b1⟩
theorem q_j_coder : Cond.code yJ0_coder_7d493 cJ0_coder_7d493 1 (some .byte) ∈ q_T ∧ Cond.initialized RJ0 ∈ q_T := ⟨q_at_mem (h := 544) (by decide +kernel), q_at_mem (h := 90) (by decide +kernel)⟩
theorem q_js_coder : Cond.instanceMethod yJ0_coder_7d493 ∈ q_T ∧ Cond.selects RJ0 yJ0_coder_7d493 yJ0_coder_7d493 ∈ q_T := ⟨q_at_mem (h := 542) (by decide +kernel), q_at_mem (h := 543) (by decide +kernel)⟩
def q_jw_coder : List Cond := .code yJ0_coder_7d493 cJ0_coder_7d493 1 (some .byte) :: q_T
theorem q_jg_coder : GoodIn q_T q_jw_coder := fun w hw => by
  rcases List.mem_cons.mp hw with e | e
  · rw [e]; exact ⟨q_j_coder.1, (q_T_good _ q_j_coder.1).2⟩
  · exact ⟨e, (q_T_good w e).2⟩
theorem q_j_len : Cond.code yJ0_length_8abf5 cJ0_length_8abf5 1 (some .int) ∈ q_T ∧ Cond.initialized RJ0 ∈ q_T := ⟨q_at_mem (h := 540) (by decide +kernel), q_at_mem (h := 90) (by decide +kernel)⟩
theorem q_js_len : Cond.instanceMethod yJ0_length_8abf5 ∈ q_T ∧ Cond.selects RJ0 yJ0_length_8abf5 yJ0_length_8abf5 ∈ q_T := ⟨q_at_mem (h := 538) (by decide +kernel), q_at_mem (h := 539) (by decide +kernel)⟩
def q_jw_len : List Cond := .code yJ0_length_8abf5 cJ0_length_8abf5 1 (some .int) :: q_T
theorem q_jg_len : GoodIn q_T q_jw_len := fun w hw => by
  rcases List.mem_cons.mp hw with e | e
  · rw [e]; exact ⟨q_j_len.1, (q_T_good _ q_j_len.1).2⟩
  · exact ⟨e, (q_T_good w e).2⟩
theorem q_j_chr : Cond.code yJ0_charAt_5068e cJ0_charAt_5068e 2 (some .char) ∈ q_T ∧ Cond.initialized RJ0 ∈ q_T := ⟨q_at_mem (h := 549) (by decide +kernel), q_at_mem (h := 90) (by decide +kernel)⟩
theorem q_js_chr : Cond.instanceMethod yJ0_charAt_5068e ∈ q_T ∧ Cond.selects RJ0 yJ0_charAt_5068e yJ0_charAt_5068e ∈ q_T := ⟨q_at_mem (h := 547) (by decide +kernel), q_at_mem (h := 548) (by decide +kernel)⟩
def q_jw_chr : List Cond := .code yJ0_charAt_5068e cJ0_charAt_5068e 2 (some .char) :: q_T
theorem q_jg_chr : GoodIn q_T q_jw_chr := fun w hw => by
  rcases List.mem_cons.mp hw with e | e
  · rw [e]; exact ⟨q_j_chr.1, (q_T_good _ q_j_chr.1).2⟩
  · exact ⟨e, (q_T_good w e).2⟩
theorem q_j_lat : Cond.code yJ0_isLatin1_aae02 cJ0_isLatin1_aae02 1 (some .boolean) ∈ q_T ∧ Cond.initialized RJ0 ∈ q_T := ⟨q_at_mem (h := 553) (by decide +kernel), q_at_mem (h := 90) (by decide +kernel)⟩
theorem q_js_lat : Cond.instanceMethod yJ0_isLatin1_aae02 ∈ q_T ∧ Cond.selects RJ0 yJ0_isLatin1_aae02 yJ0_isLatin1_aae02 ∈ q_T := ⟨q_at_mem (h := 551) (by decide +kernel), q_at_mem (h := 552) (by decide +kernel)⟩
def q_jw_lat : List Cond := .code yJ0_isLatin1_aae02 cJ0_isLatin1_aae02 1 (some .boolean) :: q_T
theorem q_jg_lat : GoodIn q_T q_jw_lat := fun w hw => by
  rcases List.mem_cons.mp hw with e | e
  · rw [e]; exact ⟨q_j_lat.1, (q_T_good _ q_j_lat.1).2⟩
  · exact ⟨e, (q_T_good w e).2⟩
theorem q_j_ck0 : Cond.code yJ0_checkIndex_df160 cJ0_checkIndex_df160 2 none ∈ q_T ∧ Cond.initialized RJ0 ∈ q_T := ⟨q_at_mem (h := 559) (by decide +kernel), q_at_mem (h := 90) (by decide +kernel)⟩
theorem q_js_ck0 : Cond.static yJ0_checkIndex_df160 ∈ q_T := q_at_mem (h := 558) (by decide +kernel)
def q_jw_ck0 : List Cond := .code yJ0_checkIndex_df160 cJ0_checkIndex_df160 2 none :: q_T
theorem q_jg_ck0 : GoodIn q_T q_jw_ck0 := fun w hw => by
  rcases List.mem_cons.mp hw with e | e
  · rw [e]; exact ⟨q_j_ck0.1, (q_T_good _ q_j_ck0.1).2⟩
  · exact ⟨e, (q_T_good w e).2⟩
theorem q_j_ch1 : Cond.code yJ1_charAt_3b067 cJ1_charAt_3b067 2 (some .char) ∈ q_T ∧ Cond.initialized RJ1 ∈ q_T := ⟨q_at_mem (h := 556) (by decide +kernel), q_at_mem (h := 91) (by decide +kernel)⟩
theorem q_js_ch1 : Cond.static yJ1_charAt_3b067 ∈ q_T := q_at_mem (h := 555) (by decide +kernel)
def q_jw_ch1 : List Cond := .code yJ1_charAt_3b067 cJ1_charAt_3b067 2 (some .char) :: q_T
theorem q_jg_ch1 : GoodIn q_T q_jw_ch1 := fun w hw => by
  rcases List.mem_cons.mp hw with e | e
  · rw [e]; exact ⟨q_j_ch1.1, (q_T_good _ q_j_ch1.1).2⟩
  · exact ⟨e, (q_T_good w e).2⟩
theorem q_j_ck3 : Cond.code yJ3_checkIndex_8e157 cJ3_checkIndex_8e157 3 (some .int) ∈ q_T ∧ Cond.initialized RJ3 ∈ q_T := ⟨q_at_mem (h := 563) (by decide +kernel), q_at_mem (h := 92) (by decide +kernel)⟩
theorem q_js_ck3 : Cond.static yJ3_checkIndex_8e157 ∈ q_T := q_at_mem (h := 562) (by decide +kernel)
def q_jw_ck3 : List Cond := .code yJ3_checkIndex_8e157 cJ3_checkIndex_8e157 3 (some .int) :: q_T
theorem q_jg_ck3 : GoodIn q_T q_jw_ck3 := fun w hw => by
  rcases List.mem_cons.mp hw with e | e
  · rw [e]; exact ⟨q_j_ck3.1, (q_T_good _ q_j_ck3.1).2⟩
  · exact ⟨e, (q_T_good w e).2⟩
theorem q_f38 : Cond.fieldLink RJ0 38 "java/lang/String" "COMPACT_STRINGS" "Z" ∈ q_T := q_at_mem (h := 545) (by decide +kernel)
theorem q_f15 : Cond.fieldLink RJ0 15 "java/lang/String" "coder" "B" ∈ q_T := q_at_mem (h := 1366) (by decide +kernel)
theorem q_f9 : Cond.fieldLink RJ0 9 "java/lang/String" "value" "[B" ∈ q_T := q_at_mem (h := 1365) (by decide +kernel)
theorem q_f1053 : Cond.fieldLink RJ0 1053 "jdk/internal/util/Preconditions" "SIOOBE_FORMATTER" "Ljava/util/function/BiFunction;" ∈ q_T := q_at_mem (h := 560) (by decide +kernel)
theorem q_m335 : Cond.methodLink RJ0 335 yJ0_coder_7d493 ∈ q_T := q_at_mem (h := 541) (by decide +kernel)
theorem q_m492 : Cond.methodLink RJ0 492 yJ0_isLatin1_aae02 ∈ q_T := q_at_mem (h := 550) (by decide +kernel)
theorem q_m495 : Cond.methodLink RJ0 495 yJ1_charAt_3b067 ∈ q_T := q_at_mem (h := 554) (by decide +kernel)
theorem q_m1059 : Cond.methodLink RJ0 1059 yJ3_checkIndex_8e157 ∈ q_T := q_at_mem (h := 561) (by decide +kernel)
theorem q_m9 : Cond.methodLink RJ1 9 yJ0_checkIndex_df160 ∈ q_T := q_at_mem (h := 557) (by decide +kernel)
set_option maxHeartbeats 4000000 in
theorem q_c_coder (l : Launch) (z a : Nat) : Met l yJ0_coder_7d493 q_jw_coder (q_r 0) (va_Pc [.ref a] (fun U => va_OF "java/lang/String" "coder" "B" (.int 0) a (q_A z) U U.heap ∧ va_Z "java/lang/String" "COMPACT_STRINGS" "Z" (.int 1) (q_A z) U U.heap)) (q_Qp (some (.int 0))) 0 0 (fun _ => False) := by
  refine Met.ofW (cc := cJ0_coder_7d493) (maxL := 1) (ret := (some .byte)) (by decide +kernel) rfl ?_
  intro p e s m args below meth c s₁ B hml hv
  obtain ⟨rfl, hv⟩ := hv
  have hx := B.exec
  have hb := B.bytes
  have hr := B.returns
  have hts0 := atoms_spec (ws := q_jw_coder) B.pre
  have hts : ∀ w ∈ q_T, w.before _ s = true := fun w h => hts0 w (List.mem_cons_of_mem _ h)
  have hown : s.vm.findClass RJ0 = some m.cls := findClass_of_methodNamed B.named
  have hlocks := B.notSynchronized
  have hS : va_S (q_A z) s.heap s.heap [] := va_S.rf
  have hl := lv_entry ([.ref a]) (n := 1) (Nat.le_of_ble_eq_true rfl)
  rw [lg_entry_eq]
  generalize (lg_sl ([.ref a]) ++ List.replicate (1 - (lg_sl ([.ref a])).length) Slot.unset).toArray = ls at hl ⊢
  have hl : lv_has ls 1 [(0, .ref a)] := hl
  refine va_gets hx hb hv.2 hS hown (hts _ q_f38) (fun _ q => q) (show decode cJ0_coder_7d493 0 = .ok (.getstatic 38, 3) by decide +kernel) ?_
  refine lv_if_eq (tgt := 13) hx hb (show decode cJ0_coder_7d493 3 = .ok (.ifCond .eq 10, 3) by decide +kernel) (by decide) (fun q => absurd q (by decide)) (fun _ => ?_)
  refine lv_aload_n hx hb (show decode cJ0_coder_7d493 6 = .ok (.aload_n 0, 1) by decide +kernel) rfl (lv_at hl 0 rfl) ?_
  refine vk_getf hx hb hv.1 hS hown (hts _ q_f15) (fun _ q => q) (show decode cJ0_coder_7d493 7 = .ok (.getfield 15, 3) by decide +kernel) ?_
  refine lv_goto (tgt := 14) hx hb (show decode cJ0_coder_7d493 10 = .ok (.goto 4, 3) by decide +kernel) (by decide) ?_
  exact W.zret (v := 0) hx hb hr rfl (fun t ht _ => ⟨rfl, ht⟩) (fun q h => by cases h) (show decode cJ0_coder_7d493 14 = .ok (.ireturn, 1) by decide +kernel) hlocks
set_option maxHeartbeats 4000000 in
theorem q_c_lat (l : Launch) (z a : Nat) : Met l yJ0_isLatin1_aae02 q_jw_lat (q_r 0) (va_Pc [.ref a] (fun U => va_OF "java/lang/String" "coder" "B" (.int 0) a (q_A z) U U.heap ∧ va_Z "java/lang/String" "COMPACT_STRINGS" "Z" (.int 1) (q_A z) U U.heap)) (q_Qp (some (.int 1))) 0 0 (fun _ => False) := by
  refine Met.ofW (cc := cJ0_isLatin1_aae02) (maxL := 1) (ret := (some .boolean)) (by decide +kernel) rfl ?_
  intro p e s m args below meth c s₁ B hml hv
  obtain ⟨rfl, hv⟩ := hv
  have hx := B.exec
  have hb := B.bytes
  have hr := B.returns
  have hts0 := atoms_spec (ws := q_jw_lat) B.pre
  have hts : ∀ w ∈ q_T, w.before _ s = true := fun w h => hts0 w (List.mem_cons_of_mem _ h)
  have hown : s.vm.findClass RJ0 = some m.cls := findClass_of_methodNamed B.named
  have hlocks := B.notSynchronized
  have hS : va_S (q_A z) s.heap s.heap [] := va_S.rf
  have hl := lv_entry ([.ref a]) (n := 1) (Nat.le_of_ble_eq_true rfl)
  rw [lg_entry_eq]
  generalize (lg_sl ([.ref a]) ++ List.replicate (1 - (lg_sl ([.ref a])).length) Slot.unset).toArray = ls at hl ⊢
  have hl : lv_has ls 1 [(0, .ref a)] := hl
  refine va_gets hx hb hv.2 hS hown (hts _ q_f38) (fun _ q => q) (show decode cJ0_isLatin1_aae02 0 = .ok (.getstatic 38, 3) by decide +kernel) ?_
  refine lv_if_eq (tgt := 17) hx hb (show decode cJ0_isLatin1_aae02 3 = .ok (.ifCond .eq 14, 3) by decide +kernel) (by decide) (fun q => absurd q (by decide)) (fun _ => ?_)
  refine lv_aload_n hx hb (show decode cJ0_isLatin1_aae02 6 = .ok (.aload_n 0, 1) by decide +kernel) rfl (lv_at hl 0 rfl) ?_
  refine vk_getf hx hb hv.1 hS hown (hts _ q_f15) (fun _ q => q) (show decode cJ0_isLatin1_aae02 7 = .ok (.getfield 15, 3) by decide +kernel) ?_
  refine lv_if_ne (tgt := 17) hx hb (show decode cJ0_isLatin1_aae02 10 = .ok (.ifCond .ne 7, 3) by decide +kernel) (by decide) (fun q => absurd rfl q) (fun _ => ?_)
  refine lv_iconst (v := 1) hx hb (show decode cJ0_isLatin1_aae02 13 = .ok (.iconst 1, 1) by decide +kernel) (by decide) ?_
  refine lv_goto (tgt := 18) hx hb (show decode cJ0_isLatin1_aae02 14 = .ok (.goto 4, 3) by decide +kernel) (by decide) ?_
  exact W.zret (v := 1) hx hb hr rfl (fun t ht _ => ⟨rfl, ht⟩) (fun q h => by cases h) (show decode cJ0_isLatin1_aae02 18 = .ok (.ireturn, 1) by decide +kernel) hlocks
set_option maxHeartbeats 4000000 in
theorem q_c_ck3N (l : Launch) (z t : Nat) (i n : Int32) (h0 : ¬ i < 0) (h1 : i < n) : Met l yJ3_checkIndex_8e157 q_jw_ck3 (q_r 0) (va_Pc [.int i, .int n, .null] (fun U => U.heap = U.heap)) (q_Qp (some (.int i))) 0 0 (fun _ => False) := by
  refine Met.ofW (cc := cJ3_checkIndex_8e157) (maxL := 3) (ret := (some .int)) (by decide +kernel) rfl ?_
  intro p e s m args below meth c s₁ B hml hv
  obtain ⟨rfl, hv⟩ := hv
  have hx := B.exec
  have hb := B.bytes
  have hr := B.returns
  have hts0 := atoms_spec (ws := q_jw_ck3) B.pre
  have hts : ∀ w ∈ q_T, w.before _ s = true := fun w h => hts0 w (List.mem_cons_of_mem _ h)
  have hown : s.vm.findClass RJ3 = some m.cls := findClass_of_methodNamed B.named
  have hlocks := B.notSynchronized
  have hS : va_S (q_A z) s.heap s.heap [] := va_S.rf
  have hl := lv_entry ([.int i, .int n, .null]) (n := 3) (Nat.le_of_ble_eq_true rfl)
  rw [lg_entry_eq]
  generalize (lg_sl ([.int i, .int n, .null]) ++ List.replicate (3 - (lg_sl ([.int i, .int n, .null])).length) Slot.unset).toArray = ls at hl ⊢
  have hl : lv_has ls 3 [(0, .int i), (1, .int n), (2, .null)] := hl
  refine lv_iload_n hx hb (show decode cJ3_checkIndex_8e157 0 = .ok (.iload_n 0, 1) by decide +kernel) rfl (lv_at hl 0 rfl) ?_
  refine lv_if_lt (tgt := 9) hx hb (show decode cJ3_checkIndex_8e157 1 = .ok (.ifCond .lt 8, 3) by decide +kernel) (by decide) (fun q => absurd q h0) (fun _ => ?_)
  refine lv_iload_n hx hb (show decode cJ3_checkIndex_8e157 4 = .ok (.iload_n 0, 1) by decide +kernel) rfl (lv_at hl 0 rfl) ?_
  refine lv_iload_n hx hb (show decode cJ3_checkIndex_8e157 5 = .ok (.iload_n 1, 1) by decide +kernel) rfl (lv_at hl 1 rfl) ?_
  refine lv_icmp_lt (tgt := 16) hx hb (show decode cJ3_checkIndex_8e157 6 = .ok (.if_icmp .lt 10, 3) by decide +kernel) (by decide) (fun _ => ?_) (fun q => absurd h1 q)
  refine lv_iload_n hx hb (show decode cJ3_checkIndex_8e157 16 = .ok (.iload_n 0, 1) by decide +kernel) rfl (lv_at hl 0 rfl) ?_
  exact W.iret (v := i) hx hb hr (fun t ht _ => ⟨rfl, ht⟩) (fun q h => by cases h) (show decode cJ3_checkIndex_8e157 17 = .ok (.ireturn, 1) by decide +kernel) hlocks
set_option maxHeartbeats 4000000 in
theorem q_c_ck3R (l : Launch) (z t : Nat) (i n : Int32) (h0 : ¬ i < 0) (h1 : i < n) : Met l yJ3_checkIndex_8e157 q_jw_ck3 (q_r 0) (va_Pc [.int i, .int n, .ref t] (fun U => U.heap = U.heap)) (q_Qp (some (.int i))) 0 0 (fun _ => False) := by
  refine Met.ofW (cc := cJ3_checkIndex_8e157) (maxL := 3) (ret := (some .int)) (by decide +kernel) rfl ?_
  intro p e s m args below meth c s₁ B hml hv
  obtain ⟨rfl, hv⟩ := hv
  have hx := B.exec
  have hb := B.bytes
  have hr := B.returns
  have hts0 := atoms_spec (ws := q_jw_ck3) B.pre
  have hts : ∀ w ∈ q_T, w.before _ s = true := fun w h => hts0 w (List.mem_cons_of_mem _ h)
  have hown : s.vm.findClass RJ3 = some m.cls := findClass_of_methodNamed B.named
  have hlocks := B.notSynchronized
  have hS : va_S (q_A z) s.heap s.heap [] := va_S.rf
  have hl := lv_entry ([.int i, .int n, .ref t]) (n := 3) (Nat.le_of_ble_eq_true rfl)
  rw [lg_entry_eq]
  generalize (lg_sl ([.int i, .int n, .ref t]) ++ List.replicate (3 - (lg_sl ([.int i, .int n, .ref t])).length) Slot.unset).toArray = ls at hl ⊢
  have hl : lv_has ls 3 [(0, .int i), (1, .int n), (2, .ref t)] := hl
  refine lv_iload_n hx hb (show decode cJ3_checkIndex_8e157 0 = .ok (.iload_n 0, 1) by decide +kernel) rfl (lv_at hl 0 rfl) ?_
  refine lv_if_lt (tgt := 9) hx hb (show decode cJ3_checkIndex_8e157 1 = .ok (.ifCond .lt 8, 3) by decide +kernel) (by decide) (fun q => absurd q h0) (fun _ => ?_)
  refine lv_iload_n hx hb (show decode cJ3_checkIndex_8e157 4 = .ok (.iload_n 0, 1) by decide +kernel) rfl (lv_at hl 0 rfl) ?_
  refine lv_iload_n hx hb (show decode cJ3_checkIndex_8e157 5 = .ok (.iload_n 1, 1) by decide +kernel) rfl (lv_at hl 1 rfl) ?_
  refine lv_icmp_lt (tgt := 16) hx hb (show decode cJ3_checkIndex_8e157 6 = .ok (.if_icmp .lt 10, 3) by decide +kernel) (by decide) (fun _ => ?_) (fun q => absurd h1 q)
  refine lv_iload_n hx hb (show decode cJ3_checkIndex_8e157 16 = .ok (.iload_n 0, 1) by decide +kernel) rfl (lv_at hl 0 rfl) ?_
  exact W.iret (v := i) hx hb hr (fun t ht _ => ⟨rfl, ht⟩) (fun q h => by cases h) (show decode cJ3_checkIndex_8e157 17 = .ok (.ireturn, 1) by decide +kernel) hlocks
set_option maxHeartbeats 4000000 in
theorem q_c_ck0 (l : Launch) (z : Nat) (i n : Int32) (h0 : ¬ i < 0) (h1 : i < n) : Met l yJ0_checkIndex_df160 q_jw_ck0 (q_r 1) (va_Pc [.int i, .int n] (fun U => va_Zq "jdk/internal/util/Preconditions" "SIOOBE_FORMATTER" "Ljava/util/function/BiFunction;" (q_A z) U U.heap)) (q_Qp none) 0 0 (fun _ => False) := by
  refine Met.ofW (cc := cJ0_checkIndex_df160) (maxL := 2) (ret := none) (by decide +kernel) rfl ?_
  intro p e s m args below meth c s₁ B hml hv
  obtain ⟨rfl, hv⟩ := hv
  have hx := B.exec
  have hb := B.bytes
  have hr := B.returns
  have hts0 := atoms_spec (ws := q_jw_ck0) B.pre
  have hts : ∀ w ∈ q_T, w.before _ s = true := fun w h => hts0 w (List.mem_cons_of_mem _ h)
  have hown : s.vm.findClass RJ0 = some m.cls := findClass_of_methodNamed B.named
  have hlocks := B.notSynchronized
  have hS : va_S (q_A z) s.heap s.heap [] := va_S.rf
  have hl := lv_entry ([.int i, .int n]) (n := 2) (Nat.le_of_ble_eq_true rfl)
  rw [lg_entry_eq]
  generalize (lg_sl ([.int i, .int n]) ++ List.replicate (2 - (lg_sl ([.int i, .int n])).length) Slot.unset).toArray = ls at hl ⊢
  have hl : lv_has ls 2 [(0, .int i), (1, .int n)] := hl
  refine lv_iload_n hx hb (show decode cJ0_checkIndex_df160 0 = .ok (.iload_n 0, 1) by decide +kernel) rfl (lv_at hl 0 rfl) ?_
  refine lv_iload_n hx hb (show decode cJ0_checkIndex_df160 1 = .ok (.iload_n 1, 1) by decide +kernel) rfl (lv_at hl 1 rfl) ?_
  rcases hv with hv | ⟨t, hv⟩
  · refine va_gets hx hb hv hS hown (hts _ q_f1053) (fun _ q => q) (show decode cJ0_checkIndex_df160 2 = .ok (.getstatic 1053, 3) by decide +kernel) ?_
    refine q_afterp (va_runS (Ts := q_T) (As := [.int i, .int n, .null]) (rest := []) ⟨hx, hb, hml, hown, hts⟩ (q_c_ck3N l z 0 i n h0 h1) ⟨callB_of 3 hts q_jg_ck3 rfl rfl rfl (hts _ q_j_ck3.2) (hts _ q_m1059) (by decide +kernel) ⟨Nat.le_of_ble_eq_true rfl, Nat.le_of_ble_eq_true rfl⟩, hts _ q_js_ck3⟩ ⟨fun a U g mk q => ⟨q.1, rfl⟩, fun U _ _ => ⟨rfl, rfl⟩⟩ rfl rfl hl.1 rfl (lv_room (Nat.le_of_ble_eq_true rfl)) (show decode cJ0_checkIndex_df160 5 = .ok (.invokestatic 1059, 3) by decide +kernel) ⟨Nat.le_refl _, Nat.le_refl _⟩) ?_
    refine lv_pop hx hb (show decode cJ0_checkIndex_df160 8 = .ok (.pop, 1) by decide +kernel) rfl ?_
    exact W.vret hx hb hr (fun t ht _ => ⟨rfl, ht⟩) (fun q h => by cases h) (show decode cJ0_checkIndex_df160 9 = .ok (.return_, 1) by decide +kernel) hlocks
  · refine va_gets hx hb hv hS hown (hts _ q_f1053) (fun _ q => q) (show decode cJ0_checkIndex_df160 2 = .ok (.getstatic 1053, 3) by decide +kernel) ?_
    refine q_afterp (va_runS (Ts := q_T) (As := [.int i, .int n, .ref t]) (rest := []) ⟨hx, hb, hml, hown, hts⟩ (q_c_ck3R l z t i n h0 h1) ⟨callB_of 3 hts q_jg_ck3 rfl rfl rfl (hts _ q_j_ck3.2) (hts _ q_m1059) (by decide +kernel) ⟨Nat.le_of_ble_eq_true rfl, Nat.le_of_ble_eq_true rfl⟩, hts _ q_js_ck3⟩ ⟨fun a U g mk q => ⟨q.1, rfl⟩, fun U _ _ => ⟨rfl, rfl⟩⟩ rfl rfl hl.1 rfl (lv_room (Nat.le_of_ble_eq_true rfl)) (show decode cJ0_checkIndex_df160 5 = .ok (.invokestatic 1059, 3) by decide +kernel) ⟨Nat.le_refl _, Nat.le_refl _⟩) ?_
    refine lv_pop hx hb (show decode cJ0_checkIndex_df160 8 = .ok (.pop, 1) by decide +kernel) rfl ?_
    exact W.vret hx hb hr (fun t ht _ => ⟨rfl, ht⟩) (fun q h => by cases h) (show decode cJ0_checkIndex_df160 9 = .ok (.return_, 1) by decide +kernel) hlocks
theorem q_ascii : ∀ k : Nat, k < 128 → ((Int32.ofInt (k : Int) &&& (Int16.ofInt 255).toInt32).toUInt32 % 65536).toInt32 = Int32.ofInt (k : Int) ∧ narrow .char (.int (Int32.ofInt (k : Int))) = .int (Int32.ofInt (k : Int)) := by decide +kernel
set_option maxHeartbeats 4000000 in
theorem q_c_ch1 (l : Launch) (z b n : Nat) (f : Nat → Int) (i : Int) (h0 : 0 ≤ i) (h1 : i < n) (hn : n ≤ 2147483647) (hf : 0 ≤ f i.toNat ∧ f i.toNat < 128) : Met l yJ1_charAt_3b067 q_jw_ch1 (q_r 2) (va_Pc [.ref b, .int (Int32.ofInt i)] (fun U => va_T .byte b n (fun j => .int (Int32.ofInt (f j))) (q_A z) U U.heap ∧ va_Zq "jdk/internal/util/Preconditions" "SIOOBE_FORMATTER" "Ljava/util/function/BiFunction;" (q_A z) U U.heap)) (q_Qp (some (.int (Int32.ofInt (f i.toNat))))) 0 0 (fun _ => False) := by
  refine Met.ofW (cc := cJ1_charAt_3b067) (maxL := 2) (ret := (some .char)) (by decide +kernel) rfl ?_
  intro p e s m args below meth c s₁ B hml hv
  obtain ⟨rfl, hv⟩ := hv
  have hx := B.exec
  have hb := B.bytes
  have hr := B.returns
  have hts0 := atoms_spec (ws := q_jw_ch1) B.pre
  have hts : ∀ w ∈ q_T, w.before _ s = true := fun w h => hts0 w (List.mem_cons_of_mem _ h)
  have hown : s.vm.findClass RJ1 = some m.cls := findClass_of_methodNamed B.named
  have hlocks := B.notSynchronized
  have hS : va_S (q_A z) s.heap s.heap [] := va_S.rf
  have hl := lv_entry ([.ref b, .int (Int32.ofInt i)]) (n := 2) (Nat.le_of_ble_eq_true rfl)
  rw [lg_entry_eq]
  generalize (lg_sl ([.ref b, .int (Int32.ofInt i)]) ++ List.replicate (2 - (lg_sl ([.ref b, .int (Int32.ofInt i)])).length) Slot.unset).toArray = ls at hl ⊢
  have hl : lv_has ls 2 [(0, .ref b), (1, .int (Int32.ofInt i))] := hl
  refine lv_iload_n hx hb (show decode cJ1_charAt_3b067 0 = .ok (.iload_n 1, 1) by decide +kernel) rfl (lv_at hl 1 rfl) ?_
  refine lv_aload_n hx hb (show decode cJ1_charAt_3b067 1 = .ok (.aload_n 0, 1) by decide +kernel) rfl (lv_at hl 0 rfl) ?_
  refine va_tlen (v := Int32.ofInt (n : Int)) hx hb hv.1 hS Int32.ofInt_eq_ofNat.symm (show decode cJ1_charAt_3b067 2 = .ok (.arraylength, 1) by decide +kernel) ?_
  have hi1 : Int32.ofInt i < Int32.ofInt (n : Int) := (q_lt32 ⟨by omega, by omega⟩ ⟨by omega, by omega⟩).mpr h1
  refine q_afterp (va_runS (Ts := q_T) (As := [.int (Int32.ofInt i), .int (Int32.ofInt (n : Int))]) (rest := []) ⟨hx, hb, hml, hown, hts⟩ (q_c_ck0 l z _ _ (q_neg h0 (by omega)) hi1) ⟨callB_of 2 hts q_jg_ck0 rfl rfl rfl (hts _ q_j_ck0.2) (hts _ q_m9) (by decide +kernel) ⟨Nat.le_of_ble_eq_true rfl, Nat.le_of_ble_eq_true rfl⟩, hts _ q_js_ck0⟩ ⟨fun a U g mk q => ⟨q.1, q.2.moved (U := U.calling g mk a) (Vm.Alike.refl U.vm)⟩, fun U hU hW => ⟨rfl, by show va_Zq _ _ _ _ U U.heap; rw [hU]; exact hv.2.moved hW.alike⟩⟩ rfl rfl hl.1 rfl (lv_room (Nat.le_of_ble_eq_true rfl)) (show decode cJ1_charAt_3b067 3 = .ok (.invokestatic 9, 3) by decide +kernel) ⟨Nat.le_refl _, Nat.le_refl _⟩) ?_
  refine lv_aload_n hx hb (show decode cJ1_charAt_3b067 6 = .ok (.aload_n 0, 1) by decide +kernel) rfl (lv_at hl 0 rfl) ?_
  refine lv_iload_n hx hb (show decode cJ1_charAt_3b067 7 = .ok (.iload_n 1, 1) by decide +kernel) rfl (lv_at hl 1 rfl) ?_
  refine va_tb hx hb hv.1 hS (q_vin h0 h1 hn) (v := .int (Int32.ofInt (f i.toNat))) (by rw [q_cl h0 (by omega)]) (show decode cJ1_charAt_3b067 8 = .ok (.baload, 1) by decide +kernel) ?_
  refine lv_sipush (v := (Int16.ofInt 255).toInt32) hx hb (show decode cJ1_charAt_3b067 9 = .ok (.sipush 255, 3) by decide +kernel) rfl ?_
  refine lv_iand hx hb (show decode cJ1_charAt_3b067 12 = .ok (.iand, 1) by decide +kernel) ?_
  have ha := q_ascii (f i.toNat).toNat (by omega)
  rw [show (((f i.toNat).toNat : Nat) : Int) = f i.toNat by omega] at ha
  refine lv_i2c hx hb (show decode cJ1_charAt_3b067 13 = .ok (.i2c, 1) by decide +kernel) ha.1 ?_
  exact W.zret hx hb hr ha.2 (fun t ht _ => ⟨rfl, ht⟩) (fun q h => by cases h) (show decode cJ1_charAt_3b067 14 = .ok (.ireturn, 1) by decide +kernel) hlocks
set_option maxHeartbeats 4000000 in
theorem q_c_len (l : Launch) (z a b n : Nat) (f : Nat → Int) (hn : n ≤ 2147483647) : Met l yJ0_length_8abf5 q_jw_len (q_r 1) (va_Pc [.ref a] (fun U => va_O "java/lang/String" a (q_A z) U U.heap ∧ va_OF "java/lang/String" "coder" "B" (.int 0) a (q_A z) U U.heap ∧ va_OF "java/lang/String" "value" "[B" (.ref b) a (q_A z) U U.heap ∧ va_T .byte b n (fun j => .int (Int32.ofInt (f j))) (q_A z) U U.heap ∧ va_Z "java/lang/String" "COMPACT_STRINGS" "Z" (.int 1) (q_A z) U U.heap ∧ va_Zq "jdk/internal/util/Preconditions" "SIOOBE_FORMATTER" "Ljava/util/function/BiFunction;" (q_A z) U U.heap)) (q_Qp (some (.int (Int32.ofInt (n : Int))))) 0 0 (fun _ => False) := by
  refine Met.ofW (cc := cJ0_length_8abf5) (maxL := 1) (ret := (some .int)) (by decide +kernel) rfl ?_
  intro p e s m args below meth c s₁ B hml hv
  obtain ⟨rfl, hv⟩ := hv
  have hx := B.exec
  have hb := B.bytes
  have hr := B.returns
  have hts0 := atoms_spec (ws := q_jw_len) B.pre
  have hts : ∀ w ∈ q_T, w.before _ s = true := fun w h => hts0 w (List.mem_cons_of_mem _ h)
  have hown : s.vm.findClass RJ0 = some m.cls := findClass_of_methodNamed B.named
  have hlocks := B.notSynchronized
  have hS : va_S (q_A z) s.heap s.heap [] := va_S.rf
  have hl := lv_entry ([.ref a]) (n := 1) (Nat.le_of_ble_eq_true rfl)
  rw [lg_entry_eq]
  generalize (lg_sl ([.ref a]) ++ List.replicate (1 - (lg_sl ([.ref a])).length) Slot.unset).toArray = ls at hl ⊢
  have hl : lv_has ls 1 [(0, .ref a)] := hl
  refine lv_aload_n hx hb (show decode cJ0_length_8abf5 0 = .ok (.aload_n 0, 1) by decide +kernel) rfl (lv_at hl 0 rfl) ?_
  refine vk_getf hx hb hv.2.2.1 hS hown (hts _ q_f9) (fun _ q => q) (show decode cJ0_length_8abf5 1 = .ok (.getfield 9, 3) by decide +kernel) ?_
  refine va_tlen (v := Int32.ofInt (n : Int)) hx hb hv.2.2.2.1 hS Int32.ofInt_eq_ofNat.symm (show decode cJ0_length_8abf5 4 = .ok (.arraylength, 1) by decide +kernel) ?_
  refine lv_aload_n hx hb (show decode cJ0_length_8abf5 5 = .ok (.aload_n 0, 1) by decide +kernel) rfl (lv_at hl 0 rfl) ?_
  refine q_afterp (va_runV (Ts := q_T) (C := RJ0) (As := []) (rest := [.int (Int32.ofInt (n : Int))]) ⟨hx, hb, hml, hown, hts⟩ (q_c_coder l z a) ⟨callB_of 0 hts q_jg_coder rfl rfl rfl (hts _ q_j_coder.2) (hts _ q_m335) (by decide +kernel) ⟨Nat.le_of_ble_eq_true rfl, Nat.le_of_ble_eq_true rfl⟩, hts _ q_js_coder.1, hts _ q_js_coder.2⟩ ⟨fun a U g mk q => ⟨q.1, q.2.1.moved (U := U.calling g mk a) (Vm.Alike.refl U.vm), q.2.2.moved (U := U.calling g mk a) (Vm.Alike.refl U.vm)⟩, (by obtain ⟨cell, g1, g2, g3, -⟩ := hv.1; exact ⟨cell, g1, g2, g3⟩), fun U hU hW => ⟨rfl, by rw [hU]; exact hv.2.1.moved hW.alike, by rw [hU]; exact hv.2.2.2.2.1.moved hW.alike⟩⟩ rfl rfl hl.1 rfl (lv_room (Nat.le_of_ble_eq_true rfl)) (show decode cJ0_length_8abf5 6 = .ok (.invokevirtual 335, 3) by decide +kernel) ⟨Nat.le_refl _, Nat.le_refl _⟩) ?_
  refine lv_ishr hx hb (show decode cJ0_length_8abf5 9 = .ok (.ishr, 1) by decide +kernel) ?_
  have e0 : Int32.ofInt (n : Int) >>> ((0 : Int32) &&& 31) = Int32.ofInt (n : Int) := by simp
  rw [e0]
  exact W.iret (v := Int32.ofInt (n : Int)) hx hb hr (fun t ht _ => ⟨rfl, ht⟩) (fun q h => by cases h) (show decode cJ0_length_8abf5 10 = .ok (.ireturn, 1) by decide +kernel) hlocks
set_option maxHeartbeats 4000000 in
theorem q_c_chr (l : Launch) (z a b n : Nat) (f : Nat → Int) (i : Int) (h0 : 0 ≤ i) (h1 : i < n) (hn : n ≤ 2147483647) (hf : 0 ≤ f i.toNat ∧ f i.toNat < 128) : Met l yJ0_charAt_5068e q_jw_chr (q_r 3) (va_Pc [.ref a, .int (Int32.ofInt i)] (fun U => va_O "java/lang/String" a (q_A z) U U.heap ∧ va_OF "java/lang/String" "coder" "B" (.int 0) a (q_A z) U U.heap ∧ va_OF "java/lang/String" "value" "[B" (.ref b) a (q_A z) U U.heap ∧ va_T .byte b n (fun j => .int (Int32.ofInt (f j))) (q_A z) U U.heap ∧ va_Z "java/lang/String" "COMPACT_STRINGS" "Z" (.int 1) (q_A z) U U.heap ∧ va_Zq "jdk/internal/util/Preconditions" "SIOOBE_FORMATTER" "Ljava/util/function/BiFunction;" (q_A z) U U.heap)) (q_Qp (some (.int (Int32.ofInt (f i.toNat))))) 0 0 (fun _ => False) := by
  refine Met.ofW (cc := cJ0_charAt_5068e) (maxL := 2) (ret := (some .char)) (by decide +kernel) rfl ?_
  intro p e s m args below meth c s₁ B hml hv
  obtain ⟨rfl, hv⟩ := hv
  have hx := B.exec
  have hb := B.bytes
  have hr := B.returns
  have hts0 := atoms_spec (ws := q_jw_chr) B.pre
  have hts : ∀ w ∈ q_T, w.before _ s = true := fun w h => hts0 w (List.mem_cons_of_mem _ h)
  have hown : s.vm.findClass RJ0 = some m.cls := findClass_of_methodNamed B.named
  have hlocks := B.notSynchronized
  have hS : va_S (q_A z) s.heap s.heap [] := va_S.rf
  have hl := lv_entry ([.ref a, .int (Int32.ofInt i)]) (n := 2) (Nat.le_of_ble_eq_true rfl)
  rw [lg_entry_eq]
  generalize (lg_sl ([.ref a, .int (Int32.ofInt i)]) ++ List.replicate (2 - (lg_sl ([.ref a, .int (Int32.ofInt i)])).length) Slot.unset).toArray = ls at hl ⊢
  have hl : lv_has ls 2 [(0, .ref a), (1, .int (Int32.ofInt i))] := hl
  refine lv_aload_n hx hb (show decode cJ0_charAt_5068e 0 = .ok (.aload_n 0, 1) by decide +kernel) rfl (lv_at hl 0 rfl) ?_
  refine q_afterp (va_runV (Ts := q_T) (C := RJ0) (As := []) (rest := []) ⟨hx, hb, hml, hown, hts⟩ (q_c_lat l z a) ⟨callB_of 0 hts q_jg_lat rfl rfl rfl (hts _ q_j_lat.2) (hts _ q_m492) (by decide +kernel) ⟨Nat.le_of_ble_eq_true rfl, Nat.le_of_ble_eq_true rfl⟩, hts _ q_js_lat.1, hts _ q_js_lat.2⟩ ⟨fun a U g mk q => ⟨q.1, q.2.1.moved (U := U.calling g mk a) (Vm.Alike.refl U.vm), q.2.2.moved (U := U.calling g mk a) (Vm.Alike.refl U.vm)⟩, (by obtain ⟨cell, g1, g2, g3, -⟩ := hv.1; exact ⟨cell, g1, g2, g3⟩), fun U hU hW => ⟨rfl, by rw [hU]; exact hv.2.1.moved hW.alike, by rw [hU]; exact hv.2.2.2.2.1.moved hW.alike⟩⟩ rfl rfl hl.1 rfl (lv_room (Nat.le_of_ble_eq_true rfl)) (show decode cJ0_charAt_5068e 1 = .ok (.invokevirtual 492, 3) by decide +kernel) ⟨Nat.le_refl _, Nat.le_refl _⟩) ?_
  refine lv_if_eq (tgt := 16) hx hb (show decode cJ0_charAt_5068e 4 = .ok (.ifCond .eq 12, 3) by decide +kernel) (by decide) (fun q => absurd q (by decide)) (fun _ => ?_)
  refine lv_aload_n hx hb (show decode cJ0_charAt_5068e 7 = .ok (.aload_n 0, 1) by decide +kernel) rfl (lv_at hl 0 rfl) ?_
  refine vk_getf hx hb hv.2.2.1 hS hown (hts _ q_f9) (fun _ q => q) (show decode cJ0_charAt_5068e 8 = .ok (.getfield 9, 3) by decide +kernel) ?_
  refine lv_iload_n hx hb (show decode cJ0_charAt_5068e 11 = .ok (.iload_n 1, 1) by decide +kernel) rfl (lv_at hl 1 rfl) ?_
  refine q_afterp (va_runS (Ts := q_T) (As := [.ref b, .int (Int32.ofInt i)]) (rest := []) ⟨hx, hb, hml, hown, hts⟩ (q_c_ch1 l z b n f i h0 h1 hn hf) ⟨callB_of 2 hts q_jg_ch1 rfl rfl rfl (hts _ q_j_ch1.2) (hts _ q_m495) (by decide +kernel) ⟨Nat.le_of_ble_eq_true rfl, Nat.le_of_ble_eq_true rfl⟩, hts _ q_js_ch1⟩ ⟨fun a U g mk q => ⟨q.1, q.2.1.moved (U := U.calling g mk a) (Vm.Alike.refl U.vm), q.2.2.moved (U := U.calling g mk a) (Vm.Alike.refl U.vm)⟩, fun U hU hW => ⟨rfl, by rw [hU]; exact hv.2.2.2.1.moved hW.alike, by rw [hU]; exact hv.2.2.2.2.2.moved hW.alike⟩⟩ rfl rfl hl.1 rfl (lv_room (Nat.le_of_ble_eq_true rfl)) (show decode cJ0_charAt_5068e 12 = .ok (.invokestatic 495, 3) by decide +kernel) ⟨Nat.le_refl _, Nat.le_refl _⟩) ?_
  have ha := q_ascii (f i.toNat).toNat (by omega)
  rw [show (((f i.toNat).toNat : Nat) : Int) = f i.toNat by omega] at ha
  exact W.zret hx hb hr ha.2 (fun t ht _ => ⟨rfl, ht⟩) (fun q h => by cases h) (show decode cJ0_charAt_5068e 15 = .ok (.ireturn, 1) by decide +kernel) hlocks
