/-! ===== the law's own code, and all of it together ===== -/
theorem q_chkT_app : ∀ {C C' : List q_I} {L : List UInt8}, q_chkT C L = true → q_chkT C' (L.drop C.length) = true → q_chkT (C ++ C') L = true
  | [], _, _, _, h => by simpa using h
  | x :: C, C', L, h, h' => by
    simp only [q_chkT, Bool.and_eq_true] at h
    simp only [List.cons_append, q_chkT, Bool.and_eq_true]
    refine ⟨h.1, q_chkT_app h.2 ?_⟩
    rw [List.drop_tail]
    simpa using h'
theorem q_lw_T0 : q_chkT q_C225_0 (code.data.toList.drop 0) = true := by decide +kernel
theorem q_lw_x0 : q_C225_0.all (q_chkx 225) = true := by decide +kernel
theorem q_lw_n0 : q_C225_0.length = 120 := by decide +kernel
theorem q_lw_T1 : q_chkT q_C225_1 (code.data.toList.drop 120) = true := by decide +kernel
theorem q_lw_x1 : q_C225_1.all (q_chkx 225) = true := by decide +kernel
theorem q_lw_n1 : q_C225_1.length = 120 := by decide +kernel
theorem q_lw_T2 : q_chkT q_C225_2 (code.data.toList.drop 240) = true := by decide +kernel
theorem q_lw_x2 : q_C225_2.all (q_chkx 225) = true := by decide +kernel
theorem q_lw_n2 : q_C225_2.length = 120 := by decide +kernel
theorem q_lw_T3 : q_chkT q_C225_3 (code.data.toList.drop 360) = true := by decide +kernel
theorem q_lw_x3 : q_C225_3.all (q_chkx 225) = true := by decide +kernel
theorem q_lw_n3 : q_C225_3.length = 120 := by decide +kernel
theorem q_lw_T4 : q_chkT q_C225_4 (code.data.toList.drop 480) = true := by decide +kernel
theorem q_lw_x4 : q_C225_4.all (q_chkx 225) = true := by decide +kernel
theorem q_lw_n4 : q_C225_4.length = 120 := by decide +kernel
theorem q_lw_T5 : q_chkT q_C225_5 (code.data.toList.drop 600) = true := by decide +kernel
theorem q_lw_x5 : q_C225_5.all (q_chkx 225) = true := by decide +kernel
theorem q_lw_n5 : q_C225_5.length = 120 := by decide +kernel
theorem q_lw_T6 : q_chkT q_C225_6 (code.data.toList.drop 720) = true := by decide +kernel
theorem q_lw_x6 : q_C225_6.all (q_chkx 225) = true := by decide +kernel
theorem q_lw_n6 : q_C225_6.length = 120 := by decide +kernel
theorem q_lw_T7 : q_chkT q_C225_7 (code.data.toList.drop 840) = true := by decide +kernel
theorem q_lw_x7 : q_C225_7.all (q_chkx 225) = true := by decide +kernel
theorem q_lw_n7 : q_C225_7.length = 120 := by decide +kernel
theorem q_lw_T8 : q_chkT q_C225_8 (code.data.toList.drop 960) = true := by decide +kernel
theorem q_lw_x8 : q_C225_8.all (q_chkx 225) = true := by decide +kernel
theorem q_lw_n8 : q_C225_8.length = 58 := by decide +kernel
theorem q_lw_U8 : q_chkT q_C225_8 (code.data.toList.drop 960) = true := q_lw_T8
theorem q_lw_U7 : q_chkT (q_C225_7 ++ q_C225_8) (code.data.toList.drop 840) = true := q_chkT_app q_lw_T7 (by rw [q_lw_n7, List.drop_drop]; exact q_lw_U8)
theorem q_lw_U6 : q_chkT (q_C225_6 ++ (q_C225_7 ++ q_C225_8)) (code.data.toList.drop 720) = true := q_chkT_app q_lw_T6 (by rw [q_lw_n6, List.drop_drop]; exact q_lw_U7)
theorem q_lw_U5 : q_chkT (q_C225_5 ++ (q_C225_6 ++ (q_C225_7 ++ q_C225_8))) (code.data.toList.drop 600) = true := q_chkT_app q_lw_T5 (by rw [q_lw_n5, List.drop_drop]; exact q_lw_U6)
theorem q_lw_U4 : q_chkT (q_C225_4 ++ (q_C225_5 ++ (q_C225_6 ++ (q_C225_7 ++ q_C225_8)))) (code.data.toList.drop 480) = true := q_chkT_app q_lw_T4 (by rw [q_lw_n4, List.drop_drop]; exact q_lw_U5)
theorem q_lw_U3 : q_chkT (q_C225_3 ++ (q_C225_4 ++ (q_C225_5 ++ (q_C225_6 ++ (q_C225_7 ++ q_C225_8))))) (code.data.toList.drop 360) = true := q_chkT_app q_lw_T3 (by rw [q_lw_n3, List.drop_drop]; exact q_lw_U4)
theorem q_lw_U2 : q_chkT (q_C225_2 ++ (q_C225_3 ++ (q_C225_4 ++ (q_C225_5 ++ (q_C225_6 ++ (q_C225_7 ++ q_C225_8)))))) (code.data.toList.drop 240) = true := q_chkT_app q_lw_T2 (by rw [q_lw_n2, List.drop_drop]; exact q_lw_U3)
theorem q_lw_U1 : q_chkT (q_C225_1 ++ (q_C225_2 ++ (q_C225_3 ++ (q_C225_4 ++ (q_C225_5 ++ (q_C225_6 ++ (q_C225_7 ++ q_C225_8))))))) (code.data.toList.drop 120) = true := q_chkT_app q_lw_T1 (by rw [q_lw_n1, List.drop_drop]; exact q_lw_U2)
theorem q_lw_U0 : q_chkT (q_C225_0 ++ (q_C225_1 ++ (q_C225_2 ++ (q_C225_3 ++ (q_C225_4 ++ (q_C225_5 ++ (q_C225_6 ++ (q_C225_7 ++ q_C225_8)))))))) (code.data.toList.drop 0) = true := q_chkT_app q_lw_T0 (by rw [q_lw_n0, List.drop_drop]; exact q_lw_U1)
theorem q_chk_17 : ∀ m, 225 ≤ m → m < 226 → q_chkM m = true := by
  intro m h1 h2
  have : m = 225 := by omega
  subst this
  have e1 : q_C.getD 225 [] = q_C225 := rfl
  have e2 : (q_m 225).2.1 = code := rfl
  unfold q_chkM
  rw [e1, e2, Bool.and_eq_true]
  refine ⟨q_lw_U0, ?_⟩
  unfold q_C225
  simp only [List.all_append, Bool.and_eq_true]
  exact ⟨q_lw_x0, q_lw_x1, q_lw_x2, q_lw_x3, q_lw_x4, q_lw_x5, q_lw_x6, q_lw_x7, q_lw_x8⟩
theorem q_chkM_ok {m : Nat} (hm : m < 227) : q_chkM m = true := by
  by_cases h0 : m < 23
  · exact q_chk_0 m (by omega) h0
  by_cases h1 : m < 34
  · exact q_chk_1 m (by omega) h1
  by_cases h2 : m < 55
  · exact q_chk_2 m (by omega) h2
  by_cases h3 : m < 69
  · exact q_chk_3 m (by omega) h3
  by_cases h4 : m < 89
  · exact q_chk_4 m (by omega) h4
  by_cases h5 : m < 115
  · exact q_chk_5 m (by omega) h5
  by_cases h6 : m < 127
  · exact q_chk_6 m (by omega) h6
  by_cases h7 : m < 140
  · exact q_chk_7 m (by omega) h7
  by_cases h8 : m < 156
  · exact q_chk_8 m (by omega) h8
  by_cases h9 : m < 167
  · exact q_chk_9 m (by omega) h9
  by_cases h10 : m < 176
  · exact q_chk_10 m (by omega) h10
  by_cases h11 : m < 188
  · exact q_chk_11 m (by omega) h11
  by_cases h12 : m < 198
  · exact q_chk_12 m (by omega) h12
  by_cases h13 : m < 203
  · exact q_chk_13 m (by omega) h13
  by_cases h14 : m < 208
  · exact q_chk_14 m (by omega) h14
  by_cases h15 : m < 213
  · exact q_chk_15 m (by omega) h15
  by_cases h16 : m < 225
  · exact q_chk_16 m (by omega) h16
  by_cases h17 : m < 226
  · exact q_chk_17 m (by omega) h17
  exact q_chk_18 m (by omega) hm
theorem q_ts_0 : decode cX1_body 23 = .ok (.tableswitch 175 11 23 #[65, 84, 96, 111, 175, 175, 175, 175, 175, 130, 135, 150, 162], 65) := by decide +kernel
theorem q_ts_1 : decode cX4_textOf 1 = .ok (.tableswitch 57 0 5 #[39, 42, 45, 48, 51, 54], 39) := by decide +kernel
theorem q_ts_2 : decode cX10_told 12 = .ok (.tableswitch 83 0 3 #[32, 42, 55, 69], 32) := by decide +kernel
theorem q_ts_3 : decode cX10_count 1 = .ok (.tableswitch 104 0 5 #[39, 44, 74, 79, 87, 96], 39) := by decide +kernel
theorem q_ts_4 : decode cX11_count 8 = .ok (.tableswitch 147 0 5 #[40, 73, 94, 99, 104, 142], 40) := by decide +kernel
theorem q_ts_5 : decode code 33 = .ok (.tableswitch 977 0 25 #[119, 162, 205, 268, 291, 334, 367, 400, 413, 446, 509, 522, 535, 568, 601, 644, 707, 720, 743, 796, 829, 852, 885, 918, 941, 964], 119) := by decide +kernel
def q_tsL : List (Nat × Nat) := [(14, 23), (63, 1), (124, 12), (142, 1), (223, 8), (225, 33)]
/-- where the switches stand -/
def q_tsok (m : Nat) : Bool := (q_C.getD m []).zipIdx.all (fun q => match q.1.1 with
  | .tableswitch _ _ _ _ => q_tsL.contains (m, q.2)
  | _ => true)
theorem q_tsok_ok : (List.range 227).all q_tsok = true := by decide +kernel
theorem q_code_get {m pc : Nat} {x : q_I} (h : q_code m pc = x) (hn : x ≠ q_0) : (q_C.getD m [])[pc]? = some x := by
  unfold q_code at h
  rw [List.getD_eq_getElem?_getD] at h
  cases h1 : (q_C.getD m [])[pc]? with
  | none => rw [h1] at h; exact absurd h.symm hn
  | some y => rw [h1] at h; exact congrArg some h
theorem q_chkx_ok {m pc : Nat} {x : q_I} (hm : m < 227) (h : q_code m pc = x) (hn : x ≠ q_0) : q_chkx m x = true := by
  have h1 := q_chkM_ok hm
  simp only [q_chkM, Bool.and_eq_true] at h1
  exact List.all_eq_true.mp h1.2 x (List.mem_of_getElem? (q_code_get h hn))
theorem q_dec_ok {m pc : Nat} {x : q_I} (hm : m < 227) (h : q_code m pc = x) (hn : x.1 ≠ .nop) (ht : ∀ d lo hi os, x.1 ≠ .tableswitch d lo hi os) : decode (q_m m).2.1 pc = .ok (x.1, q_len x.1) := by
  have h1 := q_chkM_ok hm
  simp only [q_chkM, Bool.and_eq_true] at h1
  have h2 := q_chkT_at h1.1 (q_code_get h (fun q => hn (by rw [q])))
  refine q_dec_all ?_
  split at h2
  · next e => exact absurd e hn
  · next e => exact absurd e (ht _ _ _ _)
  · exact h2
theorem q_dec_ts {m pc : Nat} {x : q_I} {d lo hi : Int} {os : Array Int} (hm : m < 227) (h : q_code m pc = x) (hx : x.1 = .tableswitch d lo hi os) : ∃ n, decode (q_m m).2.1 pc = .ok (.tableswitch d lo hi os, n) := by
  have h1 := List.all_eq_true.mp q_tsok_ok m (List.mem_range.mpr hm)
  have h2 := q_code_get h (fun q => by rw [q] at hx; cases hx)
  have h3 := List.all_eq_true.mp h1 (x, pc) (List.mem_zipIdx_iff_getElem?.mpr h2)
  simp only [hx] at h3
  have h4 := List.contains_iff_mem.mp h3
  simp only [q_tsL, List.mem_cons, Prod.mk.injEq, List.not_mem_nil, or_false] at h4
  rcases h4 with ⟨rfl, rfl⟩ | ⟨rfl, rfl⟩ | ⟨rfl, rfl⟩ | ⟨rfl, rfl⟩ | ⟨rfl, rfl⟩ | ⟨rfl, rfl⟩
  · have : x.1 = .tableswitch 175 11 23 #[65, 84, 96, 111, 175, 175, 175, 175, 175, 130, 135, 150, 162] := by rw [← h]; rfl
    rw [hx] at this
    rw [this]
    exact ⟨65, q_ts_0⟩
  · have : x.1 = .tableswitch 57 0 5 #[39, 42, 45, 48, 51, 54] := by rw [← h]; rfl
    rw [hx] at this
    rw [this]
    exact ⟨39, q_ts_1⟩
  · have : x.1 = .tableswitch 83 0 3 #[32, 42, 55, 69] := by rw [← h]; rfl
    rw [hx] at this
    rw [this]
    exact ⟨32, q_ts_2⟩
  · have : x.1 = .tableswitch 104 0 5 #[39, 44, 74, 79, 87, 96] := by rw [← h]; rfl
    rw [hx] at this
    rw [this]
    exact ⟨39, q_ts_3⟩
  · have : x.1 = .tableswitch 147 0 5 #[40, 73, 94, 99, 104, 142] := by rw [← h]; rfl
    rw [hx] at this
    rw [this]
    exact ⟨40, q_ts_4⟩
  · have : x.1 = .tableswitch 977 0 25 #[119, 162, 205, 268, 291, 334, 367, 400, 413, 446, 509, 522, 535, 568, 601, 644, 707, 720, 743, 796, 829, 852, 885, 918, 941, 964] := by rw [← h]; rfl
    rw [hx] at this
    rw [this]
    exact ⟨119, q_ts_5⟩
