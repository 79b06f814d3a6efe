section
variable {d q : Nat} {v : q_H} {G : q_Gr} {Q : q_V → q_H → q_Gr → Prop}
/-- the reference's check, behind the class's: what is left is its telling, then this -/
theorem m_check {A rd s i m a b p : Nat} {n w low high sa sb : Int} {u v : q_H} {L : List Int} (hG : gok G) (hl : lok L) (hm6 : L.length = m) (hA : A < 12) (hrd : rd < 20) (hs : s < 8) (ha : a < 3) (hb : b < 3) (x149 : u 149 A = w) (hw : 0 ≤ w ∧ w ≤ 6) (x150 : u 150 A = (a : Int)) (x151 : u 151 A = (b : Int)) (x152 : u 152 A = low) (x153 : u 153 A = high) (hlo : 0 ≤ low ∧ low ≤ 999) (hk : w = 2 → 1 ≤ high ∧ high ≤ 14) (hh : w ≠ 2 → low ≤ high ∧ high ≤ 999) (hsa : u 148 (4 * rd + a) = sa) (hsb : u 148 (4 * rd + b) = sb) (sar : 0 ≤ sa ∧ sa ≤ 65520) (sbr : 0 ≤ sb ∧ sb ≤ 65520) (h39 : u 137 39 = (m : Int)) (hb5 : bl5 u) (hmany : 0 ≤ u 139 s ∧ u 139 s ≤ 600) (him : (i : Int) + m ≤ u 139 s) (hit : ∀ k (hk : k < L.length), u 140 (600 * s + i + k) = L[k])
  (hE : ∀ x (e : Nat) (y : Int), tk L w sa sb low high = .inl (e, y) → (∀ b, b ≠ 137 → ¬ (159 ≤ b ∧ b ≤ 172) → x b = u b) → (∀ j, j ≠ 1 → j ≠ 37 → ¬ (41 ≤ j ∧ j ≤ 44) → ¬ (54 ≤ j ∧ j ≤ 58) → j ≠ 61 → j ≠ 62 → x 137 j = u 137 j) → bl5 x → x 137 1 = 0 → x 137 61 = y → x 137 62 = 0 → 1 ≤ y → y ≤ 3 → Q (.inl (-1000200 - e)) x G)
  (hY : ∀ x (T : List Int), tk L w sa sb low high = .inr T → (∀ b, b ≠ 137 → ¬ (159 ≤ b ∧ b ≤ 172) → x b = u b) → (∀ j, j ≠ 1 → j ≠ 37 → ¬ (41 ≤ j ∧ j ≤ 44) → ¬ (54 ≤ j ∧ j ≤ 58) → j ≠ 61 → j ≠ 62 → x 137 j = u 137 j) → bl5 x → x 137 1 = 0 → x 137 61 = 0 → (T.length ≤ 60 → hasL x 137 62 172 T) → (T.length ≤ 60 → Q (.inl 1) x G)) (hTl : ∀ T, tk L w sa sb low high = .inr T → T.length ≤ 60) : q_wp (d + 6) 210 99 [.inr (.inr (.inl (some 137))), .inl A, .inl rd, .inl s, .inl i, .inl n, .inr (.inr (.inr ())), .inr (.inr (.inr ()))] [] u G Q := by
  have hll := hl.1
  generalize hu1 : q_up u 137 1 0 = u1
  have f1 : ∀ b, b ≠ 137 → u1 b = u b := fun b hb => by rw [← hu1, u_r hb]
  have f1q : ∀ j, j ≠ 1 → u1 137 j = u 137 j := fun j hj => by rw [← hu1, u_n (by omega)]
  have u11 : u1 137 1 = 0 := by rw [← hu1, u_s rfl rfl]
  have lp := s_mgiven (d := d + 6) (Q := Q) (z1 := .inl A) (z2 := .inl rd) (z5 := .inl n) (z7 := .inr (.inr (.inr ()))) (s := s) (i := i) (m := m) (v0 := u1) hG hs (by omega) (by rw [f1q 39 (by omega), h39]) (fun u2 z6 f2 g2 => by
    have hL2 : hasL u2 137 39 160 L := ⟨by rw [f2 137 (by omega), f1q 39 (by omega), h39, hm6], fun k hk => by rw [g2 k (by omega), f1 140 (by omega), hit k hk]⟩
    have c2 : ∀ b, b ≠ 137 → b ≠ 160 → u2 b = u b := fun b b1 b2 => by rw [f2 b b2, f1 b b1]
    have c2q : ∀ j, j ≠ 1 → u2 137 j = u 137 j := fun j hj => by rw [f2 137 (by omega), f1q j hj]
    have key : q_call (d + 6) 209 [.inr (.inr (.inl (some 137))), .inl A, .inl rd] u2 G (fun r v' G' => q_wp (d + 6) 210 182 [.inr (.inr (.inl (some 137))), .inl A, .inl rd, .inl s, .inl i, .inl n, z6, .inr (.inr (.inr ()))] (q_push r []) v' G' Q) := by
      refine m_taken (w := w) (low := low) (high := high) (sa := sa) (sb := sb) (a := a) (b := b) hG hl hA hrd ha hb (by rw [c2 149 (by omega) (by omega), x149]) hw (by rw [c2 150 (by omega) (by omega), x150]) (by rw [c2 151 (by omega) (by omega), x151]) (by rw [c2 152 (by omega) (by omega), x152]) (by rw [c2 153 (by omega) (by omega), x153]) hlo hk hh (by rw [c2 148 (by omega) (by omega), hsa]) (by rw [c2 148 (by omega) (by omega), hsb]) sar sbr hL2 (by
        unfold bl5
        rw [c2q 56 (by omega), c2q 57 (by omega)]
        exact hb5) (fun x e y ht hm e1 e2 y1 y2 => ?_) (fun x T ht hm e2 hT => ?_)
      · generalize hx1 : q_up (q_up x 137 61 y) 137 62 0 = x1
        have d1 : ∀ b, b ≠ 137 → x1 b = x b := fun b hb => by rw [← hx1, u_r hb, u_r hb]
        have d1q : ∀ j, j ≠ 61 → j ≠ 62 → x1 137 j = x 137 j := fun j j1 j2 => by rw [← hx1, u_n (by omega), u_n (by omega)]
        have x62 : x1 137 62 = ((0 : Nat) : Int) := by rw [← hx1, u_s rfl rfl]; rfl
        have x61 : x1 137 61 = y := by rw [← hx1, u_n (by omega), u_s rfl rfl]
        have lp := s_mread (d := d + 6) (Q := Q) (z1 := .inl A) (z2 := .inl rd) (z3 := .inl s) (z4 := .inl i) (z5 := .inl n) (is := 0) (m := 0) (v0 := x1) hG (by decide) x62 (fun x2 z7 f3 _ => by
          have fin := hE x2 e y ht (fun b b1 b2 => by rw [f3 b (by omega), d1 b b1, hm.1 b b1 (by omega) (by omega), c2 b b1 (by omega)]) (fun j j1 j2 j3 j4 j5 j6 => by rw [f3 137 (by omega), d1q j j5 j6, hm.2.1 j j2 j3 j4, c2q j j1]) (by
            unfold bl5
            rw [f3 137 (by omega), d1q 56 (by omega) (by omega), d1q 57 (by omega) (by omega)]
            exact hm.2.2) (by rw [f3 137 (by omega), d1q 1 (by omega) (by omega), hm.2.1 1 (by omega) (by omega) (by omega), f2 137 (by omega), u11]) (by rw [f3 137 (by omega), x61]) (by rw [f3 137 (by omega), x62]; rfl) y1 y2
          have w42 : x2 137 42 = (e : Int) := by rw [f3 137 (by omega), d1q 42 (by omega) (by omega), e1]
          simp (disch := omega) only [e_210_241, e_210_243, e_210_246, e_210_247, e_210_250, e_210_253, e_210_254, e_210_257, e_210_258, SHM hG, w42, ↓if_neg, ↓if_pos]
          repeat' first | exact fin | (refine And.intro ?_ ?_) | exact True.intro | omega | rfl) 0 0 x1 rfl (fun _ _ => rfl) (fun j hj => absurd hj (Nat.not_lt_zero _))
        have lp : q_wp (d + 6) 210 212 [.inr (.inr (.inl (some 137))), .inl A, .inl rd, .inl s, .inl i, .inl n, .inl 0, .inl 0] [] x1 G Q := lp
        simp (disch := first | assumption | omega | ((try simp (disch := omega) only [u_n, u_s]); first | assumption | omega)) only [e_210_182, e_210_184, e_210_185, e_210_186, e_210_189, e_210_192, e_210_193, e_210_195, e_210_198, e_210_199, e_210_202, e_210_205, e_210_206, e_210_209, e_210_210, SHM hG, e2, hx1, ↓if_neg, ↓if_pos, q_push_I, q_push_L, q_push_P, q_push_U]
        repeat' first | (refine And.intro ?_ ?_) | exact True.intro | omega | assumption | rfl
      · have hTl := hTl T ht
        generalize hx1 : q_up (q_up x 137 61 0) 137 62 (T.length : Int) = x1
        have d1 : ∀ b, b ≠ 137 → x1 b = x b := fun b hb => by rw [← hx1, u_r hb, u_r hb]
        have d1q : ∀ j, j ≠ 61 → j ≠ 62 → x1 137 j = x 137 j := fun j j1 j2 => by rw [← hx1, u_n (by omega), u_n (by omega)]
        have x62 : x1 137 62 = (T.length : Int) := by rw [← hx1, u_s rfl rfl]
        have x61 : x1 137 61 = 0 := by rw [← hx1, u_n (by omega), u_s rfl rfl]
        have t37 := hT.1
        have lp := s_mread (d := d + 6) (Q := Q) (z1 := .inl A) (z2 := .inl rd) (z3 := .inl s) (z4 := .inl i) (z5 := .inl n) (is := 1) (m := T.length) (v0 := x1) hG hTl x62 (fun x2 z7 f3 g3 => by
          have fin := hY x2 T ht (fun b b1 b2 => by rw [f3 b (by omega), d1 b b1, hm.1 b b1 (by omega) (by omega), c2 b b1 (by omega)]) (fun j j1 j2 j3 j4 j5 j6 => by rw [f3 137 (by omega), d1q j j5 j6, hm.2.1 j j2 j3 j4, c2q j j1]) (by
            unfold bl5
            rw [f3 137 (by omega), d1q 56 (by omega) (by omega), d1q 57 (by omega) (by omega)]
            exact hm.2.2) (by rw [f3 137 (by omega), d1q 1 (by omega) (by omega), hm.2.1 1 (by omega) (by omega) (by omega), f2 137 (by omega), u11]) (by rw [f3 137 (by omega), x61]) (fun _ => ⟨by rw [f3 137 (by omega), x62], fun k hk => by rw [g3 k hk, d1 159 (by omega)]; exact hT.2 k hk⟩) hTl
          simp (disch := omega) only [e_210_241, e_210_243, e_210_246, e_210_247, e_210_250, e_210_253, e_210_254, e_210_257, e_210_258, SHM hG, ↓if_neg, ↓if_pos]
          repeat' first | exact fin | (refine And.intro ?_ ?_) | exact True.intro | omega | rfl) T.length 0 x1 (by omega) (fun _ _ => rfl) (fun j hj => absurd hj (Nat.not_lt_zero _))
        have lp : q_wp (d + 6) 210 212 [.inr (.inr (.inl (some 137))), .inl A, .inl rd, .inl s, .inl i, .inl n, .inl 1, .inl 0] [] x1 G Q := lp
        simp (disch := first | assumption | omega | ((try simp (disch := omega) only [u_n, u_s]); first | assumption | omega)) only [e_210_182, e_210_184, e_210_185, e_210_186, e_210_189, e_210_192, e_210_193, e_210_195, e_210_198, e_210_199, e_210_202, e_210_205, e_210_206, e_210_209, e_210_210, SHM hG, e2, t37, u_n, hx1, ↓if_neg, ↓if_pos, q_push_I, q_push_L, q_push_P, q_push_U]
        repeat' first | (refine And.intro ?_ ?_) | exact True.intro | omega | assumption | rfl
    simp (disch := omega) only [e_210_176, e_210_177, e_210_178, e_210_179, SHM hG]
    repeat' first | (refine And.intro ?_ ?_) | exact True.intro | omega | assumption | rfl) m 0 u1 (by omega) (fun _ _ => rfl) (fun j hj => absurd hj (Nat.not_lt_zero _))
  have lp : q_wp (d + 6) 210 138 [.inr (.inr (.inl (some 137))), .inl A, .inl rd, .inl s, .inl i, .inl n, .inl 0, .inr (.inr (.inr ()))] [] u1 G Q := lp
  simp (disch := omega) only [e_210_99, e_210_101, e_210_104, e_210_106, e_210_107, e_210_108, e_210_111, e_210_112, e_210_113, e_210_114, e_210_117, e_210_118, e_210_119, e_210_120, e_210_121, e_210_124, e_210_125, e_210_126, e_210_129, e_210_130, e_210_131, e_210_132, e_210_135, e_210_136, SHM hG, h39, hu1, Int.toNat_natCast, ↓if_neg, ↓if_pos]
  repeat' first | (refine And.intro ?_ ?_) | exact True.intro | omega | assumption | rfl
theorem chk_inv {x : q_H} (hI : Inv v G) (cx : ∀ b, b ≠ 32 → b ≠ 137 → ¬ (41 ≤ b ∧ b ≤ 43) → ¬ (52 ≤ b ∧ b ≤ 71) → ¬ (144 ≤ b ∧ b ≤ 147) → ¬ (155 ≤ b ∧ b ≤ 172) → x b = v b) (cq : ∀ j, j ≠ 0 → j ≠ 1 → j ≠ 8 → j ≠ 32 → j ≠ 37 → j ≠ 39 → ¬ (41 ≤ j ∧ j ≤ 44) → ¬ (54 ≤ j ∧ j ≤ 58) → j ≠ 61 → j ≠ 62 → x 137 j = v 137 j) (c32 : ∀ j, j ≠ 9 → x 32 j = v 32 j) (x329 : x 32 9 = 0) (x1 : x 137 1 = 0) (ck : ckI x) : (∀ b, b < 32 → x b = v b) ∧ Inv x G := by
  refine ⟨fun b hb => cx b (by omega) (by omega) (by omega) (by omega) (by omega) (by omega), Inv_csk hI (fun b j h1 h2 h3 => ?_) ⟨by rw [x329, x1], by rw [x329]; decide, by rw [x329]; decide⟩ ck⟩
  by_cases e : b = 137
  · subst e
    exact cq j (by omega) (by omega) (by omega) (by omega) (by omega) (by omega) (by omega) (by omega) (by omega) (by omega)
  · by_cases e2 : b = 32
    · subst e2
      exact c32 j (by omega)
    · rw [cx b e2 e (by omega) (by omega) (by omega) (by omega)]
theorem fnd_inv {x : q_H} {k : Int} (hI : Inv v G) (hk : 0 ≤ k ∧ k ≤ 5) (cx : ∀ b, b ≠ 32 → b ≠ 137 → ¬ (41 ≤ b ∧ b ≤ 43) → ¬ (144 ≤ b ∧ b ≤ 147) → ¬ (155 ≤ b ∧ b ≤ 158) → x b = v b) (cq : ∀ j, j ≠ 0 → j ≠ 1 → j ≠ 8 → j ≠ 32 → j ≠ 39 → x 137 j = v 137 j) (c32 : ∀ j, j ≠ 9 → x 32 j = v 32 j) (x329 : x 32 9 = k) (x1 : x 137 1 = k) : (∀ b, b < 32 → x b = v b) ∧ Inv x G := by
  refine ⟨fun b hb => cx b (by omega) (by omega) (by omega) (by omega) (by omega), Inv_cst hI (fun b j h1 h2 => ?_) ⟨by rw [x329, x1], by rw [x329]; omega, by rw [x329]; omega⟩⟩
  by_cases e : b = 137
  · subst e
    exact cq j (by omega) (by omega) (by omega) (by omega) (by omega)
  · by_cases e2 : b = 32
    · subst e2
      exact c32 j (by omega)
    · rw [cx b e2 e (by omega) (by omega) (by omega)]
theorem op_check {a b c i n : Int} (hI : Inv v G) (ha : -2147483648 ≤ a ∧ a ≤ 2147483647) (hb : -2147483648 ≤ b ∧ b ≤ 2147483647) (hc : -2147483648 ≤ c ∧ c ≤ 2147483647) (hi : -2147483648 ≤ i ∧ i ≤ 2147483647) (hn : -2147483648 ≤ n ∧ n ≤ 2147483647) : twin (d + 16) 133 210 [.inl a, .inl b, .inl c, .inl i, .inl n] v G Inv := by
  have hG := hI.1
  have hL := hI.2.1
  have hT := hI.2.2.1
  have hR := hI.2.2.2.1
  have hA := hI.2.2.2.2.2.1
  have hK := hI.2.2.2.2.2.2.1
  have hB := hI.2.2.2.2.2.2.2.2
  have h32 : (G.2.1 32).1 = 10 := by rw [sh_32 hG]
  have h137 : (G.2.1 137).1 = 11 := by rw [sh_137 hG]
  obtain ⟨a1, a2, a3, a4⟩ := hA
  obtain ⟨r1, r2, r3, r4⟩ := hR
  by_cases c0 : (0 ≤ a ∧ a < v 36 3) ∧ (0 ≤ b ∧ b < v 32 3) ∧ (0 ≤ c ∧ c ≤ 7) ∧ (n = -1000000 ∨ (0 ≤ n ∧ n ≤ 600))
  · obtain ⟨A, rfl⟩ : ∃ A : Nat, a = (A : Int) := ⟨a.toNat, by omega⟩
    obtain ⟨rd, rfl⟩ : ∃ rd : Nat, b = (rd : Int) := ⟨b.toNat, by omega⟩
    obtain ⟨s, rfl⟩ : ∃ s : Nat, c = (s : Int) := ⟨c.toNat, by omega⟩
    have hs : s < 8 := by omega
    obtain ⟨p, p1, p2, p3, p4, p5⟩ := a4 A c0.1.2
    obtain ⟨l1, l2, l3, l4, l5⟩ := hL s hs
    obtain ⟨gs1, gs2⟩ := g_sheet hG s hs
    by_cases hm : v (94 + 2 * s) 1 = -1
    · refine twin_mk (z := -1000011) (v1 := q_up v 32 9 1) (v2 := q_up (q_up (q_up v 32 9 1) 137 0 0) 137 1 1) ?_ ?_ (by decide) ?_
      · by_cases cn : n = -1000000
        · simp (disch := first | assumption | omega) only [e_133, e_133_0, e_133_1, e_133_4, e_133_5, e_133_8, e_133_10, e_133_12, e_133_12b, e_133_15, e_133_16, e_133_17, e_133_20, e_133_23, e_133_26, e_133_27, e_133_29, e_133_32, e_133_35, e_133_37, e_133_38, e_133_40, e_133_42, e_133_45, e_133_47, e_133_50, e_133_53, e_133_56, e_133_58, e_133_59, e_133_60, e_133_63, e_133_64, e_133_65, e_133_68, e_133_71, e_133_72, e_133_73, e_133_76, SHC hG, c_act_y hG a3 c0.1.2 p1, c_within, gs1, c_smiss, c_found, Int.toNat_natCast, ↓if_neg, ↓if_pos, q_push_I, q_push_L, q_push_P, q_push_U]
          repeat' first | (refine And.intro ?_ ?_) | rfl | exact True.intro | assumption | omega
        · simp (disch := first | assumption | omega) only [e_133, e_133_0, e_133_1, e_133_4, e_133_5, e_133_8, e_133_10, e_133_12, e_133_12b, e_133_15, e_133_16, e_133_17, e_133_20, e_133_23, e_133_26, e_133_27, e_133_29, e_133_32, e_133_35, e_133_37, e_133_38, e_133_40, e_133_42, e_133_45, e_133_47, e_133_50, e_133_53, e_133_56, e_133_58, e_133_59, e_133_60, e_133_63, e_133_64, e_133_65, e_133_68, e_133_71, e_133_72, e_133_73, e_133_76, SHC hG, c_act_y hG a3 c0.1.2 p1, c_within, gs1, c_smiss, c_found, Int.toNat_natCast, ↓if_neg, ↓if_pos, q_push_I, q_push_L, q_push_P, q_push_U]
          repeat' first | (refine And.intro ?_ ?_) | rfl | exact True.intro | assumption | omega
      · by_cases cn : n = -1000000
        · simp (disch := first | assumption | omega | ((try simp (disch := omega) only [u_n, u_s]); omega)) only [e_210, e_210_0, e_210_1, e_210_2, e_210_5, e_210_6, e_210_7, e_210_10, e_210_13, e_210_14, e_210_15, e_210_16, e_210_17, e_210_20, e_210_21, e_210_22, e_210_23, e_210_26, e_210_29, e_210_30, e_210_33, e_210_36, e_210_38, e_210_40, e_210_43, e_210_45, e_210_46, e_210_47, e_210_50, e_210_53, e_210_56, e_210_58, e_210_59, e_210_60, e_210_63, e_210_64, e_210_65, e_210_68, e_210_69, e_210_70, e_210_73, SHM hG, c_isAct, c_isSheet, c_in, c_finding, ↓if_neg, ↓if_pos, u_n, ← a1, ← r1, Int.toNat_natCast, q_push_I, q_push_L, q_push_P, q_push_U]
          repeat' first | (refine And.intro ?_ ?_) | rfl | exact True.intro | assumption | omega
        · simp (disch := first | assumption | omega | ((try simp (disch := omega) only [u_n, u_s]); omega)) only [e_210, e_210_0, e_210_1, e_210_2, e_210_5, e_210_6, e_210_7, e_210_10, e_210_13, e_210_14, e_210_15, e_210_16, e_210_17, e_210_20, e_210_21, e_210_22, e_210_23, e_210_26, e_210_29, e_210_30, e_210_33, e_210_36, e_210_38, e_210_40, e_210_43, e_210_45, e_210_46, e_210_47, e_210_50, e_210_53, e_210_56, e_210_58, e_210_59, e_210_60, e_210_63, e_210_64, e_210_65, e_210_68, e_210_69, e_210_70, e_210_73, SHM hG, c_isAct, c_isSheet, c_in, c_finding, ↓if_neg, ↓if_pos, u_n, ← a1, ← r1, Int.toNat_natCast, q_push_I, q_push_L, q_push_P, q_push_U]
          repeat' first | (refine And.intro ?_ ?_) | rfl | exact True.intro | assumption | omega
      · exact Inv_cst hI (fun b j h1 h2 => by simp (disch := omega) only [u_n]) (by unfold stI; simp (disch := omega) only [u_n, u_s]; decide)
    · have l4 := l4 (by omega)
      have al := actP_len hB p5
      have hrd : rd < 20 := by omega
      have p5' := p5
      obtain ⟨t1, t2, t3, t4, t5, t6, t7, t8, t9, t10, t11⟩ := p5'
      obtain ⟨ta, hta⟩ : ∃ ta : Nat, v 150 A = (ta : Int) := ⟨(v 150 A).toNat, by omega⟩
      obtain ⟨tb, htb⟩ : ∃ tb : Nat, v 151 A = (tb : Int) := ⟨(v 151 A).toNat, by omega⟩
      have hta3 : ta < 3 := by omega
      have htb3 : tb < 3 := by omega
      have pa : v p 1 = (ta : Int) := by omega
      have pb : v p 2 = (tb : Int) := by omega
      have aQ := actI_Q p5
      have hw6 := aQ.2.1
      have hlo := aQ.2.2.2.1
      have hk2 : v 149 A = 2 → 1 ≤ v 153 A ∧ v 153 A ≤ 14 := fun e => (aQ.2.2.2.2.1 e).2
      have hh2 : v 149 A ≠ 2 → v 152 A ≤ v 153 A ∧ v 153 A ≤ 999 := fun e => (aQ.2.2.2.2.2 e).2
      have sA := r4 (4 * rd + ta) (by omega)
      have sB := r4 (4 * rd + tb) (by omega)
      clear t1 t2 t3 t4 t5 t6 t7 t8 t9 t10 t11
      apply twin_of
      generalize hQt : (fun (r : q_V) (v1 : q_H) (G1 : q_Gr) => ∃ z : Int, r = .inl z ∧ G1 = G ∧ -2147483648 ≤ z ∧ z ≤ 2147483647 ∧ q_call (d + 16) 210 (.inr (.inr (.inl (some 137))) :: [.inl A, .inl rd, .inl s, .inl i, .inl n]) v1 G (fun r2 v2 G2 => r2 = .inl z ∧ G2 = G ∧ (∀ b, b < 32 → v2 b = v b) ∧ Inv v2 G)) = Qt
      -- the reference up to its numbers
      have mp : ∀ (u : q_H) (m : Nat) (Q2 : q_V → q_H → q_Gr → Prop), (∀ b, b ≠ 32 → ¬ (41 ≤ b ∧ b ≤ 43) → ¬ (52 ≤ b ∧ b ≤ 71) → u b = v b) → ((n = -1000000 ∧ m = (actP v A).length) ∨ (n ≠ -1000000 ∧ n = (m : Int))) → (∀ v2, mfr v2 (q_up u 137 0 0) → q_wp (d + 15) 210 99 [.inr (.inr (.inl (some 137))), .inl A, .inl rd, .inl s, .inl i, .inl n, .inr (.inr (.inr ())), .inr (.inr (.inr ()))] [] (q_up v2 137 39 (m : Int)) G Q2) → q_call (d + 16) 210 [.inr (.inr (.inl (some 137))), .inl A, .inl rd, .inl s, .inl i, .inl n] u G Q2 := fun u m Q2 fu hmn hC => by
        have u137 : u 137 = v 137 := fu _ (by omega) (by omega) (by omega)
        have u138 : u 138 = v 138 := fu _ (by omega) (by omega) (by omega)
        have m2 : q_call (d + 15) 193 [.inr (.inr (.inl (some 137))), .inl A] (q_up u 137 0 0) G (fun r v' G' => q_wp (d + 15) 210 79 [.inr (.inr (.inl (some 137))), .inl A, .inl rd, .inl s, .inl i, .inl n, .inr (.inr (.inr ())), .inr (.inr (.inr ()))] (q_push r []) v' G' Q2) := m_act2 (d := d + 9) (p := p) hG hB p2 (by omega) p5 (fun b hb => by rw [u_r (by omega), fu b (by omega) (by omega) (by omega)]) (fun v2 f2 hl2 => by
          have w32 := hl2.1
          have nx := hC v2 f2
          rcases hmn with ⟨hn1, hn2⟩ | ⟨hn1, hn2⟩
          · rw [hn2] at nx
            simp (disch := omega) only [e_210_79, e_210_80, e_210_82, e_210_84, e_210_87, e_210_88, e_210_91, e_210_94, e_210_96, SHM hG, w32, ↓if_neg, ↓if_pos, q_push_I, q_push_L, q_push_P, q_push_U]
            repeat' first | (refine And.intro ?_ ?_) | exact True.intro | omega | assumption | rfl
          · rw [← hn2] at nx
            simp (disch := omega) only [e_210_79, e_210_80, e_210_82, e_210_84, e_210_87, e_210_88, e_210_91, e_210_94, e_210_96, SHM hG, ↓if_neg, ↓if_pos, q_push_I, q_push_L, q_push_P, q_push_U]
            repeat' first | (refine And.intro ?_ ?_) | exact True.intro | omega | assumption | rfl)
        by_cases cn : n = -1000000
        · simp (disch := first | assumption | omega | (rw [u_n (by omega), u137]; omega)) only [e_210, e_210_0, e_210_1, e_210_2, e_210_5, e_210_6, e_210_7, e_210_10, e_210_13, e_210_14, e_210_15, e_210_16, e_210_17, e_210_20, e_210_21, e_210_22, e_210_23, e_210_26, e_210_29, e_210_30, e_210_33, e_210_36, e_210_38, e_210_40, e_210_43, e_210_45, e_210_46, e_210_47, e_210_50, e_210_53, e_210_56, e_210_58, e_210_59, e_210_60, e_210_63, e_210_64, e_210_65, e_210_68, e_210_69, e_210_70, e_210_73, e_210_74, e_210_75, e_210_76, SHM hG, c_isAct, c_isSheet, c_in, u_n, u137, u138, ← a1, ← r1, l1, Int.toNat_natCast, ↓if_neg, ↓if_pos, q_push_I, q_push_L, q_push_P, q_push_U]
          repeat' first | (refine And.intro ?_ ?_) | exact True.intro | omega | assumption | rfl
        · simp (disch := first | assumption | omega | (rw [u_n (by omega), u137]; omega)) only [e_210, e_210_0, e_210_1, e_210_2, e_210_5, e_210_6, e_210_7, e_210_10, e_210_13, e_210_14, e_210_15, e_210_16, e_210_17, e_210_20, e_210_21, e_210_22, e_210_23, e_210_26, e_210_29, e_210_30, e_210_33, e_210_36, e_210_38, e_210_40, e_210_43, e_210_45, e_210_46, e_210_47, e_210_50, e_210_53, e_210_56, e_210_58, e_210_59, e_210_60, e_210_63, e_210_64, e_210_65, e_210_68, e_210_69, e_210_70, e_210_73, e_210_74, e_210_75, e_210_76, SHM hG, c_isAct, c_isSheet, c_in, u_n, u137, u138, ← a1, ← r1, l1, Int.toNat_natCast, ↓if_neg, ↓if_pos, q_push_I, q_push_L, q_push_P, q_push_U]
          repeat' first | (refine And.intro ?_ ?_) | exact True.intro | omega | assumption | rfl
      have rest : ∀ (v1 : q_H) (m : Nat), (∀ b, b ≠ 41 → b ≠ 42 → b ≠ 43 → v1 b = v b) → m ≤ 600 → ((n = -1000000 ∧ m = (actP v A).length) ∨ (n ≠ -1000000 ∧ n = (m : Int))) → q_wp (d + 15) 133 105 [.inr (.inr (.inl (some 32))), .inl A, .inl rd, .inl s, .inl i, .inl n, .inr (.inr (.inl (some p))), .inr (.inr (.inr ())), .inr (.inr (.inr ()))] [.inl ((m : Nat))] v1 G Qt := fun v1 m f1 hm6 hmn => by
        have e94 : v1 (94 + 2 * s) = v (94 + 2 * s) := f1 _ (by omega) (by omega) (by omega)
        have e942 : v1 (94 + 2 * s) 2 = v (94 + 2 * s) 2 := by rw [e94]
        by_cases cp : 0 ≤ i ∧ i + m ≤ v (94 + 2 * s) 2
        · obtain ⟨i', rfl⟩ : ∃ i' : Nat, i = (i' : Int) := ⟨i.toNat, by omega⟩
          generalize hLL : itL (v (95 + 2 * s)) m i' = L
          have hLlen : L.length = m := by rw [← hLL, itL_len]
          have hlok : lok L := ⟨by omega, by rw [← hLL]; exact itL_rng _ _ (fun k k1 k2 => (l5 k (by omega)).2)⟩
          have e95 : q_up v1 53 1 0 (95 + 2 * s) = v (95 + 2 * s) := by rw [u_r (by omega), f1 _ (by omega) (by omega) (by omega)]
          have lp := s_given (d := d + 12) (Q := Qt) (z1 := .inl A) (z2 := .inl rd) (z5 := .inl n) (z6 := .inr (.inr (.inl (some p)))) (s := s) (i := i') (m := m) (v0 := q_up v1 53 1 0) hG hs (by rw [u_n (by omega), e942]; omega) (by rw [u_n (by omega), e942]; exact cp.2) (fun v2 z8 f2 hL2 => by
            rw [e95, hLL] at hL2
            have g2 : ∀ b, b ≠ 41 → b ≠ 42 → b ≠ 43 → b ≠ 53 → b ≠ 54 → v2 b = v b := fun b b1 b2 b3 b4 b5 => by rw [f2 b b4 b5, u_r b4, f1 b b1 b2 b3]
            have vp : v2 p = v p := g2 p (by omega) (by omega) (by omega) (by omega) (by omega)
            have q1 : v2 p 1 = (ta : Int) := by rw [vp, pa]
            have q2 : v2 p 2 = (tb : Int) := by rw [vp, pb]
            have v35 : v2 35 = v 35 := g2 35 (by omega) (by omega) (by omega) (by omega) (by omega)
            have en1 : ∀ (d' : Nat) (Q' : q_V → q_H → q_Gr → Prop), q_call (d' + 2) 148 [.inr (.inr (.inl (some 32))), .inl rd, .inl ta] v2 G Q' = Q' (.inl (v 35 (4 * rd + ta))) v2 G := fun d' Q' => by rw [c_rnum hG hrd (by omega), v35]
            have en2 : ∀ (d' : Nat) (Q' : q_V → q_H → q_Gr → Prop), q_call (d' + 2) 148 [.inr (.inr (.inl (some 32))), .inl rd, .inl tb] v2 G Q' = Q' (.inl (v 35 (4 * rd + tb))) v2 G := fun d' Q' => by rw [c_rnum hG hrd (by omega), v35]
            have aQ2 : actQ v2 p (v 149 A) (v 152 A) (v 153 A) := by
              unfold actQ
              rw [vp]
              exact aQ
            -- the reference, with the same numbers
            have ref : ∀ (u : q_H) (z : Int), (∀ b, b ≠ 32 → ¬ (41 ≤ b ∧ b ≤ 43) → ¬ (52 ≤ b ∧ b ≤ 71) → u b = v b) → (∀ j, j ≠ 9 → u 32 j = v 32 j) → u 32 9 = 0 → (∀ (e : Nat) (y : Int), tk L (v 149 A) (v 35 (4 * rd + ta)) (v 35 (4 * rd + tb)) (v 152 A) (v 153 A) = .inl (e, y) → z = -1000200 - e ∧ u 52 2 = y ∧ u 70 1 = 0) → (∀ T, tk L (v 149 A) (v 35 (4 * rd + ta)) (v 35 (4 * rd + tb)) (v 152 A) (v 153 A) = .inr T → z = 1 ∧ u 52 2 = 0 ∧ hasL u 70 1 71 T ∧ T.length ≤ 42 ∧ ∀ x, x ∈ T → 0 ≤ x ∧ x ≤ 1000000) → q_call (d + 16) 210 [.inr (.inr (.inl (some 137))), .inl A, .inl rd, .inl s, .inl (i'), .inl n] u G (fun r2 v2 G2 => r2 = .inl z ∧ G2 = G ∧ (∀ b, b < 32 → v2 b = v b) ∧ Inv v2 G) := fun u z fu fu32 u329 zE zY => by
              refine mp u m _ fu hmn (fun v3 f3 => ?_)
              have c3 : ∀ b, b ≠ 32 → ¬ (41 ≤ b ∧ b ≤ 43) → ¬ (52 ≤ b ∧ b ≤ 71) → (b < 137 ∨ (137 < b ∧ b < 144) ∨ (147 < b ∧ b < 155) ∨ 158 < b) → q_up v3 137 39 (m : Int) b = v b := fun b b1 b2 b3 b4 => by rw [u_r (by omega), mfr_r f3 b b4, u_r (by omega), fu b b1 b2 b3]
              have c3q : ∀ j, j ≠ 0 → j ≠ 8 → j ≠ 32 → j ≠ 39 → q_up v3 137 39 (m : Int) 137 j = v 137 j := fun j j1 j2 j3 j4 => by rw [u_n (by omega), f3.2 j j2 j3, u_n (by omega), fu 137 (by omega) (by omega) (by omega)]
              have c3u : ∀ b, b < 137 → q_up v3 137 39 (m : Int) b = u b := fun b b1 => by rw [u_r (by omega), mfr_r f3 b (by omega), u_r (by omega)]
              have h39 : q_up v3 137 39 (m : Int) 137 39 = (m : Int) := u_s rfl rfl
              generalize q_up v3 137 39 (m : Int) = w at *
              have hTl : ∀ T, tk L (v 149 A) (v 35 (4 * rd + ta)) (v 35 (4 * rd + tb)) (v 152 A) (v 153 A) = .inr T → T.length ≤ 60 := fun T hT => by have := (zY T hT).2.2.2.1; omega
              -- the invariant, at the end
              have inv : ∀ x, (∀ b, b ≠ 137 → ¬ (159 ≤ b ∧ b ≤ 172) → x b = w b) → (∀ j, j ≠ 1 → j ≠ 37 → ¬ (41 ≤ j ∧ j ≤ 44) → ¬ (54 ≤ j ∧ j ≤ 58) → j ≠ 61 → j ≠ 62 → x 137 j = w 137 j) → x 137 1 = 0 → ckI x → (∀ b, b < 32 → x b = v b) ∧ Inv x G := fun x fx fxq x1 ck => chk_inv hI (fun b b1 b2 b3 b4 b5 b6 => by rw [fx b b2 (by clear hmn c0; omega), c3 b b1 b3 b4 (by clear hmn c0; omega)]) (fun j j1 j2 j3 j4 j5 j6 j7 j8 j9 j10 => by rw [fxq j j2 j5 j7 j8 j9 j10, c3q j j1 j3 j4 j6]) (fun j hj => by rw [fx 32 (by decide) (by decide), c3u 32 (by decide), fu32 j hj]) (by rw [fx 32 (by decide) (by decide), c3u 32 (by decide), u329]) x1 ck
              refine m_check (d := d + 9) (a := ta) (b := tb) (p := p) (v := v) (w := v 149 A) (low := v 152 A) (high := v 153 A) (sa := v 35 (4 * rd + ta)) (sb := v 35 (4 * rd + tb)) (L := L) (m := m) hG hlok hLlen (by omega) hrd hs hta3 htb3 (by rw [c3 149 (by omega) (by omega) (by omega) (by omega)]) hw6 (by rw [c3 150 (by omega) (by omega) (by omega) (by omega), hta]) (by rw [c3 151 (by omega) (by omega) (by omega) (by omega), htb]) (by rw [c3 152 (by omega) (by omega) (by omega) (by omega)]) (by rw [c3 153 (by omega) (by omega) (by omega) (by omega)]) hlo hk2 hh2 (by rw [c3 148 (by omega) (by omega) (by omega) (by omega), sA.1]) (by rw [c3 148 (by omega) (by omega) (by omega) (by omega), sB.1]) sA.2 sB.2 h39 (by
                unfold bl5
                rw [c3q 56 (by omega) (by omega) (by omega) (by omega), c3q 57 (by omega) (by omega) (by omega) (by omega)]
                exact ⟨hK.2.2.2.2.2.2.1, hK.2.2.2.2.2.2.2.1⟩) (by rw [c3 139 (by omega) (by omega) (by omega) (by omega), l4]; exact l3) (by rw [c3 139 (by omega) (by omega) (by omega) (by omega), l4]; exact cp.2) (fun k hk => by
                rw [c3 140 (by omega) (by omega) (by omega) (by omega)]
                have hk' : k < (itL (v (95 + 2 * s)) m i').length := by rw [hLL]; exact hk
                have e1 := itL_at (v (95 + 2 * s)) m i' k hk'
                simp only [hLL] at e1
                rw [e1, show 600 * s + i' + k = 600 * s + (i' + k) by omega, (l5 (i' + k) (by omega)).1]) (fun x e y ht fx fxq bx x1 x61 x62 y1 y2 => ?_) (fun x T ht fx fxq bx x1 x61 hx => ?_) hTl
              · obtain ⟨z1, z2, z3⟩ := zE e y ht
                subst z1
                have fin := inv x fx fxq x1 (by
                  have x52 : x 52 2 = y := by rw [fx 52 (by omega) (by omega), c3u 52 (by omega), z2]
                  have x70 : x 70 1 = 0 := by rw [fx 70 (by omega) (by omega), c3u 70 (by omega), z3]
                  refine ⟨by rw [x52, x61], by rw [x52]; omega, by rw [x52]; omega, by rw [x70, x62], by rw [x70]; decide, by rw [x70]; decide, bx.1, bx.2, fun k hk => ?_⟩
                  rw [x70] at hk
                  omega)
                exact ⟨rfl, rfl, fin.1, fin.2⟩
              · obtain ⟨z1, z2, z3, z4, z5⟩ := zY T ht
                subst z1
                intro hT60
                have hx := hx hT60
                have fin := inv x fx fxq x1 (by
                  have x52 : x 52 2 = 0 := by rw [fx 52 (by omega) (by omega), c3u 52 (by omega), z2]
                  have x70 : x 70 1 = (T.length : Int) := by rw [fx 70 (by omega) (by omega), c3u 70 (by omega), z3.1]
                  have h62 := hx.1
                  refine ⟨by rw [x52, x61], by rw [x52]; decide, by rw [x52]; decide, by rw [x70, h62], by rw [x70]; omega, by rw [x70]; omega, bx.1, bx.2, fun k hk => ?_⟩
                  rw [x70] at hk
                  have hk' : k < T.length := by omega
                  have zr := z5 _ (List.getElem_mem hk')
                  rw [fx 71 (by omega) (by omega), c3u 71 (by omega), z3.2 k hk', hx.2 k hk']
                  exact ⟨rfl, by omega, by omega⟩)
                exact ⟨rfl, rfl, fin.1, fin.2⟩
            have key : q_call (d + 15) 21 [.inr (.inr (.inl (some 52))), .inr (.inr (.inl (some p))), .inl (v 35 (4 * rd + ta)), .inl (v 35 (4 * rd + tb))] v2 G (fun r v' G' => q_wp (d + 15) 133 208 [.inr (.inr (.inl (some 32))), .inl A, .inl rd, .inl s, .inl (i'), .inl n, .inr (.inr (.inl (some p))), .inl ((m : Nat)), z8] (q_push r []) v' G' Qt) := by
              refine c_takes (d := d + 7) (L := L) (q := 52) (w := v 149 A) (low := v 152 A) (hi := v 153 A) (g_chk52 hG) hlok p4 p2 aQ2 hL2 (by omega) (by omega) (fun v3 e y ht f3 e1 e2 y1 y2 e3 e18 => ?_) (fun v3 T ht f3 e2 hT tl tr => ?_)
              · have fin : Qt (.inl (-1000200 - e)) (q_up v3 32 9 0) G := by
                  rw [← hQt]
                  refine ⟨_, rfl, rfl, by omega, by omega, ref _ _ (fun b b1 b2 b3 => by rw [u_r b1, f3 b (by omega), g2 b (by omega) (by omega) (by omega) (by omega) (by omega)]) (fun j hj => by rw [u_n (by omega), f3 32 (by omega), g2 32 (by omega) (by omega) (by omega) (by omega) (by omega)]) (u_s rfl rfl) (fun e' y' ht' => ?_) (fun T ht' => ?_)⟩
                  · rw [ht] at ht'
                    cases ht'
                    exact ⟨rfl, by rw [u_n (by omega)]; exact e2, by rw [u_n (by omega)]; exact e18⟩
                  · rw [ht] at ht'
                    cases ht'
                have e1 : v3 52 1 = (e : Int) := e1
                simp (disch := first | assumption | omega) only [e_133_208, e_133_210, e_133_211, e_133_213, e_133_216, e_133_217, e_133_220, e_133_222, e_133_223, e_133_226, e_133_229, e_133_230, e_133_233, E20, SHC hG, e1, c_fine, ↓if_neg, ↓if_pos, q_push_I, q_push_L, q_push_P, q_push_U]
                repeat' first | exact fin | (refine And.intro ?_ ?_) | exact True.intro | omega | rfl
              · have fin : Qt (.inl 1) (q_up v3 32 9 0) G := by
                  rw [← hQt]
                  refine ⟨_, rfl, rfl, by decide, by decide, ref _ _ (fun b b1 b2 b3 => by rw [u_r b1, f3 b (by omega), g2 b (by omega) (by omega) (by omega) (by omega) (by omega)]) (fun j hj => by rw [u_n (by omega), f3 32 (by omega), g2 32 (by omega) (by omega) (by omega) (by omega) (by omega)]) (u_s rfl rfl) (fun e' y' ht' => ?_) (fun T' ht' => ?_)⟩
                  · rw [ht] at ht'
                    cases ht'
                  · rw [ht] at ht'
                    cases ht'
                    exact ⟨rfl, by rw [u_n (by omega)]; exact e2, hasL_fr (u_r (by omega)) (u_r (by omega)) hT, tl, tr⟩
                simp (disch := first | assumption | omega) only [e_133_208, e_133_210, e_133_211, e_133_213, e_133_216, e_133_217, e_133_220, e_133_222, e_133_223, e_133_226, e_133_229, e_133_230, e_133_233, SHC hG, c_fine, ↓if_neg, ↓if_pos, q_push_I, q_push_L, q_push_P, q_push_U]
                repeat' first | exact fin | (refine And.intro ?_ ?_) | exact True.intro | omega | rfl
            have hp' : (G.2.1 p).1 = 0 := by rw [p4]
            simp (disch := omega) only [e_133_179, e_133_180, e_133_183, e_133_185, e_133_186, e_133_187, e_133_189, e_133_192, e_133_195, e_133_196, e_133_197, e_133_199, e_133_202, e_133_205, SHC hG, hp', q1, q2, en1, en2, q_push_I, q_push_L, q_push_P, q_push_U]
            repeat' first | (refine And.intro ?_ ?_) | exact True.intro | omega | assumption | rfl) m 0 (q_up v1 53 1 0) [] (by omega) (fun _ _ _ => rfl) (hasL_0 (u_s rfl rfl)) rfl (by rw [List.nil_append]; rfl)
          have lp : q_wp (d + 15) 133 142 [.inr (.inr (.inl (some 32))), .inl A, .inl rd, .inl s, .inl (i'), .inl n, .inr (.inr (.inl (some p))), .inl ((m : Nat)), .inl 0] [] (q_up v1 53 1 0) G Qt := lp
          clear hQt
          simp (disch := first | assumption | omega) only [e_133_105, e_133_107, e_133_108, e_133_111, e_133_112, e_133_113, e_133_115, e_133_117, e_133_120, e_133_123, e_133_124, e_133_125, e_133_128, e_133_129, e_133_130, e_133_133, e_133_136, e_133_139, e_133_140, E17, SHC hG, gs1, c_shas, e942, c_nclear (g_num53 hG), Int.toNat_natCast, ↓if_neg, ↓if_pos, q_push_I, q_push_L, q_push_P, q_push_U]
          repeat' first | (refine And.intro ?_ ?_) | exact True.intro | omega | assumption | rfl
        · have fin : Qt (.inl (-1000010 - 2)) (q_up v1 32 9 2) G := by
            rw [← hQt]
            refine ⟨_, rfl, rfl, by decide, by decide, mp _ m _ (fun b b1 b2 b3 => by rw [u_r b1, f1 b (by omega) (by omega) (by omega)]) hmn (fun v2 f2 => ?_)⟩
            have fin := fnd_inv (x := q_up (q_up v2 137 39 (m : Int)) 137 1 2) (k := 2) hI (by decide) (fun b b1 b2 b3 b4 b5 => by rw [u_r b2, u_r b2, mfr_r f2 b (by clear hmn c0; omega), u_r b2, u_r b1, f1 b (by clear hmn c0; omega) (by clear hmn c0; omega) (by clear hmn c0; omega)]) (fun j j1 j2 j3 j4 j5 => by rw [u_n (Or.inr j2), u_n (Or.inr j5), f2.2 j j3 j4, u_n (Or.inr j1), u_r (by decide), f1 137 (by decide) (by decide) (by decide)]) (fun j hj => by rw [u_r (by decide), u_r (by decide), mfr_r f2 32 (by decide), u_r (by decide), u_n (Or.inr hj), f1 32 (by decide) (by decide) (by decide)]) (by rw [u_r (by decide), u_r (by decide), mfr_r f2 32 (by decide), u_r (by decide), u_s rfl rfl]) (u_s rfl rfl)
            have w139 : q_up v2 137 39 (m : Int) 139 s = v (94 + 2 * s) 2 := by rw [u_n (by omega), mfr_r f2 _ (by omega), u_r (by omega), u_r (by omega), f1 139 (by omega) (by omega) (by omega), l4]
            have w39 : q_up v2 137 39 (m : Int) 137 39 = (m : Int) := u_s rfl rfl
            by_cases ci : i < 0
            · simp (disch := first | assumption | omega) only [e_210_99, e_210_101, e_210_104, e_210_106, e_210_107, e_210_108, e_210_111, e_210_112, e_210_113, e_210_114, e_210_117, e_210_118, e_210_119, e_210_120, e_210_121, e_210_124, e_210_125, e_210_126, e_210_129, SHM hG, c_finding, Int.toNat_natCast, ↓if_neg, ↓if_pos, q_push_I, q_push_L, q_push_P, q_push_U]
              repeat' first | exact fin | (refine And.intro ?_ ?_) | exact True.intro | omega | rfl
            · simp (disch := first | assumption | omega) only [e_210_99, e_210_101, e_210_104, e_210_106, e_210_107, e_210_108, e_210_111, e_210_112, e_210_113, e_210_114, e_210_117, e_210_118, e_210_119, e_210_120, e_210_121, e_210_124, e_210_125, e_210_126, e_210_129, SHM hG, w39, w139, c_finding, Int.toNat_natCast, ↓if_neg, ↓if_pos, q_push_I, q_push_L, q_push_P, q_push_U]
              repeat' first | exact fin | (refine And.intro ?_ ?_) | exact True.intro | omega | rfl
          clear hQt
          simp (disch := first | assumption | omega) only [e_133_105, e_133_107, e_133_108, e_133_111, e_133_112, e_133_113, e_133_115, e_133_117, e_133_120, e_133_123, e_133_124, e_133_125, e_133_128, SHC hG, gs1, c_shas, c_found, e942, Int.toNat_natCast, ↓if_neg, ↓if_pos, q_push_I, q_push_L, q_push_P, q_push_U]
          repeat' first | exact fin | (refine And.intro ?_ ?_) | exact True.intro | omega | rfl
      clear mp
      by_cases cn : n = -1000000
      · have k1 : q_call (d + 15) 66 [.inr (.inr (.inl (some 40))), .inr (.inr (.inl (some p))), .inr (.inr (.inl (some 34)))] v G (fun r v' G' => q_wp (d + 15) 133 97 [.inr (.inr (.inl (some 32))), .inl A, .inl rd, .inl s, .inl i, .inl n, .inr (.inr (.inl (some p))), .inr (.inr (.inr ())), .inr (.inr (.inr ()))] (q_push r []) v' G' Qt) := k_act (d := d + 9) hG hB p4 p2 p5 (fun v1 f1 hl1 => by
          have l11 := hl1.1
          have nx := rest v1 (actP v A).length f1 al (Or.inl ⟨cn, rfl⟩)
          simp (disch := omega) only [e_133_97, e_133_100, c_nsize (g_num42 hG), l11, q_push_I, q_push_L, q_push_P, q_push_U]
          repeat' first | (refine And.intro ?_ ?_) | exact True.intro | omega | assumption | rfl)
        clear rest hQt
        simp (disch := first | assumption | omega) only [e_133, e_133_0, e_133_1, e_133_4, e_133_5, e_133_8, e_133_10, e_133_12, e_133_12b, e_133_15, e_133_16, e_133_17, e_133_20, e_133_23, e_133_26, e_133_27, e_133_29, e_133_32, e_133_35, e_133_37, e_133_38, e_133_40, e_133_42, e_133_45, e_133_47, e_133_50, e_133_53, e_133_56, e_133_58, e_133_59, e_133_60, e_133_63, e_133_64, e_133_65, e_133_68, e_133_71, e_133_72, e_133_73, e_133_76, e_133_77, e_133_79, e_133_81, e_133_84, e_133_85, e_133_88, e_133_90, e_133_91, e_133_94, SHC hG, c_act_y hG a3 c0.1.2 p1, c_within, gs1, c_smiss, Int.toNat_natCast, ↓if_neg, ↓if_pos, q_push_I, q_push_L, q_push_P, q_push_U]
        repeat' first | (refine And.intro ?_ ?_) | exact True.intro | omega | assumption | rfl
      · obtain ⟨m, rfl⟩ : ∃ m : Nat, n = (m : Int) := ⟨n.toNat, by omega⟩
        have nx := rest v m (fun _ _ _ _ => rfl) (by omega) (Or.inr ⟨cn, rfl⟩)
        clear rest hQt
        simp (disch := first | assumption | omega) only [e_133, e_133_0, e_133_1, e_133_4, e_133_5, e_133_8, e_133_10, e_133_12, e_133_12b, e_133_15, e_133_16, e_133_17, e_133_20, e_133_23, e_133_26, e_133_27, e_133_29, e_133_32, e_133_35, e_133_37, e_133_38, e_133_40, e_133_42, e_133_45, e_133_47, e_133_50, e_133_53, e_133_56, e_133_58, e_133_59, e_133_60, e_133_63, e_133_64, e_133_65, e_133_68, e_133_71, e_133_72, e_133_73, e_133_76, e_133_77, e_133_79, e_133_81, e_133_103, SHC hG, c_act_y hG a3 c0.1.2 p1, c_within, gs1, c_smiss, Int.toNat_natCast, ↓if_neg, ↓if_pos, q_push_I, q_push_L, q_push_P, q_push_U]
        repeat' first | (refine And.intro ?_ ?_) | exact True.intro | omega | assumption | rfl
  · refine twin_mk (z := -1000001) (v1 := v) (v2 := q_up v 137 0 0) ?_ ?_ (by omega) (Inv_c hI (fun b j h1 => by rw [u_n (by omega)]))
    · by_cases c1 : 0 ≤ a ∧ a < v 36 3
      · obtain ⟨A, rfl⟩ : ∃ A : Nat, a = (A : Int) := ⟨a.toNat, by omega⟩
        obtain ⟨p, p1, p2, p3, p4, p5⟩ := a4 A c1.2
        simp (disch := first | assumption | omega) only [e_133, e_133_0, e_133_1, e_133_4, e_133_5, e_133_8, e_133_10, e_133_12, e_133_12b, e_133_15, e_133_16, e_133_17, e_133_20, e_133_23, e_133_26, e_133_27, e_133_29, e_133_32, e_133_35, e_133_37, e_133_38, e_133_40, e_133_42, e_133_45, e_133_47, e_133_50, e_133_53, e_133_56, e_133_58, SHC hG, c_act_y hG a3 c1.2 p1, c_within, ↓if_neg, ↓if_pos, q_push_I, q_push_L, q_push_P, q_push_U]
        repeat' first | (refine And.intro ?_ ?_) | rfl | exact True.intro | omega | split
      · simp (disch := first | assumption | omega) only [e_133, e_133_0, e_133_1, e_133_4, e_133_5, e_133_8, e_133_10, e_133_12, e_133_12b, e_133_15, e_133_16, e_133_17, e_133_20, e_133_23, e_133_26, e_133_27, e_133_29, e_133_32, e_133_35, e_133_37, e_133_38, e_133_40, e_133_42, e_133_45, e_133_47, e_133_50, e_133_53, e_133_56, e_133_58, n_133_12, SHC hG, c_act_n, q_push_I, q_push_L, q_push_P, q_push_U]
        repeat' first | (refine And.intro ?_ ?_) | rfl | exact True.intro | assumption | omega
    · simp (disch := first | assumption | omega | ((try simp (disch := omega) only [u_n, u_s]); omega)) only [e_210, e_210_0, e_210_1, e_210_2, e_210_5, e_210_6, e_210_7, e_210_10, e_210_13, e_210_14, e_210_15, e_210_16, e_210_17, e_210_20, e_210_21, e_210_22, e_210_23, e_210_26, e_210_29, e_210_30, e_210_33, e_210_36, e_210_38, e_210_40, e_210_43, e_210_45, e_210_46, e_210_47, e_210_50, e_210_53, e_210_56, e_210_58, SHM hG, c_isAct, c_isSheet, c_in, u_n, ← a1, ← r1, q_push_I, q_push_L, q_push_P, q_push_U]
      repeat' first | (refine And.intro ?_ ?_) | rfl | exact True.intro | omega | split
end
