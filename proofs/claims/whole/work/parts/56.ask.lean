/-! ===== ask ===== -/
def mkV (k num ra : Int) : Int := if k = 4 then 2 * (num + ra) else if k ≤ 3 then num + ra else num + 100
def mkL (k : Int) : List Int := if k = 4 then [22, 21, 20] else if k ≤ 3 then [21, 20] else [23, 20]
def szV (k num ra rb w : Int) : Int := if k = 2 then 2 * (w + mkV k num ra) else if k ≤ 4 then w + mkV k num ra else if k = 5 then w + rb else w + rb - mkV k num ra
def szL (k : Int) : List Int := if k = 2 then [12, 11, 10] ++ mkL k else if k ≤ 4 then [11, 10] ++ mkL k else if k = 5 then [13, 10] else [14, 13, 10] ++ mkL k
section
variable {d q : Nat} {v : q_H} {G : q_Gr} {Q : q_V → q_H → q_Gr → Prop}
theorem c_leave {x : Int} (hG : gok G) (h0 : 0 ≤ v 92 1) (h6 : v 92 1 < 16) : q_call (d + 1) 15 [.inr (.inr (.inl (some 92))), .inl x] v G Q = Q (.inr (.inr (.inr ()))) (q_app v 92 1 93 x) G := by
  refine q_call_eq ?_ Q
  unfold q_app
  simp (disch := omega) only [E15, SHC hG, u_n, ↓if_neg, ↓if_pos]
  repeat' first | (refine And.intro ?_ ?_) | rfl | exact True.intro | assumption | omega
theorem c_began {x : Int} (hG : gok G) (h0 : 0 ≤ v 137 65) (h6 : v 137 65 < 16) : q_call (d + 1) 218 [.inr (.inr (.inl (some 137))), .inl x] v G Q = Q (.inr (.inr (.inr ()))) (q_app v 137 65 173 x) G := by
  refine q_call_eq ?_ Q
  unfold q_app
  simp (disch := omega) only [E218, SHM hG, u_n, ↓if_neg, ↓if_pos]
  repeat' first | (refine And.intro ?_ ?_) | rfl | exact True.intro | assumption | omega
theorem c_b10 {e : Int} (hG : gok G) (he : 0 ≤ e) (he8 : e ≤ 8) (h0 : 0 ≤ v 92 1) (hk : 0 ≤ v 92 3) (hk6 : v 92 3 ≤ 6) (h6 : v 92 1 < 16) : q_call (d + 2) 14 [.inr (.inr (.inl (some 92))), .inl 10, .inl e] v G Q = Q (.inl (v 92 4)) (q_apl v 92 1 93 [10]) G := by
  refine q_call_eq ?_ Q
  have s4 : G.2.1 4 = (20, 7) := hG.2.2.1 4 (by decide) (by decide)
  simp (disch := first | assumption | omega | ((try simp (disch := omega) only [app_c, app_n, u_n, u_s]); omega)) only [E14, SHC hG, s4, c_leave, app_n, q_push_I, q_push_L, q_push_P, q_push_U, ↓if_neg, ↓if_pos, Nat.reduceAdd]
  repeat' first | (refine And.intro ?_ ?_) | rfl | exact True.intro | assumption | omega
theorem c_b20 {e : Int} (hG : gok G) (he : 0 ≤ e) (he8 : e ≤ 8) (h0 : 0 ≤ v 92 1) (hk : 0 ≤ v 92 3) (hk6 : v 92 3 ≤ 6) (h6 : v 92 1 < 16) : q_call (d + 2) 14 [.inr (.inr (.inl (some 92))), .inl 20, .inl e] v G Q = Q (.inl (v 92 2)) (q_apl v 92 1 93 [20]) G := by
  refine q_call_eq ?_ Q
  have s4 : G.2.1 4 = (20, 7) := hG.2.2.1 4 (by decide) (by decide)
  simp (disch := first | assumption | omega | ((try simp (disch := omega) only [app_c, app_n, u_n, u_s]); omega)) only [E14, SHC hG, s4, c_leave, app_n, q_push_I, q_push_L, q_push_P, q_push_U, ↓if_neg, ↓if_pos, Nat.reduceAdd]
  repeat' first | (refine And.intro ?_ ?_) | rfl | exact True.intro | assumption | omega
theorem c_b21 {e : Int} (hG : gok G) (he : 0 ≤ e) (he8 : e ≤ 8) (h0 : 0 ≤ v 92 1) (hk : 0 ≤ v 92 3) (hk6 : v 92 3 ≤ 6) (he7 : e ≤ 7) (h6 : v 92 1 < 15) : q_call (d + 3) 14 [.inr (.inr (.inl (some 92))), .inl 21, .inl e] v G Q = Q (.inl (v 92 2 + v 92 5)) (q_apl v 92 1 93 [21, 20]) G := by
  refine q_call_eq ?_ Q
  have s4 : G.2.1 4 = (20, 7) := hG.2.2.1 4 (by decide) (by decide)
  have k0 := app_c (v := v) (q := 92) (f := 1) (i := 93) (x := 21)
  have k2 : q_app v 92 1 93 21 92 2 = v 92 2 := app_n (by omega) (by omega)
  have k3 : q_app v 92 1 93 21 92 3 = v 92 3 := app_n (by omega) (by omega)
  have k5 : q_apl (q_app v 92 1 93 21) 92 1 93 [20] 92 5 = v 92 5 := by rw [apl_n _ _ (by omega) (by omega), app_n (by omega) (by omega)]
  rw [e_14]
  simp (disch := first | assumption | omega | ((try simp (disch := omega) only [app_c, app_n, u_n, u_s]); omega)) only [e_14_0, e_14_1, e_14_3, e_14_8, e_14_9, e_14_10, e_14_13, e_14_16, e_14_17, e_14_20, e_14_21, e_14_22, e_14_23, e_14_158, e_14_159, e_14_161, e_14_162, e_14_163, e_14_164, e_14_167, e_14_168, e_14_171, e_14_172, SHC hG, s4, c_leave, c_b20, k2, k3, k5, q_push_I, q_push_L, q_push_P, q_push_U, ↓if_neg, ↓if_pos, Nat.reduceAdd]
  repeat' first | (refine And.intro ?_ ?_) | rfl | exact True.intro | assumption | omega
theorem c_b22 {e : Int} (hG : gok G) (he : 0 ≤ e) (he8 : e ≤ 8) (h0 : 0 ≤ v 92 1) (hk : 0 ≤ v 92 3) (hk6 : v 92 3 ≤ 6) (he7 : e ≤ 6) (h6 : v 92 1 < 14) : q_call (d + 4) 14 [.inr (.inr (.inl (some 92))), .inl 22, .inl e] v G Q = Q (.inl (2 * (v 92 2 + v 92 5))) (q_apl v 92 1 93 [22, 21, 20]) G := by
  refine q_call_eq ?_ Q
  have s4 : G.2.1 4 = (20, 7) := hG.2.2.1 4 (by decide) (by decide)
  have k0 := app_c (v := v) (q := 92) (f := 1) (i := 93) (x := 22)
  have k2 : q_app v 92 1 93 22 92 2 = v 92 2 := app_n (by omega) (by omega)
  have k3 : q_app v 92 1 93 22 92 3 = v 92 3 := app_n (by omega) (by omega)
  have k5 : q_app v 92 1 93 22 92 5 = v 92 5 := app_n (by omega) (by omega)
  rw [e_14]
  simp (disch := first | assumption | omega | ((try simp (disch := omega) only [app_c, app_n, u_n, u_s]); omega)) only [e_14_0, e_14_1, e_14_3, e_14_8, e_14_9, e_14_10, e_14_13, e_14_16, e_14_17, e_14_20, e_14_21, e_14_22, e_14_23, e_14_173, e_14_174, e_14_175, e_14_177, e_14_178, e_14_179, e_14_180, e_14_183, e_14_184, SHC hG, s4, c_leave, c_b21, k2, k3, k5, q_push_I, q_push_L, q_push_P, q_push_U, ↓if_neg, ↓if_pos, Nat.reduceAdd]
  repeat' first | (refine And.intro ?_ ?_) | rfl | exact True.intro | assumption | omega
theorem c_b23 {e : Int} (hG : gok G) (he : 0 ≤ e) (he8 : e ≤ 8) (h0 : 0 ≤ v 92 1) (hk : 0 ≤ v 92 3) (hk6 : v 92 3 ≤ 6) (he7 : e ≤ 7) (h6 : v 92 1 < 15) : q_call (d + 3) 14 [.inr (.inr (.inl (some 92))), .inl 23, .inl e] v G Q = Q (.inl (v 92 2 + 100)) (q_apl v 92 1 93 [23, 20]) G := by
  refine q_call_eq ?_ Q
  have s4 : G.2.1 4 = (20, 7) := hG.2.2.1 4 (by decide) (by decide)
  have k0 := app_c (v := v) (q := 92) (f := 1) (i := 93) (x := 23)
  have k2 : q_app v 92 1 93 23 92 2 = v 92 2 := app_n (by omega) (by omega)
  have k3 : q_app v 92 1 93 23 92 3 = v 92 3 := app_n (by omega) (by omega)
  rw [e_14]
  simp (disch := first | assumption | omega | ((try simp (disch := omega) only [app_c, app_n, u_n, u_s]); omega)) only [e_14_0, e_14_1, e_14_3, e_14_8, e_14_9, e_14_10, e_14_13, e_14_16, e_14_17, e_14_20, e_14_21, e_14_22, e_14_23, e_14_185, e_14_186, e_14_188, e_14_189, e_14_190, e_14_191, e_14_194, e_14_196, e_14_197, SHC hG, s4, c_leave, c_b20, k2, k3, q_push_I, q_push_L, q_push_P, q_push_U, ↓if_neg, ↓if_pos, Nat.reduceAdd]
  repeat' first | (refine And.intro ?_ ?_) | rfl | exact True.intro | assumption | omega
theorem c_bm {e : Int} (hG : gok G) (he : 0 ≤ e) (he8 : e ≤ 8) (h0 : 0 ≤ v 92 1) (hk : 0 ≤ v 92 3) (hk6 : v 92 3 ≤ 6) (hC : csI v) (hk1 : 1 ≤ v 92 3) (he7 : e ≤ 6) (h6 : v 92 1 < 14) : q_call (d + 4) 14 [.inr (.inr (.inl (some 92))), .inl (v 4 (v 92 3).toNat), .inl e] v G Q = Q (.inl (mkV (v 92 3) (v 92 2) (v 92 5))) (q_apl v 92 1 93 (mkL (v 92 3))) G := by
  rw [hC 4 _ (by decide) (by decide)]
  unfold mkV mkL
  rcases (show v 92 3 = 1 ∨ v 92 3 = 2 ∨ v 92 3 = 3 ∨ v 92 3 = 4 ∨ v 92 3 = 5 ∨ v 92 3 = 6 by omega) with c | c | c | c | c | c
  · rw [c]
    exact c_b21 hG he he8 h0 hk hk6 (by omega) (by omega)
  · rw [c]
    exact c_b21 hG he he8 h0 hk hk6 (by omega) (by omega)
  · rw [c]
    exact c_b21 hG he he8 h0 hk hk6 (by omega) (by omega)
  · rw [c]
    exact c_b22 hG he he8 h0 hk hk6 (by omega) (by omega)
  · rw [c]
    exact c_b23 hG he he8 h0 hk hk6 (by omega) (by omega)
  · rw [c]
    exact c_b23 hG he he8 h0 hk hk6 (by omega) (by omega)
theorem csI_cg {v' : q_H} (h : ∀ b, b < 32 → v' b = v b) (hC : csI v) : csI v' := fun a k h1 h2 => by rw [h a (by omega), hC a k h1 h2]
theorem c_b11 {e : Int} (hG : gok G) (he : 0 ≤ e) (he8 : e ≤ 8) (h0 : 0 ≤ v 92 1) (hk : 0 ≤ v 92 3) (hk6 : v 92 3 ≤ 6) (hC : csI v) (hk1 : 1 ≤ v 92 3) (he7 : e ≤ 5) (h6 : v 92 1 < 12) : q_call (d + 5) 14 [.inr (.inr (.inl (some 92))), .inl 11, .inl e] v G Q = Q (.inl (v 92 4 + mkV (v 92 3) (v 92 2) (v 92 5))) (q_apl v 92 1 93 ([11, 10] ++ mkL (v 92 3))) G := by
  refine q_call_eq ?_ Q
  have s4 : G.2.1 4 = (20, 7) := hG.2.2.1 4 (by decide) (by decide)
  have k0 := app_c (v := v) (q := 92) (f := 1) (i := 93) (x := 11)
  have k3 : q_app v 92 1 93 11 92 3 = v 92 3 := app_n (by omega) (by omega)
  have k4 : q_app v 92 1 93 11 92 4 = v 92 4 := app_n (by omega) (by omega)
  have k44 : q_app v 92 1 93 11 4 (v 92 3).toNat = v 4 (v 92 3).toNat := app_n (by omega) (by omega)
  have w0 : q_apl v 92 1 93 [11, 10] 92 1 = v 92 1 + 2 := apl_c _ _
  have w2 : q_apl v 92 1 93 [11, 10] 92 2 = v 92 2 := apl_n _ _ (by omega) (by omega)
  have w3 : q_apl v 92 1 93 [11, 10] 92 3 = v 92 3 := apl_n _ _ (by omega) (by omega)
  have w5 : q_apl v 92 1 93 [11, 10] 92 5 = v 92 5 := apl_n _ _ (by omega) (by omega)
  have w44 : q_apl v 92 1 93 [11, 10] 4 (v 92 3).toNat = v 4 (v 92 3).toNat := apl_n _ _ (by omega) (by omega)
  have bm : ∀ (d' : Nat) (Q' : q_V → q_H → q_Gr → Prop), q_call (d' + 4) 14 [.inr (.inr (.inl (some 92))), .inl (v 4 (v 92 3).toNat), .inl (e + 1)] (q_apl v 92 1 93 [11, 10]) G Q' = Q' (.inl (mkV (v 92 3) (v 92 2) (v 92 5))) (q_apl v 92 1 93 ([11, 10] ++ mkL (v 92 3))) G := fun d' Q' => by
    have := c_bm (d := d') (Q := Q') (v := q_apl v 92 1 93 [11, 10]) (e := e + 1) hG (by omega) (by omega) (by omega) (by omega) (by omega) (csI_cg (fun b hb => apl_r (by omega) (by omega)) hC) (by omega) (by omega) (by omega)
    rw [w2, w3, w5, w44, ← apl_app] at this
    exact this
  have b10 : ∀ (d' : Nat) (Q' : q_V → q_H → q_Gr → Prop), q_call (d' + 2) 14 [.inr (.inr (.inl (some 92))), .inl 10, .inl (e + 1)] (q_app v 92 1 93 11) G Q' = Q' (.inl (v 92 4)) (q_apl v 92 1 93 [11, 10]) G := fun d' Q' => by
    rw [c_b10 hG (by omega) (by omega) (by omega) (by omega) (by omega) (by omega), k4]
    rfl
  rw [e_14]
  simp (disch := first | assumption | omega | ((try simp (disch := omega) only [app_c, app_n, u_n, u_s]); omega)) only [e_14_0, e_14_1, e_14_3, e_14_8, e_14_9, e_14_10, e_14_13, e_14_16, e_14_17, e_14_20, e_14_21, e_14_22, e_14_23, e_14_88, e_14_89, e_14_91, e_14_92, e_14_93, e_14_94, e_14_97, e_14_98, e_14_99, e_14_100, e_14_101, e_14_102, e_14_105, e_14_106, SHC hG, s4, c_leave, b10, bm, k3, k44, q_push_I, q_push_L, q_push_P, q_push_U, ↓if_neg, ↓if_pos, Nat.reduceAdd]
  repeat' first | (refine And.intro ?_ ?_) | rfl | exact True.intro | assumption | omega
theorem c_b12 {e : Int} (hG : gok G) (he : 0 ≤ e) (he8 : e ≤ 8) (h0 : 0 ≤ v 92 1) (hk : 0 ≤ v 92 3) (hk6 : v 92 3 ≤ 6) (hC : csI v) (hk1 : 1 ≤ v 92 3) (he7 : e ≤ 4) (h6 : v 92 1 < 11) : q_call (d + 6) 14 [.inr (.inr (.inl (some 92))), .inl 12, .inl e] v G Q = Q (.inl (2 * (v 92 4 + mkV (v 92 3) (v 92 2) (v 92 5)))) (q_apl v 92 1 93 ([12, 11, 10] ++ mkL (v 92 3))) G := by
  refine q_call_eq ?_ Q
  have s4 : G.2.1 4 = (20, 7) := hG.2.2.1 4 (by decide) (by decide)
  have k0 := app_c (v := v) (q := 92) (f := 1) (i := 93) (x := 12)
  have k2 : q_app v 92 1 93 12 92 2 = v 92 2 := app_n (by omega) (by omega)
  have k3 : q_app v 92 1 93 12 92 3 = v 92 3 := app_n (by omega) (by omega)
  have k4 : q_app v 92 1 93 12 92 4 = v 92 4 := app_n (by omega) (by omega)
  have k5 : q_app v 92 1 93 12 92 5 = v 92 5 := app_n (by omega) (by omega)
  have b11 : ∀ (d' : Nat) (Q' : q_V → q_H → q_Gr → Prop), q_call (d' + 5) 14 [.inr (.inr (.inl (some 92))), .inl 11, .inl (e + 1)] (q_app v 92 1 93 12) G Q' = Q' (.inl (v 92 4 + mkV (v 92 3) (v 92 2) (v 92 5))) (q_apl v 92 1 93 ([12, 11, 10] ++ mkL (v 92 3))) G := fun d' Q' => by
    rw [c_b11 hG (by omega) (by omega) (by omega) (by omega) (by omega) (csI_cg (fun b hb => by funext j; exact app_n (by omega) (by omega)) hC) (by omega) (by omega) (by omega), k2, k3, k4, k5]
    rfl
  rw [e_14]
  simp (disch := first | assumption | omega | ((try simp (disch := omega) only [app_c, app_n, u_n, u_s]); omega)) only [e_14_0, e_14_1, e_14_3, e_14_8, e_14_9, e_14_10, e_14_13, e_14_16, e_14_17, e_14_20, e_14_21, e_14_22, e_14_23, e_14_107, e_14_108, e_14_109, e_14_111, e_14_112, e_14_113, e_14_114, e_14_117, e_14_118, SHC hG, s4, c_leave, b11, k3, q_push_I, q_push_L, q_push_P, q_push_U, ↓if_neg, ↓if_pos, Nat.reduceAdd]
  repeat' first | (refine And.intro ?_ ?_) | rfl | exact True.intro | assumption | omega
theorem c_b13 {e : Int} (hG : gok G) (he : 0 ≤ e) (he8 : e ≤ 8) (h0 : 0 ≤ v 92 1) (hk : 0 ≤ v 92 3) (hk6 : v 92 3 ≤ 6) (he7 : e ≤ 7) (h6 : v 92 1 < 15) : q_call (d + 3) 14 [.inr (.inr (.inl (some 92))), .inl 13, .inl e] v G Q = Q (.inl (v 92 4 + v 92 6)) (q_apl v 92 1 93 [13, 10]) G := by
  refine q_call_eq ?_ Q
  have s4 : G.2.1 4 = (20, 7) := hG.2.2.1 4 (by decide) (by decide)
  have k0 := app_c (v := v) (q := 92) (f := 1) (i := 93) (x := 13)
  have k3 : q_app v 92 1 93 13 92 3 = v 92 3 := app_n (by omega) (by omega)
  have k4 : q_app v 92 1 93 13 92 4 = v 92 4 := app_n (by omega) (by omega)
  have k6 : q_apl (q_app v 92 1 93 13) 92 1 93 [10] 92 6 = v 92 6 := by rw [apl_n _ _ (by omega) (by omega), app_n (by omega) (by omega)]
  rw [e_14]
  simp (disch := first | assumption | omega | ((try simp (disch := omega) only [app_c, app_n, u_n, u_s]); omega)) only [e_14_0, e_14_1, e_14_3, e_14_8, e_14_9, e_14_10, e_14_13, e_14_16, e_14_17, e_14_20, e_14_21, e_14_22, e_14_23, e_14_119, e_14_120, e_14_122, e_14_123, e_14_124, e_14_125, e_14_128, e_14_129, e_14_132, e_14_133, SHC hG, s4, c_leave, c_b10, k3, k4, k6, q_push_I, q_push_L, q_push_P, q_push_U, ↓if_neg, ↓if_pos, Nat.reduceAdd]
  repeat' first | (refine And.intro ?_ ?_) | rfl | exact True.intro | assumption | omega
theorem c_b14 {e : Int} (hG : gok G) (he : 0 ≤ e) (he8 : e ≤ 8) (h0 : 0 ≤ v 92 1) (hk : 0 ≤ v 92 3) (hk6 : v 92 3 ≤ 6) (hC : csI v) (hk1 : 1 ≤ v 92 3) (he7 : e ≤ 5) (h6 : v 92 1 < 10) : q_call (d + 5) 14 [.inr (.inr (.inl (some 92))), .inl 14, .inl e] v G Q = Q (.inl (v 92 4 + v 92 6 - mkV (v 92 3) (v 92 2) (v 92 5))) (q_apl v 92 1 93 ([14, 13, 10] ++ mkL (v 92 3))) G := by
  refine q_call_eq ?_ Q
  have s4 : G.2.1 4 = (20, 7) := hG.2.2.1 4 (by decide) (by decide)
  have k0 := app_c (v := v) (q := 92) (f := 1) (i := 93) (x := 14)
  have k3 : q_app v 92 1 93 14 92 3 = v 92 3 := app_n (by omega) (by omega)
  have k4 : q_app v 92 1 93 14 92 4 = v 92 4 := app_n (by omega) (by omega)
  have k6 : q_app v 92 1 93 14 92 6 = v 92 6 := app_n (by omega) (by omega)
  have k44 : q_app v 92 1 93 14 4 (v 92 3).toNat = v 4 (v 92 3).toNat := app_n (by omega) (by omega)
  have w0 : q_apl v 92 1 93 [14, 13, 10] 92 1 = v 92 1 + 3 := apl_c _ _
  have w2 : q_apl v 92 1 93 [14, 13, 10] 92 2 = v 92 2 := apl_n _ _ (by omega) (by omega)
  have w3 : q_apl v 92 1 93 [14, 13, 10] 92 3 = v 92 3 := apl_n _ _ (by omega) (by omega)
  have w5 : q_apl v 92 1 93 [14, 13, 10] 92 5 = v 92 5 := apl_n _ _ (by omega) (by omega)
  have w44 : q_apl v 92 1 93 [14, 13, 10] 4 (v 92 3).toNat = v 4 (v 92 3).toNat := apl_n _ _ (by omega) (by omega)
  have bm : ∀ (d' : Nat) (Q' : q_V → q_H → q_Gr → Prop), q_call (d' + 4) 14 [.inr (.inr (.inl (some 92))), .inl (v 4 (v 92 3).toNat), .inl (e + 1)] (q_apl v 92 1 93 [14, 13, 10]) G Q' = Q' (.inl (mkV (v 92 3) (v 92 2) (v 92 5))) (q_apl v 92 1 93 ([14, 13, 10] ++ mkL (v 92 3))) G := fun d' Q' => by
    have := c_bm (d := d') (Q := Q') (v := q_apl v 92 1 93 [14, 13, 10]) (e := e + 1) hG (by omega) (by omega) (by omega) (by omega) (by omega) (csI_cg (fun b hb => apl_r (by omega) (by omega)) hC) (by omega) (by omega) (by omega)
    rw [w2, w3, w5, w44, ← apl_app] at this
    exact this
  have b13 : ∀ (d' : Nat) (Q' : q_V → q_H → q_Gr → Prop), q_call (d' + 3) 14 [.inr (.inr (.inl (some 92))), .inl 13, .inl (e + 1)] (q_app v 92 1 93 14) G Q' = Q' (.inl (v 92 4 + v 92 6)) (q_apl v 92 1 93 [14, 13, 10]) G := fun d' Q' => by
    rw [c_b13 hG (by omega) (by omega) (by omega) (by omega) (by omega) (by omega) (by omega), k4, k6]
    rfl
  rw [e_14]
  simp (disch := first | assumption | omega | ((try simp (disch := omega) only [app_c, app_n, u_n, u_s]); omega)) only [e_14_0, e_14_1, e_14_3, e_14_8, e_14_9, e_14_10, e_14_13, e_14_16, e_14_17, e_14_20, e_14_21, e_14_22, e_14_23, e_14_134, e_14_135, e_14_137, e_14_138, e_14_139, e_14_140, e_14_143, e_14_144, e_14_145, e_14_146, e_14_147, e_14_148, e_14_151, e_14_152, SHC hG, s4, c_leave, b13, bm, k3, k44, q_push_I, q_push_L, q_push_P, q_push_U, ↓if_neg, ↓if_pos, Nat.reduceAdd]
  repeat' first | (refine And.intro ?_ ?_) | rfl | exact True.intro | assumption | omega
/-- sizeOfAct, markOfAct -/
theorem c_ksize (hG : gok G) (hC : csI v) (h0 : v 92 1 = 0) (hk : 1 ≤ v 92 3) (hk6 : v 92 3 ≤ 6) : q_call (d + 7) 11 [.inr (.inr (.inl (some 92)))] v G Q = Q (.inl (szV (v 92 3) (v 92 2) (v 92 5) (v 92 6) (v 92 4))) (q_apl v 92 1 93 (szL (v 92 3))) G := by
  refine q_call_eq ?_ Q
  have s3 : G.2.1 3 = (20, 7) := hG.2.2.1 3 (by decide) (by decide)
  have e3 := hC 3 (v 92 3).toNat (by decide) (by decide)
  have b : q_call (d + 6) 14 [.inr (.inr (.inl (some 92))), .inl (v 3 (v 92 3).toNat), .inl 0] v G (fun r v' G' => r = .inl (szV (v 92 3) (v 92 2) (v 92 5) (v 92 6) (v 92 4)) ∧ v' = q_apl v 92 1 93 (szL (v 92 3)) ∧ G' = G) := by
    rw [e3]
    unfold szV szL
    rcases (show v 92 3 = 1 ∨ v 92 3 = 2 ∨ v 92 3 = 3 ∨ v 92 3 = 4 ∨ v 92 3 = 5 ∨ v 92 3 = 6 by omega) with c | c | c | c | c | c
    · have := c_b11 (d := d + 1) (Q := fun r v' G' => r = .inl (v 92 4 + mkV 1 (v 92 2) (v 92 5)) ∧ v' = q_apl v 92 1 93 ([11, 10] ++ mkL 1) ∧ G' = G) (e := 0) hG (by decide) (by decide) (by omega) (by omega) (by omega) hC (by omega) (by decide) (by omega)
      rw [c] at this ⊢
      exact this.mpr ⟨rfl, rfl, rfl⟩
    · have := c_b12 (d := d) (Q := fun r v' G' => r = .inl (2 * (v 92 4 + mkV 2 (v 92 2) (v 92 5))) ∧ v' = q_apl v 92 1 93 ([12, 11, 10] ++ mkL 2) ∧ G' = G) (e := 0) hG (by decide) (by decide) (by omega) (by omega) (by omega) hC (by omega) (by decide) (by omega)
      rw [c] at this ⊢
      exact this.mpr ⟨rfl, rfl, rfl⟩
    · have := c_b11 (d := d + 1) (Q := fun r v' G' => r = .inl (v 92 4 + mkV 3 (v 92 2) (v 92 5)) ∧ v' = q_apl v 92 1 93 ([11, 10] ++ mkL 3) ∧ G' = G) (e := 0) hG (by decide) (by decide) (by omega) (by omega) (by omega) hC (by omega) (by decide) (by omega)
      rw [c] at this ⊢
      exact this.mpr ⟨rfl, rfl, rfl⟩
    · have := c_b11 (d := d + 1) (Q := fun r v' G' => r = .inl (v 92 4 + mkV 4 (v 92 2) (v 92 5)) ∧ v' = q_apl v 92 1 93 ([11, 10] ++ mkL 4) ∧ G' = G) (e := 0) hG (by decide) (by decide) (by omega) (by omega) (by omega) hC (by omega) (by decide) (by omega)
      rw [c] at this ⊢
      exact this.mpr ⟨rfl, rfl, rfl⟩
    · have := c_b13 (d := d + 3) (v := v) (Q := fun r v' G' => r = .inl (v 92 4 + v 92 6) ∧ v' = q_apl v 92 1 93 [13, 10] ∧ G' = G) (e := 0) hG (by decide) (by decide) (by omega) (by omega) (by omega) (by decide) (by omega)
      rw [c]
      exact this.mpr ⟨rfl, rfl, rfl⟩
    · have := c_b14 (d := d + 1) (Q := fun r v' G' => r = .inl (v 92 4 + v 92 6 - mkV 6 (v 92 2) (v 92 5)) ∧ v' = q_apl v 92 1 93 ([14, 13, 10] ++ mkL 6) ∧ G' = G) (e := 0) hG (by decide) (by decide) (by omega) (by omega) (by omega) hC (by omega) (by decide) (by omega)
      rw [c] at this ⊢
      exact this.mpr ⟨rfl, rfl, rfl⟩
  simp (disch := omega) only [E11, SHC hG, s3, Nat.reduceAdd]
  have b' := q_call_eq b
  simp only [b', q_push_I, q_push_L, q_push_P, q_push_U, E11]
  repeat' first | (refine And.intro ?_ ?_) | rfl | exact True.intro | assumption | omega
theorem c_kmark (hG : gok G) (hC : csI v) (h0 : v 92 1 = 0) (hk : 1 ≤ v 92 3) (hk6 : v 92 3 ≤ 6) : q_call (d + 7) 12 [.inr (.inr (.inl (some 92)))] v G Q = Q (.inl (mkV (v 92 3) (v 92 2) (v 92 5))) (q_apl v 92 1 93 (mkL (v 92 3))) G := by
  refine q_call_eq ?_ Q
  have s4 : G.2.1 4 = (20, 7) := hG.2.2.1 4 (by decide) (by decide)
  have b' := fun Q' => c_bm (d := d + 2) (Q := Q') (v := v) (e := 0) hG (by decide) (by decide) (by omega) (by omega) (by omega) hC (by omega) (by decide) (by omega)
  simp (disch := omega) only [E12, SHC hG, s4, b', q_push_I, q_push_L, q_push_P, q_push_U, Nat.reduceAdd]
  repeat' first | (refine And.intro ?_ ?_) | rfl | exact True.intro | assumption | omega
end
