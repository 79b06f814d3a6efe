theorem n_48_22 (d : Nat) (z0 z1 z2 z3 z4 : q_V) (st : List q_V) (v : q_H) (G : q_Gr) (Q : q_V → q_H → q_Gr → Prop) : q_wp d 48 22 [z0, z1, z2, z3, z4] (.inr (.inr (.inl none)) :: st) v G Q = q_wp d 48 38 [z0, z1, z2, z3, z4] st v G Q := e_48_22 d 0 z0 z1 z2 z3 z4 st v G Q
theorem n_130_10 (d : Nat) (z0 z1 z2 z3 : q_V) (st : List q_V) (v : q_H) (G : q_Gr) (Q : q_V → q_H → q_Gr → Prop) : q_wp d 130 10 [z0, z1, z2, z3] (.inr (.inr (.inl none)) :: st) v G Q = q_wp d 130 18 [z0, z1, z2, z3] st v G Q := e_130_10 d 0 z0 z1 z2 z3 st v G Q
theorem n_131_10 (d : Nat) (z0 z1 z2 z3 : q_V) (st : List q_V) (v : q_H) (G : q_Gr) (Q : q_V → q_H → q_Gr → Prop) : q_wp d 131 10 [z0, z1, z2, z3] (.inr (.inr (.inl none)) :: st) v G Q = q_wp d 131 18 [z0, z1, z2, z3] st v G Q := e_131_10 d 0 z0 z1 z2 z3 st v G Q
theorem n_132_12 (d : Nat) (z0 z1 z2 z3 z4 z5 z6 : q_V) (st : List q_V) (v : q_H) (G : q_Gr) (Q : q_V → q_H → q_Gr → Prop) : q_wp d 132 12 [z0, z1, z2, z3, z4, z5, z6] (.inr (.inr (.inl none)) :: st) v G Q = q_wp d 132 24 [z0, z1, z2, z3, z4, z5, z6] st v G Q := e_132_12 d 0 z0 z1 z2 z3 z4 z5 z6 st v G Q
theorem n_133_12 (d : Nat) (z0 z1 z2 z3 z4 z5 z6 z7 z8 : q_V) (st : List q_V) (v : q_H) (G : q_Gr) (Q : q_V → q_H → q_Gr → Prop) : q_wp d 133 12 [z0, z1, z2, z3, z4, z5, z6, z7, z8] (.inr (.inr (.inl none)) :: st) v G Q = q_wp d 133 35 [z0, z1, z2, z3, z4, z5, z6, z7, z8] st v G Q := e_133_12 d 0 z0 z1 z2 z3 z4 z5 z6 z7 z8 st v G Q
theorem n_137_10 (d : Nat) (z0 z1 z2 z3 z4 z5 z6 z7 z8 z9 : q_V) (st : List q_V) (v : q_H) (G : q_Gr) (Q : q_V → q_H → q_Gr → Prop) : q_wp d 137 10 [z0, z1, z2, z3, z4, z5, z6, z7, z8, z9] (.inr (.inr (.inl none)) :: st) v G Q = q_wp d 137 24 [z0, z1, z2, z3, z4, z5, z6, z7, z8, z9] st v G Q := e_137_10 d 0 z0 z1 z2 z3 z4 z5 z6 z7 z8 z9 st v G Q
theorem n_138_10 (d : Nat) (z0 z1 z2 : q_V) (st : List q_V) (v : q_H) (G : q_Gr) (Q : q_V → q_H → q_Gr → Prop) : q_wp d 138 10 [z0, z1, z2] (.inr (.inr (.inl none)) :: st) v G Q = q_wp d 138 13 [z0, z1, z2] st v G Q := e_138_10 d 0 z0 z1 z2 st v G Q
theorem n_139_10 (d : Nat) (z0 z1 z2 z3 : q_V) (st : List q_V) (v : q_H) (G : q_Gr) (Q : q_V → q_H → q_Gr → Prop) : q_wp d 139 10 [z0, z1, z2, z3] (.inr (.inr (.inl none)) :: st) v G Q = q_wp d 139 22 [z0, z1, z2, z3] st v G Q := e_139_10 d 0 z0 z1 z2 z3 st v G Q
theorem n_140_10 (d : Nat) (z0 z1 z2 z3 : q_V) (st : List q_V) (v : q_H) (G : q_Gr) (Q : q_V → q_H → q_Gr → Prop) : q_wp d 140 10 [z0, z1, z2, z3] (.inr (.inr (.inl none)) :: st) v G Q = q_wp d 140 21 [z0, z1, z2, z3] st v G Q := e_140_10 d 0 z0 z1 z2 z3 st v G Q
/-- the class's static arrays and texts hold what they hold -/
def csI (v : q_H) : Prop := ∀ a k, 1 ≤ a → a < 12 → v a k = (q_cst.getD a []).getD k 0
def kd (w : Int) : Int := if w = 0 then 1 else if w = 1 then 2 else if w = 2 then 3 else if w = 3 then 4 else if w = 6 then 6 else 5
def isoI (is of : Int) : Int := if of = 0 ∨ is = of ∨ (of = 1 ∧ 2 ≤ is ∧ is ≤ 4) ∨ (of = 5 ∧ is = 6) then 1 else 0
theorem kd_rng (w : Int) : 1 ≤ kd w ∧ kd w ≤ 6 := by
  unfold kd
  repeat' first | (refine And.intro ?_ ?_) | split | rfl | exact True.intro | assumption | omega
theorem isoI_rng (is of : Int) : 0 ≤ isoI is of ∧ isoI is of ≤ 1 := by
  unfold isoI
  repeat' first | (refine And.intro ?_ ?_) | split | rfl | exact True.intro | assumption | omega
/-- the kinds above a kind, up to r of them: is one of them the wanted one -/
def chk : Nat → Int → Int → Int
  | 0, _, _ => 0
  | r + 1, own, w => if 0 ≤ own ∧ own < 7 then (if own = w then 1 else chk r ((q_cst.getD 2 []).getD own.toNat 0) w) else 0
theorem chk_ok : ∀ w, w < 7 → ∀ k, k < 7 → chk 7 (kd ((w : Nat) : Int)) ((k : Nat) : Int) = isoI (kd ((w : Nat) : Int)) ((k : Nat) : Int) := by decide +kernel
theorem kow_ok : ∀ w, w < 7 → (q_cst.getD 1 []).getD w 0 = kd ((w : Nat) : Int) := by decide +kernel
theorem abv_ok : ∀ w, w < 7 → -1 ≤ (q_cst.getD 2 []).getD w 0 ∧ (q_cst.getD 2 []).getD w 0 ≤ 6 := by decide +kernel
def cntF (f : Nat → Int) : Nat → Nat → Int
  | 0, _ => 0
  | r + 1, s => f s + cntF f r (s + 1)
theorem cntF_rng {f : Nat → Int} (h : ∀ s, 0 ≤ f s ∧ f s ≤ 1) : ∀ r s, 0 ≤ cntF f r s ∧ cntF f r s ≤ (r : Int)
  | 0, s => by unfold cntF; omega
  | r + 1, s => by
    have := cntF_rng h r (s + 1)
    have := h s
    unfold cntF
    omega
theorem cntF_cg {f g : Nat → Int} : ∀ r s, (∀ k, s ≤ k → k < s + r → f k = g k) → cntF f r s = cntF g r s
  | 0, s, _ => rfl
  | r + 1, s, h => by
    unfold cntF
    rw [h s (Nat.le_refl _) (by omega), cntF_cg r (s + 1) (fun k h1 h2 => h k (by omega) (by omega))]
section
variable {d : Nat} {v : q_H} {G : q_Gr} {Q : q_V → q_H → q_Gr → Prop}
theorem g_num42 (hG : gok G) : gNum G 42 600 := ⟨by rw [sh_42 hG], rf_42_0 hG, by rw [sh_43 hG], by rw [sh_43 hG], by decide⟩
theorem g_num44 (hG : gok G) : gNum G 44 48 := ⟨by rw [sh_44 hG], rf_44_0 hG, by rw [sh_45 hG], by rw [sh_45 hG], by decide⟩
theorem g_num53 (hG : gok G) : gNum G 53 600 := ⟨by rw [sh_53 hG], rf_53_0 hG, by rw [sh_54 hG], by rw [sh_54 hG], by decide⟩
theorem g_num70 (hG : gok G) : gNum G 70 48 := ⟨by rw [sh_70 hG], rf_70_0 hG, by rw [sh_71 hG], by rw [sh_71 hG], by decide⟩
theorem g_num73 (hG : gok G) : gNum G 73 600 := ⟨by rw [sh_73 hG], rf_73_0 hG, by rw [sh_74 hG], by rw [sh_74 hG], by decide⟩
theorem g_num90 (hG : gok G) : gNum G 90 48 := ⟨by rw [sh_90 hG], rf_90_0 hG, by rw [sh_91 hG], by rw [sh_91 hG], by decide⟩
/-! ===== acts: kinds ===== -/
theorem c_own {p : Nat} (hG : gok G) (hC : csI v) (hp : G.2.1 p = (0, 6)) (h0 : 0 ≤ v p 0) (h6 : v p 0 ≤ 6) : q_call (d + 2) 1 [.inr (.inr (.inl (some p)))] v G Q = Q (.inl (kd (v p 0))) v G := by
  refine q_call_eq ?_ Q
  have e1 : v 1 (v p 0).toNat = kd (v p 0) := by
    rw [hC 1 _ (by decide) (by decide), kow_ok _ (by omega), Int.toNat_of_nonneg h0]
  have s1 : G.2.1 1 = (20, 7) := hG.2.2.1 1 (by decide) (by decide)
  simp (disch := omega) only [E1, hp, s1, c_within, q_push_I, q_push_L, q_push_P, q_push_U, ↓if_pos, ↓if_neg, Nat.zero_add, e1]
  repeat' first | (refine And.intro ?_ ?_) | rfl | exact True.intro | assumption | omega
theorem s_isof_loop {w : Int} {z0 : q_V} (hG : gok G) (hC : csI v) (hw : -2147483648 ≤ w ∧ w ≤ 2147483647) : ∀ (r step : Nat) (own : Int), step + r = 7 → -1 ≤ own → own ≤ 6 → Q (.inl (chk r own w)) v G → q_wp (d + 1) 2 7 [z0, .inl w, .inl own, .inl step] [] v G Q := by
  have s2 : G.2.1 2 = (20, 7) := hG.2.2.1 2 (by decide) (by decide)
  intro r
  induction r with
  | zero =>
    intro step own h h1 h2 hQ
    have h : step = 7 := by omega
    subst h
    rw [e_2_7]
    simp (disch := omega) only [E2, ↓if_pos]
    unfold chk at hQ
    repeat' first | (refine And.intro ?_ ?_) | rfl | exact True.intro | assumption | omega
  | succ r ih =>
    intro step own h h1 h2 hQ
    rw [e_2_7]
    unfold chk at hQ
    by_cases c : 0 ≤ own
    · rw [if_pos (by omega)] at hQ
      have e2 := hC 2 own.toNat (by decide) (by decide)
      have ab := abv_ok own.toNat (by omega)
      by_cases c2 : own = w
      · rw [if_pos c2] at hQ
        simp (disch := omega) only [E2, s2, c_within, q_push_I, q_push_L, q_push_P, q_push_U, ↓if_pos, ↓if_neg]
        repeat' first | (refine And.intro ?_ ?_) | rfl | exact True.intro | assumption | omega
      · rw [if_neg c2] at hQ
        have := ih (step + 1) _ (by omega) ab.1 ab.2 hQ
        simp (disch := omega) only [E2, s2, c_within, q_push_I, q_push_L, q_push_P, q_push_U, ↓if_pos, ↓if_neg, Nat.zero_add, Nat.reduceAdd, e2, show (step : Int) + 1 = ((step + 1 : Nat) : Int) by omega]
        repeat' first | (refine And.intro ?_ ?_) | rfl | exact True.intro | assumption | omega
    · rw [if_neg (by omega)] at hQ
      simp (disch := omega) only [E2, s2, c_within, q_push_I, q_push_L, q_push_P, q_push_U, ↓if_pos, ↓if_neg]
      repeat' first | (refine And.intro ?_ ?_) | rfl | exact True.intro | assumption | omega
theorem c_isof {p : Nat} {k : Int} (hG : gok G) (hC : csI v) (hp : G.2.1 p = (0, 6)) (h0 : 0 ≤ v p 0) (h6 : v p 0 ≤ 6) (hk : 0 ≤ k) (hk6 : k ≤ 6) : q_call (d + 3) 2 [.inr (.inr (.inl (some p))), .inl k] v G Q = Q (.inl (isoI (kd (v p 0)) k)) v G := by
  refine q_call_eq ?_ Q
  have kr := kd_rng (v p 0)
  have e := chk_ok (v p 0).toNat (by omega) k.toNat (by omega)
  rw [Int.toNat_of_nonneg h0, Int.toNat_of_nonneg hk] at e
  simp (disch := first | assumption | omega) only [E2, hp, c_own, q_push_I, q_push_L, q_push_P, q_push_U]
  refine ⟨True.intro, ?_⟩
  rw [show (0 : Int) = ((0 : Nat) : Int) from rfl]
  exact s_isof_loop hG hC (by omega) 7 0 _ rfl (by omega) (by omega) ⟨by rw [e], rfl, rfl⟩
theorem c_pair {p : Nat} (hG : gok G) (hC : csI v) (hp : G.2.1 p = (0, 6)) (h0 : 0 ≤ v p 0) (h6 : v p 0 ≤ 6) : q_call (d + 4) 4 [.inr (.inr (.inl (some p)))] v G Q = Q (.inl (isoI (kd (v p 0)) 5)) v G := by
  refine q_call_eq ?_ Q
  have ir := isoI_rng (kd (v p 0)) 5
  simp (disch := first | assumption | omega) only [E4, hp, c_isof, q_push_I, q_push_L, q_push_P, q_push_U]
  repeat' first | (refine And.intro ?_ ?_) | rfl | exact True.intro | assumption | omega
theorem c_prob {p : Nat} (hp : G.2.1 p = (0, 6)) (h0 : 0 ≤ v p 0) (h6 : v p 0 ≤ 6) : q_call (d + 1) 3 [.inr (.inr (.inl (some p)))] v G Q = Q (.inl (if v p 0 = 4 ∨ v p 0 = 6 then 1 else 0)) v G := by
  refine q_call_eq ?_ Q
  simp (disch := omega) only [E3, hp]
  repeat' first | (refine And.intro ?_ ?_) | split | rfl | exact True.intro | assumption | omega
theorem c_mkind {a : Nat} (hG : gok G) (ha : a < 12) (h0 : 0 ≤ v 149 a) (h6 : v 149 a ≤ 6) : q_call (d + 1) 214 [.inr (.inr (.inl (some 137))), .inl a] v G Q = Q (.inl (kd (v 149 a))) v G := by
  refine q_call_eq ?_ Q
  unfold kd
  simp (disch := omega) only [E214, SHM hG, Int.toNat_natCast]
  repeat' first | (refine And.intro ?_ ?_) | split | rfl | exact True.intro | assumption | omega
theorem c_misof {a b : Int} (ha : 0 ≤ a) (ha2 : a ≤ 6) (hb : 0 ≤ b) (hb2 : b ≤ 6) : q_call (d + 2) 215 [.inl a, .inl b] v G Q = Q (.inl (isoI a b)) v G := by
  refine q_call_eq ?_ Q
  unfold isoI
  simp (disch := omega) only [E215, c_in, q_push_I, q_push_L, q_push_P, q_push_U]
  repeat' first | (refine And.intro ?_ ?_) | split | rfl | exact True.intro | assumption | omega
theorem c_act_n {a : Int} (hG : gok G) (h0 : 0 ≤ v 36 3) (h12 : v 36 3 ≤ 12) (ha : -2147483648 ≤ a) (ha2 : a ≤ 2147483647) (hn : ¬ (0 ≤ a ∧ a < v 36 3)) : q_call (d + 2) 47 [.inr (.inr (.inl (some 36))), .inl a] v G Q = Q (.inr (.inr (.inl none))) v G := by
  refine q_call_eq ?_ Q
  simp (disch := omega) only [E47, SHC hG, c_within, q_push_I, q_push_L, q_push_P, q_push_U, ↓if_neg, ↓if_pos]
  repeat' first | (refine And.intro ?_ ?_) | rfl | exact True.intro | assumption | omega
theorem c_act_y {a p : Nat} (hG : gok G) (h12 : v 36 3 ≤ 12) (hn : (a : Int) < v 36 3) (hp : G.1 38 a = some p) : q_call (d + 2) 47 [.inr (.inr (.inl (some 36))), .inl a] v G Q = Q (.inr (.inr (.inl (some p)))) v G := by
  refine q_call_eq ?_ Q
  simp (disch := omega) only [E47, SHC hG, c_within, q_push_I, q_push_L, q_push_P, q_push_U, ↓if_neg, ↓if_pos, Int.toNat_natCast, hp]
  repeat' first | (refine And.intro ?_ ?_) | rfl | exact True.intro | assumption | omega
theorem c_isAct {a : Int} (hG : gok G) (h0 : 0 ≤ v 137 15) (h12 : v 137 15 ≤ 12) (ha : -2147483648 ≤ a) (ha2 : a ≤ 2147483647) : q_call (d + 2) 185 [.inr (.inr (.inl (some 137))), .inl a] v G Q = Q (.inl (if 0 ≤ a ∧ a < v 137 15 then 1 else 0)) v G := by
  refine q_call_eq ?_ Q
  simp (disch := omega) only [E185, SHM hG, c_in, q_push_I, q_push_L, q_push_P, q_push_U]
  repeat' first | (refine And.intro ?_ ?_) | split | rfl | exact True.intro | assumption | omega
/-! ===== the short calls: both answer alike ===== -/
theorem op_fault (hI : Inv v G) : twin (d + 8) 129 184 [] v G Inv := by
  have hG := hI.1
  have hT := hI.2.2.1
  have hR := hI.2.2.2.1
  have hP := hI.2.2.2.2.1
  have hA := hI.2.2.2.2.2.1
  have hK := hI.2.2.2.2.2.2.1
  have hS := hI.2.2.2.2.2.2.2.1
  have h32 : (G.2.1 32).1 = 10 := by rw [sh_32 hG]
  have h137 : (G.2.1 137).1 = 11 := by rw [sh_137 hG]
  obtain ⟨p1, p2, p3, p4, p5, p6, p7⟩ := hP
  refine twin_mk (z := v 36 10) (v1 := v) (v2 := q_up v 137 0 0) ?_ ?_ (by omega) ?_
  · simp (disch := omega) only [E129, E49, SHC hG, q_push_I, q_push_L, q_push_P, q_push_U]
    repeat' first | (refine And.intro ?_ ?_) | rfl | exact True.intro | assumption | omega
  · simp (disch := omega) only [E184, SHM hG, u_n, p5]
    repeat' first | (refine And.intro ?_ ?_) | rfl | exact True.intro | assumption | omega
  · exact Inv_c hI (fun b j h1 => by simp (disch := omega) only [u_n])
theorem op_why (hI : Inv v G) : twin (d + 8) 134 211 [] v G Inv := by
  have hG := hI.1
  have hT := hI.2.2.1
  have hR := hI.2.2.2.1
  have hP := hI.2.2.2.2.1
  have hA := hI.2.2.2.2.2.1
  have hK := hI.2.2.2.2.2.2.1
  have hS := hI.2.2.2.2.2.2.2.1
  have h32 : (G.2.1 32).1 = 10 := by rw [sh_32 hG]
  have h137 : (G.2.1 137).1 = 11 := by rw [sh_137 hG]
  have k1 := hK.1
  have k2 := hK.2.1
  have k3 := hK.2.2.1
  refine twin_mk (z := v 52 2) (v1 := v) (v2 := q_up v 137 0 0) ?_ ?_ (by omega) ?_
  · simp (disch := omega) only [E134, E19, SHC hG, q_push_I, q_push_L, q_push_P, q_push_U]
    repeat' first | (refine And.intro ?_ ?_) | rfl | exact True.intro | assumption | omega
  · simp (disch := omega) only [E211, SHM hG, u_n, k1]
    repeat' first | (refine And.intro ?_ ?_) | rfl | exact True.intro | assumption | omega
  · exact Inv_c hI (fun b j h1 => by simp (disch := omega) only [u_n])
theorem op_status (hI : Inv v G) : twin (d + 8) 143 224 [] v G Inv := by
  have hG := hI.1
  have hT := hI.2.2.1
  have hR := hI.2.2.2.1
  have hP := hI.2.2.2.2.1
  have hA := hI.2.2.2.2.2.1
  have hK := hI.2.2.2.2.2.2.1
  have hS := hI.2.2.2.2.2.2.2.1
  have h32 : (G.2.1 32).1 = 10 := by rw [sh_32 hG]
  have h137 : (G.2.1 137).1 = 11 := by rw [sh_137 hG]
  obtain ⟨t1, t2, t3⟩ := hT
  refine twin_mk (z := v 32 9) (v1 := v) (v2 := q_up v 137 0 0) ?_ ?_ (by omega) ?_
  · simp (disch := omega) only [E143, SHC hG, q_push_I, q_push_L, q_push_P, q_push_U]
    repeat' first | (refine And.intro ?_ ?_) | rfl | exact True.intro | assumption | omega
  · simp (disch := omega) only [E224, SHM hG, u_n, t1]
    repeat' first | (refine And.intro ?_ ?_) | rfl | exact True.intro | assumption | omega
  · exact Inv_c hI (fun b j h1 => by simp (disch := omega) only [u_n])
theorem op_read {a : Int} (hI : Inv v G) (ha : -2147483648 ≤ a ∧ a ≤ 2147483647) : twin (d + 8) 135 212 [.inl a] v G Inv := by
  have hG := hI.1
  have hT := hI.2.2.1
  have hR := hI.2.2.2.1
  have hP := hI.2.2.2.2.1
  have hA := hI.2.2.2.2.2.1
  have hK := hI.2.2.2.2.2.2.1
  have hS := hI.2.2.2.2.2.2.2.1
  have h32 : (G.2.1 32).1 = 10 := by rw [sh_32 hG]
  have h137 : (G.2.1 137).1 = 11 := by rw [sh_137 hG]
  have hN := g_num70 hG
  obtain ⟨k1, k2, k3, k4, k5, k6, k7, k8, k9⟩ := hK
  by_cases c1 : a < -1
  · refine twin_mk (z := -1000001) (v1 := v) (v2 := q_up v 137 0 0) ?_ ?_ (by decide) ?_
    · simp (disch := omega) only [E135, SHC hG, ↓if_neg, ↓if_pos, q_push_I, q_push_L, q_push_P, q_push_U]
      repeat' first | (refine And.intro ?_ ?_) | rfl | exact True.intro | assumption | omega
    · simp (disch := omega) only [E212, SHM hG, ↓if_neg, ↓if_pos, u_n]
      repeat' first | (refine And.intro ?_ ?_) | rfl | exact True.intro | assumption | omega
    · exact Inv_c hI (fun b j h1 => by simp (disch := omega) only [u_n])
  · by_cases c2 : a = -1
    · subst c2
      refine twin_mk (z := v 70 1) (v1 := v) (v2 := q_up v 137 0 0) ?_ ?_ (by omega) ?_
      · simp (disch := first | assumption | omega) only [E135, E18, SHC hG, c_nos, ↓if_neg, ↓if_pos, q_push_I, q_push_L, q_push_P, q_push_U]
        repeat' first | (refine And.intro ?_ ?_) | rfl | exact True.intro | assumption | omega
      · simp (disch := omega) only [E212, SHM hG, ↓if_neg, ↓if_pos, u_n, k4]
        repeat' first | (refine And.intro ?_ ?_) | rfl | exact True.intro | assumption | omega
      · exact Inv_c hI (fun b j h1 => by simp (disch := omega) only [u_n])
    · by_cases c3 : a < v 70 1
      · have k9' := k9 a.toNat (by omega)
        refine twin_mk (z := v 71 a.toNat) (v1 := v) (v2 := q_up v 137 0 0) ?_ ?_ (by omega) ?_
        · simp (disch := first | assumption | omega) only [E135, E18, SHC hG, c_nos, ↓if_neg, ↓if_pos, q_push_I, q_push_L, q_push_P, q_push_U]
          repeat' first | (refine And.intro ?_ ?_) | rfl | exact True.intro | assumption | omega
        · simp (disch := omega) only [E212, SHM hG, ↓if_neg, ↓if_pos, u_n, k9'.1]
          repeat' first | (refine And.intro ?_ ?_) | rfl | exact True.intro | assumption | omega
        · exact Inv_c hI (fun b j h1 => by simp (disch := omega) only [u_n])
      · refine twin_mk (z := -1000000) (v1 := v) (v2 := q_up v 137 0 0) ?_ ?_ (by omega) ?_
        · simp (disch := first | assumption | omega) only [E135, E18, SHC hG, c_nos, ↓if_neg, ↓if_pos, q_push_I, q_push_L, q_push_P, q_push_U]
          repeat' first | (refine And.intro ?_ ?_) | rfl | exact True.intro | assumption | omega
        · simp (disch := omega) only [E212, SHM hG, ↓if_neg, ↓if_pos, u_n]
          repeat' first | (refine And.intro ?_ ?_) | rfl | exact True.intro | assumption | omega
        · exact Inv_c hI (fun b j h1 => by simp (disch := omega) only [u_n])
theorem op_trace {a : Int} (hI : Inv v G) (ha : -2147483648 ≤ a ∧ a ≤ 2147483647) : twin (d + 8) 141 222 [.inl a] v G Inv := by
  have hG := hI.1
  have hT := hI.2.2.1
  have hR := hI.2.2.2.1
  have hP := hI.2.2.2.2.1
  have hA := hI.2.2.2.2.2.1
  have hK := hI.2.2.2.2.2.2.1
  have hS := hI.2.2.2.2.2.2.2.1
  have h32 : (G.2.1 32).1 = 10 := by rw [sh_32 hG]
  have h137 : (G.2.1 137).1 = 11 := by rw [sh_137 hG]
  obtain ⟨k1, k2, k3, k4⟩ := hS
  by_cases c3 : 0 ≤ a ∧ a < v 92 1
  · have k9' := k4 a.toNat (by omega)
    refine twin_mk (z := v 93 a.toNat) (v1 := v) (v2 := q_up v 137 0 0) ?_ ?_ (by omega) ?_
    · simp (disch := first | assumption | omega) only [E141, E13, SHC hG, c_within, ↓if_neg, ↓if_pos, q_push_I, q_push_L, q_push_P, q_push_U]
      repeat' first | (refine And.intro ?_ ?_) | rfl | exact True.intro | assumption | omega
    · simp (disch := omega) only [E222, SHM hG, c_in, ↓if_neg, ↓if_pos, u_n, k9'.1, q_push_I, q_push_L, q_push_P, q_push_U]
      repeat' first | (refine And.intro ?_ ?_) | rfl | exact True.intro | assumption | omega
    · exact Inv_c hI (fun b j h1 => by simp (disch := omega) only [u_n])
  · refine twin_mk (z := -1000000) (v1 := v) (v2 := q_up v 137 0 0) ?_ ?_ (by omega) ?_
    · simp (disch := first | assumption | omega) only [E141, E13, SHC hG, c_within, ↓if_neg, ↓if_pos, q_push_I, q_push_L, q_push_P, q_push_U]
      repeat' first | (refine And.intro ?_ ?_) | rfl | exact True.intro | assumption | omega
    · simp (disch := omega) only [E222, SHM hG, c_in, ↓if_neg, ↓if_pos, u_n, q_push_I, q_push_L, q_push_P, q_push_U]
      repeat' first | (refine And.intro ?_ ?_) | rfl | exact True.intro | assumption | omega
    · exact Inv_c hI (fun b j h1 => by simp (disch := omega) only [u_n])
theorem op_kind {a : Int} (hI : Inv v G) (hC : csI v) (ha : -2147483648 ≤ a ∧ a ≤ 2147483647) : twin (d + 8) 138 216 [.inl a] v G Inv := by
  have hG := hI.1
  have hT := hI.2.2.1
  have hR := hI.2.2.2.1
  have hP := hI.2.2.2.2.1
  have hA := hI.2.2.2.2.2.1
  have hK := hI.2.2.2.2.2.2.1
  have hS := hI.2.2.2.2.2.2.2.1
  have h32 : (G.2.1 32).1 = 10 := by rw [sh_32 hG]
  have h137 : (G.2.1 137).1 = 11 := by rw [sh_137 hG]
  obtain ⟨a1, a2, a3, a4⟩ := hA
  by_cases c : 0 ≤ a ∧ a < v 36 3
  · obtain ⟨n, rfl⟩ : ∃ n : Nat, a = (n : Int) := ⟨a.toNat, by omega⟩
    obtain ⟨p, p1, p2, p3, p4, p5⟩ := a4 n c.2
    have r1 := p5.1
    have r2 := p5.2.2.2.2.1
    have kr := kd_rng (v p 0)
    refine twin_mk (z := kd (v p 0)) (v1 := v) (v2 := q_up v 137 0 0) ?_ ?_ (by omega) ?_
    · simp (disch := first | assumption | omega) only [E138, SHC hG, c_act_y hG a3 c.2 p1, c_own, p4, q_push_I, q_push_L, q_push_P, q_push_U]
      repeat' first | (refine And.intro ?_ ?_) | rfl | exact True.intro | assumption | omega
    · simp (disch := first | assumption | omega | ((try simp (disch := omega) only [u_n, u_s]); omega)) only [E216, SHM hG, c_isAct, c_mkind, ↓if_neg, ↓if_pos, u_n, ← r1, q_push_I, q_push_L, q_push_P, q_push_U]
      repeat' first | (refine And.intro ?_ ?_) | rfl | exact True.intro | assumption | omega
    · exact Inv_c hI (fun b j h1 => by simp (disch := omega) only [u_n])
  · refine twin_mk (z := -1000001) (v1 := v) (v2 := q_up v 137 0 0) ?_ ?_ (by omega) ?_
    · simp (disch := first | assumption | omega) only [E138, n_138_10, SHC hG, c_act_n, q_push_I, q_push_L, q_push_P, q_push_U]
      repeat' first | (refine And.intro ?_ ?_) | rfl | exact True.intro | assumption | omega
    · simp (disch := first | assumption | omega | ((try simp (disch := omega) only [u_n, u_s]); omega)) only [E216, SHM hG, c_isAct, ↓if_neg, ↓if_pos, u_n, q_push_I, q_push_L, q_push_P, q_push_U]
      repeat' first | (refine And.intro ?_ ?_) | rfl | exact True.intro | assumption | omega
    · exact Inv_c hI (fun b j h1 => by simp (disch := omega) only [u_n])
theorem op_as {a b : Int} (hI : Inv v G) (hC : csI v) (ha : -2147483648 ≤ a ∧ a ≤ 2147483647) (hb : -2147483648 ≤ b ∧ b ≤ 2147483647) : twin (d + 8) 139 217 [.inl a, .inl b] v G Inv := by
  have hG := hI.1
  have hT := hI.2.2.1
  have hR := hI.2.2.2.1
  have hP := hI.2.2.2.2.1
  have hA := hI.2.2.2.2.2.1
  have hK := hI.2.2.2.2.2.2.1
  have hS := hI.2.2.2.2.2.2.2.1
  have h32 : (G.2.1 32).1 = 10 := by rw [sh_32 hG]
  have h137 : (G.2.1 137).1 = 11 := by rw [sh_137 hG]
  obtain ⟨a1, a2, a3, a4⟩ := hA
  by_cases c : 0 ≤ a ∧ a < v 36 3
  · obtain ⟨n, rfl⟩ : ∃ n : Nat, a = (n : Int) := ⟨a.toNat, by omega⟩
    obtain ⟨p, p1, p2, p3, p4, p5⟩ := a4 n c.2
    have r1 := p5.1
    have r3 := p5.2.1
    have r2 := p5.2.2.2.2.1
    have r4 := p5.2.2.2.2.2.1
    have kr := kd_rng (v p 0)
    by_cases cb : 0 ≤ b ∧ b ≤ 6
    · have ir := isoI_rng (kd (v p 0)) b
      by_cases ci : isoI (kd (v p 0)) b = 1
      · refine twin_mk (z := v p 1) (v1 := q_up v 32 9 0) (v2 := q_up (q_up (q_up v 32 9 0) 137 0 0) 137 1 0) ?_ ?_ (by omega) ?_
        · simp (disch := first | assumption | omega) only [E139, SHC hG, c_act_y hG a3 c.2 p1, c_isof, c_within, c_fine, p4, ci, ↓if_neg, ↓if_pos, q_push_I, q_push_L, q_push_P, q_push_U]
          repeat' first | (refine And.intro ?_ ?_) | rfl | exact True.intro | assumption | omega
        · simp (disch := first | assumption | omega | ((try simp (disch := omega) only [u_n, u_s]); omega)) only [E217, SHM hG, c_isAct, c_in, c_mkind, c_misof, ↓if_neg, ↓if_pos, u_n, ← r1, ← r3, ci, Int.toNat_natCast, q_push_I, q_push_L, q_push_P, q_push_U]
          repeat' first | (refine And.intro ?_ ?_) | rfl | exact True.intro | assumption | omega
        · exact Inv_cst hI (fun b j h1 h2 => by simp (disch := omega) only [u_n]) (by unfold stI; simp (disch := omega) only [u_n, u_s]; decide)
      · refine twin_mk (z := -1000013) (v1 := q_up v 32 9 3) (v2 := q_up (q_up (q_up (q_up v 32 9 3) 137 0 0) 137 1 0) 137 1 3) ?_ ?_ (by omega) ?_
        · simp (disch := first | assumption | omega) only [E139, SHC hG, c_act_y hG a3 c.2 p1, c_isof, c_within, c_found, p4, ↓if_neg, ↓if_pos, q_push_I, q_push_L, q_push_P, q_push_U]
          repeat' first | (refine And.intro ?_ ?_) | rfl | exact True.intro | assumption | omega
        · simp (disch := first | assumption | omega | ((try simp (disch := omega) only [u_n, u_s]); omega)) only [E217, SHM hG, c_isAct, c_in, c_mkind, c_misof, c_finding, ↓if_neg, ↓if_pos, u_n, ← r1, ← r3, Int.toNat_natCast, q_push_I, q_push_L, q_push_P, q_push_U]
          repeat' first | (refine And.intro ?_ ?_) | rfl | exact True.intro | assumption | omega
        · exact Inv_cst hI (fun b j h1 h2 => by simp (disch := omega) only [u_n]) (by unfold stI; simp (disch := omega) only [u_n, u_s]; decide)
    · refine twin_mk (z := -1000001) (v1 := v) (v2 := q_up v 137 0 0) ?_ ?_ (by omega) ?_
      · simp (disch := first | assumption | omega) only [E139, SHC hG, c_act_y hG a3 c.2 p1, c_within, ↓if_neg, ↓if_pos, q_push_I, q_push_L, q_push_P, q_push_U]
        repeat' first | (refine And.intro ?_ ?_) | rfl | exact True.intro | assumption | omega
      · simp (disch := first | assumption | omega | ((try simp (disch := omega) only [u_n, u_s]); omega)) only [E217, SHM hG, c_isAct, c_in, ↓if_neg, ↓if_pos, u_n, q_push_I, q_push_L, q_push_P, q_push_U]
        repeat' first | (refine And.intro ?_ ?_) | rfl | exact True.intro | assumption | omega
      · exact Inv_c hI (fun b j h1 => by simp (disch := omega) only [u_n])
  · refine twin_mk (z := -1000001) (v1 := v) (v2 := q_up v 137 0 0) ?_ ?_ (by omega) ?_
    · simp (disch := first | assumption | omega) only [E139, n_139_10, SHC hG, c_act_n, q_push_I, q_push_L, q_push_P, q_push_U]
      repeat' first | (refine And.intro ?_ ?_) | rfl | exact True.intro | assumption | omega
    · simp (disch := first | assumption | omega | ((try simp (disch := omega) only [u_n, u_s]); omega)) only [E217, SHM hG, c_isAct, ↓if_neg, ↓if_pos, u_n, q_push_I, q_push_L, q_push_P, q_push_U]
      repeat' first | (refine And.intro ?_ ?_) | rfl | exact True.intro | assumption | omega
    · exact Inv_c hI (fun b j h1 => by simp (disch := omega) only [u_n])
/-! ===== count ===== -/
theorem cntF_s (f : Nat → Int) (r s : Nat) : cntF f (r + 1) s = f s + cntF f r (s + 1) := rfl
theorem s_sheets_loop (hG : gok G) (hL : shI v) : ∀ (r s : Nat) (n : Int), s + r = 8 → 0 ≤ n → n ≤ s → Q (.inl (n + cntF (fun s => if v 138 s = -1 then 0 else 1) r s)) v G → q_wp (d + 1) 149 4 [.inr (.inr (.inl (some 32))), .inl n, .inl s] [] v G Q := by
  intro r
  induction r with
  | zero =>
    intro s n h h1 h2 hQ
    have h : s = 8 := by omega
    subst h
    rw [e_149_4]
    simp (disch := omega) only [E149, ↓if_pos]
    rw [show cntF (fun s => if v 138 s = -1 then (0 : Int) else 1) 0 8 = 0 from rfl, Int.add_zero] at hQ
    repeat' first | (refine And.intro ?_ ?_) | rfl | exact True.intro | assumption | omega
  | succ r ih =>
    intro s n h h1 h2 hQ
    have hs : s < 8 := by omega
    obtain ⟨l1, l2, l3, l4, l5⟩ := hL s hs
    obtain ⟨gs1, gs2⟩ := g_sheet hG s hs
    rw [e_149_4]
    rw [cntF_s, ← Int.add_assoc] at hQ
    by_cases c : v 138 s = -1
    · rw [if_pos c] at hQ
      have := ih (s + 1) (n + 0) (by omega) (by omega) (by omega) hQ
      simp (disch := first | assumption | omega) only [E149, SHC hG, gs1, c_smiss, ↓if_pos, ↓if_neg, Int.toNat_natCast, q_push_I, q_push_L, q_push_P, q_push_U, show (s : Int) + 1 = ((s + 1 : Nat) : Int) by omega]
      repeat' first | (refine And.intro ?_ ?_) | rfl | exact True.intro | assumption | omega
    · rw [if_neg c] at hQ
      have := ih (s + 1) (n + 1) (by omega) (by omega) (by omega) hQ
      simp (disch := first | assumption | omega) only [E149, SHC hG, gs1, c_smiss, ↓if_pos, ↓if_neg, Int.toNat_natCast, q_push_I, q_push_L, q_push_P, q_push_U, show (s : Int) + 1 = ((s + 1 : Nat) : Int) by omega]
      repeat' first | (refine And.intro ?_ ?_) | rfl | exact True.intro | assumption | omega
theorem s_msheets_loop (hG : gok G) (hL : ∀ s, s < 8 → -1 ≤ v 138 s ∧ v 138 s ≤ 2) {z1 : q_V} : ∀ (r s : Nat) (n : Int), s + r = 8 → 0 ≤ n → n ≤ s → Q (.inl (n + cntF (fun s => if v 138 s = -1 then 0 else 1) r s)) v G → q_wp d 223 50 [.inr (.inr (.inl (some 137))), z1, .inl n, .inl s] [] v G Q := by
  intro r
  induction r with
  | zero =>
    intro s n h h1 h2 hQ
    have h : s = 8 := by omega
    subst h
    rw [e_223_50]
    simp (disch := omega) only [E223, ↓if_pos]
    rw [show cntF (fun s => if v 138 s = -1 then (0 : Int) else 1) 0 8 = 0 from rfl, Int.add_zero] at hQ
    repeat' first | (refine And.intro ?_ ?_) | rfl | exact True.intro | assumption | omega
  | succ r ih =>
    intro s n h h1 h2 hQ
    have l2 := hL s (by omega)
    rw [e_223_50]
    rw [cntF_s, ← Int.add_assoc] at hQ
    by_cases c : v 138 s = -1
    · rw [if_pos c] at hQ
      have := ih (s + 1) (n + 0) (by omega) (by omega) (by omega) hQ
      simp (disch := first | assumption | omega) only [E223, SHM hG, ↓if_pos, ↓if_neg, Int.toNat_natCast, q_push_I, q_push_L, q_push_P, q_push_U, show (s : Int) + 1 = ((s + 1 : Nat) : Int) by omega]
      repeat' first | (refine And.intro ?_ ?_) | rfl | exact True.intro | assumption | omega
    · rw [if_neg c] at hQ
      have := ih (s + 1) (n + 1) (by omega) (by omega) (by omega) hQ
      simp (disch := first | assumption | omega) only [E223, SHM hG, ↓if_pos, ↓if_neg, Int.toNat_natCast, q_push_I, q_push_L, q_push_P, q_push_U, show (s : Int) + 1 = ((s + 1 : Nat) : Int) by omega]
      repeat' first | (refine And.intro ?_ ?_) | rfl | exact True.intro | assumption | omega
theorem s_acts_loop {m : Nat} (hG : gok G) (hC : csI v) (hm : v 36 3 = (m : Int)) (h12 : m ≤ 12) (hA : ∀ a : Nat, a < m → ∃ p, G.1 38 a = some p ∧ G.2.1 p = (0, 6) ∧ v p 0 = v 149 a ∧ 0 ≤ v p 0 ∧ v p 0 ≤ 6) {z4 : q_V} : ∀ (r s : Nat) (n : Int) (z4 : q_V), s + r = m → 0 ≤ n → n ≤ s → Q (.inl (n + cntF (fun a => isoI (kd (v 149 a)) 1) r s)) v G → q_wp (d + 3) 48 4 [.inr (.inr (.inl (some 36))), .inl 1, .inl n, .inl s, z4] [] v G Q := by
  intro r
  induction r with
  | zero =>
    intro s n z4 h h1 h2 hQ
    have h : s = m := by omega
    subst h
    rw [e_48_4]
    simp (disch := omega) only [E48, SHC hG, hm, ↓if_pos]
    rw [show cntF (fun a => isoI (kd (v 149 a)) 1) 0 s = 0 from rfl, Int.add_zero] at hQ
    repeat' first | (refine And.intro ?_ ?_) | rfl | exact True.intro | assumption | omega
  | succ r ih =>
    intro s n z4 h h1 h2 hQ
    obtain ⟨p, p1, p2, p3, p4, p5⟩ := hA s (by omega)
    have ir := isoI_rng (kd (v p 0)) 1
    rw [e_48_4]
    rw [cntF_s, ← Int.add_assoc, ← p3] at hQ
    by_cases c : isoI (kd (v p 0)) 1 = 1
    · rw [c] at hQ
      have := ih (s + 1) (n + 1) (.inr (.inr (.inl (some p)))) (by omega) (by omega) (by omega) hQ
      simp (disch := first | assumption | omega) only [E48, SHC hG, hm, c_act_y hG (show v 36 3 ≤ 12 by omega) (show (s : Int) < v 36 3 by omega) p1, c_isof, c, ↓if_pos, ↓if_neg, Int.toNat_natCast, q_push_I, q_push_L, q_push_P, q_push_U, show (s : Int) + 1 = ((s + 1 : Nat) : Int) by omega]
      repeat' first | (refine And.intro ?_ ?_) | rfl | exact True.intro | assumption | omega
    · have c0 : isoI (kd (v p 0)) 1 = 0 := by omega
      rw [c0] at hQ
      have := ih (s + 1) (n + 0) (.inr (.inr (.inl (some p)))) (by omega) (by omega) (by omega) hQ
      simp (disch := first | assumption | omega) only [E48, SHC hG, hm, c_act_y hG (show v 36 3 ≤ 12 by omega) (show (s : Int) < v 36 3 by omega) p1, c_isof, c0, ↓if_pos, ↓if_neg, Int.toNat_natCast, q_push_I, q_push_L, q_push_P, q_push_U, show (s : Int) + 1 = ((s + 1 : Nat) : Int) by omega]
      repeat' first | (refine And.intro ?_ ?_) | rfl | exact True.intro | assumption | omega
theorem s_macts_loop {m : Nat} (hG : gok G) (hm : v 137 15 = (m : Int)) (h12 : m ≤ 12) (hA : ∀ a : Nat, a < m → 0 ≤ v 149 a ∧ v 149 a ≤ 6) {z1 : q_V} : ∀ (r s : Nat) (n : Int), s + r = m → 0 ≤ n → n ≤ s → Q (.inl (n + cntF (fun a => isoI (kd (v 149 a)) 1) r s)) v G → q_wp (d + 2) 223 114 [.inr (.inr (.inl (some 137))), z1, .inl n, .inl s] [] v G Q := by
  intro r
  induction r with
  | zero =>
    intro s n h h1 h2 hQ
    have h : s = m := by omega
    subst h
    rw [e_223_114]
    simp (disch := omega) only [E223, SHM hG, hm, ↓if_pos]
    rw [show cntF (fun a => isoI (kd (v 149 a)) 1) 0 s = 0 from rfl, Int.add_zero] at hQ
    repeat' first | (refine And.intro ?_ ?_) | rfl | exact True.intro | assumption | omega
  | succ r ih =>
    intro s n h h1 h2 hQ
    have p5 := hA s (by omega)
    have kr := kd_rng (v 149 s)
    have ir := isoI_rng (kd (v 149 s)) 1
    rw [e_223_114]
    rw [cntF_s, ← Int.add_assoc] at hQ
    by_cases c : isoI (kd (v 149 s)) 1 = 1
    · rw [c] at hQ
      have := ih (s + 1) (n + 1) (by omega) (by omega) (by omega) hQ
      simp (disch := first | assumption | omega) only [E223, SHM hG, hm, c_mkind, c_misof, c, ↓if_pos, ↓if_neg, Int.toNat_natCast, q_push_I, q_push_L, q_push_P, q_push_U, show (s : Int) + 1 = ((s + 1 : Nat) : Int) by omega]
      repeat' first | (refine And.intro ?_ ?_) | rfl | exact True.intro | assumption | omega
    · have c0 : isoI (kd (v 149 s)) 1 = 0 := by omega
      rw [c0] at hQ
      have := ih (s + 1) (n + 0) (by omega) (by omega) (by omega) hQ
      simp (disch := first | assumption | omega) only [E223, SHM hG, hm, c_mkind, c_misof, c0, ↓if_pos, ↓if_neg, Int.toNat_natCast, q_push_I, q_push_L, q_push_P, q_push_U, show (s : Int) + 1 = ((s + 1 : Nat) : Int) by omega]
      repeat' first | (refine And.intro ?_ ?_) | rfl | exact True.intro | assumption | omega
theorem c_sheets (hG : gok G) (hL : shI v) : q_call (d + 2) 149 [.inr (.inr (.inl (some 32)))] v G Q = Q (.inl (0 + cntF (fun s => if v 138 s = -1 then (0 : Int) else 1) 8 0)) v G := by
  refine q_call_eq ?_ Q
  simp only [E149, SHC hG]
  exact ⟨True.intro, s_sheets_loop hG hL 8 0 0 rfl (by decide) (by decide) ⟨rfl, rfl, rfl⟩⟩
theorem c_actsOf {m : Nat} (hG : gok G) (hC : csI v) (hm : v 36 3 = (m : Int)) (h12 : m ≤ 12) (hA : ∀ a : Nat, a < m → ∃ p, G.1 38 a = some p ∧ G.2.1 p = (0, 6) ∧ v p 0 = v 149 a ∧ 0 ≤ v p 0 ∧ v p 0 ≤ 6) : q_call (d + 4) 48 [.inr (.inr (.inl (some 36))), .inl 1] v G Q = Q (.inl (0 + cntF (fun a => isoI (kd (v 149 a)) 1) m 0)) v G := by
  refine q_call_eq ?_ Q
  simp only [E48, SHC hG]
  exact ⟨True.intro, s_acts_loop (z4 := .inr (.inr (.inr ()))) hG hC hm h12 hA m 0 0 _ (by omega) (by decide) (by decide) ⟨rfl, rfl, rfl⟩⟩
theorem op_count {a : Int} (hI : Inv v G) (hC : csI v) (ha : -2147483648 ≤ a ∧ a ≤ 2147483647) : twin (d + 8) 142 223 [.inl a] v G Inv := by
  have hG := hI.1
  have hT := hI.2.2.1
  have hR := hI.2.2.2.1
  have hP := hI.2.2.2.2.1
  have hA := hI.2.2.2.2.2.1
  have hK := hI.2.2.2.2.2.2.1
  have hS := hI.2.2.2.2.2.2.2.1
  have h32 : (G.2.1 32).1 = 10 := by rw [sh_32 hG]
  have h137 : (G.2.1 137).1 = 11 := by rw [sh_137 hG]
  have hL := hI.2.1
  have hB := hI.2.2.2.2.2.2.2.2
  rcases (show a = 0 ∨ a = 1 ∨ a = 2 ∨ a = 3 ∨ a = 4 ∨ a = 5 ∨ ¬ (0 ≤ a ∧ a ≤ 5) by omega) with c | c | c | c | c | c | c
  · subst c
    have cr := cntF_rng (f := fun s => if v 138 s = -1 then (0 : Int) else 1) (fun s => by show 0 ≤ (if v 138 s = -1 then (0 : Int) else 1) ∧ (if v 138 s = -1 then (0 : Int) else 1) ≤ 1; split <;> omega) 8 0
    refine twin_mk (z := 0 + cntF (fun s => if v 138 s = -1 then (0 : Int) else 1) 8 0) (v1 := v) (v2 := q_up v 137 0 0) ?_ ?_ (by omega) ?_
    · simp (disch := first | assumption | omega) only [E142, c_sheets, SHC hG, ↓if_pos, q_push_I, q_push_L, q_push_P, q_push_U]
      repeat' first | (refine And.intro ?_ ?_) | rfl | exact True.intro | assumption | omega
    · simp (disch := omega) only [E223, SHM hG, ↓if_pos]
      have key := s_msheets_loop (d := d + 7) (v := q_up v 137 0 0) (z1 := .inl 0) (Q := fun r v' G' => r = .inl (0 + cntF (fun s => if v 138 s = -1 then (0 : Int) else 1) 8 0) ∧ v' = q_up v 137 0 0 ∧ G' = G) hG (fun s hs => by rw [u_n (by omega)]; exact (hL s hs).2.1) 8 0 0 rfl (by decide) (by decide) ⟨by rw [u_r (by decide)], rfl, rfl⟩
      repeat' first | (refine And.intro ?_ ?_) | rfl | exact True.intro | assumption | omega
    · exact Inv_c hI (fun b j h1 => by simp (disch := omega) only [u_n])
  · subst c
    obtain ⟨n0, t0⟩ := hB 0 (by decide)
    obtain ⟨n1, t1⟩ := hB 1 (by decide)
    obtain ⟨n2, t2⟩ := hB 2 (by decide)
    have a0 : v 111 2 = (n0 : Int) + 2 := t0.2.2.1
    have a1 : v 120 2 = (n1 : Int) + 2 := t1.2.2.1
    have a2 : v 129 2 = (n2 : Int) + 2 := t2.2.2.1
    have b0 := t0.2.1
    have b1 := t1.2.1
    have b2 := t2.2.1
    have l0 := t0.1
    have l1 := t1.1
    have l2 := t2.1
    have g0 : gTab G 110 := (g_table hG 0 (by decide)).2
    have g1 : gTab G 119 := (g_table hG 1 (by decide)).2
    have g2 : gTab G 128 := (g_table hG 2 (by decide)).2
    refine twin_mk (z := v 111 2 - 2 + (v 120 2 - 2) + (v 129 2 - 2)) (v1 := v) (v2 := q_up v 137 0 0) ?_ ?_ (by omega) ?_
    · simp (disch := first | assumption | omega) only [E142, SHC hG, rf_34_0 hG, rf_34_1 hG, rf_34_2 hG, c_trows, ↓if_pos, ↓if_neg, q_push_I, q_push_L, q_push_P, q_push_U, show Int.toNat 0 = 0 from rfl, show Int.toNat 1 = 1 from rfl, show Int.toNat 2 = 2 from rfl, Nat.reduceAdd]
      repeat' first | (refine And.intro ?_ ?_) | rfl | exact True.intro | assumption | omega
    · simp (disch := first | assumption | omega) only [E223, SHM hG, ↓if_pos, ↓if_neg, u_n, show Int.toNat 0 = 0 from rfl, show Int.toNat 1 = 1 from rfl, show Int.toNat 2 = 2 from rfl, show v 141 0 = v 111 2 - 2 by omega, show v 141 1 = v 120 2 - 2 by omega, show v 141 2 = v 129 2 - 2 by omega]
      repeat' first | (refine And.intro ?_ ?_) | rfl | exact True.intro | assumption | omega
    · exact Inv_c hI (fun b j h1 => by simp (disch := omega) only [u_n])
  · subst c
    obtain ⟨r1, r2, r3, r4⟩ := hR
    refine twin_mk (z := v 32 3) (v1 := v) (v2 := q_up v 137 0 0) ?_ ?_ (by omega) ?_
    · simp (disch := omega) only [E142, SHC hG, ↓if_pos, ↓if_neg]
      repeat' first | (refine And.intro ?_ ?_) | rfl | exact True.intro | assumption | omega
    · simp (disch := omega) only [E223, SHM hG, ↓if_pos, ↓if_neg, u_n, r1]
      repeat' first | (refine And.intro ?_ ?_) | rfl | exact True.intro | assumption | omega
    · exact Inv_c hI (fun b j h1 => by simp (disch := omega) only [u_n])
  · subst c
    obtain ⟨r1, r2, r3, r4⟩ := hA
    refine twin_mk (z := v 36 3) (v1 := v) (v2 := q_up v 137 0 0) ?_ ?_ (by omega) ?_
    · simp (disch := omega) only [E142, E46, SHC hG, ↓if_pos, ↓if_neg, q_push_I, q_push_L, q_push_P, q_push_U]
      repeat' first | (refine And.intro ?_ ?_) | rfl | exact True.intro | assumption | omega
    · simp (disch := omega) only [E223, SHM hG, ↓if_pos, ↓if_neg, u_n, r1]
      repeat' first | (refine And.intro ?_ ?_) | rfl | exact True.intro | assumption | omega
    · exact Inv_c hI (fun b j h1 => by simp (disch := omega) only [u_n])
  · subst c
    obtain ⟨a1, a2, a3, a4⟩ := hA
    obtain ⟨m, hm⟩ : ∃ m : Nat, v 36 3 = (m : Int) := ⟨(v 36 3).toNat, by omega⟩
    have hA' : ∀ a : Nat, a < m → ∃ p, G.1 38 a = some p ∧ G.2.1 p = (0, 6) ∧ v p 0 = v 149 a ∧ 0 ≤ v p 0 ∧ v p 0 ≤ 6 := fun a ha => by
      obtain ⟨p, p1, p2, p3, p4, p5⟩ := a4 a (by omega)
      exact ⟨p, p1, p4, p5.1, p5.2.2.2.2.1.1, p5.2.2.2.2.1.2⟩
    have cr := cntF_rng (f := fun a => isoI (kd (v 149 a)) 1) (fun s => isoI_rng _ _) m 0
    refine twin_mk (z := 0 + cntF (fun a => isoI (kd (v 149 a)) 1) m 0) (v1 := v) (v2 := q_up v 137 0 0) ?_ ?_ (by omega) ?_
    · simp (disch := omega) only [E142, c_actsOf hG hC hm (show m ≤ 12 by omega) hA', SHC hG, ↓if_pos, ↓if_neg, q_push_I, q_push_L, q_push_P, q_push_U]
      repeat' first | (refine And.intro ?_ ?_) | rfl | exact True.intro | assumption | omega
    · simp (disch := omega) only [E223, SHM hG, ↓if_pos, ↓if_neg]
      have key := s_macts_loop (d := d + 5) (v := q_up v 137 0 0) (z1 := .inl 4) (Q := fun r v' G' => r = .inl (0 + cntF (fun a => isoI (kd (v 149 a)) 1) m 0) ∧ v' = q_up v 137 0 0 ∧ G' = G) hG (by rw [u_n (by decide), ← a1, hm]) (show m ≤ 12 by omega) (fun a ha => by
        obtain ⟨p, p1, p2, p3, p4, p5⟩ := hA' a ha
        rw [u_n (by omega), ← p3]
        exact ⟨p4, p5⟩) m 0 0 (by omega) (by decide) (by decide) ⟨by rw [u_r (by decide)], rfl, rfl⟩
      repeat' first | (refine And.intro ?_ ?_) | rfl | exact True.intro | assumption | omega
    · exact Inv_c hI (fun b j h1 => by simp (disch := omega) only [u_n])
  · subst c
    obtain ⟨r1, r2, r3, r4⟩ := hP
    refine twin_mk (z := v 36 1) (v1 := v) (v2 := q_up v 137 0 0) ?_ ?_ (by omega) ?_
    · simp (disch := omega) only [E142, E45, SHC hG, ↓if_pos, ↓if_neg, q_push_I, q_push_L, q_push_P, q_push_U]
      repeat' first | (refine And.intro ?_ ?_) | rfl | exact True.intro | assumption | omega
    · simp (disch := omega) only [E223, SHM hG, ↓if_pos, ↓if_neg, u_n, r1]
      repeat' first | (refine And.intro ?_ ?_) | rfl | exact True.intro | assumption | omega
    · exact Inv_c hI (fun b j h1 => by simp (disch := omega) only [u_n])
  · refine twin_mk (z := -1000001) (v1 := v) (v2 := q_up v 137 0 0) ?_ ?_ (by omega) ?_
    · simp (disch := omega) only [E142, SHC hG, ↓if_pos, ↓if_neg]
      repeat' first | (refine And.intro ?_ ?_) | rfl | exact True.intro | assumption | omega
    · simp (disch := omega) only [E223, SHM hG, ↓if_pos, ↓if_neg]
      repeat' first | (refine And.intro ?_ ?_) | rfl | exact True.intro | assumption | omega
    · exact Inv_c hI (fun b j h1 => by simp (disch := omega) only [u_n])
end
