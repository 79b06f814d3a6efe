/-! ===== sheets ===== -/
theorem Inv_sh {v v' : q_H} {G : q_Gr} (hi : Inv v G) (h : ∀ b, b ≠ 32 → b ≠ 137 → ¬ (94 ≤ b ∧ b < 110) → b ≠ 138 → b ≠ 139 → b ≠ 140 → v' b = v b) (h2 : ∀ j, j ≠ 9 → v' 32 j = v 32 j) (h3 : ∀ j, j ≠ 0 → j ≠ 1 → v' 137 j = v 137 j) (h4 : stI v') (h5 : shI v') : Inv v' G := by
  obtain ⟨i1, i2, i3, i4, i5, i6, i7, i8, i9⟩ := hi
  refine ⟨i1, h5, h4, rdI_cg (h2 _ (by decide)) (h3 _ (by decide) (by decide)) (h _ (by decide) (by decide) (by decide) (by decide) (by decide) (by decide)) (h _ (by decide) (by decide) (by decide) (by decide) (by decide) (by decide)) i4, tpI_cg (by rw [h 36 (by decide) (by decide) (by decide) (by decide) (by decide) (by decide)]) (by rw [h 36 (by decide) (by decide) (by decide) (by decide) (by decide) (by decide)]) (h3 _ (by decide) (by decide)) (h3 _ (by decide) (by decide)) (h _ (by decide) (by decide) (by decide) (by decide) (by decide) (by decide)) (h _ (by decide) (by decide) (by decide) (by decide) (by decide) (by decide)) i5, acI_cg (by rw [h 36 (by decide) (by decide) (by decide) (by decide) (by decide) (by decide)]) (h3 _ (by decide) (by decide)) (fun b hb => h b (by omega) (by omega) (by omega) (by omega) (by omega) (by omega)) i6, ckI_cg (by rw [h 52 (by decide) (by decide) (by decide) (by decide) (by decide) (by decide)]) (by rw [h 70 (by decide) (by decide) (by decide) (by decide) (by decide) (by decide)]) (h3 _ (by decide) (by decide)) (h3 _ (by decide) (by decide)) (h3 _ (by decide) (by decide)) (h3 _ (by decide) (by decide)) (h _ (by decide) (by decide) (by decide) (by decide) (by decide) (by decide)) (h _ (by decide) (by decide) (by decide) (by decide) (by decide) (by decide)) i7, asI_cg (by rw [h 92 (by decide) (by decide) (by decide) (by decide) (by decide) (by decide)]) (h3 _ (by decide) (by decide)) (h _ (by decide) (by decide) (by decide) (by decide) (by decide) (by decide)) (h _ (by decide) (by decide) (by decide) (by decide) (by decide) (by decide)) i8, tbI_cg (fun b hb => h b (by omega) (by omega) (by omega) (by omega) (by omega) (by omega)) i9⟩
theorem Inv_st {v v' : q_H} {G : q_Gr} (hi : Inv v G) (h : ∀ b, b ≠ 32 → b ≠ 137 → v' b = v b) (h2 : ∀ j, j ≠ 9 → v' 32 j = v 32 j) (h3 : ∀ j, j ≠ 0 → j ≠ 1 → v' 137 j = v 137 j) (h4 : stI v') : Inv v' G :=
  Inv_sh hi (fun b h1 h2 _ _ _ _ => h b h1 h2) h2 h3 h4 (shI_cg (fun b hb => h b (by omega) (by omega)) hi.2.1)
theorem fl_i {v : q_H} {a i n b j : Nat} {x : Int} (h1 : b = a) (h2 : i ≤ j) (h3 : j < n) : q_fl1 v a i n x b j = x := by unfold q_fl1; rw [if_pos ⟨h1, h2, h3⟩]
theorem fl_n {v : q_H} {a i n b j : Nat} {x : Int} (h : b ≠ a ∨ j < i ∨ n ≤ j) : q_fl1 v a i n x b j = v b j := by unfold q_fl1; rw [if_neg (by omega)]
theorem fl_r {v : q_H} {a i n b : Nat} {x : Int} (h : b ≠ a) : q_fl1 v a i n x b = v b := by
  funext j
  exact fl_n (Or.inl h)
def b8 (x : Int) : Int := (Int32.ofInt x).toInt8.toInt32.toInt
def b16 (x : Int) : Int := (Int32.ofInt x).toInt16.toInt32.toInt
def bl (l x : Int) : Int := if l = 0 then b8 x else if l = 1 then b16 x else x
theorem i32_rng (x : Int32) : -2147483648 ≤ x.toInt ∧ x.toInt ≤ 2147483647 := by
  have h1 := Int32.le_toInt x
  have h2 := Int32.toInt_lt x
  omega
theorem bl_rng {l x : Int} (h1 : -2147483648 ≤ x) (h2 : x ≤ 2147483647) : -2147483648 ≤ bl l x ∧ bl l x ≤ 2147483647 := by
  unfold bl b8 b16
  split
  · exact i32_rng _
  · split
    · exact i32_rng _
    · exact ⟨h1, h2⟩
section
variable {d q : Nat} {v : q_H} {G : q_Gr} {Q : q_V → q_H → q_Gr → Prop}
theorem c_sbegin {l n : Int} (h : gSh G q) (h0 : 0 ≤ n) (hn : n ≤ 600) : q_call (d + 2) 87 [.inr (.inr (.inl (some q))), .inl l, .inl n] v G Q = Q (.inr (.inr (.inr ()))) (q_up (q_up (q_fl1 v (q + 1) 0 600 0) q 1 l) q 2 n) G := by
  refine q_call_eq ?_ Q
  obtain ⟨h1, h2, h3, h4, h5⟩ := h
  simp (disch := omega) only [E87, h1, h2, h3, s_fill, h4, c_within, q_push_I, q_push_L, q_push_P, q_push_U]
  repeat' first | (refine And.intro ?_ ?_) | split | rfl | exact True.intro | assumption | omega
theorem c_slose (h : gSh G q) : q_call (d + 1) 88 [.inr (.inr (.inl (some q)))] v G Q = Q (.inr (.inr (.inr ()))) (q_up (q_up v q 1 (-1)) q 2 0) G := by
  refine q_call_eq ?_ Q
  obtain ⟨h1, h2, h3, h4, h5⟩ := h
  simp only [E88, h1]
  repeat' first | (refine And.intro ?_ ?_) | split | rfl | exact True.intro | assumption | omega
theorem c_smiss (h : gSh G q) (h0 : -1 ≤ v q 1) (hn : v q 1 ≤ 2) : q_call (d + 1) 89 [.inr (.inr (.inl (some q)))] v G Q = Q (.inl (if v q 1 = -1 then 1 else 0)) v G := by
  refine q_call_eq ?_ Q
  obtain ⟨h1, h2, h3, h4, h5⟩ := h
  simp only [E89, h1]
  repeat' first | (refine And.intro ?_ ?_) | split | rfl | exact True.intro | assumption | omega
theorem c_slane (h : gSh G q) : q_call (d + 1) 90 [.inr (.inr (.inl (some q)))] v G Q = Q (.inl (v q 1)) v G := by
  refine q_call_eq ?_ Q
  obtain ⟨h1, h2, h3, h4, h5⟩ := h
  simp only [E90, h1]
  repeat' first | (refine And.intro ?_ ?_) | split | rfl | exact True.intro | assumption | omega
theorem c_ssize (h : gSh G q) : q_call (d + 1) 91 [.inr (.inr (.inl (some q)))] v G Q = Q (.inl (v q 2)) v G := by
  refine q_call_eq ?_ Q
  obtain ⟨h1, h2, h3, h4, h5⟩ := h
  simp only [E91, h1]
  repeat' first | (refine And.intro ?_ ?_) | split | rfl | exact True.intro | assumption | omega
theorem c_shas {i n : Int} (h : gSh G q) (h0 : 0 ≤ v q 2) (hn : v q 2 ≤ 600) (hi : -2147483648 ≤ i) (hi2 : i ≤ 2147483647) (hj : -2147483648 ≤ n) (hj2 : n ≤ 2147483647) : q_call (d + 1) 92 [.inr (.inr (.inl (some q))), .inl i, .inl n] v G Q = Q (.inl (if 0 ≤ i ∧ 0 ≤ n ∧ i + n ≤ v q 2 then 1 else 0)) v G := by
  refine q_call_eq ?_ Q
  obtain ⟨h1, h2, h3, h4, h5⟩ := h
  simp only [E92, h1]
  repeat' first | (refine And.intro ?_ ?_) | split | rfl | exact True.intro | assumption | omega
theorem c_sitem {i : Int} (h : gSh G q) (hn : v q 2 ≤ 600) (hi : 0 ≤ i) (hi2 : i < v q 2) : q_call (d + 2) 93 [.inr (.inr (.inl (some q))), .inl i] v G Q = Q (.inl (v (q + 1) i.toNat)) v G := by
  refine q_call_eq ?_ Q
  obtain ⟨h1, h2, h3, h4, h5⟩ := h
  simp (disch := omega) only [E93, h1, h2, h3, h4, c_within, q_push_I, q_push_L, q_push_P, q_push_U]
  repeat' first | (refine And.intro ?_ ?_) | split | rfl | exact True.intro | assumption | omega
theorem c_sstore {i x : Int} (h : gSh G q) (hn : v q 2 ≤ 600) (hi : 0 ≤ i) (hi2 : i < v q 2) (hl : -1 ≤ v q 1) (hl2 : v q 1 ≤ 2) : q_call (d + 2) 94 [.inr (.inr (.inl (some q))), .inl i, .inl x] v G Q = Q (.inl (bl (v q 1) x)) (q_up v (q + 1) i.toNat (bl (v q 1) x)) G := by
  refine q_call_eq ?_ Q
  obtain ⟨h1, h2, h3, h4, h5⟩ := h
  simp (disch := omega) only [E94, h1, h2, h3, h4, c_within, q_push_I, q_push_L, q_push_P, q_push_U, u_s]
  unfold bl b8 b16
  repeat' first | (refine And.intro ?_ ?_) | split | rfl | exact True.intro | assumption | omega
theorem c_sput {q' : Nat} {i j n : Int} (h : gSh G q) (h' : gSh G q') (hn : v q 2 ≤ 600) (hn' : v q' 2 ≤ 600) (hi : 0 ≤ i) (hj : 0 ≤ j) (h0 : 0 ≤ n) (hi2 : i + n ≤ v q' 2) (hj2 : j + n ≤ v q 2) : q_call (d + 2) 95 [.inr (.inr (.inl (some q))), .inr (.inr (.inl (some (q')))), .inl i, .inl j, .inl n] v G Q = Q (.inr (.inr (.inr ()))) (q_cp v (q' + 1) i.toNat (q + 1) j.toNat n.toNat) G := by
  refine q_call_eq ?_ Q
  have g1 := h.1
  have g2 := h'.1
  simp (disch := first | assumption | omega) only [E95, c_shas, q_push_I, q_push_L, q_push_P, q_push_U]
  obtain ⟨h1, h2, h3, h4, h5⟩ := h
  obtain ⟨k1, k2, k3, k4, k5⟩ := h'
  simp (disch := omega) only [E95, h1, h2, h3, h4, k1, k2, k3, k4]
  repeat' first | (refine And.intro ?_ ?_) | split | rfl | exact True.intro | assumption | omega
end
/-- the reference's loop that empties a sheet -/
theorem s_msheet_loop {d s : Nat} {z2 : q_V} {G : q_Gr} {Q : q_V → q_H → q_Gr → Prop} (hG : gok G) (hs : s < 8) {n : Int} : ∀ (r k : Nat) (v : q_H), k + r = 600 → q_wp d 155 66 [.inr (.inr (.inl (some 137))), .inl s, z2, .inl n, .inl k] [] v G Q = Q (.inl n) (q_fl1 v 140 (600 * s + k) (600 * s + 600) 0) G := by
  intro r
  induction r with
  | zero =>
    intro k v h
    have h : k = 600 := by omega
    subst h
    rw [e_155_66]
    simp only [E155, q_fl1_nil]
    rw [if_pos (by omega)]
    simp only [eq_iff_iff, and_iff_right_iff_imp]
    intro _
    repeat' first | (refine And.intro ?_ ?_) | split | rfl | exact True.intro | assumption | omega
  | succ r ih =>
    intro k v h
    rw [e_155_66]
    simp only [E155, SHM hG]
    rw [if_neg (by omega), show ((k : Int) + 1) = ((k + 1 : Nat) : Int) by omega, ih (k + 1) _ (by omega), show (600 * (s : Int) + (k : Int)).toNat = 600 * s + k by omega, ← Nat.add_assoc, q_fl1_cons _ _ _ _ _ (by omega)]
    simp only [eq_iff_iff]
    constructor
    · rintro ⟨_, _, hq⟩
      simp only [true_and] at *
      exact hq.2
    · intro hq
      repeat' first | (refine And.intro ?_ ?_) | split | rfl | exact True.intro | assumption | omega
theorem twin_mk {d mc mm : Nat} {as : List q_V} {v v1 v2 : q_H} {G : q_Gr} {P : q_H → q_Gr → Prop} {z : Int} (h1 : q_call d mc (.inr (.inr (.inl (some 32))) :: as) v G (fun r v' G' => r = .inl z ∧ v' = v1 ∧ G' = G)) (h2 : q_call d mm (.inr (.inr (.inl (some 137))) :: as) v1 G (fun r v' G' => r = .inl z ∧ v' = v2 ∧ G' = G)) (hz : -2147483648 ≤ z ∧ z ≤ 2147483647) (hP : P v2 G) (hF : ∀ b, b < 32 → v2 b = v b := by intro b hb; simp (disch := omega) only [u_r, fl_r, cp_r]) : twin d mc mm as v G P := by
  unfold twin
  rw [q_call_eq h1, q_call_eq h2]
  exact ⟨z, rfl, rfl, hz.1, hz.2, hP, by omega, by omega, hF, rfl⟩
section
variable {d : Nat} {v : q_H} {G : q_Gr}
theorem op_sheet {a b c : Int} (hI : Inv v G) (ha : -2147483648 ≤ a ∧ a ≤ 2147483647) (hb : -2147483648 ≤ b ∧ b ≤ 2147483647) (hc : -2147483648 ≤ c ∧ c ≤ 2147483647) : twin (d + 8) 118 155 [.inl a, .inl b, .inl c] v G Inv := by
  have hG := hI.1
  have hS := g_sheet hG
  have hL := hI.2.1
  have hT := hI.2.2.1
  have h32 : (G.2.1 32).1 = 10 := by rw [sh_32 hG]
  have h137 : (G.2.1 137).1 = 11 := by rw [sh_137 hG]
  by_cases hv : (0 ≤ a ∧ a ≤ 7) ∧ (0 ≤ b ∧ b ≤ 2) ∧ c ≤ 600
  · obtain ⟨s, rfl⟩ : ∃ s : Nat, a = (s : Int) := ⟨a.toNat, by omega⟩
    have hs : s < 8 := by omega
    by_cases hc0 : c < 0
    · refine twin_mk (z := -1000014) (v1 := q_up v 32 9 4) (v2 := q_up (q_up (q_up (q_up v 32 9 4) 137 0 0) 137 1 0) 137 1 4) ?_ ?_ (by decide) ?_
      · simp (disch := first | omega | assumption | (refine (hS _ ?_).2; omega)) only [E118, (fun s hs => (hS s hs).1), SHC hG, SHM hG, q_push_I, q_push_L, q_push_P, q_push_U, c_within, c_isSheet, c_in, c_sbegin, c_slose, c_smiss, c_slane, c_ssize, c_shas, c_sitem, c_sstore, c_sput, c_found, c_fine, c_finding, Int.toNat_natCast, u_s, u_n, fl_n, fl_i, cp_n, ↓if_pos, ↓if_neg, true_and]
        repeat' first | (refine And.intro ?_ ?_) | rfl | exact True.intro | omega | split | (simp (disch := first | omega | assumption | (refine (hS _ ?_).2; omega)) only [E118, (fun s hs => (hS s hs).1), SHC hG, SHM hG, q_push_I, q_push_L, q_push_P, q_push_U, c_within, c_isSheet, c_in, c_sbegin, c_slose, c_smiss, c_slane, c_ssize, c_shas, c_sitem, c_sstore, c_sput, c_found, c_fine, c_finding, Int.toNat_natCast, u_s, u_n, fl_n, fl_i, cp_n, ↓if_pos, ↓if_neg, true_and])
      · simp (disch := first | omega | assumption | (refine (hS _ ?_).2; omega)) only [E155, (fun s hs => (hS s hs).1), SHC hG, SHM hG, q_push_I, q_push_L, q_push_P, q_push_U, c_within, c_isSheet, c_in, c_sbegin, c_slose, c_smiss, c_slane, c_ssize, c_shas, c_sitem, c_sstore, c_sput, c_found, c_fine, c_finding, Int.toNat_natCast, u_s, u_n, fl_n, fl_i, cp_n, ↓if_pos, ↓if_neg, true_and]
        repeat' first | (refine And.intro ?_ ?_) | rfl | exact True.intro | omega | split | (simp (disch := first | omega | assumption | (refine (hS _ ?_).2; omega)) only [E155, (fun s hs => (hS s hs).1), SHC hG, SHM hG, q_push_I, q_push_L, q_push_P, q_push_U, c_within, c_isSheet, c_in, c_sbegin, c_slose, c_smiss, c_slane, c_ssize, c_shas, c_sitem, c_sstore, c_sput, c_found, c_fine, c_finding, Int.toNat_natCast, u_s, u_n, fl_n, fl_i, cp_n, ↓if_pos, ↓if_neg, true_and])
      · exact Inv_st hI (fun b h1 h2 => by simp (disch := omega) only [u_r]) (fun j h => by simp (disch := omega) only [u_n]) (fun j h1 h2 => by simp (disch := omega) only [u_n]) (by unfold stI; simp (disch := omega) only [u_n, u_s]; decide)
    · refine twin_mk (z := c) (v1 := q_up (q_up (q_up (q_fl1 v (94 + 2 * s + 1) 0 600 0) (94 + 2 * s) 1 b) (94 + 2 * s) 2 c) 32 9 0) (v2 := q_fl1 (q_up (q_up (q_up (q_up (q_up (q_up (q_up (q_fl1 v (94 + 2 * s + 1) 0 600 0) (94 + 2 * s) 1 b) (94 + 2 * s) 2 c) 32 9 0) 137 0 0) 137 1 0) 138 s b) 139 s c) 140 (600 * s) (600 * s + 600) 0) ?_ ?_ (by omega) ?_
      · simp (disch := first | omega | assumption | (refine (hS _ ?_).2; omega)) only [E118, (fun s hs => (hS s hs).1), SHC hG, SHM hG, q_push_I, q_push_L, q_push_P, q_push_U, c_within, c_isSheet, c_in, c_sbegin, c_slose, c_smiss, c_slane, c_ssize, c_shas, c_sitem, c_sstore, c_sput, c_found, c_fine, c_finding, Int.toNat_natCast, u_s, u_n, fl_n, fl_i, cp_n, ↓if_pos, ↓if_neg, true_and]
        repeat' first | (refine And.intro ?_ ?_) | rfl | exact True.intro | omega | split | (simp (disch := first | omega | assumption | (refine (hS _ ?_).2; omega)) only [E118, (fun s hs => (hS s hs).1), SHC hG, SHM hG, q_push_I, q_push_L, q_push_P, q_push_U, c_within, c_isSheet, c_in, c_sbegin, c_slose, c_smiss, c_slane, c_ssize, c_shas, c_sitem, c_sstore, c_sput, c_found, c_fine, c_finding, Int.toNat_natCast, u_s, u_n, fl_n, fl_i, cp_n, ↓if_pos, ↓if_neg, true_and])
      · simp (disch := first | omega | assumption | (refine (hS _ ?_).2; omega)) only [E155, (fun s hs => (hS s hs).1), SHC hG, SHM hG, q_push_I, q_push_L, q_push_P, q_push_U, c_within, c_isSheet, c_in, c_sbegin, c_slose, c_smiss, c_slane, c_ssize, c_shas, c_sitem, c_sstore, c_sput, c_found, c_fine, c_finding, Int.toNat_natCast, u_s, u_n, fl_n, fl_i, cp_n, ↓if_pos, ↓if_neg, true_and]
        rw [show (0 : Int) = ((0 : Nat) : Int) from rfl, s_msheet_loop hG hs 600 0 _ rfl]
        repeat' first | (refine And.intro ?_ ?_) | rfl | exact True.intro | omega | split | (simp (disch := first | omega | assumption | (refine (hS _ ?_).2; omega)) only [E155, (fun s hs => (hS s hs).1), SHC hG, SHM hG, q_push_I, q_push_L, q_push_P, q_push_U, c_within, c_isSheet, c_in, c_sbegin, c_slose, c_smiss, c_slane, c_ssize, c_shas, c_sitem, c_sstore, c_sput, c_found, c_fine, c_finding, Int.toNat_natCast, u_s, u_n, fl_n, fl_i, cp_n, ↓if_pos, ↓if_neg, true_and])
      · refine Inv_sh hI (fun b h1 h2 h3 h4 h5 h6 => by simp (disch := omega) only [u_r, fl_r, cp_r]) (fun j h => by simp (disch := omega) only [u_n, fl_n, cp_n]) (fun j h1 h2 => by simp (disch := omega) only [u_n, fl_n, cp_n]) (by unfold stI; simp (disch := omega) only [u_n, u_s, fl_n, cp_n]; decide) ?_
        intro t ht
        have := hL t ht
        by_cases hts : t = s
        · subst hts
          simp (disch := omega) only [u_n, u_s, fl_n, fl_i]
          refine ⟨by trivial, by omega, by omega, by simp, fun k hk => ?_⟩
          simp (disch := omega) only [u_n, u_s, fl_n, fl_i]
          decide
        · simp (disch := omega) only [u_n, u_s, fl_n, fl_i]
          refine ⟨this.1, this.2.1, this.2.2.1, this.2.2.2.1, fun k hk => ?_⟩
          simp (disch := omega) only [u_n, u_s, fl_n, fl_i]
          exact this.2.2.2.2 k hk
  · refine twin_mk (z := -1000001) (v1 := v) (v2 := q_up v 137 0 0) ?_ ?_ (by decide) ?_
    · simp (disch := first | omega | assumption | (refine (hS _ ?_).2; omega)) only [E118, (fun s hs => (hS s hs).1), SHC hG, SHM hG, q_push_I, q_push_L, q_push_P, q_push_U, c_within, c_isSheet, c_in, c_sbegin, c_slose, c_smiss, c_slane, c_ssize, c_shas, c_sitem, c_sstore, c_sput, c_found, c_fine, c_finding, Int.toNat_natCast, u_s, u_n, fl_n, fl_i, cp_n, ↓if_pos, ↓if_neg, true_and]
      repeat' first | (refine And.intro ?_ ?_) | rfl | exact True.intro | omega | split | (simp (disch := first | omega | assumption | (refine (hS _ ?_).2; omega)) only [E118, (fun s hs => (hS s hs).1), SHC hG, SHM hG, q_push_I, q_push_L, q_push_P, q_push_U, c_within, c_isSheet, c_in, c_sbegin, c_slose, c_smiss, c_slane, c_ssize, c_shas, c_sitem, c_sstore, c_sput, c_found, c_fine, c_finding, Int.toNat_natCast, u_s, u_n, fl_n, fl_i, cp_n, ↓if_pos, ↓if_neg, true_and])
    · simp (disch := first | omega | assumption | (refine (hS _ ?_).2; omega)) only [E155, (fun s hs => (hS s hs).1), SHC hG, SHM hG, q_push_I, q_push_L, q_push_P, q_push_U, c_within, c_isSheet, c_in, c_sbegin, c_slose, c_smiss, c_slane, c_ssize, c_shas, c_sitem, c_sstore, c_sput, c_found, c_fine, c_finding, Int.toNat_natCast, u_s, u_n, fl_n, fl_i, cp_n, ↓if_pos, ↓if_neg, true_and]
      repeat' first | (refine And.intro ?_ ?_) | rfl | exact True.intro | omega | split | (simp (disch := first | omega | assumption | (refine (hS _ ?_).2; omega)) only [E155, (fun s hs => (hS s hs).1), SHC hG, SHM hG, q_push_I, q_push_L, q_push_P, q_push_U, c_within, c_isSheet, c_in, c_sbegin, c_slose, c_smiss, c_slane, c_ssize, c_shas, c_sitem, c_sstore, c_sput, c_found, c_fine, c_finding, Int.toNat_natCast, u_s, u_n, fl_n, fl_i, cp_n, ↓if_pos, ↓if_neg, true_and])
    · exact Inv_st hI (fun b h1 h2 => by simp (disch := omega) only [u_r]) (fun j h => by simp (disch := omega) only [u_n]) (fun j h1 h2 => by simp (disch := omega) only [u_n]) (stI_cg (by simp (disch := omega) only [u_n]) (by simp (disch := omega) only [u_n]) hT)
theorem op_set {a b c : Int} (hI : Inv v G) (ha : -2147483648 ≤ a ∧ a ≤ 2147483647) (hb : -2147483648 ≤ b ∧ b ≤ 2147483647) (hc : -2147483648 ≤ c ∧ c ≤ 2147483647) : twin (d + 8) 119 156 [.inl a, .inl b, .inl c] v G Inv := by
  have hG := hI.1
  have hS := g_sheet hG
  have hL := hI.2.1
  have hT := hI.2.2.1
  have h32 : (G.2.1 32).1 = 10 := by rw [sh_32 hG]
  have h137 : (G.2.1 137).1 = 11 := by rw [sh_137 hG]
  by_cases hv : (0 ≤ a ∧ a ≤ 7)
  · obtain ⟨s, rfl⟩ : ∃ s : Nat, a = (s : Int) := ⟨a.toNat, by omega⟩
    have hs : s < 8 := by omega
    obtain ⟨l1, l2, l3, l4, l5⟩ := hL s hs
    by_cases hm : v (94 + 2 * s) 1 = -1
    · refine twin_mk (z := -1000011) (v1 := q_up v 32 9 1) (v2 := q_up (q_up (q_up (q_up v 32 9 1) 137 0 0) 137 1 0) 137 1 1) ?_ ?_ (by decide) ?_
      · simp (disch := first | omega | assumption | (refine (hS _ ?_).2; omega)) only [E119, (fun s hs => (hS s hs).1), SHC hG, SHM hG, q_push_I, q_push_L, q_push_P, q_push_U, c_within, c_isSheet, c_in, c_sbegin, c_slose, c_smiss, c_slane, c_ssize, c_shas, c_sitem, c_sstore, c_sput, c_found, c_fine, c_finding, Int.toNat_natCast, u_s, u_n, fl_n, fl_i, cp_n, ↓if_pos, ↓if_neg, true_and]
        repeat' first | (refine And.intro ?_ ?_) | rfl | exact True.intro | omega | split | (simp (disch := first | omega | assumption | (refine (hS _ ?_).2; omega)) only [E119, (fun s hs => (hS s hs).1), SHC hG, SHM hG, q_push_I, q_push_L, q_push_P, q_push_U, c_within, c_isSheet, c_in, c_sbegin, c_slose, c_smiss, c_slane, c_ssize, c_shas, c_sitem, c_sstore, c_sput, c_found, c_fine, c_finding, Int.toNat_natCast, u_s, u_n, fl_n, fl_i, cp_n, ↓if_pos, ↓if_neg, true_and])
      · simp (disch := first | omega | assumption | (refine (hS _ ?_).2; omega)) only [E156, (fun s hs => (hS s hs).1), SHC hG, SHM hG, q_push_I, q_push_L, q_push_P, q_push_U, c_within, c_isSheet, c_in, c_sbegin, c_slose, c_smiss, c_slane, c_ssize, c_shas, c_sitem, c_sstore, c_sput, c_found, c_fine, c_finding, Int.toNat_natCast, u_s, u_n, fl_n, fl_i, cp_n, ↓if_pos, ↓if_neg, true_and]
        repeat' first | (refine And.intro ?_ ?_) | rfl | exact True.intro | omega | split | (simp (disch := first | omega | assumption | (refine (hS _ ?_).2; omega)) only [E156, (fun s hs => (hS s hs).1), SHC hG, SHM hG, q_push_I, q_push_L, q_push_P, q_push_U, c_within, c_isSheet, c_in, c_sbegin, c_slose, c_smiss, c_slane, c_ssize, c_shas, c_sitem, c_sstore, c_sput, c_found, c_fine, c_finding, Int.toNat_natCast, u_s, u_n, fl_n, fl_i, cp_n, ↓if_pos, ↓if_neg, true_and])
      · exact Inv_st hI (fun b h1 h2 => by simp (disch := omega) only [u_r]) (fun j h => by simp (disch := omega) only [u_n]) (fun j h1 h2 => by simp (disch := omega) only [u_n]) (by unfold stI; simp (disch := omega) only [u_n, u_s]; decide)
    · have l4 := l4 (by omega)
      by_cases hb2 : 0 ≤ b ∧ b < v (94 + 2 * s) 2
      · have hbl := bl_rng (l := v (94 + 2 * s) 1) hc.1 hc.2
        refine twin_mk (z := bl (v (94 + 2 * s) 1) c) (v1 := q_up (q_up v (94 + 2 * s + 1) b.toNat (bl (v (94 + 2 * s) 1) c)) 32 9 0) (v2 := q_up (q_up (q_up (q_up (q_up v (94 + 2 * s + 1) b.toNat (bl (v (94 + 2 * s) 1) c)) 32 9 0) 137 0 0) 137 1 0) 140 (600 * s + b.toNat) (bl (v (94 + 2 * s) 1) c)) ?_ ?_ (by omega) ?_
        · simp (disch := first | omega | assumption | (refine (hS _ ?_).2; omega)) only [E119, (fun s hs => (hS s hs).1), SHC hG, SHM hG, q_push_I, q_push_L, q_push_P, q_push_U, c_within, c_isSheet, c_in, c_sbegin, c_slose, c_smiss, c_slane, c_ssize, c_shas, c_sitem, c_sstore, c_sput, c_found, c_fine, c_finding, Int.toNat_natCast, u_s, u_n, fl_n, fl_i, cp_n, ↓if_pos, ↓if_neg, true_and]
          repeat' first | (refine And.intro ?_ ?_) | rfl | exact True.intro | omega | split | (simp (disch := first | omega | assumption | (refine (hS _ ?_).2; omega)) only [E119, (fun s hs => (hS s hs).1), SHC hG, SHM hG, q_push_I, q_push_L, q_push_P, q_push_U, c_within, c_isSheet, c_in, c_sbegin, c_slose, c_smiss, c_slane, c_ssize, c_shas, c_sitem, c_sstore, c_sput, c_found, c_fine, c_finding, Int.toNat_natCast, u_s, u_n, fl_n, fl_i, cp_n, ↓if_pos, ↓if_neg, true_and])
        · simp (disch := first | omega | assumption | (refine (hS _ ?_).2; omega)) only [E156, (fun s hs => (hS s hs).1), SHC hG, SHM hG, q_push_I, q_push_L, q_push_P, q_push_U, c_within, c_isSheet, c_in, c_sbegin, c_slose, c_smiss, c_slane, c_ssize, c_shas, c_sitem, c_sstore, c_sput, c_found, c_fine, c_finding, Int.toNat_natCast, u_s, u_n, fl_n, fl_i, cp_n, ↓if_pos, ↓if_neg, true_and, show (600 * (s : Int) + b).toNat = 600 * s + b.toNat by omega, l1]
          unfold bl b8 b16
          repeat' first | (refine And.intro ?_ ?_) | rfl | exact True.intro | omega | split | (simp (disch := first | omega | assumption | (refine (hS _ ?_).2; omega)) only [E156, (fun s hs => (hS s hs).1), SHC hG, SHM hG, q_push_I, q_push_L, q_push_P, q_push_U, c_within, c_isSheet, c_in, c_sbegin, c_slose, c_smiss, c_slane, c_ssize, c_shas, c_sitem, c_sstore, c_sput, c_found, c_fine, c_finding, Int.toNat_natCast, u_s, u_n, fl_n, fl_i, cp_n, ↓if_pos, ↓if_neg, true_and, show (600 * (s : Int) + b).toNat = 600 * s + b.toNat by omega, l1])
        · refine Inv_sh hI (fun b h1 h2 h3 h4 h5 h6 => by simp (disch := omega) only [u_r, fl_r, cp_r]) (fun j h => by simp (disch := omega) only [u_n, fl_n, cp_n]) (fun j h1 h2 => by simp (disch := omega) only [u_n, fl_n, cp_n]) (by unfold stI; simp (disch := omega) only [u_n, u_s, fl_n, cp_n]; decide) ?_
          intro t ht
          have := hL t ht
          simp (disch := omega) only [u_n]
          refine ⟨this.1, this.2.1, this.2.2.1, this.2.2.2.1, fun k hk => ?_⟩
          by_cases hts : t = s ∧ k = b.toNat
          · obtain ⟨rfl, rfl⟩ := hts
            simp (disch := omega) only [u_n, u_s]
            exact ⟨by trivial, hbl.1, hbl.2⟩
          · simp (disch := omega) only [u_n]
            exact this.2.2.2.2 k hk
      · refine twin_mk (z := -1000012) (v1 := q_up v 32 9 2) (v2 := q_up (q_up (q_up (q_up v 32 9 2) 137 0 0) 137 1 0) 137 1 2) ?_ ?_ (by decide) ?_
        · simp (disch := first | omega | assumption | (refine (hS _ ?_).2; omega)) only [E119, (fun s hs => (hS s hs).1), SHC hG, SHM hG, q_push_I, q_push_L, q_push_P, q_push_U, c_within, c_isSheet, c_in, c_sbegin, c_slose, c_smiss, c_slane, c_ssize, c_shas, c_sitem, c_sstore, c_sput, c_found, c_fine, c_finding, Int.toNat_natCast, u_s, u_n, fl_n, fl_i, cp_n, ↓if_pos, ↓if_neg, true_and]
          repeat' first | (refine And.intro ?_ ?_) | rfl | exact True.intro | omega | split | (simp (disch := first | omega | assumption | (refine (hS _ ?_).2; omega)) only [E119, (fun s hs => (hS s hs).1), SHC hG, SHM hG, q_push_I, q_push_L, q_push_P, q_push_U, c_within, c_isSheet, c_in, c_sbegin, c_slose, c_smiss, c_slane, c_ssize, c_shas, c_sitem, c_sstore, c_sput, c_found, c_fine, c_finding, Int.toNat_natCast, u_s, u_n, fl_n, fl_i, cp_n, ↓if_pos, ↓if_neg, true_and])
        · simp (disch := first | omega | assumption | (refine (hS _ ?_).2; omega)) only [E156, (fun s hs => (hS s hs).1), SHC hG, SHM hG, q_push_I, q_push_L, q_push_P, q_push_U, c_within, c_isSheet, c_in, c_sbegin, c_slose, c_smiss, c_slane, c_ssize, c_shas, c_sitem, c_sstore, c_sput, c_found, c_fine, c_finding, Int.toNat_natCast, u_s, u_n, fl_n, fl_i, cp_n, ↓if_pos, ↓if_neg, true_and]
          repeat' first | (refine And.intro ?_ ?_) | rfl | exact True.intro | omega | split | (simp (disch := first | omega | assumption | (refine (hS _ ?_).2; omega)) only [E156, (fun s hs => (hS s hs).1), SHC hG, SHM hG, q_push_I, q_push_L, q_push_P, q_push_U, c_within, c_isSheet, c_in, c_sbegin, c_slose, c_smiss, c_slane, c_ssize, c_shas, c_sitem, c_sstore, c_sput, c_found, c_fine, c_finding, Int.toNat_natCast, u_s, u_n, fl_n, fl_i, cp_n, ↓if_pos, ↓if_neg, true_and])
        · exact Inv_st hI (fun b h1 h2 => by simp (disch := omega) only [u_r]) (fun j h => by simp (disch := omega) only [u_n]) (fun j h1 h2 => by simp (disch := omega) only [u_n]) (by unfold stI; simp (disch := omega) only [u_n, u_s]; decide)
  · refine twin_mk (z := -1000001) (v1 := v) (v2 := q_up v 137 0 0) ?_ ?_ (by decide) ?_
    · simp (disch := first | omega | assumption | (refine (hS _ ?_).2; omega)) only [E119, (fun s hs => (hS s hs).1), SHC hG, SHM hG, q_push_I, q_push_L, q_push_P, q_push_U, c_within, c_isSheet, c_in, c_sbegin, c_slose, c_smiss, c_slane, c_ssize, c_shas, c_sitem, c_sstore, c_sput, c_found, c_fine, c_finding, Int.toNat_natCast, u_s, u_n, fl_n, fl_i, cp_n, ↓if_pos, ↓if_neg, true_and]
      repeat' first | (refine And.intro ?_ ?_) | rfl | exact True.intro | omega | split | (simp (disch := first | omega | assumption | (refine (hS _ ?_).2; omega)) only [E119, (fun s hs => (hS s hs).1), SHC hG, SHM hG, q_push_I, q_push_L, q_push_P, q_push_U, c_within, c_isSheet, c_in, c_sbegin, c_slose, c_smiss, c_slane, c_ssize, c_shas, c_sitem, c_sstore, c_sput, c_found, c_fine, c_finding, Int.toNat_natCast, u_s, u_n, fl_n, fl_i, cp_n, ↓if_pos, ↓if_neg, true_and])
    · simp (disch := first | omega | assumption | (refine (hS _ ?_).2; omega)) only [E156, (fun s hs => (hS s hs).1), SHC hG, SHM hG, q_push_I, q_push_L, q_push_P, q_push_U, c_within, c_isSheet, c_in, c_sbegin, c_slose, c_smiss, c_slane, c_ssize, c_shas, c_sitem, c_sstore, c_sput, c_found, c_fine, c_finding, Int.toNat_natCast, u_s, u_n, fl_n, fl_i, cp_n, ↓if_pos, ↓if_neg, true_and]
      repeat' first | (refine And.intro ?_ ?_) | rfl | exact True.intro | omega | split | (simp (disch := first | omega | assumption | (refine (hS _ ?_).2; omega)) only [E156, (fun s hs => (hS s hs).1), SHC hG, SHM hG, q_push_I, q_push_L, q_push_P, q_push_U, c_within, c_isSheet, c_in, c_sbegin, c_slose, c_smiss, c_slane, c_ssize, c_shas, c_sitem, c_sstore, c_sput, c_found, c_fine, c_finding, Int.toNat_natCast, u_s, u_n, fl_n, fl_i, cp_n, ↓if_pos, ↓if_neg, true_and])
    · exact Inv_st hI (fun b h1 h2 => by simp (disch := omega) only [u_r]) (fun j h => by simp (disch := omega) only [u_n]) (fun j h1 h2 => by simp (disch := omega) only [u_n]) (stI_cg (by simp (disch := omega) only [u_n]) (by simp (disch := omega) only [u_n]) hT)
theorem op_drop {a : Int} (hI : Inv v G) (ha : -2147483648 ≤ a ∧ a ≤ 2147483647) : twin (d + 8) 121 158 [.inl a] v G Inv := by
  have hG := hI.1
  have hS := g_sheet hG
  have hL := hI.2.1
  have hT := hI.2.2.1
  have h32 : (G.2.1 32).1 = 10 := by rw [sh_32 hG]
  have h137 : (G.2.1 137).1 = 11 := by rw [sh_137 hG]
  by_cases hv : (0 ≤ a ∧ a ≤ 7)
  · obtain ⟨s, rfl⟩ : ∃ s : Nat, a = (s : Int) := ⟨a.toNat, by omega⟩
    have hs : s < 8 := by omega
    obtain ⟨l1, l2, l3, l4, l5⟩ := hL s hs
    by_cases hm : v (94 + 2 * s) 1 = -1
    · refine twin_mk (z := -1000011) (v1 := q_up v 32 9 1) (v2 := q_up (q_up (q_up (q_up v 32 9 1) 137 0 0) 137 1 0) 137 1 1) ?_ ?_ (by decide) ?_
      · simp (disch := first | omega | assumption | (refine (hS _ ?_).2; omega)) only [E121, (fun s hs => (hS s hs).1), SHC hG, SHM hG, q_push_I, q_push_L, q_push_P, q_push_U, c_within, c_isSheet, c_in, c_sbegin, c_slose, c_smiss, c_slane, c_ssize, c_shas, c_sitem, c_sstore, c_sput, c_found, c_fine, c_finding, Int.toNat_natCast, u_s, u_n, fl_n, fl_i, cp_n, ↓if_pos, ↓if_neg, true_and]
        repeat' first | (refine And.intro ?_ ?_) | rfl | exact True.intro | omega | split | (simp (disch := first | omega | assumption | (refine (hS _ ?_).2; omega)) only [E121, (fun s hs => (hS s hs).1), SHC hG, SHM hG, q_push_I, q_push_L, q_push_P, q_push_U, c_within, c_isSheet, c_in, c_sbegin, c_slose, c_smiss, c_slane, c_ssize, c_shas, c_sitem, c_sstore, c_sput, c_found, c_fine, c_finding, Int.toNat_natCast, u_s, u_n, fl_n, fl_i, cp_n, ↓if_pos, ↓if_neg, true_and])
      · simp (disch := first | omega | assumption | (refine (hS _ ?_).2; omega)) only [E158, (fun s hs => (hS s hs).1), SHC hG, SHM hG, q_push_I, q_push_L, q_push_P, q_push_U, c_within, c_isSheet, c_in, c_sbegin, c_slose, c_smiss, c_slane, c_ssize, c_shas, c_sitem, c_sstore, c_sput, c_found, c_fine, c_finding, Int.toNat_natCast, u_s, u_n, fl_n, fl_i, cp_n, ↓if_pos, ↓if_neg, true_and]
        repeat' first | (refine And.intro ?_ ?_) | rfl | exact True.intro | omega | split | (simp (disch := first | omega | assumption | (refine (hS _ ?_).2; omega)) only [E158, (fun s hs => (hS s hs).1), SHC hG, SHM hG, q_push_I, q_push_L, q_push_P, q_push_U, c_within, c_isSheet, c_in, c_sbegin, c_slose, c_smiss, c_slane, c_ssize, c_shas, c_sitem, c_sstore, c_sput, c_found, c_fine, c_finding, Int.toNat_natCast, u_s, u_n, fl_n, fl_i, cp_n, ↓if_pos, ↓if_neg, true_and])
      · exact Inv_st hI (fun b h1 h2 => by simp (disch := omega) only [u_r]) (fun j h => by simp (disch := omega) only [u_n]) (fun j h1 h2 => by simp (disch := omega) only [u_n]) (by unfold stI; simp (disch := omega) only [u_n, u_s]; decide)
    · have l4 := l4 (by omega)
      refine twin_mk (z := v (94 + 2 * s) 2) (v1 := q_up (q_up (q_up v (94 + 2 * s) 1 (-1)) (94 + 2 * s) 2 0) 32 9 0) (v2 := q_up (q_up (q_up (q_up (q_up (q_up v (94 + 2 * s) 1 (-1)) (94 + 2 * s) 2 0) 32 9 0) 137 0 0) 137 1 0) 138 s (-1)) ?_ ?_ (by omega) ?_
      · simp (disch := first | omega | assumption | (refine (hS _ ?_).2; omega)) only [E121, (fun s hs => (hS s hs).1), SHC hG, SHM hG, q_push_I, q_push_L, q_push_P, q_push_U, c_within, c_isSheet, c_in, c_sbegin, c_slose, c_smiss, c_slane, c_ssize, c_shas, c_sitem, c_sstore, c_sput, c_found, c_fine, c_finding, Int.toNat_natCast, u_s, u_n, fl_n, fl_i, cp_n, ↓if_pos, ↓if_neg, true_and]
        repeat' first | (refine And.intro ?_ ?_) | rfl | exact True.intro | omega | split | (simp (disch := first | omega | assumption | (refine (hS _ ?_).2; omega)) only [E121, (fun s hs => (hS s hs).1), SHC hG, SHM hG, q_push_I, q_push_L, q_push_P, q_push_U, c_within, c_isSheet, c_in, c_sbegin, c_slose, c_smiss, c_slane, c_ssize, c_shas, c_sitem, c_sstore, c_sput, c_found, c_fine, c_finding, Int.toNat_natCast, u_s, u_n, fl_n, fl_i, cp_n, ↓if_pos, ↓if_neg, true_and])
      · simp (disch := first | omega | assumption | (refine (hS _ ?_).2; omega)) only [E158, (fun s hs => (hS s hs).1), SHC hG, SHM hG, q_push_I, q_push_L, q_push_P, q_push_U, c_within, c_isSheet, c_in, c_sbegin, c_slose, c_smiss, c_slane, c_ssize, c_shas, c_sitem, c_sstore, c_sput, c_found, c_fine, c_finding, Int.toNat_natCast, u_s, u_n, fl_n, fl_i, cp_n, ↓if_pos, ↓if_neg, true_and, l4]
        repeat' first | (refine And.intro ?_ ?_) | rfl | exact True.intro | omega | split | (simp (disch := first | omega | assumption | (refine (hS _ ?_).2; omega)) only [E158, (fun s hs => (hS s hs).1), SHC hG, SHM hG, q_push_I, q_push_L, q_push_P, q_push_U, c_within, c_isSheet, c_in, c_sbegin, c_slose, c_smiss, c_slane, c_ssize, c_shas, c_sitem, c_sstore, c_sput, c_found, c_fine, c_finding, Int.toNat_natCast, u_s, u_n, fl_n, fl_i, cp_n, ↓if_pos, ↓if_neg, true_and])
      · refine Inv_sh hI (fun b h1 h2 h3 h4 h5 h6 => by simp (disch := omega) only [u_r, fl_r, cp_r]) (fun j h => by simp (disch := omega) only [u_n, fl_n, cp_n]) (fun j h1 h2 => by simp (disch := omega) only [u_n, fl_n, cp_n]) (by unfold stI; simp (disch := omega) only [u_n, u_s, fl_n, cp_n]; decide) ?_
        intro t ht
        have := hL t ht
        by_cases hts : t = s
        · subst hts
          simp (disch := omega) only [u_n, u_s]
          exact ⟨by trivial, by omega, by omega, by omega, l5⟩
        · simp (disch := omega) only [u_n]
          exact this
  · refine twin_mk (z := -1000001) (v1 := v) (v2 := q_up v 137 0 0) ?_ ?_ (by decide) ?_
    · simp (disch := first | omega | assumption | (refine (hS _ ?_).2; omega)) only [E121, (fun s hs => (hS s hs).1), SHC hG, SHM hG, q_push_I, q_push_L, q_push_P, q_push_U, c_within, c_isSheet, c_in, c_sbegin, c_slose, c_smiss, c_slane, c_ssize, c_shas, c_sitem, c_sstore, c_sput, c_found, c_fine, c_finding, Int.toNat_natCast, u_s, u_n, fl_n, fl_i, cp_n, ↓if_pos, ↓if_neg, true_and]
      repeat' first | (refine And.intro ?_ ?_) | rfl | exact True.intro | omega | split | (simp (disch := first | omega | assumption | (refine (hS _ ?_).2; omega)) only [E121, (fun s hs => (hS s hs).1), SHC hG, SHM hG, q_push_I, q_push_L, q_push_P, q_push_U, c_within, c_isSheet, c_in, c_sbegin, c_slose, c_smiss, c_slane, c_ssize, c_shas, c_sitem, c_sstore, c_sput, c_found, c_fine, c_finding, Int.toNat_natCast, u_s, u_n, fl_n, fl_i, cp_n, ↓if_pos, ↓if_neg, true_and])
    · simp (disch := first | omega | assumption | (refine (hS _ ?_).2; omega)) only [E158, (fun s hs => (hS s hs).1), SHC hG, SHM hG, q_push_I, q_push_L, q_push_P, q_push_U, c_within, c_isSheet, c_in, c_sbegin, c_slose, c_smiss, c_slane, c_ssize, c_shas, c_sitem, c_sstore, c_sput, c_found, c_fine, c_finding, Int.toNat_natCast, u_s, u_n, fl_n, fl_i, cp_n, ↓if_pos, ↓if_neg, true_and]
      repeat' first | (refine And.intro ?_ ?_) | rfl | exact True.intro | omega | split | (simp (disch := first | omega | assumption | (refine (hS _ ?_).2; omega)) only [E158, (fun s hs => (hS s hs).1), SHC hG, SHM hG, q_push_I, q_push_L, q_push_P, q_push_U, c_within, c_isSheet, c_in, c_sbegin, c_slose, c_smiss, c_slane, c_ssize, c_shas, c_sitem, c_sstore, c_sput, c_found, c_fine, c_finding, Int.toNat_natCast, u_s, u_n, fl_n, fl_i, cp_n, ↓if_pos, ↓if_neg, true_and])
    · exact Inv_st hI (fun b h1 h2 => by simp (disch := omega) only [u_r]) (fun j h => by simp (disch := omega) only [u_n]) (fun j h1 h2 => by simp (disch := omega) only [u_n]) (stI_cg (by simp (disch := omega) only [u_n]) (by simp (disch := omega) only [u_n]) hT)
theorem cp_up {v : q_H} {A B k : Nat} (h : B ≤ A ∨ A + k < B) : q_up (q_cp v 140 A 140 B k) 140 (B + k) (q_cp v 140 A 140 B k 140 (A + k)) = q_cp v 140 A 140 B (k + 1) := by
  rw [cp_n (by omega)]
  funext c m
  by_cases hc : c = 140
  · subst hc
    by_cases h1 : m = B + k
    · subst h1
      rw [u_s rfl rfl, cp_i rfl (by omega) (by omega), show B + k - B = k by omega]
    · rw [u_n (by omega)]
      by_cases h2 : B ≤ m ∧ m < B + k
      · rw [cp_i rfl h2.1 h2.2, cp_i rfl h2.1 (by omega)]
      · rw [cp_n (by omega), cp_n (by omega)]
  · rw [u_n (by omega), cp_n (by omega), cp_n (by omega)]
theorem cp_dn {v : q_H} {A B k : Nat} (h : A ≤ B ∨ B + k < A) : q_up (q_cp v 140 (A + 1) 140 (B + 1) k) 140 B (q_cp v 140 (A + 1) 140 (B + 1) k 140 A) = q_cp v 140 A 140 B (k + 1) := by
  rw [cp_n (by omega)]
  funext c m
  by_cases hc : c = 140
  · subst hc
    by_cases h1 : m = B
    · subst h1
      rw [u_s rfl rfl, cp_i rfl (by omega) (by omega), Nat.sub_self]
      rfl
    · rw [u_n (by omega)]
      by_cases h2 : B + 1 ≤ m ∧ m < B + 1 + k
      · rw [cp_i rfl h2.1 h2.2, cp_i rfl (by omega) (by omega), show A + 1 + (m - (B + 1)) = A + (m - B) by omega]
      · rw [cp_n (by omega), cp_n (by omega)]
  · rw [u_n (by omega), cp_n (by omega), cp_n (by omega)]
theorem s_mcopy_up {Q : q_V → q_H → q_Gr → Prop} (hG : gok G) {a b i j n : Nat} (ha : a < 8) (hb : b < 8) (hi : i + n ≤ 600) (hj : j + n ≤ 600) (hs : a = b → j ≤ i) (hQ : Q (.inl n) (q_cp v 140 (600 * a + i) 140 (600 * b + j) n) G) : ∀ (r k : Nat) (z8 : q_V), k + r = n → q_wp d 157 143 [.inr (.inr (.inl (some 137))), .inl a, .inl i, .inl b, .inl j, .inl n, .inl 1, .inl k, z8] [] (q_cp v 140 (600 * a + i) 140 (600 * b + j) k) G Q := by
  intro r
  induction r with
  | zero =>
    intro k z8 h
    have h : k = n := by omega
    subst h
    rw [e_157_143]
    simp only [E157]
    rw [if_pos (by omega)]
    repeat' first | (refine And.intro ?_ ?_) | split | rfl | exact True.intro | assumption | omega
  | succ r ih =>
    intro k z8 h
    rw [e_157_143]
    simp only [E157, SHM hG]
    rw [if_neg (by omega), if_neg (by omega), show (600 * (b : Int) + (j : Int) + (k : Int)).toNat = 600 * b + j + k by omega, show (600 * (a : Int) + (i : Int) + (k : Int)).toNat = 600 * a + i + k by omega, cp_up (by omega), show ((k : Int) + 1) = ((k + 1 : Nat) : Int) by omega]
    have := ih (k + 1) (.inl k) (by omega)
    repeat' first | (refine And.intro ?_ ?_) | split | rfl | exact True.intro | assumption | omega
theorem s_mcopy_dn {Q : q_V → q_H → q_Gr → Prop} (hG : gok G) {a b i j n : Nat} (ha : a < 8) (hb : b < 8) (hi : i + n ≤ 600) (hj : j + n ≤ 600) (hs : i < j) (hQ : Q (.inl n) (q_cp v 140 (600 * a + i) 140 (600 * b + j) n) G) : ∀ (r k : Nat) (z8 : q_V), k + r = n → q_wp d 157 143 [.inr (.inr (.inl (some 137))), .inl a, .inl i, .inl b, .inl j, .inl n, .inl 0, .inl k, z8] [] (q_cp v 140 (600 * a + i + r) 140 (600 * b + j + r) k) G Q := by
  intro r
  induction r with
  | zero =>
    intro k z8 h
    have h : k = n := by omega
    subst h
    rw [e_157_143]
    simp only [E157]
    rw [if_pos (by omega)]
    repeat' first | (refine And.intro ?_ ?_) | split | rfl | exact True.intro | assumption | omega
  | succ r ih =>
    intro k z8 h
    rw [e_157_143]
    simp only [E157, SHM hG]
    rw [if_neg (by omega), if_pos (by first | trivial | omega), show (600 * (b : Int) + (j : Int) + ((n : Int) - 1 - (k : Int))).toNat = 600 * b + j + r by omega, show (600 * (a : Int) + (i : Int) + ((n : Int) - 1 - (k : Int))).toNat = 600 * a + i + r by omega, ← Nat.add_assoc, ← Nat.add_assoc, cp_dn (by omega), show ((k : Int) + 1) = ((k + 1 : Nat) : Int) by omega]
    have := ih (k + 1) (.inl ((n : Int) - 1 - (k : Int))) (by omega)
    repeat' first | (refine And.intro ?_ ?_) | split | rfl | exact True.intro | assumption | omega
theorem op_copy {a i b j n : Int} (hI : Inv v G) (ha : -2147483648 ≤ a ∧ a ≤ 2147483647) (hi : -2147483648 ≤ i ∧ i ≤ 2147483647) (hb : -2147483648 ≤ b ∧ b ≤ 2147483647) (hj : -2147483648 ≤ j ∧ j ≤ 2147483647) (hn : -2147483648 ≤ n ∧ n ≤ 2147483647) : twin (d + 8) 120 157 [.inl a, .inl i, .inl b, .inl j, .inl n] v G Inv := by
  have hG := hI.1
  have hS := g_sheet hG
  have hL := hI.2.1
  have hT := hI.2.2.1
  have h32 : (G.2.1 32).1 = 10 := by rw [sh_32 hG]
  have h137 : (G.2.1 137).1 = 11 := by rw [sh_137 hG]
  by_cases hv : (0 ≤ a ∧ a ≤ 7) ∧ (0 ≤ b ∧ b ≤ 7)
  · obtain ⟨s, rfl⟩ : ∃ s : Nat, a = (s : Int) := ⟨a.toNat, by omega⟩
    obtain ⟨t, rfl⟩ : ∃ s : Nat, b = (s : Int) := ⟨b.toNat, by omega⟩
    have hs : s < 8 := by omega
    have ht : t < 8 := by omega
    obtain ⟨l1, l2, l3, l4, l5⟩ := hL s hs
    obtain ⟨k1, k2, k3, k4, k5⟩ := hL t ht
    by_cases hm : v (94 + 2 * s) 1 = -1 ∨ v (94 + 2 * t) 1 = -1
    · refine twin_mk (z := -1000011) (v1 := q_up v 32 9 1) (v2 := q_up (q_up (q_up (q_up v 32 9 1) 137 0 0) 137 1 0) 137 1 1) ?_ ?_ (by decide) ?_
      · simp (disch := first | omega | assumption | (refine (hS _ ?_).2; omega)) only [E120, (fun s hs => (hS s hs).1), SHC hG, SHM hG, q_push_I, q_push_L, q_push_P, q_push_U, c_within, c_isSheet, c_in, c_sbegin, c_slose, c_smiss, c_slane, c_ssize, c_shas, c_sitem, c_sstore, c_sput, c_found, c_fine, c_finding, Int.toNat_natCast, u_s, u_n, fl_n, fl_i, cp_n, ↓if_pos, ↓if_neg, true_and]
        repeat' first | (refine And.intro ?_ ?_) | rfl | exact True.intro | omega | split | (simp (disch := first | omega | assumption | (refine (hS _ ?_).2; omega)) only [E120, (fun s hs => (hS s hs).1), SHC hG, SHM hG, q_push_I, q_push_L, q_push_P, q_push_U, c_within, c_isSheet, c_in, c_sbegin, c_slose, c_smiss, c_slane, c_ssize, c_shas, c_sitem, c_sstore, c_sput, c_found, c_fine, c_finding, Int.toNat_natCast, u_s, u_n, fl_n, fl_i, cp_n, ↓if_pos, ↓if_neg, true_and])
      · simp (disch := first | omega | assumption | (refine (hS _ ?_).2; omega)) only [E157, (fun s hs => (hS s hs).1), SHC hG, SHM hG, q_push_I, q_push_L, q_push_P, q_push_U, c_within, c_isSheet, c_in, c_sbegin, c_slose, c_smiss, c_slane, c_ssize, c_shas, c_sitem, c_sstore, c_sput, c_found, c_fine, c_finding, Int.toNat_natCast, u_s, u_n, fl_n, fl_i, cp_n, ↓if_pos, ↓if_neg, true_and]
        repeat' first | (refine And.intro ?_ ?_) | rfl | exact True.intro | omega | split | (simp (disch := first | omega | assumption | (refine (hS _ ?_).2; omega)) only [E157, (fun s hs => (hS s hs).1), SHC hG, SHM hG, q_push_I, q_push_L, q_push_P, q_push_U, c_within, c_isSheet, c_in, c_sbegin, c_slose, c_smiss, c_slane, c_ssize, c_shas, c_sitem, c_sstore, c_sput, c_found, c_fine, c_finding, Int.toNat_natCast, u_s, u_n, fl_n, fl_i, cp_n, ↓if_pos, ↓if_neg, true_and])
      · exact Inv_st hI (fun b h1 h2 => by simp (disch := omega) only [u_r]) (fun j h => by simp (disch := omega) only [u_n]) (fun j h1 h2 => by simp (disch := omega) only [u_n]) (by unfold stI; simp (disch := omega) only [u_n, u_s]; decide)
    · have l4 := l4 (by omega)
      have k4 := k4 (by omega)
      by_cases hlane : v (94 + 2 * s) 1 = v (94 + 2 * t) 1
      · by_cases hp : 0 ≤ i ∧ 0 ≤ j ∧ 0 ≤ n ∧ i + n ≤ v (94 + 2 * s) 2 ∧ j + n ≤ v (94 + 2 * t) 2
        · obtain ⟨i, rfl⟩ : ∃ s : Nat, i = (s : Int) := ⟨i.toNat, by omega⟩
          obtain ⟨j, rfl⟩ : ∃ s : Nat, j = (s : Int) := ⟨j.toNat, by omega⟩
          obtain ⟨n, rfl⟩ : ∃ s : Nat, n = (s : Int) := ⟨n.toNat, by omega⟩
          refine twin_mk (z := n) (v1 := q_up (q_cp v (94 + 2 * s + 1) i (94 + 2 * t + 1) j n) 32 9 0) (v2 := q_cp (q_up (q_up (q_up (q_cp v (94 + 2 * s + 1) i (94 + 2 * t + 1) j n) 32 9 0) 137 0 0) 137 1 0) 140 (600 * s + i) 140 (600 * t + j) n) ?_ ?_ (by omega) ?_
          · simp (disch := first | omega | assumption | (refine (hS _ ?_).2; omega)) only [E120, (fun s hs => (hS s hs).1), SHC hG, SHM hG, q_push_I, q_push_L, q_push_P, q_push_U, c_within, c_isSheet, c_in, c_sbegin, c_slose, c_smiss, c_slane, c_ssize, c_shas, c_sitem, c_sstore, c_sput, c_found, c_fine, c_finding, Int.toNat_natCast, u_s, u_n, fl_n, fl_i, cp_n, ↓if_pos, ↓if_neg, true_and]
            repeat' first | (refine And.intro ?_ ?_) | rfl | exact True.intro | omega | split | (simp (disch := first | omega | assumption | (refine (hS _ ?_).2; omega)) only [E120, (fun s hs => (hS s hs).1), SHC hG, SHM hG, q_push_I, q_push_L, q_push_P, q_push_U, c_within, c_isSheet, c_in, c_sbegin, c_slose, c_smiss, c_slane, c_ssize, c_shas, c_sitem, c_sstore, c_sput, c_found, c_fine, c_finding, Int.toNat_natCast, u_s, u_n, fl_n, fl_i, cp_n, ↓if_pos, ↓if_neg, true_and])
          · by_cases hij : i < j
            · have key := s_mcopy_dn (d := d + 7) (v := q_up (q_up (q_up (q_cp v (94 + 2 * s + 1) i (94 + 2 * t + 1) j n) 32 9 0) 137 0 0) 137 1 0) (Q := fun r v' G' => r = .inl ((n : Int)) ∧ v' = q_cp (q_up (q_up (q_up (q_cp v (94 + 2 * s + 1) i (94 + 2 * t + 1) j n) 32 9 0) 137 0 0) 137 1 0) 140 (600 * s + i) 140 (600 * t + j) n ∧ G' = G) hG hs ht (show i + n ≤ 600 by omega) (show j + n ≤ 600 by omega) hij ⟨rfl, rfl, rfl⟩ n 0 (.inr (.inr (.inr ()))) (by omega)
              rw [cp_0] at key
              simp (disch := first | omega | assumption | (refine (hS _ ?_).2; omega)) only [E157, (fun s hs => (hS s hs).1), SHC hG, SHM hG, q_push_I, q_push_L, q_push_P, q_push_U, c_within, c_isSheet, c_in, c_sbegin, c_slose, c_smiss, c_slane, c_ssize, c_shas, c_sitem, c_sstore, c_sput, c_found, c_fine, c_finding, Int.toNat_natCast, u_s, u_n, fl_n, fl_i, cp_n, ↓if_pos, ↓if_neg, true_and]
              repeat' first | (refine And.intro ?_ ?_) | rfl | exact True.intro | omega | split | (simp (disch := first | omega | assumption | (refine (hS _ ?_).2; omega)) only [E157, (fun s hs => (hS s hs).1), SHC hG, SHM hG, q_push_I, q_push_L, q_push_P, q_push_U, c_within, c_isSheet, c_in, c_sbegin, c_slose, c_smiss, c_slane, c_ssize, c_shas, c_sitem, c_sstore, c_sput, c_found, c_fine, c_finding, Int.toNat_natCast, u_s, u_n, fl_n, fl_i, cp_n, ↓if_pos, ↓if_neg, true_and])
            · have key := s_mcopy_up (d := d + 7) (v := q_up (q_up (q_up (q_cp v (94 + 2 * s + 1) i (94 + 2 * t + 1) j n) 32 9 0) 137 0 0) 137 1 0) (Q := fun r v' G' => r = .inl ((n : Int)) ∧ v' = q_cp (q_up (q_up (q_up (q_cp v (94 + 2 * s + 1) i (94 + 2 * t + 1) j n) 32 9 0) 137 0 0) 137 1 0) 140 (600 * s + i) 140 (600 * t + j) n ∧ G' = G) hG hs ht (show i + n ≤ 600 by omega) (show j + n ≤ 600 by omega) (fun _ => by omega) ⟨rfl, rfl, rfl⟩ n 0 (.inr (.inr (.inr ()))) (by omega)
              rw [cp_0] at key
              simp (disch := first | omega | assumption | (refine (hS _ ?_).2; omega)) only [E157, (fun s hs => (hS s hs).1), SHC hG, SHM hG, q_push_I, q_push_L, q_push_P, q_push_U, c_within, c_isSheet, c_in, c_sbegin, c_slose, c_smiss, c_slane, c_ssize, c_shas, c_sitem, c_sstore, c_sput, c_found, c_fine, c_finding, Int.toNat_natCast, u_s, u_n, fl_n, fl_i, cp_n, ↓if_pos, ↓if_neg, true_and]
              repeat' first | (refine And.intro ?_ ?_) | rfl | exact True.intro | omega | split | (simp (disch := first | omega | assumption | (refine (hS _ ?_).2; omega)) only [E157, (fun s hs => (hS s hs).1), SHC hG, SHM hG, q_push_I, q_push_L, q_push_P, q_push_U, c_within, c_isSheet, c_in, c_sbegin, c_slose, c_smiss, c_slane, c_ssize, c_shas, c_sitem, c_sstore, c_sput, c_found, c_fine, c_finding, Int.toNat_natCast, u_s, u_n, fl_n, fl_i, cp_n, ↓if_pos, ↓if_neg, true_and])
          · refine Inv_sh hI (fun b h1 h2 h3 h4 h5 h6 => by simp (disch := omega) only [u_r, fl_r, cp_r]) (fun j h => by simp (disch := omega) only [u_n, fl_n, cp_n]) (fun j h1 h2 => by simp (disch := omega) only [u_n, fl_n, cp_n]) (by unfold stI; simp (disch := omega) only [u_n, u_s, fl_n, cp_n]; decide) ?_
            intro u hu
            have := hL u hu
            simp (disch := omega) only [u_n, cp_n]
            refine ⟨this.1, this.2.1, this.2.2.1, this.2.2.2.1, fun k hk => ?_⟩
            by_cases hts : u = t ∧ j ≤ k ∧ k < j + n
            · obtain ⟨rfl, hk1, hk2⟩ := hts
              have l5 := l5 (i + (k - j)) (by omega)
              rw [cp_i rfl (by omega) (by omega), cp_i (c := 95 + 2 * u) (by omega) hk1 hk2, show 600 * s + i + (600 * u + k - (600 * u + j)) = 600 * s + (i + (k - j)) by omega]
              simp (disch := omega) only [u_n, cp_n]
              rw [show 94 + 2 * s + 1 = 95 + 2 * s by omega]
              exact l5
            · simp (disch := omega) only [u_n, cp_n]
              exact this.2.2.2.2 k hk
        · refine twin_mk (z := -1000012) (v1 := q_up v 32 9 2) (v2 := q_up (q_up (q_up (q_up v 32 9 2) 137 0 0) 137 1 0) 137 1 2) ?_ ?_ (by decide) ?_
          · simp (disch := first | omega | assumption | (refine (hS _ ?_).2; omega)) only [E120, (fun s hs => (hS s hs).1), SHC hG, SHM hG, q_push_I, q_push_L, q_push_P, q_push_U, c_within, c_isSheet, c_in, c_sbegin, c_slose, c_smiss, c_slane, c_ssize, c_shas, c_sitem, c_sstore, c_sput, c_found, c_fine, c_finding, Int.toNat_natCast, u_s, u_n, fl_n, fl_i, cp_n, ↓if_pos, ↓if_neg, true_and]
            repeat' first | (refine And.intro ?_ ?_) | rfl | exact True.intro | omega | split | (simp (disch := first | omega | assumption | (refine (hS _ ?_).2; omega)) only [E120, (fun s hs => (hS s hs).1), SHC hG, SHM hG, q_push_I, q_push_L, q_push_P, q_push_U, c_within, c_isSheet, c_in, c_sbegin, c_slose, c_smiss, c_slane, c_ssize, c_shas, c_sitem, c_sstore, c_sput, c_found, c_fine, c_finding, Int.toNat_natCast, u_s, u_n, fl_n, fl_i, cp_n, ↓if_pos, ↓if_neg, true_and])
          · simp (disch := first | omega | assumption | (refine (hS _ ?_).2; omega)) only [E157, (fun s hs => (hS s hs).1), SHC hG, SHM hG, q_push_I, q_push_L, q_push_P, q_push_U, c_within, c_isSheet, c_in, c_sbegin, c_slose, c_smiss, c_slane, c_ssize, c_shas, c_sitem, c_sstore, c_sput, c_found, c_fine, c_finding, Int.toNat_natCast, u_s, u_n, fl_n, fl_i, cp_n, ↓if_pos, ↓if_neg, true_and]
            repeat' first | (refine And.intro ?_ ?_) | rfl | exact True.intro | omega | split | (simp (disch := first | omega | assumption | (refine (hS _ ?_).2; omega)) only [E157, (fun s hs => (hS s hs).1), SHC hG, SHM hG, q_push_I, q_push_L, q_push_P, q_push_U, c_within, c_isSheet, c_in, c_sbegin, c_slose, c_smiss, c_slane, c_ssize, c_shas, c_sitem, c_sstore, c_sput, c_found, c_fine, c_finding, Int.toNat_natCast, u_s, u_n, fl_n, fl_i, cp_n, ↓if_pos, ↓if_neg, true_and])
          · exact Inv_st hI (fun b h1 h2 => by simp (disch := omega) only [u_r]) (fun j h => by simp (disch := omega) only [u_n]) (fun j h1 h2 => by simp (disch := omega) only [u_n]) (by unfold stI; simp (disch := omega) only [u_n, u_s]; decide)
      · refine twin_mk (z := -1000015) (v1 := q_up v 32 9 5) (v2 := q_up (q_up (q_up (q_up v 32 9 5) 137 0 0) 137 1 0) 137 1 5) ?_ ?_ (by decide) ?_
        · simp (disch := first | omega | assumption | (refine (hS _ ?_).2; omega)) only [E120, (fun s hs => (hS s hs).1), SHC hG, SHM hG, q_push_I, q_push_L, q_push_P, q_push_U, c_within, c_isSheet, c_in, c_sbegin, c_slose, c_smiss, c_slane, c_ssize, c_shas, c_sitem, c_sstore, c_sput, c_found, c_fine, c_finding, Int.toNat_natCast, u_s, u_n, fl_n, fl_i, cp_n, ↓if_pos, ↓if_neg, true_and]
          repeat' first | (refine And.intro ?_ ?_) | rfl | exact True.intro | omega | split | (simp (disch := first | omega | assumption | (refine (hS _ ?_).2; omega)) only [E120, (fun s hs => (hS s hs).1), SHC hG, SHM hG, q_push_I, q_push_L, q_push_P, q_push_U, c_within, c_isSheet, c_in, c_sbegin, c_slose, c_smiss, c_slane, c_ssize, c_shas, c_sitem, c_sstore, c_sput, c_found, c_fine, c_finding, Int.toNat_natCast, u_s, u_n, fl_n, fl_i, cp_n, ↓if_pos, ↓if_neg, true_and])
        · simp (disch := first | omega | assumption | (refine (hS _ ?_).2; omega)) only [E157, (fun s hs => (hS s hs).1), SHC hG, SHM hG, q_push_I, q_push_L, q_push_P, q_push_U, c_within, c_isSheet, c_in, c_sbegin, c_slose, c_smiss, c_slane, c_ssize, c_shas, c_sitem, c_sstore, c_sput, c_found, c_fine, c_finding, Int.toNat_natCast, u_s, u_n, fl_n, fl_i, cp_n, ↓if_pos, ↓if_neg, true_and]
          repeat' first | (refine And.intro ?_ ?_) | rfl | exact True.intro | omega | split | (simp (disch := first | omega | assumption | (refine (hS _ ?_).2; omega)) only [E157, (fun s hs => (hS s hs).1), SHC hG, SHM hG, q_push_I, q_push_L, q_push_P, q_push_U, c_within, c_isSheet, c_in, c_sbegin, c_slose, c_smiss, c_slane, c_ssize, c_shas, c_sitem, c_sstore, c_sput, c_found, c_fine, c_finding, Int.toNat_natCast, u_s, u_n, fl_n, fl_i, cp_n, ↓if_pos, ↓if_neg, true_and])
        · exact Inv_st hI (fun b h1 h2 => by simp (disch := omega) only [u_r]) (fun j h => by simp (disch := omega) only [u_n]) (fun j h1 h2 => by simp (disch := omega) only [u_n]) (by unfold stI; simp (disch := omega) only [u_n, u_s]; decide)
  · refine twin_mk (z := -1000001) (v1 := v) (v2 := q_up v 137 0 0) ?_ ?_ (by decide) ?_
    · by_cases hv2 : 0 ≤ a ∧ a ≤ 7
      · simp (disch := first | omega | assumption | (refine (hS _ ?_).2; omega)) only [E120, (fun s hs => (hS s hs).1), SHC hG, SHM hG, q_push_I, q_push_L, q_push_P, q_push_U, c_within, c_isSheet, c_in, c_sbegin, c_slose, c_smiss, c_slane, c_ssize, c_shas, c_sitem, c_sstore, c_sput, c_found, c_fine, c_finding, Int.toNat_natCast, u_s, u_n, fl_n, fl_i, cp_n, ↓if_pos, ↓if_neg, true_and]
        repeat' first | (refine And.intro ?_ ?_) | rfl | exact True.intro | omega | split | (simp (disch := first | omega | assumption | (refine (hS _ ?_).2; omega)) only [E120, (fun s hs => (hS s hs).1), SHC hG, SHM hG, q_push_I, q_push_L, q_push_P, q_push_U, c_within, c_isSheet, c_in, c_sbegin, c_slose, c_smiss, c_slane, c_ssize, c_shas, c_sitem, c_sstore, c_sput, c_found, c_fine, c_finding, Int.toNat_natCast, u_s, u_n, fl_n, fl_i, cp_n, ↓if_pos, ↓if_neg, true_and])
      · simp (disch := first | omega | assumption | (refine (hS _ ?_).2; omega)) only [E120, (fun s hs => (hS s hs).1), SHC hG, SHM hG, q_push_I, q_push_L, q_push_P, q_push_U, c_within, c_isSheet, c_in, c_sbegin, c_slose, c_smiss, c_slane, c_ssize, c_shas, c_sitem, c_sstore, c_sput, c_found, c_fine, c_finding, Int.toNat_natCast, u_s, u_n, fl_n, fl_i, cp_n, ↓if_pos, ↓if_neg, true_and]
        repeat' first | (refine And.intro ?_ ?_) | rfl | exact True.intro | omega | split | (simp (disch := first | omega | assumption | (refine (hS _ ?_).2; omega)) only [E120, (fun s hs => (hS s hs).1), SHC hG, SHM hG, q_push_I, q_push_L, q_push_P, q_push_U, c_within, c_isSheet, c_in, c_sbegin, c_slose, c_smiss, c_slane, c_ssize, c_shas, c_sitem, c_sstore, c_sput, c_found, c_fine, c_finding, Int.toNat_natCast, u_s, u_n, fl_n, fl_i, cp_n, ↓if_pos, ↓if_neg, true_and])
    · by_cases hv2 : 0 ≤ a ∧ a ≤ 7
      · simp (disch := first | omega | assumption | (refine (hS _ ?_).2; omega)) only [E157, (fun s hs => (hS s hs).1), SHC hG, SHM hG, q_push_I, q_push_L, q_push_P, q_push_U, c_within, c_isSheet, c_in, c_sbegin, c_slose, c_smiss, c_slane, c_ssize, c_shas, c_sitem, c_sstore, c_sput, c_found, c_fine, c_finding, Int.toNat_natCast, u_s, u_n, fl_n, fl_i, cp_n, ↓if_pos, ↓if_neg, true_and]
        repeat' first | (refine And.intro ?_ ?_) | rfl | exact True.intro | omega | split | (simp (disch := first | omega | assumption | (refine (hS _ ?_).2; omega)) only [E157, (fun s hs => (hS s hs).1), SHC hG, SHM hG, q_push_I, q_push_L, q_push_P, q_push_U, c_within, c_isSheet, c_in, c_sbegin, c_slose, c_smiss, c_slane, c_ssize, c_shas, c_sitem, c_sstore, c_sput, c_found, c_fine, c_finding, Int.toNat_natCast, u_s, u_n, fl_n, fl_i, cp_n, ↓if_pos, ↓if_neg, true_and])
      · simp (disch := first | omega | assumption | (refine (hS _ ?_).2; omega)) only [E157, (fun s hs => (hS s hs).1), SHC hG, SHM hG, q_push_I, q_push_L, q_push_P, q_push_U, c_within, c_isSheet, c_in, c_sbegin, c_slose, c_smiss, c_slane, c_ssize, c_shas, c_sitem, c_sstore, c_sput, c_found, c_fine, c_finding, Int.toNat_natCast, u_s, u_n, fl_n, fl_i, cp_n, ↓if_pos, ↓if_neg, true_and]
        repeat' first | (refine And.intro ?_ ?_) | rfl | exact True.intro | omega | split | (simp (disch := first | omega | assumption | (refine (hS _ ?_).2; omega)) only [E157, (fun s hs => (hS s hs).1), SHC hG, SHM hG, q_push_I, q_push_L, q_push_P, q_push_U, c_within, c_isSheet, c_in, c_sbegin, c_slose, c_smiss, c_slane, c_ssize, c_shas, c_sitem, c_sstore, c_sput, c_found, c_fine, c_finding, Int.toNat_natCast, u_s, u_n, fl_n, fl_i, cp_n, ↓if_pos, ↓if_neg, true_and])
    · exact Inv_st hI (fun b h1 h2 => by simp (disch := omega) only [u_r]) (fun j h => by simp (disch := omega) only [u_n]) (fun j h1 h2 => by simp (disch := omega) only [u_n]) (stI_cg (by simp (disch := omega) only [u_n]) (by simp (disch := omega) only [u_n]) hT)
end
