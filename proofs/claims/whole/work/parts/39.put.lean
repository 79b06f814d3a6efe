section
variable {d : Nat} {v : q_H} {G : q_Gr} {Q : q_V → q_H → q_Gr → Prop}
/-! ===== rows put in, taken out ===== -/
/-- what a table's keys are, for bounds -/
theorem tab_key {q t n : Nat} (h : tabI v q t n) (k : Nat) (hk : k < n + 2) : (-1 ≤ v (q + 2) k ∧ v (q + 2) k ≤ 1000) ∧ 0 ≤ v (q + 3) k ∧ v (q + 3) k ≤ 999 := by
  obtain ⟨i1, i2, i3, i4, i5, i6, i7, i8, i9, i10⟩ := h
  cases k with
  | zero => omega
  | succ k =>
    by_cases e : k = n
    · subst e
      omega
    · have := i8 k (by omega)
      omega
/-- the reference's placeOf -/
theorem s_mplace_loop {t n : Nat} {x : Int} (hG : gok G) (ht : t < 3) (hn : v 141 t = (n : Int)) (h14 : n ≤ 14) (hk : ∀ k, k < n → -2147483648 ≤ v 142 (14 * t + k) ∧ v 142 (14 * t + k) ≤ 2147483647) (hx : -2147483648 ≤ x) (hx2 : x ≤ 2147483647) : ∀ (r i : Nat), i + r = n → Q (.inl (((14 * t + srch (fun k => decide (x ≤ v 142 (14 * t + k))) r i : Nat) : Int))) v G → q_wp d 161 5 [.inr (.inr (.inl (some 137))), .inl t, .inl x, .inl ((14 * t + i : Nat) : Int)] [] v G Q := by
  intro r
  induction r with
  | zero =>
    intro i hi hQ
    rw [e_161_5]
    simp only [E161, SHM hG, Int.toNat_natCast, hn]
    unfold srch at hQ
    rw [if_pos (by omega)]
    repeat' first | (refine And.intro ?_ ?_) | rfl | exact True.intro | assumption | omega
  | succ r ih =>
    intro i hi hQ
    have hki := hk i (by omega)
    rw [e_161_5]
    simp only [E161, SHM hG, Int.toNat_natCast, hn]
    unfold srch at hQ
    rw [if_neg (by omega)]
    by_cases hx1 : x ≤ v 142 (14 * t + i)
    · rw [if_pos (by simpa using hx1)] at hQ
      rw [if_pos (by omega)]
      repeat' first | (refine And.intro ?_ ?_) | rfl | exact True.intro | assumption | omega
    · rw [if_neg (by simpa using hx1)] at hQ
      rw [if_neg (by omega), show (((14 * t + i : Nat) : Int) + 1) = ((14 * t + (i + 1) : Nat) : Int) by omega]
      have := ih (i + 1) (by omega) hQ
      repeat' first | (refine And.intro ?_ ?_) | rfl | exact True.intro | assumption | omega
theorem c_mplace {t n : Nat} {x : Int} (hG : gok G) (ht : t < 3) (hn : v 141 t = (n : Int)) (h14 : n ≤ 14) (hk : ∀ k, k < n → -2147483648 ≤ v 142 (14 * t + k) ∧ v 142 (14 * t + k) ≤ 2147483647) (hx : -2147483648 ≤ x) (hx2 : x ≤ 2147483647) : q_call (d + 1) 161 [.inr (.inr (.inl (some 137))), .inl t, .inl x] v G Q = Q (.inl (((14 * t + plm v t n x : Nat) : Int))) v G := by
  refine q_call_eq ?_ Q
  simp only [E161, SHM hG]
  refine ⟨True.intro, ?_⟩
  rw [show (14 : Int) * (t : Int) = ((14 * t + 0 : Nat) : Int) by omega]
  exact s_mplace_loop hG ht hn h14 hk hx hx2 n 0 (by omega) ⟨rfl, rfl, rfl⟩
theorem c_mhas {t n : Nat} {x : Int} (hG : gok G) (ht : t < 3) (hn : v 141 t = (n : Int)) (h14 : n ≤ 14) (hk : ∀ k, k < n → -2147483648 ≤ v 142 (14 * t + k) ∧ v 142 (14 * t + k) ≤ 2147483647) (hx : -2147483648 ≤ x) (hx2 : x ≤ 2147483647) : q_call (d + 2) 162 [.inr (.inr (.inl (some 137))), .inl t, .inl x] v G Q = Q (.inl (if plm v t n x < n ∧ v 142 (14 * t + plm v t n x) = x then 1 else 0)) v G := by
  refine q_call_eq ?_ Q
  have hp := (plm_sp (v := v) (t := t) (n := n) (x := x)).1
  simp only [E162, SHM hG, c_mplace hG ht hn h14 hk hx hx2, q_push_I, q_push_L, q_push_P, q_push_U, Int.toNat_natCast, hn]
  by_cases h1 : plm v t n x < n
  · have := hk _ h1
    repeat' first | (refine And.intro ?_ ?_) | split | rfl | exact True.intro | assumption | omega
  · repeat' first | (refine And.intro ?_ ?_) | split | rfl | exact True.intro | assumption | omega
theorem rins_rd {q N a j : Nat} {k x : Int} (hN : v q 2 = (N : Int)) (ha : a ≤ N) (hj : j ≤ N) : q_rins v q a k x (q + 1) j = (if j < a then v (q + 1) j else if j = a then k else v (q + 1) (j - 1)) ∧ q_rins v q a k x (q + 2) j = (if j < a then v (q + 2) j else if j = a then x else v (q + 2) (j - 1)) := by
  unfold q_rins
  have hn : (v q 2).toNat = N := by rw [hN]; omega
  rw [hn]
  by_cases h1 : j < a
  · rw [if_pos h1, if_pos h1]
    constructor
    · rw [u_n (by omega), u_n (by omega), u_n (by omega), cp_n (by omega), cp_n (by omega)]
    · rw [u_n (by omega), u_n (by omega), u_n (by omega), cp_n (by omega), cp_n (by omega)]
  · rw [if_neg h1, if_neg h1]
    by_cases h2 : j = a
    · rw [if_pos h2, if_pos h2]
      subst h2
      constructor
      · rw [u_n (by omega), u_s rfl rfl]
      · rw [u_s rfl rfl]
    · rw [if_neg h2, if_neg h2]
      constructor
      · rw [u_n (by omega), u_n (by omega), u_n (by omega), cp_n (by omega), cp_i rfl (by omega) (by omega), show a + (j - (a + 1)) = j - 1 by omega]
      · rw [u_n (by omega), u_n (by omega), u_n (by omega), cp_i rfl (by omega) (by omega), show a + (j - (a + 1)) = j - 1 by omega, cp_n (by omega)]
theorem rins_sz {q a : Nat} {k x : Int} : q_rins v q a k x q 2 = v q 2 + 1 := by
  unfold q_rins
  rw [u_n (by omega), u_n (by omega), u_s rfl rfl]
theorem rdel_rd {q N a j : Nat} (hN : v q 2 = (N : Int)) (ha : a < N) (hj : j < N - 1) : q_rdel v q a (q + 1) j = (if j < a then v (q + 1) j else v (q + 1) (j + 1)) ∧ q_rdel v q a (q + 2) j = (if j < a then v (q + 2) j else v (q + 2) (j + 1)) := by
  unfold q_rdel
  have hn : (v q 2).toNat = N := by rw [hN]; omega
  rw [hn]
  by_cases h1 : j < a
  · rw [if_pos h1, if_pos h1]
    constructor
    · rw [u_n (by omega), cp_n (by omega), cp_n (by omega)]
    · rw [u_n (by omega), cp_n (by omega), cp_n (by omega)]
  · rw [if_neg h1, if_neg h1]
    constructor
    · rw [u_n (by omega), cp_n (by omega), cp_i rfl (by omega) (by omega), show a + 1 + (j - a) = j + 1 by omega]
    · rw [u_n (by omega), cp_i rfl (by omega) (by omega), show a + 1 + (j - a) = j + 1 by omega, cp_n (by omega)]
theorem rdel_sz {q a : Nat} : q_rdel v q a q 2 = v q 2 - 1 := by
  unfold q_rdel
  rw [u_s rfl rfl]
/-- the class: a new row -/
theorem k_put_new {t n : Nat} {x y : Int} (hG : gok G) (ht : t < 3) (hI : tabI v (110 + 9 * t) t n) (hx : 0 ≤ x ∧ x ≤ 999) (hy : 0 ≤ y ∧ y ≤ 999) (hf : ¬ (plm v t n x < n ∧ v 142 (14 * t + plm v t n x) = x)) (hn : n < 14) (hQ : ∀ v', (∀ b, ¬ (110 + 9 * t < b ∧ b < 110 + 9 * t + 9) → v' b = v b) → v' (110 + 9 * t + 1) = q_rins v (110 + 9 * t + 1) (plm v t n x + 1) x y (110 + 9 * t + 1) → v' (110 + 9 * t + 2) = q_rins v (110 + 9 * t + 1) (plm v t n x + 1) x y (110 + 9 * t + 2) → v' (110 + 9 * t + 3) = q_rins v (110 + 9 * t + 1) (plm v t n x + 1) x y (110 + 9 * t + 3) → treeI v' (110 + 9 * t + 4) (n + 3) (v' (110 + 9 * t + 2)) (v' (110 + 9 * t + 3)) → Q (.inl ((n : Int) + 1)) v' G) : q_call (d + 8) 122 [.inr (.inr (.inl (some 32))), .inl t, .inl x, .inl y] v G Q := by
  have hT := g_table hG t ht
  obtain ⟨g0, g⟩ := hT
  generalize hq : 110 + 9 * t = q at *
  have g1 := g.1
  have g2 := g.2.1
  have g3 := g.2.2.2.1
  have hkey := tab_key hI
  have hi14 := hI.1
  have hp := (plm_sp (v := v) (t := t) (n := n) (x := x)).1
  have hsz : v (q + 1) 2 = ((n + 2 : Nat) : Int) := by rw [hI.2.2.1]; omega
  have hpl := tab_plc hI hx.1 hx.2
  have e1 : ∀ (d' : Nat) (Q' : q_V → q_H → q_Gr → Prop), q_call (d' + 1) 85 [.inr (.inr (.inl (some (q + 1)))), .inl x] v G Q' = Q' (.inl (plc (v (q + 2)) (n + 2) x)) v G := fun d' Q' => c_rplace g3 hsz (by omega) (fun k hk => by have := hkey k hk; show -2147483648 ≤ v (q + 2) k ∧ v (q + 2) k ≤ 2147483647; omega) (by omega) (by omega)
  have e2 : ∀ (d' : Nat) (Q' : q_V → q_H → q_Gr → Prop), q_call (d' + 3) 103 [.inr (.inr (.inl (some q))), .inl x] v G Q' = Q' (.inl (((plm v t n x + 1 : Nat) : Int))) v G := fun d' Q' => by
    rw [c_ff g (n := n + 1) (by rw [hsz]; omega) (by omega) (fun k hk => by have := hkey k (by omega); omega) (by omega) (by omega), tab_ff hI hx.1 (by omega)]
  rw [if_neg hf] at hpl
  rw [hpl] at e1
  have e3 : ∀ (d' : Nat) (Q' : q_V → q_H → q_Gr → Prop), q_call (d' + 1) 79 [.inr (.inr (.inl (some (q + 1)))), .inl (((plm v t n x + 1 : Nat) : Int)), .inl x, .inl y] v G Q' = Q' (.inr (.inr (.inr ()))) (q_rins v (q + 1) (plm v t n x + 1) x y) G := fun d' Q' => c_rins g3 (by omega) (by omega) (by omega)
  have hk2 : ∀ k, k < n + 3 → (-1 ≤ q_rins v (q + 1) (plm v t n x + 1) x y (q + 2) k ∧ q_rins v (q + 1) (plm v t n x + 1) x y (q + 2) k ≤ 1000) ∧ 0 ≤ q_rins v (q + 1) (plm v t n x + 1) x y (q + 3) k ∧ q_rins v (q + 1) (plm v t n x + 1) x y (q + 3) k ≤ 999 := by
    intro k hk
    have hr := rins_rd (a := plm v t n x + 1) (j := k) (k := x) (x := y) hsz (by omega) (by omega)
    rw [show q + 1 + 1 = q + 2 from rfl, show q + 1 + 2 = q + 3 from rfl] at hr
    rw [hr.1, hr.2]
    by_cases c1 : k < plm v t n x + 1
    · rw [if_pos c1, if_pos c1]
      exact hkey k (by omega)
    · rw [if_neg c1, if_neg c1]
      by_cases c2 : k = plm v t n x + 1
      · rw [if_pos c2, if_pos c2]
        omega
      · rw [if_neg c2, if_neg c2]
        exact hkey (k - 1) (by omega)
  simp (disch := first | assumption | omega) only [E122, SHC hG, g0, c_within, q_push_I, q_push_L, q_push_P, q_push_U, ↓if_pos, ↓if_neg, Int.toNat_natCast]
  simp (disch := first | assumption | omega) only [E98, g1, g2, e1, e2, e3, c_rsize, q_push_I, q_push_L, q_push_P, q_push_U, ↓if_pos, ↓if_neg]
  repeat' first | (refine And.intro ?_ ?_) | rfl | exact True.intro | assumption | omega | (refine c_seal (n := n + 3) g (by rw [rins_sz, hsz]; omega) (by omega) (by omega) hk2 (fun v' h1 h2 => ?_))
  simp (disch := first | assumption | omega) only [E98, E122, SHC hG, g0, g1, g2, c_trows, q_push_I, q_push_L, q_push_P, q_push_U, ↓if_pos, ↓if_neg, Int.toNat_natCast]
  have r1 := h2 (q + 1) (by omega)
  have r2 := h2 (q + 2) (by omega)
  have r3 := h2 (q + 3) (by omega)
  have hQ' := hQ v' (fun b hb => by rw [h2 b (by omega), rins_r (by omega) (by omega) (by omega)]) r1 r2 r3 (by rw [r2, r3]; exact h1)
  rw [r1, rins_sz, hsz, show ((n + 2 : Nat) : Int) + 1 - 2 = (n : Int) + 1 by omega]
  repeat' first | (refine And.intro ?_ ?_) | rfl | exact True.intro | assumption | omega
theorem k_put_full {t n : Nat} {x y : Int} (hG : gok G) (ht : t < 3) (hI : tabI v (110 + 9 * t) t n) (hx : 0 ≤ x ∧ x ≤ 999) (hy : 0 ≤ y ∧ y ≤ 999) (hf : ¬ (plm v t n x < n ∧ v 142 (14 * t + plm v t n x) = x)) (hn : n = 14) : q_call (d + 8) 122 [.inr (.inr (.inl (some 32))), .inl t, .inl x, .inl y] v G Q = Q (.inl (-1000003)) v G := by
  refine q_call_eq ?_ Q
  have hT := g_table hG t ht
  obtain ⟨g0, g⟩ := hT
  generalize hq : 110 + 9 * t = q at *
  have g1 := g.1
  have g2 := g.2.1
  have g3 := g.2.2.2.1
  have hkey := tab_key hI
  have hi14 := hI.1
  have hp := (plm_sp (v := v) (t := t) (n := n) (x := x)).1
  have hsz : v (q + 1) 2 = ((n + 2 : Nat) : Int) := by rw [hI.2.2.1]; omega
  have hpl := tab_plc hI hx.1 hx.2
  have e1 : ∀ (d' : Nat) (Q' : q_V → q_H → q_Gr → Prop), q_call (d' + 1) 85 [.inr (.inr (.inl (some (q + 1)))), .inl x] v G Q' = Q' (.inl (plc (v (q + 2)) (n + 2) x)) v G := fun d' Q' => c_rplace g3 hsz (by omega) (fun k hk => by have := hkey k hk; show -2147483648 ≤ v (q + 2) k ∧ v (q + 2) k ≤ 2147483647; omega) (by omega) (by omega)
  have e2 : ∀ (d' : Nat) (Q' : q_V → q_H → q_Gr → Prop), q_call (d' + 3) 103 [.inr (.inr (.inl (some q))), .inl x] v G Q' = Q' (.inl (((plm v t n x + 1 : Nat) : Int))) v G := fun d' Q' => by
    rw [c_ff g (n := n + 1) (by rw [hsz]; omega) (by omega) (fun k hk => by have := hkey k (by omega); omega) (by omega) (by omega), tab_ff hI hx.1 (by omega)]
  rw [if_neg hf] at hpl
  rw [hpl] at e1
  simp (disch := first | assumption | omega) only [E122, SHC hG, g0, c_within, q_push_I, q_push_L, q_push_P, q_push_U, ↓if_pos, ↓if_neg, Int.toNat_natCast]
  simp (disch := first | assumption | omega) only [E98, g1, g2, e1, e2, c_rsize, q_push_I, q_push_L, q_push_P, q_push_U, ↓if_pos, ↓if_neg]
  simp (disch := first | assumption | omega) only [E98, E122, q_push_I, q_push_L, q_push_P, q_push_U, ↓if_pos, ↓if_neg]
  repeat' first | (refine And.intro ?_ ?_) | rfl | exact True.intro | assumption | omega
theorem k_put_old {t n : Nat} {x y : Int} (hG : gok G) (ht : t < 3) (hI : tabI v (110 + 9 * t) t n) (hx : 0 ≤ x ∧ x ≤ 999) (hy : 0 ≤ y ∧ y ≤ 999) (hf : plm v t n x < n ∧ v 142 (14 * t + plm v t n x) = x) (hQ : ∀ v', (∀ b, ¬ (110 + 9 * t + 2 < b ∧ b < 110 + 9 * t + 9) → v' b = v b) → v' (110 + 9 * t + 3) = q_up v (110 + 9 * t + 3) (plm v t n x + 1) y (110 + 9 * t + 3) → treeI v' (110 + 9 * t + 4) (n + 2) (v' (110 + 9 * t + 2)) (v' (110 + 9 * t + 3)) → Q (.inl ((n : Int))) v' G) : q_call (d + 8) 122 [.inr (.inr (.inl (some 32))), .inl t, .inl x, .inl y] v G Q := by
  have hT := g_table hG t ht
  obtain ⟨g0, g⟩ := hT
  generalize hq : 110 + 9 * t = q at *
  have g1 := g.1
  have g2 := g.2.1
  have g3 := g.2.2.2.1
  have hkey := tab_key hI
  have hi14 := hI.1
  have hp := (plm_sp (v := v) (t := t) (n := n) (x := x)).1
  have hsz : v (q + 1) 2 = ((n + 2 : Nat) : Int) := by rw [hI.2.2.1]; omega
  have hpl := tab_plc hI hx.1 hx.2
  have e1 : ∀ (d' : Nat) (Q' : q_V → q_H → q_Gr → Prop), q_call (d' + 1) 85 [.inr (.inr (.inl (some (q + 1)))), .inl x] v G Q' = Q' (.inl (plc (v (q + 2)) (n + 2) x)) v G := fun d' Q' => c_rplace g3 hsz (by omega) (fun k hk => by have := hkey k hk; show -2147483648 ≤ v (q + 2) k ∧ v (q + 2) k ≤ 2147483647; omega) (by omega) (by omega)
  have e2 : ∀ (d' : Nat) (Q' : q_V → q_H → q_Gr → Prop), q_call (d' + 3) 103 [.inr (.inr (.inl (some q))), .inl x] v G Q' = Q' (.inl (((plm v t n x + 1 : Nat) : Int))) v G := fun d' Q' => by
    rw [c_ff g (n := n + 1) (by rw [hsz]; omega) (by omega) (fun k hk => by have := hkey k (by omega); omega) (by omega) (by omega), tab_ff hI hx.1 (by omega)]
  rw [if_pos hf] at hpl
  rw [hpl] at e1
  have e3 : ∀ (d' : Nat) (Q' : q_V → q_H → q_Gr → Prop), q_call (d' + 2) 81 [.inr (.inr (.inl (some (q + 1)))), .inl (((plm v t n x + 1 : Nat) : Int)), .inl y] v G Q' = Q' (.inr (.inr (.inr ()))) (q_up v (q + 3) (plm v t n x + 1) y) G := fun d' Q' => c_rrep g3 (by omega) (by omega) (by omega)
  have hk2 : ∀ k, k < n + 2 → (-1 ≤ q_up v (q + 3) (plm v t n x + 1) y (q + 2) k ∧ q_up v (q + 3) (plm v t n x + 1) y (q + 2) k ≤ 1000) ∧ 0 ≤ q_up v (q + 3) (plm v t n x + 1) y (q + 3) k ∧ q_up v (q + 3) (plm v t n x + 1) y (q + 3) k ≤ 999 := by
    intro k hk
    rw [u_n (b := q + 2) (by omega)]
    by_cases c2 : k = plm v t n x + 1
    · rw [u_s rfl c2]
      have := hkey k hk
      omega
    · rw [u_n (by omega)]
      exact hkey k hk
  simp (disch := first | assumption | omega) only [E122, SHC hG, g0, c_within, q_push_I, q_push_L, q_push_P, q_push_U, ↓if_pos, ↓if_neg, Int.toNat_natCast]
  simp (disch := first | assumption | omega) only [E98, g1, g2, e1, e2, e3, c_rsize, q_push_I, q_push_L, q_push_P, q_push_U, ↓if_pos, ↓if_neg]
  repeat' first | (refine And.intro ?_ ?_) | rfl | exact True.intro | assumption | omega | (refine c_seal (n := n + 2) g (by rw [u_n (by omega), hsz]) (by omega) (by omega) hk2 (fun v' h1 h2 => ?_))
  simp (disch := first | assumption | omega) only [E98, E122, SHC hG, g0, g1, g2, c_trows, q_push_I, q_push_L, q_push_P, q_push_U, ↓if_pos, ↓if_neg, Int.toNat_natCast]
  have r1 := h2 (q + 1) (by omega)
  have r2 := h2 (q + 2) (by omega)
  have r3 := h2 (q + 3) (by omega)
  have hQ' := hQ v' (fun b hb => by rw [h2 b (by omega), u_r (by omega)]) r3 (by rw [r2, r3]; exact h1)
  rw [r1, u_n (by omega), hsz, show ((n + 2 : Nat) : Int) - 2 = (n : Int) by omega]
  repeat' first | (refine And.intro ?_ ?_) | rfl | exact True.intro | assumption | omega
theorem k_take_no {t n : Nat} {x : Int} (hG : gok G) (ht : t < 3) (hI : tabI v (110 + 9 * t) t n) (hx : 0 ≤ x ∧ x ≤ 999) (hf : ¬ (plm v t n x < n ∧ v 142 (14 * t + plm v t n x) = x)) : q_call (d + 8) 123 [.inr (.inr (.inl (some 32))), .inl t, .inl x] v G Q = Q (.inl (-1000002)) v G := by
  refine q_call_eq ?_ Q
  have hT := g_table hG t ht
  obtain ⟨g0, g⟩ := hT
  generalize hq : 110 + 9 * t = q at *
  have g1 := g.1
  have g2 := g.2.1
  have g3 := g.2.2.2.1
  have hkey := tab_key hI
  have hi14 := hI.1
  have hp := (plm_sp (v := v) (t := t) (n := n) (x := x)).1
  have hsz : v (q + 1) 2 = ((n + 2 : Nat) : Int) := by rw [hI.2.2.1]; omega
  have hpl := tab_plc hI hx.1 hx.2
  have e1 : ∀ (d' : Nat) (Q' : q_V → q_H → q_Gr → Prop), q_call (d' + 1) 85 [.inr (.inr (.inl (some (q + 1)))), .inl x] v G Q' = Q' (.inl (plc (v (q + 2)) (n + 2) x)) v G := fun d' Q' => c_rplace g3 hsz (by omega) (fun k hk => by have := hkey k hk; show -2147483648 ≤ v (q + 2) k ∧ v (q + 2) k ≤ 2147483647; omega) (by omega) (by omega)
  have e2 : ∀ (d' : Nat) (Q' : q_V → q_H → q_Gr → Prop), q_call (d' + 3) 103 [.inr (.inr (.inl (some q))), .inl x] v G Q' = Q' (.inl (((plm v t n x + 1 : Nat) : Int))) v G := fun d' Q' => by
    rw [c_ff g (n := n + 1) (by rw [hsz]; omega) (by omega) (fun k hk => by have := hkey k (by omega); omega) (by omega) (by omega), tab_ff hI hx.1 (by omega)]
  rw [if_neg hf] at hpl
  rw [hpl] at e1
  simp (disch := first | assumption | omega) only [E123, SHC hG, g0, c_within, c_tleaves, e1, q_push_I, q_push_L, q_push_P, q_push_U, ↓if_pos, ↓if_neg, Int.toNat_natCast]
  repeat' first | (refine And.intro ?_ ?_) | rfl | exact True.intro | assumption | omega
theorem k_take {t n : Nat} {x : Int} (hG : gok G) (ht : t < 3) (hI : tabI v (110 + 9 * t) t n) (hx : 0 ≤ x ∧ x ≤ 999) (hf : plm v t n x < n ∧ v 142 (14 * t + plm v t n x) = x) (hQ : ∀ v', (∀ b, ¬ (110 + 9 * t < b ∧ b < 110 + 9 * t + 9) → v' b = v b) → v' (110 + 9 * t + 1) = q_rdel v (110 + 9 * t + 1) (plm v t n x + 1) (110 + 9 * t + 1) → v' (110 + 9 * t + 2) = q_rdel v (110 + 9 * t + 1) (plm v t n x + 1) (110 + 9 * t + 2) → v' (110 + 9 * t + 3) = q_rdel v (110 + 9 * t + 1) (plm v t n x + 1) (110 + 9 * t + 3) → treeI v' (110 + 9 * t + 4) (n + 1) (v' (110 + 9 * t + 2)) (v' (110 + 9 * t + 3)) → Q (.inl (v (110 + 9 * t + 3) (plm v t n x + 1))) v' G) : q_call (d + 8) 123 [.inr (.inr (.inl (some 32))), .inl t, .inl x] v G Q := by
  have hT := g_table hG t ht
  obtain ⟨g0, g⟩ := hT
  generalize hq : 110 + 9 * t = q at *
  have g1 := g.1
  have g2 := g.2.1
  have g3 := g.2.2.2.1
  have hkey := tab_key hI
  have hi14 := hI.1
  have hp := (plm_sp (v := v) (t := t) (n := n) (x := x)).1
  have hsz : v (q + 1) 2 = ((n + 2 : Nat) : Int) := by rw [hI.2.2.1]; omega
  have hpl := tab_plc hI hx.1 hx.2
  have e1 : ∀ (d' : Nat) (Q' : q_V → q_H → q_Gr → Prop), q_call (d' + 1) 85 [.inr (.inr (.inl (some (q + 1)))), .inl x] v G Q' = Q' (.inl (plc (v (q + 2)) (n + 2) x)) v G := fun d' Q' => c_rplace g3 hsz (by omega) (fun k hk => by have := hkey k hk; show -2147483648 ≤ v (q + 2) k ∧ v (q + 2) k ≤ 2147483647; omega) (by omega) (by omega)
  have e2 : ∀ (d' : Nat) (Q' : q_V → q_H → q_Gr → Prop), q_call (d' + 3) 103 [.inr (.inr (.inl (some q))), .inl x] v G Q' = Q' (.inl (((plm v t n x + 1 : Nat) : Int))) v G := fun d' Q' => by
    rw [c_ff g (n := n + 1) (by rw [hsz]; omega) (by omega) (fun k hk => by have := hkey k (by omega); omega) (by omega) (by omega), tab_ff hI hx.1 (by omega)]
  rw [if_pos hf] at hpl
  rw [hpl] at e1
  have e3 : ∀ (d' : Nat) (Q' : q_V → q_H → q_Gr → Prop), q_call (d' + 2) 80 [.inr (.inr (.inl (some (q + 1)))), .inl (((plm v t n x + 1 : Nat) : Int))] v G Q' = Q' (.inr (.inr (.inr ()))) (q_rdel v (q + 1) (plm v t n x + 1)) G := fun d' Q' => c_rdel g3 (by omega) (by omega) (by omega)
  have e4 : ∀ (d' : Nat) (Q' : q_V → q_H → q_Gr → Prop), q_call (d' + 2) 84 [.inr (.inr (.inl (some (q + 1)))), .inl (((plm v t n x + 1 : Nat) : Int))] v G Q' = Q' (.inl (v (q + 3) (plm v t n x + 1))) v G := fun d' Q' => by
    rw [c_rval g3 (by omega) (by omega) (by omega) (by omega), if_pos (by omega)]
    rfl
  have hk2 : ∀ k, k < n + 1 → (-1 ≤ q_rdel v (q + 1) (plm v t n x + 1) (q + 2) k ∧ q_rdel v (q + 1) (plm v t n x + 1) (q + 2) k ≤ 1000) ∧ 0 ≤ q_rdel v (q + 1) (plm v t n x + 1) (q + 3) k ∧ q_rdel v (q + 1) (plm v t n x + 1) (q + 3) k ≤ 999 := by
    intro k hk
    have hr := rdel_rd (a := plm v t n x + 1) (j := k) hsz (by omega) (by omega)
    rw [show q + 1 + 1 = q + 2 from rfl, show q + 1 + 2 = q + 3 from rfl] at hr
    rw [hr.1, hr.2]
    by_cases c1 : k < plm v t n x + 1
    · rw [if_pos c1, if_pos c1]
      exact hkey k (by omega)
    · rw [if_neg c1, if_neg c1]
      exact hkey (k + 1) (by omega)
  simp (disch := first | assumption | omega) only [E123, SHC hG, g0, c_within, c_tleaves, e1, e4, q_push_I, q_push_L, q_push_P, q_push_U, ↓if_pos, ↓if_neg, Int.toNat_natCast]
  simp (disch := first | assumption | omega) only [E99, g1, g2, e3, q_push_I, q_push_L, q_push_P, q_push_U, ↓if_pos, ↓if_neg]
  repeat' first | (refine And.intro ?_ ?_) | rfl | exact True.intro | assumption | omega | (refine c_seal (n := n + 1) g (by rw [rdel_sz, hsz]; omega) (by omega) (by omega) hk2 (fun v' h1 h2 => ?_))
  simp (disch := first | assumption | omega) only [E99, E123, q_push_I, q_push_L, q_push_P, q_push_U, ↓if_pos, ↓if_neg, Int.toNat_natCast]
  have r1 := h2 (q + 1) (by omega)
  have r2 := h2 (q + 2) (by omega)
  have r3 := h2 (q + 3) (by omega)
  exact hQ v' (fun b hb => by rw [h2 b (by omega), rdel_r (by omega) (by omega) (by omega)]) r1 r2 r3 (by rw [r2, r3]; exact h1)
/-! the reference -/
theorem plm_cg {v' : q_H} {t n : Nat} {x : Int} (h : v' 142 = v 142) : plm v' t n x = plm v t n x := by
  unfold plm
  rw [h]
theorem s_mput_loop {t n at' : Nat} {x y : Int} {v0 : q_H} (hG : gok G) (ht : t < 3) (hn : n < 14) (h0 : v0 141 t = (n : Int)) (ha : 14 * t ≤ at' ∧ at' ≤ 14 * t + n) (hQ : ∀ v', (∀ b, b ≠ 141 → b ≠ 142 → b ≠ 143 → v' b = v0 b) → (∀ j, j ≠ t → v' 141 j = v0 141 j) → v' 141 t = (n : Int) + 1 → (∀ j, v' 142 j = if j = at' then x else if at' < j ∧ j ≤ 14 * t + n then v0 142 (j - 1) else v0 142 j) → (∀ j, v' 143 j = if j = at' then y else if at' < j ∧ j ≤ 14 * t + n then v0 143 (j - 1) else v0 143 j) → Q (.inl ((n : Int) + 1)) v' G) : ∀ (r k : Nat) (v : q_H), k = at' + r → k ≤ 14 * t + n → (∀ j, v 142 j = if k < j ∧ j ≤ 14 * t + n then v0 142 (j - 1) else v0 142 j) → (∀ j, v 143 j = if k < j ∧ j ≤ 14 * t + n then v0 143 (j - 1) else v0 143 j) → (∀ b, b ≠ 142 → b ≠ 143 → v b = v0 b) → q_wp d 163 78 [.inr (.inr (.inl (some 137))), .inl t, .inl x, .inl y, .inl (at'), .inl k] [] v G Q := by
  intro r
  induction r with
  | zero =>
    intro k v hk hk2 i1 i2 i3
    have hk : k = at' := by omega
    subst hk
    have h1 : v 141 t = (n : Int) := by rw [i3 141 (by decide) (by decide), h0]
    rw [e_163_78]
    simp (disch := omega) only [E163, SHM hG, Int.toNat_natCast, u_n, u_s, h1]
    rw [if_pos (by omega)]
    have := hQ (q_up (q_up (q_up v 142 k x) 141 t ((n : Int) + 1)) 143 k y) (fun b b1 b2 b3 => by simp (disch := omega) only [u_r]; exact i3 b b2 b3) (fun j hj => by simp (disch := omega) only [u_n]; rw [i3 141 (by decide) (by decide)]) (by simp (disch := omega) only [u_n, u_s]) (fun j => by
      by_cases e : j = k
      · simp (disch := omega) only [u_n, u_s, if_pos]
      · simp (disch := omega) only [u_n, if_neg]
        exact i1 j) (fun j => by
      by_cases e : j = k
      · simp (disch := omega) only [u_s, if_pos]
      · simp (disch := omega) only [u_n, if_neg]
        exact i2 j)
    repeat' first | (refine And.intro ?_ ?_) | rfl | exact True.intro | assumption | omega
  | succ r ih =>
    intro k v hk hk2 i1 i2 i3
    rw [e_163_78]
    simp (disch := omega) only [E163, SHM hG, Int.toNat_natCast, u_n, u_s, show ((k : Int) - 1).toNat = k - 1 by omega, show ((k : Int) + -1) = ((k - 1 : Nat) : Int) by omega]
    rw [if_neg (by omega)]
    have := ih (k - 1) (q_up (q_up v 142 k (v 142 (k - 1))) 143 k (v 143 (k - 1))) (by omega) (by omega) (fun j => by
      by_cases e : j = k
      · subst e
        rw [u_n (by omega), u_s rfl rfl, i1, if_neg (by omega), if_pos (by omega)]
      · rw [u_n (by omega), u_n (by omega), i1]
        by_cases c : k < j ∧ j ≤ 14 * t + n
        · rw [if_pos c, if_pos (by omega)]
        · rw [if_neg c, if_neg (by omega)]) (fun j => by
      by_cases e : j = k
      · subst e
        rw [u_s rfl rfl, i2, if_neg (by omega), if_pos (by omega)]
      · rw [u_n (by omega), u_n (by omega), i2]
        by_cases c : k < j ∧ j ≤ 14 * t + n
        · rw [if_pos c, if_pos (by omega)]
        · rw [if_neg c, if_neg (by omega)]) (fun b b1 b2 => by rw [u_r b2, u_r b1, i3 b b1 b2])
    repeat' first | (refine And.intro ?_ ?_) | rfl | exact True.intro | assumption | omega
theorem s_mtake_loop {t n at' : Nat} {x y : Int} {v0 : q_H} (hG : gok G) (ht : t < 3) (hn : n < 14) (h0 : v0 141 t = (n : Int)) (ha : 14 * t ≤ at' ∧ at' ≤ 14 * t + n) (hQ : ∀ v', (∀ b, b ≠ 142 → b ≠ 143 → v' b = v0 b) → (∀ j, v' 142 j = if at' ≤ j ∧ j < 14 * t + n then v0 142 (j + 1) else v0 142 j) → (∀ j, v' 143 j = if at' ≤ j ∧ j < 14 * t + n then v0 143 (j + 1) else v0 143 j) → Q (.inl y) v' G) : ∀ (r k : Nat) (v : q_H), k + r = 14 * t + n → at' ≤ k → (∀ j, v 142 j = if at' ≤ j ∧ j < k then v0 142 (j + 1) else v0 142 j) → (∀ j, v 143 j = if at' ≤ j ∧ j < k then v0 143 (j + 1) else v0 143 j) → (∀ b, b ≠ 142 → b ≠ 143 → v b = v0 b) → q_wp d 164 62 [.inr (.inr (.inl (some 137))), .inl t, .inl x, .inl (at'), .inl y, .inl k] [] v G Q := by
  intro r
  induction r with
  | zero =>
    intro k v hk hk2 i1 i2 i3
    have hk : k = 14 * t + n := by omega
    subst hk
    have h1 : v 141 t = (n : Int) := by rw [i3 141 (by decide) (by decide), h0]
    rw [e_164_62]
    simp (disch := omega) only [E164, SHM hG, Int.toNat_natCast, u_n, u_s, h1]
    rw [if_pos (by omega)]
    have := hQ v i3 i1 i2
    repeat' first | (refine And.intro ?_ ?_) | rfl | exact True.intro | assumption | omega
  | succ r ih =>
    intro k v hk hk2 i1 i2 i3
    have h1 : v 141 t = (n : Int) := by rw [i3 141 (by decide) (by decide), h0]
    rw [e_164_62]
    simp (disch := omega) only [E164, SHM hG, Int.toNat_natCast, u_n, u_s, h1, show ((k : Int) + 1).toNat = k + 1 by omega, show ((k : Int) + 1) = ((k + 1 : Nat) : Int) by omega]
    rw [if_neg (by omega)]
    have := ih (k + 1) (q_up (q_up v 142 k (v 142 (k + 1))) 143 k (v 143 (k + 1))) (by omega) (by omega) (fun j => by
      by_cases e : j = k
      · subst e
        rw [u_n (by omega), u_s rfl rfl, i1, if_neg (by omega), if_pos (by omega)]
      · rw [u_n (by omega), u_n (by omega), i1]
        by_cases c : at' ≤ j ∧ j < k
        · rw [if_pos c, if_pos (by omega)]
        · rw [if_neg c, if_neg (by omega)]) (fun j => by
      by_cases e : j = k
      · subst e
        rw [u_s rfl rfl, i2, if_neg (by omega), if_pos (by omega)]
      · rw [u_n (by omega), u_n (by omega), i2]
        by_cases c : at' ≤ j ∧ j < k
        · rw [if_pos c, if_pos (by omega)]
        · rw [if_neg c, if_neg (by omega)]) (fun b b1 b2 => by rw [u_r b2, u_r b1, i3 b b1 b2])
    repeat' first | (refine And.intro ?_ ?_) | rfl | exact True.intro | assumption | omega
end
