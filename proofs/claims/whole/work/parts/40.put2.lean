section
variable {d : Nat} {v : q_H} {G : q_Gr} {Q : q_V → q_H → q_Gr → Prop}
theorem m_put_new {t n : Nat} {x y : Int} (hG : gok G) (ht : t < 3) (hn : v 141 t = (n : Int)) (h14 : n ≤ 14) (hr : ∀ k, k < n → 0 ≤ v 142 (14 * t + k) ∧ v 142 (14 * t + k) ≤ 999) (hx : 0 ≤ x ∧ x ≤ 999) (hy : 0 ≤ y ∧ y ≤ 999) (hf : ¬ (plm v t n x < n ∧ v 142 (14 * t + plm v t n x) = x)) (hlt : n < 14) (hQ : ∀ v', (∀ b, b ≠ 137 → b ≠ 141 → b ≠ 142 → b ≠ 143 → v' b = v b) → (∀ j, j ≠ 0 → v' 137 j = v 137 j) → (∀ j, j ≠ t → v' 141 j = v 141 j) → v' 141 t = (n : Int) + 1 → (∀ j, v' 142 j = if j = 14 * t + plm v t n x then x else if 14 * t + plm v t n x < j ∧ j ≤ 14 * t + n then v 142 (j - 1) else v 142 j) → (∀ j, v' 143 j = if j = 14 * t + plm v t n x then y else if 14 * t + plm v t n x < j ∧ j ≤ 14 * t + n then v 143 (j - 1) else v 143 j) → Q (.inl ((n : Int) + 1)) v' G) : q_call (d + 8) 163 [.inr (.inr (.inl (some 137))), .inl t, .inl x, .inl y] v G Q := by
  have hk : ∀ k, k < n → -2147483648 ≤ q_up v 137 0 0 142 (14 * t + k) ∧ q_up v 137 0 0 142 (14 * t + k) ≤ 2147483647 := fun k hk => by
    rw [u_n (by omega)]
    have := hr k hk
    omega
  have h0 : q_up v 137 0 0 141 t = (n : Int) := by rw [u_n (by omega), hn]
  have e1 : ∀ (d' : Nat) (Q' : q_V → q_H → q_Gr → Prop), q_call (d' + 1) 161 [.inr (.inr (.inl (some 137))), .inl t, .inl x] (q_up v 137 0 0) G Q' = Q' (.inl (((14 * t + plm v t n x : Nat) : Int))) (q_up v 137 0 0) G := fun d' Q' => by
    rw [c_mplace hG ht h0 h14 hk (by omega) (by omega), plm_cg (v := v) (u_r (by omega))]
  have e2 : ∀ (d' : Nat) (Q' : q_V → q_H → q_Gr → Prop), q_call (d' + 2) 162 [.inr (.inr (.inl (some 137))), .inl t, .inl x] (q_up v 137 0 0) G Q' = Q' (.inl (if plm v t n x < n ∧ v 142 (14 * t + plm v t n x) = x then 1 else 0)) (q_up v 137 0 0) G := fun d' Q' => by
    rw [c_mhas hG ht h0 h14 hk (by omega) (by omega), plm_cg (v := v) (u_r (by omega)), u_n (by omega)]
  have hp := (plm_sp (v := v) (t := t) (n := n) (x := x)).1
  rw [if_neg hf] at e2
  simp (disch := first | assumption | omega) only [E163, SHM hG, c_isTable, c_isKey, c_in, e1, e2, q_push_I, q_push_L, q_push_P, q_push_U, ↓if_pos, ↓if_neg, Int.toNat_natCast, h0, show (14 : Int) * (t : Int) + (n : Int) = ((14 * t + n : Nat) : Int) by omega]
  have key := s_mput_loop (d := d + 7) (x := x) (at' := 14 * t + plm v t n x) (y := y) hG ht hlt h0 (by omega) (fun v' a1 a2 a3 a4 a5 => hQ v' (fun b b0 b1 b2 b3 => by rw [a1 b b1 b2 b3, u_r b0]) (fun j hj => by rw [a1 137 (by decide) (by decide) (by decide), u_n (by omega)]) (fun j hj => by rw [a2 j hj, u_n (by omega)]) a3 (fun j => by rw [a4 j]; simp (disch := omega) only [u_n]) (fun j => by rw [a5 j]; simp (disch := omega) only [u_n])) (n - plm v t n x) (14 * t + n) (q_up v 137 0 0) (by omega) (Nat.le_refl _) (fun j => by rw [if_neg (by omega)]) (fun j => by rw [if_neg (by omega)]) (fun b _ _ => rfl)
  repeat' first | (refine And.intro ?_ ?_) | rfl | exact True.intro | assumption | omega
theorem m_put_full {t n : Nat} {x y : Int} (hG : gok G) (ht : t < 3) (hn : v 141 t = (n : Int)) (h14 : n ≤ 14) (hr : ∀ k, k < n → 0 ≤ v 142 (14 * t + k) ∧ v 142 (14 * t + k) ≤ 999) (hx : 0 ≤ x ∧ x ≤ 999) (hy : 0 ≤ y ∧ y ≤ 999) (hf : ¬ (plm v t n x < n ∧ v 142 (14 * t + plm v t n x) = x)) (hlt : n = 14) : q_call (d + 8) 163 [.inr (.inr (.inl (some 137))), .inl t, .inl x, .inl y] v G Q = Q (.inl (-1000003)) (q_up v 137 0 0) G := by
  refine q_call_eq ?_ Q
  have hk : ∀ k, k < n → -2147483648 ≤ q_up v 137 0 0 142 (14 * t + k) ∧ q_up v 137 0 0 142 (14 * t + k) ≤ 2147483647 := fun k hk => by
    rw [u_n (by omega)]
    have := hr k hk
    omega
  have h0 : q_up v 137 0 0 141 t = (n : Int) := by rw [u_n (by omega), hn]
  have e1 : ∀ (d' : Nat) (Q' : q_V → q_H → q_Gr → Prop), q_call (d' + 1) 161 [.inr (.inr (.inl (some 137))), .inl t, .inl x] (q_up v 137 0 0) G Q' = Q' (.inl (((14 * t + plm v t n x : Nat) : Int))) (q_up v 137 0 0) G := fun d' Q' => by
    rw [c_mplace hG ht h0 h14 hk (by omega) (by omega), plm_cg (v := v) (u_r (by omega))]
  have e2 : ∀ (d' : Nat) (Q' : q_V → q_H → q_Gr → Prop), q_call (d' + 2) 162 [.inr (.inr (.inl (some 137))), .inl t, .inl x] (q_up v 137 0 0) G Q' = Q' (.inl (if plm v t n x < n ∧ v 142 (14 * t + plm v t n x) = x then 1 else 0)) (q_up v 137 0 0) G := fun d' Q' => by
    rw [c_mhas hG ht h0 h14 hk (by omega) (by omega), plm_cg (v := v) (u_r (by omega)), u_n (by omega)]
  have hp := (plm_sp (v := v) (t := t) (n := n) (x := x)).1
  rw [if_neg hf] at e2
  simp (disch := first | assumption | omega) only [E163, SHM hG, c_isTable, c_isKey, c_in, e1, e2, q_push_I, q_push_L, q_push_P, q_push_U, ↓if_pos, ↓if_neg, Int.toNat_natCast, h0]
  repeat' first | (refine And.intro ?_ ?_) | rfl | exact True.intro | assumption | omega
theorem m_put_old {t n : Nat} {x y : Int} (hG : gok G) (ht : t < 3) (hn : v 141 t = (n : Int)) (h14 : n ≤ 14) (hr : ∀ k, k < n → 0 ≤ v 142 (14 * t + k) ∧ v 142 (14 * t + k) ≤ 999) (hx : 0 ≤ x ∧ x ≤ 999) (hy : 0 ≤ y ∧ y ≤ 999) (hf : plm v t n x < n ∧ v 142 (14 * t + plm v t n x) = x) : q_call (d + 8) 163 [.inr (.inr (.inl (some 137))), .inl t, .inl x, .inl y] v G Q = Q (.inl ((n : Int))) (q_up (q_up v 137 0 0) 143 (14 * t + plm v t n x) y) G := by
  refine q_call_eq ?_ Q
  have hk : ∀ k, k < n → -2147483648 ≤ q_up v 137 0 0 142 (14 * t + k) ∧ q_up v 137 0 0 142 (14 * t + k) ≤ 2147483647 := fun k hk => by
    rw [u_n (by omega)]
    have := hr k hk
    omega
  have h0 : q_up v 137 0 0 141 t = (n : Int) := by rw [u_n (by omega), hn]
  have e1 : ∀ (d' : Nat) (Q' : q_V → q_H → q_Gr → Prop), q_call (d' + 1) 161 [.inr (.inr (.inl (some 137))), .inl t, .inl x] (q_up v 137 0 0) G Q' = Q' (.inl (((14 * t + plm v t n x : Nat) : Int))) (q_up v 137 0 0) G := fun d' Q' => by
    rw [c_mplace hG ht h0 h14 hk (by omega) (by omega), plm_cg (v := v) (u_r (by omega))]
  have e2 : ∀ (d' : Nat) (Q' : q_V → q_H → q_Gr → Prop), q_call (d' + 2) 162 [.inr (.inr (.inl (some 137))), .inl t, .inl x] (q_up v 137 0 0) G Q' = Q' (.inl (if plm v t n x < n ∧ v 142 (14 * t + plm v t n x) = x then 1 else 0)) (q_up v 137 0 0) G := fun d' Q' => by
    rw [c_mhas hG ht h0 h14 hk (by omega) (by omega), plm_cg (v := v) (u_r (by omega)), u_n (by omega)]
  have hp := (plm_sp (v := v) (t := t) (n := n) (x := x)).1
  rw [if_pos hf] at e2
  simp (disch := first | assumption | omega) only [E163, SHM hG, c_isTable, c_isKey, c_in, e1, e2, q_push_I, q_push_L, q_push_P, q_push_U, ↓if_pos, ↓if_neg, Int.toNat_natCast, h0, u_n, hn]
  repeat' first | (refine And.intro ?_ ?_) | rfl | exact True.intro | assumption | omega
theorem m_take_no {t n : Nat} {x : Int} (hG : gok G) (ht : t < 3) (hn : v 141 t = (n : Int)) (h14 : n ≤ 14) (hr : ∀ k, k < n → 0 ≤ v 142 (14 * t + k) ∧ v 142 (14 * t + k) ≤ 999) (hx : 0 ≤ x ∧ x ≤ 999) (hf : ¬ (plm v t n x < n ∧ v 142 (14 * t + plm v t n x) = x)) : q_call (d + 8) 164 [.inr (.inr (.inl (some 137))), .inl t, .inl x] v G Q = Q (.inl (-1000002)) (q_up v 137 0 0) G := by
  refine q_call_eq ?_ Q
  have hk : ∀ k, k < n → -2147483648 ≤ q_up v 137 0 0 142 (14 * t + k) ∧ q_up v 137 0 0 142 (14 * t + k) ≤ 2147483647 := fun k hk => by
    rw [u_n (by omega)]
    have := hr k hk
    omega
  have h0 : q_up v 137 0 0 141 t = (n : Int) := by rw [u_n (by omega), hn]
  have e1 : ∀ (d' : Nat) (Q' : q_V → q_H → q_Gr → Prop), q_call (d' + 1) 161 [.inr (.inr (.inl (some 137))), .inl t, .inl x] (q_up v 137 0 0) G Q' = Q' (.inl (((14 * t + plm v t n x : Nat) : Int))) (q_up v 137 0 0) G := fun d' Q' => by
    rw [c_mplace hG ht h0 h14 hk (by omega) (by omega), plm_cg (v := v) (u_r (by omega))]
  have e2 : ∀ (d' : Nat) (Q' : q_V → q_H → q_Gr → Prop), q_call (d' + 2) 162 [.inr (.inr (.inl (some 137))), .inl t, .inl x] (q_up v 137 0 0) G Q' = Q' (.inl (if plm v t n x < n ∧ v 142 (14 * t + plm v t n x) = x then 1 else 0)) (q_up v 137 0 0) G := fun d' Q' => by
    rw [c_mhas hG ht h0 h14 hk (by omega) (by omega), plm_cg (v := v) (u_r (by omega)), u_n (by omega)]
  have hp := (plm_sp (v := v) (t := t) (n := n) (x := x)).1
  rw [if_neg hf] at e2
  simp (disch := first | assumption | omega) only [E164, SHM hG, c_isTable, c_isKey, c_in, e1, e2, q_push_I, q_push_L, q_push_P, q_push_U, ↓if_pos, ↓if_neg, Int.toNat_natCast, h0]
  repeat' first | (refine And.intro ?_ ?_) | rfl | exact True.intro | assumption | omega
theorem m_take {t n : Nat} {x : Int} (hG : gok G) (ht : t < 3) (hn : v 141 t = (n : Int)) (h14 : n ≤ 14) (hr : ∀ k, k < n → 0 ≤ v 142 (14 * t + k) ∧ v 142 (14 * t + k) ≤ 999) (hx : 0 ≤ x ∧ x ≤ 999) (hf : plm v t n x < n ∧ v 142 (14 * t + plm v t n x) = x) (hQ : ∀ v', (∀ b, b ≠ 137 → b ≠ 141 → b ≠ 142 → b ≠ 143 → v' b = v b) → (∀ j, j ≠ 0 → v' 137 j = v 137 j) → (∀ j, j ≠ t → v' 141 j = v 141 j) → v' 141 t = (n : Int) - 1 → (∀ j, v' 142 j = if 14 * t + plm v t n x ≤ j ∧ j < 14 * t + (n - 1) then v 142 (j + 1) else v 142 j) → (∀ j, v' 143 j = if 14 * t + plm v t n x ≤ j ∧ j < 14 * t + (n - 1) then v 143 (j + 1) else v 143 j) → Q (.inl (v 143 (14 * t + plm v t n x))) v' G) : q_call (d + 8) 164 [.inr (.inr (.inl (some 137))), .inl t, .inl x] v G Q := by
  have hk : ∀ k, k < n → -2147483648 ≤ q_up v 137 0 0 142 (14 * t + k) ∧ q_up v 137 0 0 142 (14 * t + k) ≤ 2147483647 := fun k hk => by
    rw [u_n (by omega)]
    have := hr k hk
    omega
  have h0 : q_up v 137 0 0 141 t = (n : Int) := by rw [u_n (by omega), hn]
  have e1 : ∀ (d' : Nat) (Q' : q_V → q_H → q_Gr → Prop), q_call (d' + 1) 161 [.inr (.inr (.inl (some 137))), .inl t, .inl x] (q_up v 137 0 0) G Q' = Q' (.inl (((14 * t + plm v t n x : Nat) : Int))) (q_up v 137 0 0) G := fun d' Q' => by
    rw [c_mplace hG ht h0 h14 hk (by omega) (by omega), plm_cg (v := v) (u_r (by omega))]
  have e2 : ∀ (d' : Nat) (Q' : q_V → q_H → q_Gr → Prop), q_call (d' + 2) 162 [.inr (.inr (.inl (some 137))), .inl t, .inl x] (q_up v 137 0 0) G Q' = Q' (.inl (if plm v t n x < n ∧ v 142 (14 * t + plm v t n x) = x then 1 else 0)) (q_up v 137 0 0) G := fun d' Q' => by
    rw [c_mhas hG ht h0 h14 hk (by omega) (by omega), plm_cg (v := v) (u_r (by omega)), u_n (by omega)]
  have hp := (plm_sp (v := v) (t := t) (n := n) (x := x)).1
  rw [if_pos hf] at e2
  simp (disch := first | assumption | omega) only [E164, SHM hG, c_isTable, c_isKey, c_in, e1, e2, q_push_I, q_push_L, q_push_P, q_push_U, ↓if_pos, ↓if_neg, Int.toNat_natCast, h0]
  have key := s_mtake_loop (d := d + 7) (t := t) (n := n - 1) (x := x) (at' := 14 * t + plm v t n x) (y := v 143 (14 * t + plm v t n x)) (v0 := q_up (q_up v 137 0 0) 141 t ((n : Int) - 1)) hG ht (by omega) (by rw [u_s rfl rfl]; omega) (by omega) (fun v' a1 a4 a5 => hQ v' (fun b b0 b1 b2 b3 => by rw [a1 b b2 b3, u_r b1, u_r b0]) (fun j hj => by rw [a1 137 (by decide) (by decide), u_n (by omega), u_n (by omega)]) (fun j hj => by rw [a1 141 (by decide) (by decide), u_n (by omega), u_n (by omega)]) (by rw [a1 141 (by decide) (by decide), u_s rfl rfl]) (fun j => by rw [a4 j]; simp (disch := omega) only [u_n]) (fun j => by rw [a5 j]; simp (disch := omega) only [u_n])) (n - 1 - plm v t n x) (14 * t + plm v t n x) _ (by omega) (Nat.le_refl _) (fun j => by rw [if_neg (by omega)]) (fun j => by rw [if_neg (by omega)]) (fun b _ _ => rfl)
  simp (disch := omega) only [u_n] at *
  repeat' first | (refine And.intro ?_ ?_) | rfl | exact True.intro | assumption | omega
/-! the two tables stand for the same again -/
theorem ins_tab {v' : q_H} {q t n p : Nat} {x y : Int} (h : tabI v q t n) (hp : p = plm v t n x) (hf : ¬ (p < n ∧ v 142 (14 * t + p) = x)) (hn : n < 14) (hx : 0 ≤ x ∧ x ≤ 999) (hy : 0 ≤ y ∧ y ≤ 999) (a1 : v' (q + 1) 2 = (n : Int) + 3) (a2 : ∀ j, j ≤ n + 2 → v' (q + 2) j = if j < p + 1 then v (q + 2) j else if j = p + 1 then x else v (q + 2) (j - 1)) (a3 : ∀ j, j ≤ n + 2 → v' (q + 3) j = if j < p + 1 then v (q + 3) j else if j = p + 1 then y else v (q + 3) (j - 1)) (b1 : v' 141 t = (n : Int) + 1) (b2 : ∀ j, v' 142 j = if j = 14 * t + p then x else if 14 * t + p < j ∧ j ≤ 14 * t + n then v 142 (j - 1) else v 142 j) (b3 : ∀ j, v' 143 j = if j = 14 * t + p then y else if 14 * t + p < j ∧ j ≤ 14 * t + n then v 143 (j - 1) else v 143 j) (hT : treeI v' (q + 4) (n + 3) (v' (q + 2)) (v' (q + 3))) : tabI v' q t (n + 1) := by
  obtain ⟨p1, p2, p3⟩ := plm_sp (v := v) (t := t) (n := n) (x := x)
  rw [← hp] at p1 p2 p3
  obtain ⟨i1, i2, i3, i4, i5, i6, i7, i8, i9, i10⟩ := h
  refine ⟨by omega, by rw [b1]; omega, by rw [a1]; omega, by rw [a2 0 (by omega), if_pos (by omega), i4], ?_, by rw [a3 0 (by omega), if_pos (by omega), i6], ?_, fun k hk => ?_, fun k hk => ?_, hT⟩
  · rw [a2 _ (by omega), if_neg (by omega), if_neg (by omega)]
    exact i5
  · rw [a3 _ (by omega), if_neg (by omega), if_neg (by omega)]
    exact i7
  · rw [a2 _ (by omega), a3 _ (by omega), b2, b3]
    rcases Nat.lt_trichotomy k p with c | c | c
    · simp (disch := omega) only [↓if_pos, ↓if_neg]
      exact i8 k (by omega)
    · subst c
      simp (disch := omega) only [↓if_pos, ↓if_neg]
      exact ⟨by trivial, by trivial, hx.1, hx.2, hy.1, hy.2⟩
    · obtain ⟨m, rfl⟩ : ∃ m, k = m + 1 := ⟨k - 1, by omega⟩
      simp (disch := omega) only [↓if_pos, ↓if_neg]
      exact i8 m (by omega)
  · rw [a2 k (by omega), a2 (k + 1) (by omega)]
    rcases Nat.lt_trichotomy k p with c | c | c
    · simp (disch := omega) only [↓if_pos, ↓if_neg]
      exact i9 k (by omega)
    · subst c
      simp (disch := omega) only [↓if_pos, ↓if_neg]
      cases k with
      | zero => omega
      | succ k =>
        have := (i8 k (by omega)).1
        have := p2 k (by omega)
        omega
    · by_cases c2 : k = p + 1
      · subst c2
        simp (disch := omega) only [↓if_pos, ↓if_neg]
        show x < v (q + 2) (p + 1)
        by_cases c3 : p = n
        · subst c3
          omega
        · have := (i8 p (by omega)).1
          have := p3 (by omega)
          omega
      · obtain ⟨m, rfl⟩ : ∃ m, k = m + 1 := ⟨k - 1, by omega⟩
        simp (disch := omega) only [↓if_pos, ↓if_neg]
        exact i9 m (by omega)
theorem rep_tab {v' : q_H} {q t n p : Nat} {y : Int} (h : tabI v q t n) (hp : p < n) (hy : 0 ≤ y ∧ y ≤ 999) (a1 : v' (q + 1) = v (q + 1)) (a2 : v' (q + 2) = v (q + 2)) (a3 : ∀ j, v' (q + 3) j = if j = p + 1 then y else v (q + 3) j) (b1 : v' 141 = v 141) (b2 : v' 142 = v 142) (b3 : ∀ j, v' 143 j = if j = 14 * t + p then y else v 143 j) (hT : treeI v' (q + 4) (n + 2) (v' (q + 2)) (v' (q + 3))) : tabI v' q t n := by
  obtain ⟨i1, i2, i3, i4, i5, i6, i7, i8, i9, i10⟩ := h
  refine ⟨i1, by rw [b1]; exact i2, by rw [a1]; exact i3, by rw [a2]; exact i4, by rw [a2]; exact i5, by rw [a3, if_neg (by omega)]; exact i6, by rw [a3, if_neg (by omega)]; exact i7, fun k hk => ?_, by rw [a2]; exact i9, hT⟩
  rw [a2, a3, b2, b3]
  have := i8 k hk
  by_cases c : k = p
  · subst c
    simp (disch := omega) only [↓if_pos, ↓if_neg]
    exact ⟨this.1, by trivial, this.2.2.1, this.2.2.2.1, hy.1, hy.2⟩
  · simp (disch := omega) only [↓if_pos, ↓if_neg]
    exact this
theorem del_tab {v' : q_H} {q t n p : Nat} (h : tabI v q t n) (hp : p < n) (a1 : v' (q + 1) 2 = (n : Int) + 1) (a2 : ∀ j, j < n + 1 → v' (q + 2) j = if j < p + 1 then v (q + 2) j else v (q + 2) (j + 1)) (a3 : ∀ j, j < n + 1 → v' (q + 3) j = if j < p + 1 then v (q + 3) j else v (q + 3) (j + 1)) (b1 : v' 141 t = (n : Int) - 1) (b2 : ∀ j, v' 142 j = if 14 * t + p ≤ j ∧ j < 14 * t + (n - 1) then v 142 (j + 1) else v 142 j) (b3 : ∀ j, v' 143 j = if 14 * t + p ≤ j ∧ j < 14 * t + (n - 1) then v 143 (j + 1) else v 143 j) (hT : treeI v' (q + 4) (n + 1) (v' (q + 2)) (v' (q + 3))) : tabI v' q t (n - 1) := by
  obtain ⟨i1, i2, i3, i4, i5, i6, i7, i8, i9, i10⟩ := h
  obtain ⟨m, rfl⟩ : ∃ m, n = m + 1 := ⟨n - 1, by omega⟩
  refine ⟨by omega, by rw [b1]; omega, by rw [a1]; omega, by rw [a2 0 (by omega), if_pos (by omega), i4], ?_, by rw [a3 0 (by omega), if_pos (by omega), i6], ?_, fun k hk => ?_, fun k hk => ?_, hT⟩
  · rw [a2 _ (by omega), if_neg (by omega)]
    exact i5
  · rw [a3 _ (by omega), if_neg (by omega)]
    exact i7
  · rw [a2 _ (by omega), a3 _ (by omega), b2, b3]
    by_cases c : k < p
    · simp (disch := omega) only [↓if_pos, ↓if_neg]
      exact i8 k (by omega)
    · simp (disch := omega) only [↓if_pos, ↓if_neg]
      exact i8 (k + 1) (by omega)
  · rw [a2 k (by omega), a2 (k + 1) (by omega)]
    by_cases c : k + 1 < p + 1
    · simp (disch := omega) only [↓if_pos, ↓if_neg]
      exact i9 k (by omega)
    · by_cases c2 : k < p + 1
      · simp (disch := omega) only [↓if_pos, ↓if_neg]
        have := i9 k (by omega)
        have := i9 (k + 1) (by omega)
        omega
      · simp (disch := omega) only [↓if_pos, ↓if_neg]
        exact i9 (k + 1) (by omega)
end
