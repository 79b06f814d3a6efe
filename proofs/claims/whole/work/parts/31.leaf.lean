/-! ===== one run has one end ===== -/
theorem q_call_eq {d m : Nat} {as : List q_V} {v : q_H} {G : q_Gr} {r0 : q_V} {v0 : q_H} {G0 : q_Gr} (h : q_call d m as v G (fun r v' G' => r = r0 ∧ v' = v0 ∧ G' = G0)) (Q : q_V → q_H → q_Gr → Prop) : q_call d m as v G Q = Q r0 v0 G0 := by
  obtain ⟨N, r, v', G', h1, rfl, rfl, rfl⟩ := h
  apply propext
  constructor
  · rintro ⟨N2, r2, v2, G2, h2, hQ⟩
    have e1 := q_run_le (Nat.le_max_left N N2) _ _ _ _ _ _ h1
    have e2 := q_run_le (Nat.le_max_right N N2) _ _ _ _ _ _ h2
    rw [e1] at e2
    cases e2
    exact hQ
  · intro hQ
    exact ⟨N, _, _, _, h1, hQ⟩
def J (a b : Int) : Int := (31 * a * a + 17 * b + 101) % 65521
theorem J_rng (a b : Int) : 0 ≤ J a b ∧ J a b ≤ 65520 := by unfold J; omega
theorem sq_rng {a : Int} (h0 : 0 ≤ a) (h1 : a ≤ 1000000) : 0 ≤ 31 * a * a ∧ 31 * a * a ≤ 31000000000000 := by
  have h2 : 0 ≤ a * a := Int.mul_nonneg h0 h0
  have h3 : a * a ≤ 1000000 * 1000000 := Int.mul_le_mul h1 h1 h0 (by decide)
  rw [Int.mul_assoc]
  omega
/-- isWithin -/
theorem c_within {a b : Int} (ha : -2147483648 ≤ a) (ha2 : a ≤ 2147483647) (hb : -2147483648 ≤ b) (hb2 : b ≤ 2147483647) {d : Nat} {v : q_H} {G : q_Gr} {Q : q_V → q_H → q_Gr → Prop} : q_call (d + 1) 144 [.inl a, .inl b] v G Q = Q (.inl (if 0 ≤ a ∧ a < b then 1 else 0)) v G := by
  refine q_call_eq ?_ Q
  simp only [E144]
  repeat' first | (refine And.intro ?_ ?_) | split | rfl | exact True.intro | assumption | omega
/-- mix -/
theorem c_mix {a b : Int} (ha : 0 ≤ a) (ha2 : a ≤ 1000000) (hb : 0 ≤ b) (hb2 : b ≤ 1000000) {d : Nat} {v : q_H} {G : q_Gr} {Q : q_V → q_H → q_Gr → Prop} : q_call (d + 1) 145 [.inr (.inl a), .inr (.inl b)] v G Q = Q (.inl (J a b)) v G := by
  refine q_call_eq ?_ Q
  simp only [E145]
  have h := sq_rng ha ha2
  unfold J
  rw [Int.tmod_eq_emod_of_nonneg (by omega)]
  repeat' first | (refine And.intro ?_ ?_) | split | rfl | exact True.intro | assumption | omega
theorem c_join {a b : Int} (ha : 0 ≤ a) (ha2 : a ≤ 1000000) (hb : 0 ≤ b) (hb2 : b ≤ 1000000) {d : Nat} {v : q_H} {G : q_Gr} {Q : q_V → q_H → q_Gr → Prop} : q_call (d + 1) 153 [.inl a, .inl b] v G Q = Q (.inl (J a b)) v G := by
  refine q_call_eq ?_ Q
  simp only [E153]
  have h := sq_rng ha ha2
  unfold J
  rw [Int.tmod_eq_emod_of_nonneg (by omega)]
  repeat' first | (refine And.intro ?_ ?_) | split | rfl | exact True.intro | assumption | omega
theorem c_in {a b c : Int} (ha : -9223372036854775808 ≤ a) (ha2 : a ≤ 9223372036854775807) (hb : -9223372036854775808 ≤ b) (hb2 : b ≤ 9223372036854775807) (hc : -9223372036854775808 ≤ c) (hc2 : c ≤ 9223372036854775807) {d : Nat} {v : q_H} {G : q_Gr} {Q : q_V → q_H → q_Gr → Prop} : q_call (d + 1) 151 [.inr (.inl a), .inr (.inl b), .inr (.inl c)] v G Q = Q (.inl (if b ≤ a ∧ a ≤ c then 1 else 0)) v G := by
  refine q_call_eq ?_ Q
  simp only [E151]
  repeat' first | (refine And.intro ?_ ?_) | split | rfl | exact True.intro | assumption | omega
theorem c_isSheet {a : Int} (ha : -2147483648 ≤ a) (ha2 : a ≤ 2147483647) {d : Nat} {v : q_H} {G : q_Gr} {Q : q_V → q_H → q_Gr → Prop} : q_call (d + 2) 154 [.inl a] v G Q = Q (.inl (if 0 ≤ a ∧ a ≤ 7 then 1 else 0)) v G := by
  refine q_call_eq ?_ Q
  simp (disch := omega) only [E154, c_in, q_push_I, q_push_L, q_push_P, q_push_U]
  repeat' first | (refine And.intro ?_ ?_) | split | rfl | exact True.intro | assumption | omega
theorem c_isTable {a : Int} (ha : -2147483648 ≤ a) (ha2 : a ≤ 2147483647) {d : Nat} {v : q_H} {G : q_Gr} {Q : q_V → q_H → q_Gr → Prop} : q_call (d + 2) 159 [.inl a] v G Q = Q (.inl (if 0 ≤ a ∧ a ≤ 2 then 1 else 0)) v G := by
  refine q_call_eq ?_ Q
  simp (disch := omega) only [E159, c_in, q_push_I, q_push_L, q_push_P, q_push_U]
  repeat' first | (refine And.intro ?_ ?_) | split | rfl | exact True.intro | assumption | omega
theorem c_isKey {a : Int} (ha : -2147483648 ≤ a) (ha2 : a ≤ 2147483647) {d : Nat} {v : q_H} {G : q_Gr} {Q : q_V → q_H → q_Gr → Prop} : q_call (d + 2) 160 [.inl a] v G Q = Q (.inl (if 0 ≤ a ∧ a ≤ 999 then 1 else 0)) v G := by
  refine q_call_eq ?_ Q
  simp (disch := omega) only [E160, c_in, q_push_I, q_push_L, q_push_P, q_push_U]
  repeat' first | (refine And.intro ?_ ?_) | split | rfl | exact True.intro | assumption | omega
theorem c_found {n : Int} {d : Nat} {v : q_H} {G : q_Gr} {Q : q_V → q_H → q_Gr → Prop} (h : (G.2.1 32).1 = 10) : q_call (d + 1) 146 [.inr (.inr (.inl (some 32))), .inl n] v G Q = Q (.inl (-1000010 - n)) (q_up v 32 9 n) G := by
  refine q_call_eq ?_ Q
  simp only [E146]
  repeat' first | (refine And.intro ?_ ?_) | split | rfl | exact True.intro | assumption | omega
theorem c_fine {n : Int} {d : Nat} {v : q_H} {G : q_Gr} {Q : q_V → q_H → q_Gr → Prop} (h : (G.2.1 32).1 = 10) : q_call (d + 1) 147 [.inr (.inr (.inl (some 32))), .inl n] v G Q = Q (.inl n) (q_up v 32 9 0) G := by
  refine q_call_eq ?_ Q
  simp only [E147]
  repeat' first | (refine And.intro ?_ ?_) | split | rfl | exact True.intro | assumption | omega
theorem c_finding {n : Int} {d : Nat} {v : q_H} {G : q_Gr} {Q : q_V → q_H → q_Gr → Prop} (h : (G.2.1 137).1 = 11) : q_call (d + 1) 152 [.inr (.inr (.inl (some 137))), .inl n] v G Q = Q (.inl (-1000010 - n)) (q_up v 137 1 n) G := by
  refine q_call_eq ?_ Q
  simp only [E152]
  repeat' first | (refine And.intro ?_ ?_) | split | rfl | exact True.intro | assumption | omega
/-! ===== memory: reading what was written ===== -/
theorem u_s {v : q_H} {a k b j : Nat} {x : Int} (h1 : b = a) (h2 : j = k) : q_up v a k x b j = x := by rw [q_up_eq, if_pos ⟨h1, h2⟩]
theorem u_n {v : q_H} {a k b j : Nat} {x : Int} (h : b ≠ a ∨ j ≠ k) : q_up v a k x b j = v b j := by rw [q_up_eq, if_neg (by omega)]
theorem u_r {v : q_H} {a k b : Nat} {x : Int} (h : b ≠ a) : q_up v a k x b = v b := by
  funext j
  exact u_n (Or.inl h)
theorem cp_i {v : q_H} {a i b j n c k : Nat} (h1 : c = b) (h2 : j ≤ k) (h3 : k < j + n) : q_cp v a i b j n c k = v a (i + (k - j)) := by unfold q_cp; rw [if_pos ⟨h1, h2, h3⟩]
theorem cp_n {v : q_H} {a i b j n c k : Nat} (h : c ≠ b ∨ k < j ∨ j + n ≤ k) : q_cp v a i b j n c k = v c k := by unfold q_cp; rw [if_neg (by omega)]
theorem cp_r {v : q_H} {a i b j n c : Nat} (h : c ≠ b) : q_cp v a i b j n c = v c := by
  funext k
  exact cp_n (Or.inl h)
/-- one number more, at the end of a row that counts itself -/
def q_app (v : q_H) (q f i : Nat) (x : Int) : q_H := q_up (q_up v i (v q f).toNat x) q f (v q f + 1)
def q_apl (v : q_H) (q f i : Nat) : List Int → q_H
  | [] => v
  | x :: xs => q_apl (q_app v q f i x) q f i xs
theorem apl_app (q f i : Nat) : ∀ (xs ys : List Int) (v : q_H), q_apl v q f i (xs ++ ys) = q_apl (q_apl v q f i xs) q f i ys
  | [], ys, v => rfl
  | x :: xs, ys, v => apl_app q f i xs ys _
theorem app_c {v : q_H} {q f i : Nat} {x : Int} : q_app v q f i x q f = v q f + 1 := u_s rfl rfl
theorem app_l {v : q_H} {q f i j : Nat} {x : Int} (h : q ≠ i) (hj : (j : Int) = v q f) : q_app v q f i x i j = x := by
  unfold q_app
  rw [u_n (by omega), u_s rfl (by omega)]
theorem app_n {v : q_H} {q f i b j : Nat} {x : Int} (h : b ≠ q ∨ j ≠ f) (h2 : b ≠ i ∨ (j : Int) < v q f) : q_app v q f i x b j = v b j := by
  unfold q_app
  rw [u_n h, u_n (by omega)]
theorem apl_c {q f i : Nat} : ∀ (xs : List Int) (v : q_H), q_apl v q f i xs q f = v q f + (xs.length : Int)
  | [], v => by simp [q_apl]
  | x :: xs, v => by
    show q_apl (q_app v q f i x) q f i xs q f = _
    rw [apl_c xs, app_c, List.length_cons]
    omega
theorem apl_n {q f i b j : Nat} : ∀ (xs : List Int) (v : q_H) (_ : b ≠ q ∨ j ≠ f) (_ : b ≠ i ∨ (j : Int) < v q f), q_apl v q f i xs b j = v b j
  | [], v, _, _ => rfl
  | x :: xs, v, h, h2 => by
    show q_apl (q_app v q f i x) q f i xs b j = _
    rw [apl_n xs _ h (by rw [app_c]; omega), app_n h h2]
theorem apl_r {q f i b : Nat} {xs : List Int} {v : q_H} (h : b ≠ q) (h2 : b ≠ i) : q_apl v q f i xs b = v b := by
  funext j
  exact apl_n xs v (Or.inl h) (Or.inl h2)
theorem apl_l {q f i : Nat} (h : q ≠ i) : ∀ (xs : List Int) (v : q_H) (k : Nat) (_ : 0 ≤ v q f) (hk : k < xs.length), q_apl v q f i xs i ((v q f).toNat + k) = xs[k]
  | [], v, k, _, hk => absurd hk (Nat.not_lt_zero _)
  | x :: xs, v, 0, h0, _ => by
    show q_apl (q_app v q f i x) q f i xs i _ = _
    rw [apl_n xs _ (by omega) (by rw [app_c]; omega), app_l h (by omega)]
    rfl
  | x :: xs, v, k + 1, h0, hk => by
    show q_apl (q_app v q f i x) q f i xs i _ = _
    have := apl_l h xs (q_app v q f i x) k (by rw [app_c]; omega) (by simpa using hk)
    rw [app_c] at this
    rw [show (v q f).toNat + (k + 1) = (v q f + 1).toNat + k by omega, this]
    rfl
/-- the row holds this list, and counts it -/
def hasL (v : q_H) (q f i : Nat) (xs : List Int) : Prop := v q f = (xs.length : Int) ∧ ∀ (k : Nat) (hk : k < xs.length), v i k = xs[k]
theorem hasL_apl {v : q_H} {q f i : Nat} {xs ys : List Int} (h : q ≠ i) (hx : hasL v q f i xs) : hasL (q_apl v q f i ys) q f i (xs ++ ys) := by
  refine ⟨?_, fun k hk => ?_⟩
  · rw [apl_c, hx.1, List.length_append]
    omega
  · rw [List.getElem_append]
    split
    · next h1 => rw [apl_n _ _ (by omega) (by rw [hx.1]; omega), hx.2 k h1]
    · next h1 =>
      have h2 : k - xs.length < ys.length := by rw [List.length_append] at hk; omega
      have := apl_l h ys v (k - xs.length) (by rw [hx.1]; omega) h2
      rw [hx.1, Int.toNat_natCast, show xs.length + (k - xs.length) = k by omega] at this
      exact this
