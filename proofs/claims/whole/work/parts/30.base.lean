/-! ===== memory ===== -/
theorem q_up_eq (v : q_H) (a k : Nat) (x : Int) (b j : Nat) : q_up v a k x b j = if b = a ∧ j = k then x else v b j := rfl
/-- a row of places gets one number -/
def q_fl1 (v : q_H) (a i n : Nat) (x : Int) : q_H := fun b j => if b = a ∧ i ≤ j ∧ j < n then x else v b j
theorem q_fl1_nil (v : q_H) (a n : Nat) (x : Int) : q_fl1 v a n n x = v := by
  funext b j
  simp only [q_fl1]
  rw [if_neg (by omega)]
theorem q_fl1_cons (v : q_H) (a i n : Nat) (x : Int) (h : i < n) : q_fl1 (q_up v a i x) a (i + 1) n x = q_fl1 v a i n x := by
  funext b j
  simp only [q_fl1, q_up]
  by_cases h1 : b = a
  · by_cases h2 : j = i
    · simp [h1, h2, h]
    · by_cases h3 : i + 1 ≤ j ∧ j < n
      · rw [if_pos ⟨h1, h3⟩, if_pos ⟨h1, by omega, h3.2⟩]
      · rw [if_neg (fun q => h3 q.2), if_neg (fun q => h2 q.2), if_neg (fun q => h3 ⟨by omega, q.2.2⟩)]
  · simp [h1]
/-- Arrays.fill -/
theorem s_fill_loop {d a : Nat} {x : Int} {G : q_Gr} {Q : q_V → q_H → q_Gr → Prop} (hk : (G.2.1 a).1 = 20) (h32 : 32 ≤ a) (hn : (G.2.1 a).2 ≤ 2147483647) : ∀ (r k : Nat) (v : q_H), k + r = (G.2.1 a).2 → q_wp d 226 5 [.inr (.inr (.inl (some a))), .inl x, .inl (k : Int), .inl ((G.2.1 a).2 : Int)] [] v G Q = Q (.inr (.inr (.inr ()))) (q_fl1 v a k (G.2.1 a).2 x) G := by
  intro r
  induction r with
  | zero =>
    intro k v h
    have h : k = (G.2.1 a).2 := by omega
    subst h
    rw [e_226_5]
    simp only [E226, q_fl1_nil]
    rw [if_pos (Int.le_refl _)]
    simp only [eq_iff_iff, and_iff_right_iff_imp]
    intro _
    constructor <;> constructor <;> omega
  | succ r ih =>
    intro k v h
    rw [e_226_5]
    simp only [E226]
    rw [if_neg (by omega), show ((k : Int) + 1) = ((k + 1 : Nat) : Int) by omega, ih (k + 1) _ (by omega), Int.toNat_natCast, q_fl1_cons _ _ _ _ _ (by omega)]
    simp only [eq_iff_iff, hk, true_and]
    constructor
    · rintro ⟨-, -, hq⟩
      exact hq
    · intro hq
      exact ⟨⟨⟨by omega, by omega⟩, by omega, by omega⟩, ⟨h32, by omega, by omega⟩, hq⟩
theorem s_fill {d a : Nat} {x : Int} {v : q_H} {G : q_Gr} {Q : q_V → q_H → q_Gr → Prop} (hk : (G.2.1 a).1 = 20) (h32 : 32 ≤ a) (hn : (G.2.1 a).2 ≤ 2147483647) : q_call (d + 1) 226 [.inr (.inr (.inl (some a))), .inl x] v G Q = Q (.inr (.inr (.inr ()))) (q_fl1 v a 0 (G.2.1 a).2 x) G := by
  simp only [E226]
  rw [show (0 : Int) = ((0 : Nat) : Int) from rfl, s_fill_loop hk h32 hn (G.2.1 a).2 0 v (by omega)]
  simp [hk]
