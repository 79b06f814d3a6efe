/-! ===== Numbers: a row that counts itself ===== -/
def gNum (G : q_Gr) (q n : Nat) : Prop := (G.2.1 q).1 = 3 ∧ G.1 q 0 = some (q + 1) ∧ (G.2.1 (q + 1)).1 = 20 ∧ (G.2.1 (q + 1)).2 = n ∧ 32 ≤ q
section
variable {d q n : Nat} {v : q_H} {G : q_Gr} {Q : q_V → q_H → q_Gr → Prop}
theorem c_nclear (h : gNum G q n) : q_call (d + 1) 36 [.inr (.inr (.inl (some q)))] v G Q = Q (.inr (.inr (.inr ()))) (q_up v q 1 0) G := by
  refine q_call_eq ?_ Q
  simp only [E36]
  obtain ⟨h1, h2, h3, h4, h5⟩ := h
  repeat' first | (refine And.intro ?_ ?_) | split | rfl | exact True.intro | assumption | omega
theorem c_nadd {x : Int} (h : gNum G q n) (h0 : 0 ≤ v q 1) (hn : v q 1 < n) (hm : n ≤ 2147483647) : q_call (d + 1) 37 [.inr (.inr (.inl (some q))), .inl x] v G Q = Q (.inr (.inr (.inr ()))) (q_app v q 1 (q + 1) x) G := by
  refine q_call_eq ?_ Q
  obtain ⟨h1, h2, h3, h4, h5⟩ := h
  simp (disch := omega) only [E37, h1, h2, h3, h4, u_n, u_s]
  repeat' first | (refine And.intro ?_ ?_) | rfl | exact True.intro | assumption | omega | exact Or.inl rfl | exact Or.inl True.intro | (rw [if_neg (by omega)])
theorem c_nsize (h : gNum G q n) : q_call (d + 1) 40 [.inr (.inr (.inl (some q)))] v G Q = Q (.inl (v q 1)) v G := by
  refine q_call_eq ?_ Q
  simp only [E40]
  obtain ⟨h1, h2, h3, h4, h5⟩ := h
  repeat' first | (refine And.intro ?_ ?_) | split | rfl | exact True.intro | assumption | omega
theorem c_nat {x : Int} (h : gNum G q n) (hx : -2147483648 ≤ x) (hx2 : x ≤ 2147483647) (h0 : 0 ≤ v q 1) (hn : v q 1 ≤ n) (hm : n ≤ 2147483647) : q_call (d + 2) 41 [.inr (.inr (.inl (some q))), .inl x] v G Q = Q (.inl (if 0 ≤ x ∧ x < v q 1 then v (q + 1) x.toNat else -1000000)) v G := by
  refine q_call_eq ?_ Q
  obtain ⟨h1, h2, h3, h4, h5⟩ := h
  simp (disch := omega) only [E41, h1, h2, h3, h4, c_within, q_push_I, q_push_L, q_push_P, q_push_U]
  repeat' first | (refine And.intro ?_ ?_) | split | rfl | exact True.intro | assumption | omega
theorem c_nos {x : Int} (h : gNum G q n) (hx : -2147483648 ≤ x) (hx2 : x ≤ 2147483647) (h0 : 0 ≤ v q 1) (hn : v q 1 ≤ n) (hm : n ≤ 2147483647) : q_call (d + 3) 42 [.inr (.inr (.inl (some q))), .inl x] v G Q = Q (.inl (if x = -1 then v q 1 else if 0 ≤ x ∧ x < v q 1 then v (q + 1) x.toNat else -1000000)) v G := by
  refine q_call_eq ?_ Q
  have h1 := h.1
  simp (disch := first | exact h | omega) only [E42, h1, c_nat, q_push_I, q_push_L, q_push_P, q_push_U]
  repeat' first | (refine And.intro ?_ ?_) | split | rfl | exact True.intro | assumption | omega
theorem c_nrep {x y : Int} (h : gNum G q n) (hx : 0 ≤ x) (hx2 : x < v q 1) (hn : v q 1 ≤ n) (hm : n ≤ 2147483647) : q_call (d + 2) 38 [.inr (.inr (.inl (some q))), .inl x, .inl y] v G Q = Q (.inr (.inr (.inr ()))) (q_up v (q + 1) x.toNat y) G := by
  refine q_call_eq ?_ Q
  obtain ⟨h1, h2, h3, h4, h5⟩ := h
  simp (disch := omega) only [E38, h1, h2, h3, h4, c_within, q_push_I, q_push_L, q_push_P, q_push_U]
  repeat' first | (refine And.intro ?_ ?_) | split | rfl | exact True.intro | assumption | omega
end
/-! ===== Rows: keys and values ===== -/
def gRow (G : q_Gr) (q : Nat) : Prop := (G.2.1 q).1 = 6 ∧ G.1 q 0 = some (q + 1) ∧ G.1 q 1 = some (q + 2) ∧ (G.2.1 (q + 1)).1 = 20 ∧ (G.2.1 (q + 1)).2 = 16 ∧ (G.2.1 (q + 2)).1 = 20 ∧ (G.2.1 (q + 2)).2 = 16 ∧ 32 ≤ q
theorem cp_0 {v : q_H} {a i b j : Nat} : q_cp v a i b j 0 = v := by
  funext c k
  exact cp_n (by omega)
/-- a row more, at a place -/
def q_rins (v : q_H) (q at' : Nat) (k x : Int) : q_H := q_up (q_up (q_up (q_cp (q_cp v (q + 1) at' (q + 1) (at' + 1) ((v q 2).toNat - at')) (q + 2) at' (q + 2) (at' + 1) ((v q 2).toNat - at')) q 2 (v q 2 + 1)) (q + 1) at' k) (q + 2) at' x
def q_rdel (v : q_H) (q at' : Nat) : q_H := q_up (q_cp (q_cp v (q + 1) (at' + 1) (q + 1) at' ((v q 2).toNat - at' - 1)) (q + 2) (at' + 1) (q + 2) at' ((v q 2).toNat - at' - 1)) q 2 (v q 2 - 1)
section
variable {d q : Nat} {v : q_H} {G : q_Gr} {Q : q_V → q_H → q_Gr → Prop}
theorem c_rclear (h : gRow G q) : q_call (d + 1) 77 [.inr (.inr (.inl (some q)))] v G Q = Q (.inr (.inr (.inr ()))) (q_up v q 2 0) G := by
  refine q_call_eq ?_ Q
  simp only [E77]
  obtain ⟨h1, h2, h3, h4, h5, h6, h7, h8⟩ := h
  repeat' first | (refine And.intro ?_ ?_) | split | rfl | exact True.intro | assumption | omega
theorem c_rsize (h : gRow G q) : q_call (d + 1) 82 [.inr (.inr (.inl (some q)))] v G Q = Q (.inl (v q 2)) v G := by
  refine q_call_eq ?_ Q
  simp only [E82]
  obtain ⟨h1, h2, h3, h4, h5, h6, h7, h8⟩ := h
  repeat' first | (refine And.intro ?_ ?_) | split | rfl | exact True.intro | assumption | omega
theorem c_rkey {x : Int} (h : gRow G q) (hx : -2147483648 ≤ x) (hx2 : x ≤ 2147483647) (h0 : 0 ≤ v q 2) (hn : v q 2 ≤ 16) : q_call (d + 2) 83 [.inr (.inr (.inl (some q))), .inl x] v G Q = Q (.inl (if 0 ≤ x ∧ x < v q 2 then v (q + 1) x.toNat else 1000)) v G := by
  refine q_call_eq ?_ Q
  obtain ⟨h1, h2, h3, h4, h5, h6, h7, h8⟩ := h
  simp (disch := omega) only [E83, h1, h2, h3, h4, h5, h6, h7, c_within, q_push_I, q_push_L, q_push_P, q_push_U]
  repeat' first | (refine And.intro ?_ ?_) | split | rfl | exact True.intro | assumption | omega
theorem c_rval {x : Int} (h : gRow G q) (hx : -2147483648 ≤ x) (hx2 : x ≤ 2147483647) (h0 : 0 ≤ v q 2) (hn : v q 2 ≤ 16) : q_call (d + 2) 84 [.inr (.inr (.inl (some q))), .inl x] v G Q = Q (.inl (if 0 ≤ x ∧ x < v q 2 then v (q + 2) x.toNat else 0)) v G := by
  refine q_call_eq ?_ Q
  obtain ⟨h1, h2, h3, h4, h5, h6, h7, h8⟩ := h
  simp (disch := omega) only [E84, h1, h2, h3, h4, h5, h6, h7, c_within, q_push_I, q_push_L, q_push_P, q_push_U]
  repeat' first | (refine And.intro ?_ ?_) | split | rfl | exact True.intro | assumption | omega
theorem c_rrep {x y : Int} (h : gRow G q) (hx : 0 ≤ x) (hx2 : x < v q 2) (hn : v q 2 ≤ 16) : q_call (d + 2) 81 [.inr (.inr (.inl (some q))), .inl x, .inl y] v G Q = Q (.inr (.inr (.inr ()))) (q_up v (q + 2) x.toNat y) G := by
  refine q_call_eq ?_ Q
  obtain ⟨h1, h2, h3, h4, h5, h6, h7, h8⟩ := h
  simp (disch := omega) only [E81, h1, h2, h3, h4, h5, h6, h7, c_within, q_push_I, q_push_L, q_push_P, q_push_U]
  repeat' first | (refine And.intro ?_ ?_) | split | rfl | exact True.intro | assumption | omega
theorem c_rins {x k y : Int} (h : gRow G q) (hx : 0 ≤ x) (hx2 : x ≤ v q 2) (hn : v q 2 < 16) : q_call (d + 1) 79 [.inr (.inr (.inl (some q))), .inl x, .inl k, .inl y] v G Q = Q (.inr (.inr (.inr ()))) (q_rins v q x.toNat k y) G := by
  refine q_call_eq ?_ Q
  obtain ⟨h1, h2, h3, h4, h5, h6, h7, h8⟩ := h
  simp (disch := omega) only [E79, h1, h2, h3, h4, h5, h6, h7, q_push_I, q_push_L, q_push_P, q_push_U, u_n, cp_n]
  unfold q_rins
  simp only [show (x + 1).toNat = x.toNat + 1 by omega, show (v q 2 - x).toNat = (v q 2).toNat - x.toNat by omega]
  repeat' first | (refine And.intro ?_ ?_) | split | rfl | exact True.intro | assumption | omega
theorem c_radd {k y : Int} (h : gRow G q) (h0 : 0 ≤ v q 2) (hn : v q 2 < 16) : q_call (d + 2) 78 [.inr (.inr (.inl (some q))), .inl k, .inl y] v G Q = Q (.inr (.inr (.inr ()))) (q_rins v q (v q 2).toNat k y) G := by
  refine q_call_eq ?_ Q
  have h1 := h.1
  simp (disch := first | exact h | omega) only [E78, h1, c_rins, q_push_I, q_push_L, q_push_P, q_push_U]
  repeat' first | (refine And.intro ?_ ?_) | split | rfl | exact True.intro | assumption | omega
theorem c_rdel {x : Int} (h : gRow G q) (hx : 0 ≤ x) (hx2 : x < v q 2) (hn : v q 2 ≤ 16) : q_call (d + 2) 80 [.inr (.inr (.inl (some q))), .inl x] v G Q = Q (.inr (.inr (.inr ()))) (q_rdel v q x.toNat) G := by
  refine q_call_eq ?_ Q
  obtain ⟨h1, h2, h3, h4, h5, h6, h7, h8⟩ := h
  simp (disch := omega) only [E80, h1, h2, h3, h4, h5, h6, h7, c_within, q_push_I, q_push_L, q_push_P, q_push_U, u_n, cp_n]
  unfold q_rdel
  simp only [show (x + 1).toNat = x.toNat + 1 by omega, show (v q 2 - x - 1).toNat = (v q 2).toNat - x.toNat - 1 by omega]
  repeat' first | (refine And.intro ?_ ?_) | split | rfl | exact True.intro | assumption | omega
end
def hasR (v : q_H) (q : Nat) (xs : List (Int × Int)) : Prop := v q 2 = (xs.length : Int) ∧ ∀ (k : Nat) (hk : k < xs.length), v (q + 1) k = xs[k].1 ∧ v (q + 2) k = xs[k].2
theorem hasR_nil {v : q_H} {q : Nat} : hasR (q_up v q 2 0) q [] := ⟨u_s rfl rfl, fun k hk => absurd hk (Nat.not_lt_zero _)⟩
theorem hasR_ins {v : q_H} {q a : Nat} {xs : List (Int × Int)} {k x : Int} (h : hasR v q xs) (ha : a ≤ xs.length) : hasR (q_rins v q a k x) q (xs.insertIdx a (k, x)) := by
  refine ⟨?_, fun j hj => ?_⟩
  · unfold q_rins
    rw [u_n (by omega), u_n (by omega), u_s rfl rfl, h.1, List.length_insertIdx_of_le_length ha]
    omega
  · have hj' : j < xs.length + 1 := by rwa [List.length_insertIdx_of_le_length ha] at hj
    unfold q_rins
    have hn : (v q 2).toNat = xs.length := by rw [h.1]; omega
    rw [hn]
    by_cases h1 : j < a
    · have := h.2 j (by omega)
      rw [List.getElem_insertIdx_of_lt h1]
      constructor
      · rw [u_n (by omega), u_n (by omega), u_n (by omega), cp_n (by omega), cp_n (by omega), this.1]
      · rw [u_n (by omega), u_n (by omega), u_n (by omega), cp_n (by omega), cp_n (by omega), this.2]
    · by_cases h2 : j = a
      · subst h2
        rw [List.getElem_insertIdx_self]
        constructor
        · rw [u_n (by omega), u_s rfl rfl]
        · rw [u_s rfl rfl]
      · have := h.2 (j - 1) (by omega)
        rw [List.getElem_insertIdx_of_gt (by omega)]
        constructor
        · rw [u_n (by omega), u_n (by omega), u_n (by omega), cp_n (by omega), cp_i rfl (by omega) (by omega), show a + (j - (a + 1)) = j - 1 by omega, this.1]
        · rw [u_n (by omega), u_n (by omega), u_n (by omega), cp_i rfl (by omega) (by omega), show a + (j - (a + 1)) = j - 1 by omega, cp_n (by omega), this.2]
theorem hasR_add {v : q_H} {q : Nat} {xs : List (Int × Int)} {k x : Int} (h : hasR v q xs) : hasR (q_rins v q (v q 2).toNat k x) q (xs ++ [(k, x)]) := by
  have := hasR_ins (k := k) (x := x) h (Nat.le_refl _)
  rw [List.insertIdx_length_self] at this
  rw [show (v q 2).toNat = xs.length by rw [h.1]; omega]
  exact this
theorem hasR_del {v : q_H} {q a : Nat} {xs : List (Int × Int)} (h : hasR v q xs) (ha : a < xs.length) : hasR (q_rdel v q a) q (xs.eraseIdx a) := by
  refine ⟨?_, fun j hj => ?_⟩
  · unfold q_rdel
    rw [u_s rfl rfl, h.1, List.length_eraseIdx_of_lt ha]
    omega
  · have hj' : j < xs.length - 1 := by rwa [List.length_eraseIdx_of_lt ha] at hj
    unfold q_rdel
    have hn : (v q 2).toNat = xs.length := by rw [h.1]; omega
    rw [hn, List.getElem_eraseIdx]
    split
    · next h1 =>
      have := h.2 j (by omega)
      constructor
      · rw [u_n (by omega), cp_n (by omega), cp_n (by omega), this.1]
      · rw [u_n (by omega), cp_n (by omega), cp_n (by omega), this.2]
    · next h1 =>
      have := h.2 (j + 1) (by omega)
      constructor
      · rw [u_n (by omega), cp_n (by omega), cp_i rfl (by omega) (by omega), show a + 1 + (j - a) = j + 1 by omega, this.1]
      · rw [u_n (by omega), cp_i rfl (by omega) (by omega), show a + 1 + (j - a) = j + 1 by omega, cp_n (by omega), this.2]
theorem rins_n {v : q_H} {q a b j : Nat} {k x : Int} (h1 : b ≠ q) (h2 : b ≠ q + 1) (h3 : b ≠ q + 2) : q_rins v q a k x b j = v b j := by
  unfold q_rins
  rw [u_n (by omega), u_n (by omega), u_n (by omega), cp_n (by omega), cp_n (by omega)]
theorem rins_r {v : q_H} {q a b : Nat} {k x : Int} (h1 : b ≠ q) (h2 : b ≠ q + 1) (h3 : b ≠ q + 2) : q_rins v q a k x b = v b := by
  funext j
  exact rins_n h1 h2 h3
theorem rdel_n {v : q_H} {q a b j : Nat} (h1 : b ≠ q) (h2 : b ≠ q + 1) (h3 : b ≠ q + 2) : q_rdel v q a b j = v b j := by
  unfold q_rdel
  rw [u_n (by omega), cp_n (by omega), cp_n (by omega)]
theorem rdel_r {v : q_H} {q a b : Nat} (h1 : b ≠ q) (h2 : b ≠ q + 1) (h3 : b ≠ q + 2) : q_rdel v q a b = v b := by
  funext j
  exact rdel_n h1 h2 h3
