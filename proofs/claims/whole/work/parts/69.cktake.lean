section
variable {d q : Nat} {v : q_H} {G : q_Gr} {Q : q_V → q_H → q_Gr → Prop}
/-! ===== the class holds a proof against what must be shown ===== -/
theorem s_lb_loop {s : RS} {N : Nat} {low : Int} (g : gChk G q) (hs : cS v q s) (hI : rdInv N N s) (hN : N ≤ 16) (hlo : -2147483648 ≤ low ∧ low ≤ 2147483647) : ∀ (i : Nat), i ≤ N → Q (.inl (lstP (pB s low) i)) v G → q_wp (d + 1) 30 7 [.inr (.inr (.inl (some q))), .inl low, .inl ((i : Int) - 1)] [] v G Q := by
  have g' := g
  obtain ⟨g0, ⟨g1, g2, g3, g4, g5, g6, g7, g8, g9⟩, gN, gT, k1, k2, k3, k4, gA, gB, gR, q1, q2⟩ := g'
  obtain ⟨s1, s2, s3, s4, s5, s6⟩ := hs
  intro i
  induction i with
  | zero =>
    intro h hQ
    unfold lstP at hQ
    rw [e_30_7]
    simp (disch := omega) only [e_30_8, e_30_47, e_30_48, ↓if_pos]
    repeat' first | (refine And.intro ?_ ?_) | exact True.intro | omega | assumption | rfl
  | succ i ih =>
    intro h hQ
    have a4 := s4 i (by omega)
    rw [show ((i + 1 : Nat) : Int) - 1 = (i : Int) by omega, e_30_7]
    unfold lstP at hQ
    by_cases c : s.2.2.1 i = true
    · have a5 := s5 i (by omega) c
      have kr := hI.2.2.2.2.2.1 i c
      rw [c, if_pos rfl] at a4
      by_cases c2 : s.2.2.2.1 i < low
      · rw [if_pos (by simp [pB, c, c2])] at hQ
        simp (disch := omega) only [e_30_8, e_30_11, e_30_12, e_30_14, e_30_17, e_30_20, e_30_21, e_30_24, e_30_25, e_30_26, e_30_29, e_30_30, e_30_33, e_30_34, e_30_35, e_30_36, e_30_39, e_30_40, e_30_41, e_30_44, g0, g3, g5, k1, k3, c_within, a4, a5, q_push_I, q_push_L, q_push_P, q_push_U, ↓if_neg, ↓if_pos, Int.toNat_natCast]
        repeat' first | (refine And.intro ?_ ?_) | exact True.intro | omega | assumption | rfl
      · rw [if_neg (by simp [pB, c, c2])] at hQ
        have nx := ih (by omega) hQ
        simp (disch := omega) only [e_30_8, e_30_11, e_30_12, e_30_14, e_30_17, e_30_20, e_30_21, e_30_24, e_30_25, e_30_26, e_30_29, e_30_30, e_30_33, e_30_34, e_30_35, e_30_36, e_30_39, e_30_40, e_30_41, e_30_44, g0, g3, g5, k1, k3, c_within, a4, a5, q_push_I, q_push_L, q_push_P, q_push_U, ↓if_neg, ↓if_pos, Int.toNat_natCast, show (i : Int) + -1 = (i : Int) - 1 by omega]
        repeat' first | (refine And.intro ?_ ?_) | exact True.intro | omega | assumption | rfl
    · rw [if_neg c] at a4
      rw [if_neg (by simp [pB, c])] at hQ
      have nx := ih (by omega) hQ
      simp (disch := omega) only [e_30_8, e_30_11, e_30_12, e_30_14, e_30_17, e_30_20, e_30_21, e_30_24, e_30_25, e_30_26, e_30_29, e_30_30, e_30_33, e_30_34, e_30_35, e_30_36, e_30_39, e_30_40, e_30_41, e_30_44, g0, g3, k1, c_within, a4, q_push_I, q_push_L, q_push_P, q_push_U, ↓if_neg, ↓if_pos, Int.toNat_natCast, show (i : Int) + -1 = (i : Int) - 1 by omega]
      repeat' first | (refine And.intro ?_ ?_) | exact True.intro | omega | assumption | rfl
theorem c_lb {s : RS} {N : Nat} {low : Int} (g : gChk G q) (hs : cS v q s) (hI : rdInv N N s) (hN : N ≤ 16) (h8 : v q 8 = (N : Int)) (hlo : -2147483648 ≤ low ∧ low ≤ 2147483647) : q_call (d + 2) 30 [.inr (.inr (.inl (some q))), .inl low] v G Q = Q (.inl (lstP (pB s low) N)) v G := by
  refine q_call_eq ?_ Q
  have g0 := g.1
  have nx := s_lb_loop (d := d) (Q := fun r v' G' => r = .inl (lstP (pB s low) N) ∧ v' = v ∧ G' = G) g hs hI hN hlo N (Nat.le_refl _) ⟨rfl, rfl, rfl⟩
  simp (disch := omega) only [e_30, e_30_0, e_30_1, e_30_4, e_30_5, e_30_6, g0, h8]
  repeat' first | (refine And.intro ?_ ?_) | exact True.intro | omega | assumption | rfl
theorem s_fa_loop {s : RS} {N : Nat} {high : Int} (g : gChk G q) (hs : cS v q s) (hI : rdInv N N s) (hN : N ≤ 16) (h8 : v q 8 = (N : Int)) (hhi : -2147483648 ≤ high ∧ high ≤ 2147483647) : ∀ (r i : Nat), i + r = N → Q (.inl (fstP (pA s high) r i)) v G → q_wp d 31 2 [.inr (.inr (.inl (some q))), .inl high, .inl i] [] v G Q := by
  have g' := g
  obtain ⟨g0, ⟨g1, g2, g3, g4, g5, g6, g7, g8, g9⟩, gN, gT, k1, k2, k3, k4, gA, gB, gR, q1, q2⟩ := g'
  obtain ⟨s1, s2, s3, s4, s5, s6⟩ := hs
  intro r
  induction r with
  | zero =>
    intro i h hQ
    unfold fstP at hQ
    rw [e_31_2]
    simp (disch := omega) only [e_31_3, e_31_4, e_31_7, e_31_43, e_31_44, g0, h8, ↓if_pos]
    repeat' first | (refine And.intro ?_ ?_) | exact True.intro | omega | assumption | rfl
  | succ r ih =>
    intro i h hQ
    have a4 := s4 i (by omega)
    rw [e_31_2]
    unfold fstP at hQ
    by_cases c : s.2.2.1 i = true
    · have a5 := s5 i (by omega) c
      have kr := hI.2.2.2.2.2.1 i c
      rw [c, if_pos rfl] at a4
      by_cases c2 : high < s.2.2.2.1 i
      · rw [if_pos (by simp [pA, c, c2])] at hQ
        simp (disch := omega) only [e_31_3, e_31_4, e_31_7, e_31_10, e_31_11, e_31_13, e_31_16, e_31_17, e_31_20, e_31_21, e_31_22, e_31_25, e_31_26, e_31_29, e_31_30, e_31_31, e_31_32, e_31_35, e_31_36, e_31_37, e_31_40, g0, g3, g5, k1, k3, h8, a4, a5, ↓if_neg, ↓if_pos, Int.toNat_natCast]
        repeat' first | (refine And.intro ?_ ?_) | exact True.intro | omega | assumption | rfl
      · rw [if_neg (by simp [pA, c, c2])] at hQ
        have nx := ih (i + 1) (by omega) hQ
        simp (disch := omega) only [e_31_3, e_31_4, e_31_7, e_31_10, e_31_11, e_31_13, e_31_16, e_31_17, e_31_20, e_31_21, e_31_22, e_31_25, e_31_26, e_31_29, e_31_30, e_31_31, e_31_32, e_31_35, e_31_36, e_31_37, e_31_40, g0, g3, g5, k1, k3, h8, a4, a5, ↓if_neg, ↓if_pos, Int.toNat_natCast, show (i : Int) + 1 = ((i + 1 : Nat) : Int) by omega]
        repeat' first | (refine And.intro ?_ ?_) | exact True.intro | omega | assumption | rfl
    · rw [if_neg c] at a4
      rw [if_neg (by simp [pA, c])] at hQ
      have nx := ih (i + 1) (by omega) hQ
      simp (disch := omega) only [e_31_3, e_31_4, e_31_7, e_31_10, e_31_11, e_31_13, e_31_16, e_31_17, e_31_20, e_31_21, e_31_22, e_31_25, e_31_26, e_31_29, e_31_30, e_31_31, e_31_32, e_31_35, e_31_36, e_31_37, e_31_40, g0, g3, k1, h8, a4, ↓if_neg, ↓if_pos, Int.toNat_natCast, show (i : Int) + 1 = ((i + 1 : Nat) : Int) by omega]
      repeat' first | (refine And.intro ?_ ?_) | exact True.intro | omega | assumption | rfl
theorem c_fa {s : RS} {N : Nat} {high : Int} (g : gChk G q) (hs : cS v q s) (hI : rdInv N N s) (hN : N ≤ 16) (h8 : v q 8 = (N : Int)) (hhi : -2147483648 ≤ high ∧ high ≤ 2147483647) : q_call (d + 1) 31 [.inr (.inr (.inl (some q))), .inl high] v G Q = Q (.inl (fstP (pA s high) N 0)) v G := by
  refine q_call_eq ?_ Q
  have g0 := g.1
  have nx := s_fa_loop (d := d) (Q := fun r v' G' => r = .inl (fstP (pA s high) N 0) ∧ v' = v ∧ G' = G) g hs hI hN h8 hhi N 0 (by omega) ⟨rfl, rfl, rfl⟩
  have nx : q_wp d 31 2 [.inr (.inr (.inl (some q))), .inl high, .inl 0] [] v G (fun r v' G' => r = .inl (fstP (pA s high) N 0) ∧ v' = v ∧ G' = G) := nx
  simp (disch := omega) only [e_31, e_31_0, e_31_1, g0]
  repeat' first | (refine And.intro ?_ ?_) | exact True.intro | omega | assumption | rfl
theorem c_ish {s : RS} {i : Nat} (g : gChk G q) (hs : cS v q s) (hi : i < 16) : q_call (d + 2) 33 [.inr (.inr (.inl (some q))), .inl i] v G Q = Q (.inl (if s.2.2.1 i then 1 else 0)) v G := by
  refine q_call_eq ?_ Q
  have g' := g
  obtain ⟨g0, ⟨g1, g2, g3, g4, g5, g6, g7, g8, g9⟩, gN, gT, k1, k2, k3, k4, gA, gB, gR, q1, q2⟩ := g'
  have a4 := hs.2.2.2.1 i hi
  by_cases c : s.2.2.1 i = true
  · rw [c, if_pos rfl] at a4
    rw [c, if_pos rfl]
    simp (disch := omega) only [E33, g0, g3, k1, c_within, a4, q_push_I, q_push_L, q_push_P, q_push_U, ↓if_neg, ↓if_pos, Int.toNat_natCast]
    repeat' first | (refine And.intro ?_ ?_) | exact True.intro | omega | assumption | rfl
  · rw [if_neg c] at a4
    rw [if_neg c]
    simp (disch := omega) only [E33, g0, g3, k1, c_within, a4, q_push_I, q_push_L, q_push_P, q_push_U, ↓if_neg, ↓if_pos, Int.toNat_natCast]
    repeat' first | (refine And.intro ?_ ?_) | exact True.intro | omega | assumption | rfl
theorem s_ie_loop {s : RS} {x y : Nat} {w : Int} (g : gChk G q) (hs : cS v q s) (hy : y ≤ 16) : ∀ (r i : Nat), i + r = y → Q (.inl (if allS s.2.2.1 r i then 1 else 0)) v G → q_wp (d + 2) 32 36 [.inr (.inr (.inl (some q))), .inl w, .inl x, .inl y, .inl i] [] v G Q := by
  have g0 := g.1
  intro r
  induction r with
  | zero =>
    intro i h hQ
    unfold allS at hQ
    have hQ : Q (.inl 1) v G := hQ
    rw [e_32_36]
    simp (disch := omega) only [e_32_38, e_32_39, e_32_59, e_32_60, ↓if_pos]
    repeat' first | (refine And.intro ?_ ?_) | exact True.intro | omega | assumption | rfl
  | succ r ih =>
    intro i h hQ
    have es : ∀ (d' : Nat) (Q' : q_V → q_H → q_Gr → Prop), q_call (d' + 2) 33 [.inr (.inr (.inl (some q))), .inl i] v G Q' = Q' (.inl (if s.2.2.1 i then 1 else 0)) v G := fun d' Q' => c_ish g hs (by omega)
    rw [e_32_36]
    unfold allS at hQ
    by_cases c : s.2.2.1 i = true
    · rw [c, if_pos rfl] at es
      rw [c, Bool.true_and] at hQ
      have nx := ih (i + 1) (by omega) hQ
      simp (disch := omega) only [e_32_38, e_32_39, e_32_42, e_32_43, e_32_45, e_32_48, e_32_51, e_32_52, e_32_53, e_32_56, es, q_push_I, q_push_L, q_push_P, q_push_U, ↓if_neg, ↓if_pos, show (i : Int) + 1 = ((i + 1 : Nat) : Int) by omega]
      repeat' first | (refine And.intro ?_ ?_) | exact True.intro | omega | assumption | rfl
    · rw [if_neg c] at es
      rw [show s.2.2.1 i = false by simpa using c, Bool.false_and] at hQ
      have hQ : Q (.inl 0) v G := hQ
      simp (disch := omega) only [e_32_38, e_32_39, e_32_42, e_32_43, e_32_45, e_32_48, e_32_51, e_32_52, e_32_53, e_32_56, es, q_push_I, q_push_L, q_push_P, q_push_U, ↓if_neg, ↓if_pos]
      repeat' first | (refine And.intro ?_ ?_) | exact True.intro | omega | assumption | rfl
theorem c_ie {s : RS} {x y : Nat} {w : Int} (g : gChk G q) (hs : cS v q s) (hxy : x < y) (hy : y ≤ 16) (hx : x < 15) (hw : 0 ≤ w ∧ w ≤ 6) : q_call (d + 3) 32 [.inr (.inr (.inl (some q))), .inl w, .inl x, .inl y] v G Q = Q (.inl (if enB w s.2.2.1 x y then 1 else 0)) v G := by
  refine q_call_eq ?_ Q
  have g0 := g.1
  unfold enB
  by_cases c : w = 1
  · have e1 : ∀ (d' : Nat) (Q' : q_V → q_H → q_Gr → Prop), q_call (d' + 2) 33 [.inr (.inr (.inl (some q))), .inl ((x : Int) + 1)] v G Q' = Q' (.inl (if s.2.2.1 (x + 1) then 1 else 0)) v G := fun d' Q' => c_ish (i := x + 1) g hs (by omega)
    have e2 : ∀ (d' : Nat) (Q' : q_V → q_H → q_Gr → Prop), q_call (d' + 2) 33 [.inr (.inr (.inl (some q))), .inl ((y : Int) - 1)] v G Q' = Q' (.inl (if s.2.2.1 (y - 1) then 1 else 0)) v G := fun d' Q' => by
      rw [show (y : Int) - 1 = ((y - 1 : Nat) : Int) by omega]
      exact c_ish (i := y - 1) g hs (by omega)
    rw [if_pos c]
    cases b1 : s.2.2.1 (x + 1) with
    | false =>
      rw [b1, if_neg (by decide)] at e1
      rw [Bool.false_and, if_neg (by decide)]
      simp (disch := omega) only [E32, g0, e1, q_push_I, q_push_L, q_push_P, q_push_U, ↓if_neg, ↓if_pos]
      repeat' first | (refine And.intro ?_ ?_) | exact True.intro | omega | assumption | rfl
    | true =>
      rw [b1, if_pos rfl] at e1
      rw [Bool.true_and]
      cases b2 : s.2.2.1 (y - 1) with
      | false =>
        rw [b2, if_neg (by decide)] at e2
        rw [if_neg (by decide)]
        simp (disch := omega) only [E32, g0, e1, e2, q_push_I, q_push_L, q_push_P, q_push_U, ↓if_neg, ↓if_pos]
        repeat' first | (refine And.intro ?_ ?_) | exact True.intro | omega | assumption | rfl
      | true =>
        rw [b2, if_pos rfl] at e2
        rw [if_pos rfl]
        simp (disch := omega) only [E32, g0, e1, e2, q_push_I, q_push_L, q_push_P, q_push_U, ↓if_neg, ↓if_pos]
        repeat' first | (refine And.intro ?_ ?_) | exact True.intro | omega | assumption | rfl
  · rw [if_neg c]
    have nx := s_ie_loop (d := d) (x := x) (y := y) (w := w) (Q := fun r v' G' => r = .inl (if allS s.2.2.1 (y - x - 1) (x + 1) then 1 else 0) ∧ v' = v ∧ G' = G) g hs hy (y - x - 1) (x + 1) (by omega) ⟨rfl, rfl, rfl⟩
    have nx : q_wp (d + 2) 32 36 [.inr (.inr (.inl (some q))), .inl w, .inl x, .inl y, .inl ((x : Int) + 1)] [] v G (fun r v' G' => r = .inl (if allS s.2.2.1 (y - x - 1) (x + 1) then 1 else 0) ∧ v' = v ∧ G' = G) := nx
    simp (disch := omega) only [E32, g0, ↓if_pos]
    repeat' first | (refine And.intro ?_ ?_) | exact True.intro | omega | assumption | rfl
/-- takeRows -/
theorem s_tr_loop {s : RS} {N rq x y : Nat} {v0 : q_H} (g : gChk G q) (hr : rq = q + 12 ∨ rq = q + 15) (hs : cS v0 q s) (hI : rdInv N N s) (hy : y ≤ 16) : ∀ (r i : Nat) (v : q_H) (xs : List (Int × Int)), i + r = y → (∀ b, b ≠ q → b ≠ rq → b ≠ rq + 1 → b ≠ rq + 2 → v b = v0 b) → (∀ j, j ≠ 12 → v q j = v0 q j) → hasR v rq xs → xs.length + (rwk s.2.2.1 s.2.2.2.1 s.2.2.2.2 r i).length ≤ 16 → (∀ v', (∀ b, b ≠ q → b ≠ rq → b ≠ rq + 1 → b ≠ rq + 2 → v' b = v0 b) → (∀ j, j ≠ 12 → v' q j = v0 q j) → hasR v' rq (xs ++ rwk s.2.2.1 s.2.2.2.1 s.2.2.2.2 r i) → v' q 12 = v q 12 + sumA s.2.2.2.2 r i → Q (.inr (.inr (.inr ()))) v' G) → q_wp (d + 2) 34 5 [.inr (.inr (.inl (some q))), .inr (.inr (.inl (some rq))), .inl x, .inl y, .inl i] [] v G Q := by
  have g' := g
  obtain ⟨g0, ⟨g1, g2, g3, g4, g5, g6, g7, g8, g9⟩, gN, gT, k1, k2, k3, k4, gA, gB, gR, q1, q2⟩ := g'
  have gr : gRow G rq := by
    rcases hr with e | e
    · rw [e]; exact gA
    · rw [e]; exact gB
  intro r
  induction r with
  | zero =>
    intro i v xs h hf hj hx hl hC
    have fin := hC v hf hj (by show hasR v rq (xs ++ []); rw [List.append_nil]; exact hx) (by show v q 12 = v q 12 + 0; omega)
    rw [e_34_5]
    simp (disch := omega) only [e_34_7, e_34_8, e_34_80, ↓if_pos]
    repeat' first | exact fin | (refine And.intro ?_ ?_) | exact True.intro | omega | rfl
  | succ r ih =>
    intro i v xs h hf hj hx hl hC
    have hs' : ∀ u, (∀ b, b ≠ q → b ≠ rq → b ≠ rq + 1 → b ≠ rq + 2 → u b = v0 b) → (∀ j, j ≠ 12 → u q j = v0 q j) → cS u q s := fun u uf uj => by
      obtain ⟨x1, x2, x3, x4, x5, x6⟩ := hs
      exact ⟨by rw [uj 1 (by omega)]; exact x1, by rw [uj 2 (by omega)]; exact x2, by rw [uj 9 (by omega)]; exact x3, fun j hj => by rw [uf _ (by omega) (by omega) (by omega) (by omega)]; exact x4 j hj, fun j hj hS => by rw [uf _ (by omega) (by omega) (by omega) (by omega)]; exact x5 j hj hS, fun j hj => by rw [uf _ (by omega) (by omega) (by omega) (by omega)]; exact x6 j hj⟩
    generalize hv1 : q_up v q 12 (v q 12 + s.2.2.2.2 i) = v1
    have f1 : ∀ b, b ≠ q → v1 b = v b := fun b hb => by rw [← hv1, u_r hb]
    have f1q : ∀ j, j ≠ 12 → v1 q j = v0 q j := fun j hj' => by rw [← hv1, u_n (by omega), hj j hj']
    have f1' : ∀ b, b ≠ q → b ≠ rq → b ≠ rq + 1 → b ≠ rq + 2 → v1 b = v0 b := fun b b1 b2 b3 b4 => by rw [f1 b b1, hf b b1 b2 b3 b4]
    have s12 : v1 q 12 = v q 12 + s.2.2.2.2 i := by rw [← hv1, u_s rfl rfl]
    have c1 := hs' v1 f1' f1q
    have a6 : v (q + 11) i = s.2.2.2.2 i := by rw [hf _ (by omega) (by omega) (by omega) (by omega)]; exact hs.2.2.2.2.2 i (by omega)
    have b6 : v1 (q + 11) i = s.2.2.2.2 i := c1.2.2.2.2.2 i (by omega)
    have hx1 : hasR v1 rq xs := hasR_fr (f1 _ (by omega)) (f1 _ (by omega)) (f1 _ (by omega)) hx
    have es : ∀ (d' : Nat) (Q' : q_V → q_H → q_Gr → Prop), q_call (d' + 2) 33 [.inr (.inr (.inl (some q))), .inl i] v1 G Q' = Q' (.inl (if s.2.2.1 i then 1 else 0)) v1 G := fun d' Q' => c_ish g c1 (by omega)
    have esum : ∀ z : Int, z = v q 12 + s.2.2.2.2 i + sumA s.2.2.2.2 r (i + 1) → z = v q 12 + sumA s.2.2.2.2 (r + 1) i := fun z hz => by
      rw [hz]
      conv => rhs; unfold sumA
      omega
    rw [e_34_5]
    by_cases c : s.2.2.1 i = true ∧ s.2.2.2.1 i < 1000
    · have eg : rwk s.2.2.1 s.2.2.2.1 s.2.2.2.2 (r + 1) i = [(s.2.2.2.1 i, s.2.2.2.2 i)] ++ rwk s.2.2.1 s.2.2.2.1 s.2.2.2.2 r (i + 1) := by
        conv => lhs; unfold rwk
        rw [if_pos c]
      rw [eg] at hC hl
      rw [List.length_append] at hl
      have hl : xs.length + (1 + (rwk s.2.2.1 s.2.2.2.1 s.2.2.2.2 r (i + 1)).length) ≤ 16 := hl
      have a5 : v1 (q + 10) i = s.2.2.2.1 i := c1.2.2.2.2.1 i (by omega) c.1
      have kr := hI.2.2.2.2.2.1 i c.1
      rw [c.1, if_pos rfl] at es
      have hx11 := hx1.1
      have nx := ih (i + 1) (q_rins v1 rq (v1 rq 2).toNat (s.2.2.2.1 i) (s.2.2.2.2 i)) (xs ++ [(s.2.2.2.1 i, s.2.2.2.2 i)]) (by omega) (fun b b1 b2 b3 b4 => by rw [rins_r b2 b3 b4, f1' b b1 b2 b3 b4]) (fun j hj' => by rw [rins_r (by omega) (by omega) (by omega), f1q j hj']) (hasR_add hx1) (by rw [List.length_append]; show xs.length + 1 + _ ≤ 16; omega) (fun v' h1 h2 h3 h4 => hC v' h1 h2 (by rw [← List.append_assoc]; exact h3) (esum _ (by rw [h4, rins_r (by omega) (by omega) (by omega), s12])))
      simp (disch := first | assumption | omega | ((try simp (disch := omega) only [u_n, u_s]); first | assumption | omega)) only [e_34_7, e_34_8, e_34_11, e_34_13, e_34_15, e_34_18, e_34_19, e_34_20, e_34_23, e_34_24, e_34_27, e_34_29, e_34_30, e_34_31, e_34_34, e_34_35, e_34_37, e_34_40, e_34_43, e_34_44, e_34_47, e_34_49, e_34_50, e_34_53, e_34_56, e_34_57, e_34_58, e_34_61, e_34_63, e_34_64, e_34_65, e_34_68, e_34_70, e_34_71, e_34_74, e_34_77, g0, g5, g6, k3, k4, a6, hv1, es, a5, b6, c_radd gr, q_push_I, q_push_L, q_push_P, q_push_U, ↓if_neg, ↓if_pos, Int.toNat_natCast, show (i : Int) + 1 = ((i + 1 : Nat) : Int) by omega]
      repeat' first | (refine And.intro ?_ ?_) | exact True.intro | omega | assumption | rfl
    · have eg : rwk s.2.2.1 s.2.2.2.1 s.2.2.2.2 (r + 1) i = rwk s.2.2.1 s.2.2.2.1 s.2.2.2.2 r (i + 1) := by
        conv => lhs; unfold rwk
        rw [if_neg c, List.nil_append]
      rw [eg] at hC hl
      have nx := ih (i + 1) v1 xs (by omega) f1' f1q hx1 hl (fun v' h1 h2 h3 h4 => hC v' h1 h2 h3 (esum _ (by rw [h4, s12])))
      by_cases c' : s.2.2.1 i = true
      · have a5 : v1 (q + 10) i = s.2.2.2.1 i := c1.2.2.2.2.1 i (by omega) c'
        have kr := hI.2.2.2.2.2.1 i c'
        have c3 : ¬ s.2.2.2.1 i < 1000 := fun x => c ⟨c', x⟩
        rw [c', if_pos rfl] at es
        simp (disch := first | assumption | omega | ((try simp (disch := omega) only [u_n, u_s]); first | assumption | omega)) only [e_34_7, e_34_8, e_34_11, e_34_13, e_34_15, e_34_18, e_34_19, e_34_20, e_34_23, e_34_24, e_34_27, e_34_29, e_34_30, e_34_31, e_34_34, e_34_35, e_34_37, e_34_40, e_34_43, e_34_44, e_34_47, e_34_49, e_34_50, e_34_53, e_34_56, e_34_57, e_34_58, e_34_61, e_34_63, e_34_64, e_34_65, e_34_68, e_34_70, e_34_71, e_34_74, e_34_77, g0, g5, g6, k3, k4, a6, hv1, es, a5, q_push_I, q_push_L, q_push_P, q_push_U, ↓if_neg, ↓if_pos, Int.toNat_natCast, show (i : Int) + 1 = ((i + 1 : Nat) : Int) by omega]
        repeat' first | (refine And.intro ?_ ?_) | exact True.intro | omega | assumption | rfl
      · rw [if_neg c'] at es
        simp (disch := first | assumption | omega | ((try simp (disch := omega) only [u_n, u_s]); first | assumption | omega)) only [e_34_7, e_34_8, e_34_11, e_34_13, e_34_15, e_34_18, e_34_19, e_34_20, e_34_23, e_34_24, e_34_27, e_34_29, e_34_30, e_34_31, e_34_34, e_34_35, e_34_37, e_34_40, e_34_43, e_34_44, e_34_47, e_34_49, e_34_50, e_34_53, e_34_56, e_34_57, e_34_58, e_34_61, e_34_63, e_34_64, e_34_65, e_34_68, e_34_70, e_34_71, e_34_74, e_34_77, g0, g5, g6, k3, k4, a6, hv1, es, q_push_I, q_push_L, q_push_P, q_push_U, ↓if_neg, ↓if_pos, Int.toNat_natCast, show (i : Int) + 1 = ((i + 1 : Nat) : Int) by omega]
        repeat' first | (refine And.intro ?_ ?_) | exact True.intro | omega | assumption | rfl
/-- hold, once low and high are known -/
theorem s_hold {s : RS} {N p pi rq : Nat} {w low high hi : Int} {xs : List (Int × Int)} {z3 : q_V} (g : gChk G q) (hp : G.2.1 p = (0, 6)) (hp2 : 174 ≤ p) (hw : v p 0 = w) (hw6 : 0 ≤ w ∧ w ≤ 6) (hpi : pi < 20) (hrq : (pi = 0 → rq = q + 12) ∧ (pi ≠ 0 → rq = q + 15)) (hs : cS v q s) (hI : rdInv N N s) (hN2 : 2 ≤ N) (hN : N ≤ 16) (h8 : v q 8 = (N : Int)) (hlo : 0 ≤ low ∧ low ≤ 999) (hk : w = 2 → hi = v p 5 ∧ 1 ≤ hi ∧ hi ≤ 14) (hh : w ≠ 2 → hi = high ∧ low ≤ high ∧ high ≤ 999) (hx : hasR v rq xs) (hxl : ∀ z, enw (wh w) N s low hi = some z → xs.length + (rwP (s, z)).length ≤ 16)
  (hF : enw (wh w) N s low hi = none → Q (.inr (.inr (.inr ()))) (q_up v q 2 3) G)
  (hS : ∀ v' z, enw (wh w) N s low hi = some z → (∀ b, b ≠ q → b ≠ rq → b ≠ rq + 1 → b ≠ rq + 2 → v' b = v b) → (∀ j, j ≠ 12 → v' q j = v q j) → hasR v' rq (xs ++ rwP (s, z)) → v' q 12 = v q 12 + smP (s, z) → Q (.inr (.inr (.inr ()))) v' G) : q_wp (d + 4) 29 55 [.inr (.inr (.inl (some q))), .inr (.inr (.inl (some p))), .inl pi, z3, .inl low, .inl high, .inr (.inr (.inr ())), .inr (.inr (.inr ()))] [] v G Q := by
  have g' := g
  obtain ⟨g0, ⟨g1, g2, g3, g4, g5, g6, g7, g8, g9⟩, gN, gT, k1, k2, k3, k4, gA, gB, gR, q1, q2⟩ := g'
  have hp' : (G.2.1 p).1 = 0 := by rw [hp]
  have elb : ∀ (d' : Nat) (Q' : q_V → q_H → q_Gr → Prop), q_call (d' + 2) 30 [.inr (.inr (.inl (some q))), .inl low] v G Q' = Q' (.inl (lstP (pB s low) N)) v G := fun d' Q' => c_lb g hs hI hN h8 (by omega)
  obtain ⟨l1, l2, l3, l4⟩ := lstP_sp (pB s low) N
  -- rows are taken
  have take : ∀ z, enw (wh w) N s low hi = some z → q_wp (d + 4) 29 129 [.inr (.inr (.inl (some q))), .inr (.inr (.inl (some p))), .inl pi, z3, .inl low, .inl high, .inl ((z.1 : Nat)), .inl ((z.2.1 : Nat))] [] v G Q := fun z hz => by
    have ok := enw_ok hN2 hI (by omega) (fun c => by
      have : w = 2 := by unfold wh at c; split at c <;> omega
      exact (hk this).2.1) (fun c => by
      have : w ≠ 2 := fun e => c (by rw [e]; decide)
      have := hh this
      omega) hz
    have sm : smP (s, z) = sumA s.2.2.2.2 (z.2.1 - z.1 - 1) (z.1 + 1) := rfl
    have rw' : rwP (s, z) = rwk s.2.2.1 s.2.2.2.1 s.2.2.2.2 (z.2.1 - z.1 - 1) (z.1 + 1) := ok.2.2.2.2.2.symm
    have hxl := hxl z hz
    rw [rw'] at hxl
    have hrq' : rq = q + 12 ∨ rq = q + 15 := by
      by_cases c : pi = 0
      · exact Or.inl (hrq.1 c)
      · exact Or.inr (hrq.2 c)
    have key : q_call (d + 4) 34 [.inr (.inr (.inl (some q))), .inr (.inr (.inl (some rq))), .inl ((z.1 : Nat)), .inl ((z.2.1 : Nat))] v G (fun r v' G' => q_wp (d + 4) 29 152 [.inr (.inr (.inl (some q))), .inr (.inr (.inl (some p))), .inl pi, z3, .inl low, .inl high, .inl ((z.1 : Nat)), .inl ((z.2.1 : Nat))] (q_push r []) v' G' Q) := by
      have nx := s_tr_loop (d := d + 1) (x := z.1) (y := z.2.1) (Q := fun r v' G' => q_wp (d + 4) 29 152 [.inr (.inr (.inl (some q))), .inr (.inr (.inl (some p))), .inl pi, z3, .inl low, .inl high, .inl ((z.1 : Nat)), .inl ((z.2.1 : Nat))] (q_push r []) v' G' Q) g hrq' hs hI (by omega) (z.2.1 - z.1 - 1) (z.1 + 1) v xs (by omega) (fun _ _ _ _ _ => rfl) (fun _ _ => rfl) hx hxl (fun v' h1 h2 h3 h4 => by
        have fin := hS v' z hz h1 h2 (by rw [rw']; exact h3) (by rw [sm]; exact h4)
        simp only [e_29_152, q_push_I, q_push_L, q_push_P, q_push_U]
        exact fin)
      simp (disch := omega) only [e_34, e_34_0, e_34_1, e_34_2, e_34_3, g0]
      exact ⟨True.intro, nx⟩
    by_cases c : pi = 0
    · have e := hrq.1 c
      subst e
      simp (disch := omega) only [e_29_129, e_29_130, e_29_131, e_29_134, e_29_135, e_29_138, e_29_141, e_29_142, e_29_145, e_29_147, e_29_149, g0, g7, ↓if_neg, ↓if_pos]
      repeat' first | (refine And.intro ?_ ?_) | exact True.intro | omega | assumption | rfl
    · have e := hrq.2 c
      subst e
      simp (disch := omega) only [e_29_129, e_29_130, e_29_131, e_29_134, e_29_135, e_29_138, e_29_141, e_29_142, e_29_145, e_29_147, e_29_149, g0, g8, ↓if_neg, ↓if_pos]
      repeat' first | (refine And.intro ?_ ?_) | exact True.intro | omega | assumption | rfl
  -- it is not enough
  have no : ∀ (a b : Int), enw (wh w) N s low hi = none → q_wp (d + 4) 29 123 [.inr (.inr (.inl (some q))), .inr (.inr (.inl (some p))), .inl pi, z3, .inl low, .inl high, .inl a, .inl b] [] v G Q := fun a b hz => by
    have fin := hF hz
    simp (disch := omega) only [e_29_123, e_29_124, e_29_125, e_29_128, g0]
    repeat' first | exact fin | (refine And.intro ?_ ?_) | exact True.intro | omega | rfl
  clear hF hS
  unfold enw at take no
  by_cases cx : lstP (pB s low) N < 0
  · rw [if_pos cx] at no
    by_cases c2 : w = 2
    · have k5 := hk c2
      have e5 : v p 5 = hi := by omega
      have no := no (lstP (pB s low) N) (if (N : Int) < lstP (pB s low) N + 1 + hi then (N : Int) else lstP (pB s low) N + 1 + hi) rfl
      simp (disch := omega) only [e_29_55, e_29_56, e_29_58, e_29_61, e_29_63, e_29_64, e_29_67, e_29_68, e_29_71, e_29_73, e_29_74, e_29_75, e_29_76, e_29_79, e_29_80, e_29_81, e_29_84, e_29_87, e_29_90, e_29_91, e_29_93, e_29_96, e_29_98, e_29_100, e_29_103, e_29_105, g0, hp', hw, e5, h8, elb, q_push_I, q_push_L, q_push_P, q_push_U, ↓if_neg, ↓if_pos]
      repeat' first | (refine And.intro ?_ ?_) | exact True.intro | omega | assumption | rfl
    · have efa : ∀ (d' : Nat) (Q' : q_V → q_H → q_Gr → Prop), q_call (d' + 1) 31 [.inr (.inr (.inl (some q))), .inl high] v G Q' = Q' (.inl (fstP (pA s high) N 0)) v G := fun d' Q' => c_fa g hs hI hN h8 (by have := hh c2; omega)
      have no := no (lstP (pB s low) N) (fstP (pA s high) N 0) rfl
      simp (disch := omega) only [e_29_55, e_29_56, e_29_58, e_29_61, e_29_63, e_29_64, e_29_67, e_29_68, e_29_71, e_29_73, e_29_74, e_29_75, e_29_76, e_29_79, e_29_80, e_29_81, e_29_84, e_29_87, e_29_90, e_29_91, e_29_93, e_29_96, e_29_98, e_29_100, e_29_103, e_29_105, g0, hp', hw, elb, efa, q_push_I, q_push_L, q_push_P, q_push_U, ↓if_neg, ↓if_pos]
      repeat' first | (refine And.intro ?_ ?_) | exact True.intro | omega | assumption | rfl
  · rw [if_neg cx] at no
    simp only [if_neg cx] at take
    have l3 := l3 (by omega)
    rw [Bool.and_eq_true, decide_eq_true_eq] at l3
    obtain ⟨x, hxx⟩ : ∃ x : Nat, lstP (pB s low) N = (x : Int) := ⟨(lstP (pB s low) N).toNat, by omega⟩
    rw [hxx] at l2 l3 elb
    simp only [hxx, Int.toNat_natCast] at take no
    rw [Int.toNat_natCast] at l3
    have hxN : x + 1 < N := by
      rcases Nat.lt_or_ge (x + 1) N with c | c
      · exact c
      · exfalso
        have := (hI.2.2.2.2.2.1 x l3.1).2.2.2.1 (by omega)
        omega
    by_cases c2 : w = 2
    · have k5 := hk c2
      have e5 : v p 5 = hi := by omega
      have wh2 : wh w = 2 := by rw [c2]; decide
      rw [wh2, if_pos rfl] at no
      simp only [wh2, if_pos] at take
      have hE : fE N x hi = min (x + hi.toNat) (N - 1) := rfl
      have eM : (if (N : Int) < (x : Int) + 1 + hi then (N : Int) else (x : Int) + 1 + hi) = ((fE N x hi + 1 : Nat) : Int) := by
        rw [hE]
        split <;> omega
      have eie : ∀ (d' : Nat) (Q' : q_V → q_H → q_Gr → Prop), q_call (d' + 3) 32 [.inr (.inr (.inl (some q))), .inl 2, .inl x, .inl ((fE N x hi + 1 : Nat))] v G Q' = Q' (.inl (if allS s.2.2.1 (fE N x hi - x) (x + 1) then 1 else 0)) v G := fun d' Q' => by
        have eB : enB 2 s.2.2.1 x (fE N x hi + 1) = allS s.2.2.1 (fE N x hi - x) (x + 1) := by
          unfold enB
          rw [if_neg (show ¬ (2 : Int) = 1 by decide), show fE N x hi + 1 - x - 1 = fE N x hi - x by omega]
        rw [c_ie g hs (by omega) (by omega) (by omega) (by decide), eB]
      by_cases ca : allS s.2.2.1 (fE N x hi - x) (x + 1) = true
      · have tk := take _ (by rw [if_pos ca])
        rw [ca, if_pos rfl] at eie
        simp (disch := omega) only [e_29_55, e_29_56, e_29_58, e_29_61, e_29_63, e_29_64, e_29_67, e_29_68, e_29_71, e_29_73, e_29_74, e_29_75, e_29_76, e_29_79, e_29_80, e_29_81, e_29_84, e_29_87, e_29_90, e_29_91, e_29_93, e_29_96, e_29_98, e_29_100, e_29_103, e_29_105, e_29_108, e_29_109, e_29_110, e_29_113, e_29_115, e_29_117, e_29_120, g0, hp', hw, c2, e5, h8, elb, eM, eie, q_push_I, q_push_L, q_push_P, q_push_U, ↓if_neg, ↓if_pos]
        repeat' first | (refine And.intro ?_ ?_) | exact True.intro | omega | assumption | rfl
      · have no := no x ((fE N x hi + 1 : Nat) : Int) (by rw [if_neg ca])
        rw [if_neg ca] at eie
        simp (disch := omega) only [e_29_55, e_29_56, e_29_58, e_29_61, e_29_63, e_29_64, e_29_67, e_29_68, e_29_71, e_29_73, e_29_74, e_29_75, e_29_76, e_29_79, e_29_80, e_29_81, e_29_84, e_29_87, e_29_90, e_29_91, e_29_93, e_29_96, e_29_98, e_29_100, e_29_103, e_29_105, e_29_108, e_29_109, e_29_110, e_29_113, e_29_115, e_29_117, e_29_120, g0, hp', hw, c2, e5, h8, elb, eM, eie, q_push_I, q_push_L, q_push_P, q_push_U, ↓if_neg, ↓if_pos]
        repeat' first | (refine And.intro ?_ ?_) | exact True.intro | omega | assumption | rfl
    · have hh := hh c2
      have eh : hi = high := hh.1
      subst eh
      have wh2 : wh w ≠ 2 := by unfold wh; split <;> omega
      have whB : ∀ S x y, enB (wh w) S x y = enB w S x y := fun S x y => by
        unfold enB wh
        by_cases c1 : w = 1
        · rw [if_pos (by split <;> omega), if_pos c1]
        · rw [if_neg (by split <;> omega), if_neg c1]
      rw [if_neg wh2] at no
      simp only [if_neg wh2] at take
      have efa : ∀ (d' : Nat) (Q' : q_V → q_H → q_Gr → Prop), q_call (d' + 1) 31 [.inr (.inr (.inl (some q))), .inl hi] v G Q' = Q' (.inl (fstP (pA s hi) N 0)) v G := fun d' Q' => c_fa g hs hI hN h8 (by omega)
      obtain ⟨f1, f2, f3, f4⟩ := fstP_sp (pA s hi) N 0
      by_cases cy : fstP (pA s hi) N 0 < 0
      · have no := no x (fstP (pA s hi) N 0) (by rw [if_pos cy])
        simp (disch := omega) only [e_29_55, e_29_56, e_29_58, e_29_61, e_29_63, e_29_64, e_29_67, e_29_68, e_29_71, e_29_73, e_29_74, e_29_75, e_29_76, e_29_79, e_29_80, e_29_81, e_29_84, e_29_87, e_29_90, e_29_91, e_29_93, e_29_96, e_29_98, e_29_100, e_29_103, e_29_105, g0, hp', hw, elb, efa, q_push_I, q_push_L, q_push_P, q_push_U, ↓if_neg, ↓if_pos]
        repeat' first | (refine And.intro ?_ ?_) | exact True.intro | omega | assumption | rfl
      · rw [if_neg cy] at no
        simp only [if_neg cy] at take
        obtain ⟨y, hyy⟩ : ∃ y : Nat, fstP (pA s hi) N 0 = (y : Int) := ⟨(fstP (pA s hi) N 0).toNat, by omega⟩
        obtain ⟨_, f5, _⟩ := f3 (by omega)
        rw [Bool.and_eq_true, decide_eq_true_eq] at f5
        rw [hyy] at f2 f5 efa
        rw [Int.toNat_natCast] at f5
        simp only [hyy, Int.toNat_natCast, whB] at take no
        have hxy : x < y := by
          rcases Nat.lt_or_ge x y with c | c
          · exact c
          · exfalso
            by_cases e : x = y
            · rw [e] at l3
              omega
            · have := hI.2.2.1 y x (by omega) f5.1 l3.1
              omega
        have eie : ∀ (d' : Nat) (Q' : q_V → q_H → q_Gr → Prop), q_call (d' + 3) 32 [.inr (.inr (.inl (some q))), .inl w, .inl x, .inl y] v G Q' = Q' (.inl (if enB w s.2.2.1 x y then 1 else 0)) v G := fun d' Q' => c_ie g hs hxy (by omega) (by omega) hw6
        by_cases ca : enB w s.2.2.1 x y = true
        · have tk := take _ (by rw [if_pos ca])
          rw [ca, if_pos rfl] at eie
          simp (disch := omega) only [e_29_55, e_29_56, e_29_58, e_29_61, e_29_63, e_29_64, e_29_67, e_29_68, e_29_71, e_29_73, e_29_74, e_29_75, e_29_76, e_29_79, e_29_80, e_29_81, e_29_84, e_29_87, e_29_90, e_29_91, e_29_93, e_29_96, e_29_98, e_29_100, e_29_103, e_29_105, e_29_108, e_29_109, e_29_110, e_29_113, e_29_115, e_29_117, e_29_120, g0, hp', hw, elb, efa, eie, q_push_I, q_push_L, q_push_P, q_push_U, ↓if_neg, ↓if_pos]
          repeat' first | (refine And.intro ?_ ?_) | exact True.intro | omega | assumption | rfl
        · have no := no x y (by rw [if_neg ca])
          rw [if_neg ca] at eie
          simp (disch := omega) only [e_29_55, e_29_56, e_29_58, e_29_61, e_29_63, e_29_64, e_29_67, e_29_68, e_29_71, e_29_73, e_29_74, e_29_75, e_29_76, e_29_79, e_29_80, e_29_81, e_29_84, e_29_87, e_29_90, e_29_91, e_29_93, e_29_96, e_29_98, e_29_100, e_29_103, e_29_105, e_29_108, e_29_109, e_29_110, e_29_113, e_29_115, e_29_117, e_29_120, g0, hp', hw, elb, efa, eie, q_push_I, q_push_L, q_push_P, q_push_U, ↓if_neg, ↓if_pos]
          repeat' first | (refine And.intro ?_ ?_) | exact True.intro | omega | assumption | rfl
end
