/-! ===== trees ===== -/
theorem sl_leaf (key val : Nat → Int) (k n : Nat) (h : n ≤ 1) : sl key val k n = (J (J (key k + 1) (val k)) 7, val k) := by
  rw [sl, dif_pos h]
theorem sl_fork (key val : Nat → Int) (k n : Nat) (h : 1 < n) : sl key val k n = (J (J (sl key val k ((n + 1) / 2)).1 (sl key val (k + (n + 1) / 2) (n - (n + 1) / 2)).1) (J (sl key val k ((n + 1) / 2)).2 (sl key val (k + (n + 1) / 2) (n - (n + 1) / 2)).2), (sl key val k ((n + 1) / 2)).2 + (sl key val (k + (n + 1) / 2) (n - (n + 1) / 2)).2) := by
  rw [sl, dif_neg (by omega)]
theorem sl_cg {key val key' val' : Nat → Int} : ∀ (m k n : Nat), n ≤ m → 1 ≤ n → (∀ j, k ≤ j → j < k + n → key j = key' j ∧ val j = val' j) → sl key val k n = sl key' val' k n := by
  intro m
  induction m with
  | zero => intro k n h1 h2; omega
  | succ m ih =>
    intro k n h1 h2 h
    by_cases hn : n ≤ 1
    · rw [sl_leaf _ _ _ _ hn, sl_leaf _ _ _ _ hn, (h k (Nat.le_refl _) (by omega)).1, (h k (Nat.le_refl _) (by omega)).2]
    · rw [sl_fork key val k n (by omega), sl_fork key' val' k n (by omega), ih k ((n + 1) / 2) (by omega) (by omega) (fun j h3 h4 => h j h3 (by omega)), ih (k + (n + 1) / 2) (n - (n + 1) / 2) (by omega) (by omega) (fun j h3 h4 => h j (by omega) (by omega))]
theorem sl_rng {key val : Nat → Int} {M : Int} : ∀ (m k n : Nat), n ≤ m → 1 ≤ n → (∀ j, k ≤ j → j < k + n → 0 ≤ val j ∧ val j ≤ M) → 0 ≤ (sl key val k n).1 ∧ (sl key val k n).1 ≤ 65520 ∧ 0 ≤ (sl key val k n).2 ∧ (sl key val k n).2 ≤ M * n := by
  intro m
  induction m with
  | zero => intro k n h1 h2; omega
  | succ m ih =>
    intro k n h1 h2 h
    by_cases hn : n ≤ 1
    · have hn : n = 1 := by omega
      subst hn
      rw [sl_leaf _ _ _ _ (Nat.le_refl _)]
      have h3 := h k (Nat.le_refl _) (by omega)
      have h4 := J_rng (J (key k + 1) (val k)) 7
      refine ⟨h4.1, h4.2, h3.1, ?_⟩
      show val k ≤ M * ((1 : Nat) : Int)
      rw [show ((1 : Nat) : Int) = 1 from rfl, Int.mul_one]
      exact h3.2
    · rw [sl_fork _ _ _ _ (by omega)]
      have h3 := ih k ((n + 1) / 2) (by omega) (by omega) (fun j h3 h4 => h j h3 (by omega))
      have h4 := ih (k + (n + 1) / 2) (n - (n + 1) / 2) (by omega) (by omega) (fun j h3 h4 => h j (by omega) (by omega))
      refine ⟨(J_rng _ _).1, (J_rng _ _).2, by show 0 ≤ _ + _; omega, ?_⟩
      show _ + _ ≤ _
      have e : M * (n : Int) = M * (((n + 1) / 2 : Nat) : Int) + M * ((n - (n + 1) / 2 : Nat) : Int) := by
        rw [← Int.mul_add]
        congr 1
        omega
      rw [e]
      exact Int.add_le_add h3.2.2.2 h4.2.2.2
theorem sh_all : ∀ n, n < 17 → ∀ t, t < 16 → 1 ≤ t → sh n (2 * t) = ((sh n t).1, if 1 < (sh n t).2 then ((sh n t).2 + 1) / 2 else 0) ∧ sh n (2 * t + 1) = ((sh n t).1 + (if 1 < (sh n t).2 then ((sh n t).2 + 1) / 2 else 0), if 1 < (sh n t).2 then (sh n t).2 - ((sh n t).2 + 1) / 2 else 0) := by decide +kernel
theorem sh_bd : ∀ n, n < 17 → ∀ t, t < 32 → 1 ≤ t → (sh n t).1 + (sh n t).2 ≤ n ∧ (16 ≤ t → (sh n t).2 ≤ 1) := by decide +kernel
theorem sh_1 (n : Nat) : sh n 1 = (0, n) := rfl
section
variable {d q : Nat} {v : q_H} {G : q_Gr} {Q : q_V → q_H → q_Gr → Prop}
theorem c_tleaf {t : Nat} (h : gTree G q) (ht : t < 32) (h0 : 0 ≤ v (q + 2) t) (hn : v (q + 2) t ≤ 16) : q_call (d + 2) 106 [.inr (.inr (.inl (some q))), .inl t] v G Q = Q (.inl (if v (q + 2) t = 1 then 1 else 0)) v G := by
  refine q_call_eq ?_ Q
  obtain ⟨h1, h2, h3, h4, h5, h6, h7, h8, h9, h10⟩ := h
  simp (disch := omega) only [E106, h1, h2, h3, h4, h5, h6, h7, h8, h9, c_within, q_push_I, q_push_L, q_push_P, q_push_U, Int.toNat_natCast]
  repeat' first | (refine And.intro ?_ ?_) | split | rfl | exact True.intro | assumption | omega
theorem c_tfork {t : Nat} (h : gTree G q) (ht : t < 32) (h0 : 0 ≤ v (q + 2) t) (hn : v (q + 2) t ≤ 16) : q_call (d + 2) 107 [.inr (.inr (.inl (some q))), .inl t] v G Q = Q (.inl (if 1 < v (q + 2) t then 1 else 0)) v G := by
  refine q_call_eq ?_ Q
  obtain ⟨h1, h2, h3, h4, h5, h6, h7, h8, h9, h10⟩ := h
  simp (disch := omega) only [E107, h1, h2, h3, h4, h5, h6, h7, h8, h9, c_within, q_push_I, q_push_L, q_push_P, q_push_U, Int.toNat_natCast]
  repeat' first | (refine And.intro ?_ ?_) | split | rfl | exact True.intro | assumption | omega
theorem c_tstart {t : Nat} (h : gTree G q) (ht : t < 32) : q_call (d + 2) 108 [.inr (.inr (.inl (some q))), .inl t] v G Q = Q (.inl (v (q + 1) t)) v G := by
  refine q_call_eq ?_ Q
  obtain ⟨h1, h2, h3, h4, h5, h6, h7, h8, h9, h10⟩ := h
  simp (disch := omega) only [E108, h1, h2, h3, h4, h5, h6, h7, h8, h9, c_within, q_push_I, q_push_L, q_push_P, q_push_U, Int.toNat_natCast]
  repeat' first | (refine And.intro ?_ ?_) | split | rfl | exact True.intro | assumption | omega
theorem c_twidth {t : Nat} (h : gTree G q) (ht : t < 32) : q_call (d + 2) 109 [.inr (.inr (.inl (some q))), .inl t] v G Q = Q (.inl (v (q + 2) t)) v G := by
  refine q_call_eq ?_ Q
  obtain ⟨h1, h2, h3, h4, h5, h6, h7, h8, h9, h10⟩ := h
  simp (disch := omega) only [E109, h1, h2, h3, h4, h5, h6, h7, h8, h9, c_within, q_push_I, q_push_L, q_push_P, q_push_U, Int.toNat_natCast]
  repeat' first | (refine And.intro ?_ ?_) | split | rfl | exact True.intro | assumption | omega
theorem c_tseal {t : Nat} (h : gTree G q) (ht : t < 32) : q_call (d + 2) 110 [.inr (.inr (.inl (some q))), .inl t] v G Q = Q (.inl (v (q + 3) t)) v G := by
  refine q_call_eq ?_ Q
  obtain ⟨h1, h2, h3, h4, h5, h6, h7, h8, h9, h10⟩ := h
  simp (disch := omega) only [E110, h1, h2, h3, h4, h5, h6, h7, h8, h9, c_within, q_push_I, q_push_L, q_push_P, q_push_U, Int.toNat_natCast]
  repeat' first | (refine And.intro ?_ ?_) | split | rfl | exact True.intro | assumption | omega
theorem c_tsum {t : Nat} (h : gTree G q) (ht : t < 32) : q_call (d + 2) 111 [.inr (.inr (.inl (some q))), .inl t] v G Q = Q (.inl (v (q + 4) t)) v G := by
  refine q_call_eq ?_ Q
  obtain ⟨h1, h2, h3, h4, h5, h6, h7, h8, h9, h10⟩ := h
  simp (disch := omega) only [E111, h1, h2, h3, h4, h5, h6, h7, h8, h9, c_within, q_push_I, q_push_L, q_push_P, q_push_U, Int.toNat_natCast]
  repeat' first | (refine And.intro ?_ ?_) | split | rfl | exact True.intro | assumption | omega
theorem c_tbec {t : Nat} {x y : Int} (h : gTree G q) (ht : t < 32) : q_call (d + 2) 112 [.inr (.inr (.inl (some q))), .inl t, .inl x, .inl y] v G Q = Q (.inr (.inr (.inr ()))) (q_up (q_up v (q + 3) t x) (q + 4) t y) G := by
  refine q_call_eq ?_ Q
  obtain ⟨h1, h2, h3, h4, h5, h6, h7, h8, h9, h10⟩ := h
  simp (disch := omega) only [E112, h1, h2, h3, h4, h5, h6, h7, h8, h9, c_within, q_push_I, q_push_L, q_push_P, q_push_U, Int.toNat_natCast]
  repeat' first | (refine And.intro ?_ ?_) | split | rfl | exact True.intro | assumption | omega
theorem c_tbleaf {t : Nat} {k y : Int} (h : gTree G q) (ht : t < 32) (hk : -1 ≤ k) (hk2 : k ≤ 1000) (hy : 0 ≤ y) (hy2 : y ≤ 999) : q_call (d + 3) 113 [.inr (.inr (.inl (some q))), .inl t, .inl k, .inl y] v G Q = Q (.inr (.inr (.inr ()))) (q_up (q_up v (q + 3) t (J (J (k + 1) y) 7)) (q + 4) t y) G := by
  refine q_call_eq ?_ Q
  have g := h.1
  have j1 := J_rng (k + 1) y
  simp (disch := first | assumption | omega) only [E113, g, c_mix, c_tbec, q_push_I, q_push_L, q_push_P, q_push_U]
  repeat' first | (refine And.intro ?_ ?_) | split | rfl | exact True.intro | assumption | omega
theorem c_tbfork {t : Nat} (h : gTree G q) (ht : t < 16) (e1 : 0 ≤ v (q + 3) (2 * t)) (e2 : v (q + 3) (2 * t) ≤ 65520) (e3 : 0 ≤ v (q + 3) (2 * t + 1)) (e4 : v (q + 3) (2 * t + 1) ≤ 65520) (e5 : 0 ≤ v (q + 4) (2 * t)) (e6 : v (q + 4) (2 * t) ≤ 300000) (e7 : 0 ≤ v (q + 4) (2 * t + 1)) (e8 : v (q + 4) (2 * t + 1) ≤ 300000) : q_call (d + 3) 114 [.inr (.inr (.inl (some q))), .inl t] v G Q = Q (.inr (.inr (.inr ()))) (q_up (q_up v (q + 3) t (J (J (v (q + 3) (2 * t)) (v (q + 3) (2 * t + 1))) (J (v (q + 4) (2 * t)) (v (q + 4) (2 * t + 1))))) (q + 4) t (v (q + 4) (2 * t) + v (q + 4) (2 * t + 1))) G := by
  refine q_call_eq ?_ Q
  have g := h.1
  have j1 := J_rng (v (q + 3) (2 * t)) (v (q + 3) (2 * t + 1))
  have j2 := J_rng (v (q + 4) (2 * t)) (v (q + 4) (2 * t + 1))
  simp (disch := first | assumption | omega) only [E114, g, c_mix, c_tbec, c_tseal, c_tsum, q_push_I, q_push_L, q_push_P, q_push_U, show ((2 * t : Nat) : Int) + 1 = ((2 * t + 1 : Nat) : Int) by omega, show (2 : Int) * (t : Int) = ((2 * t : Nat) : Int) by omega]
  repeat' first | (refine And.intro ?_ ?_) | split | rfl | exact True.intro | assumption | omega
theorem c_ttab (h : gTree G q) (e1 : 0 ≤ v (q + 3) 1) (e2 : v (q + 3) 1 ≤ 65520) (e3 : 0 ≤ v (q + 4) 1) (e4 : v (q + 4) 1 ≤ 300000) (e5 : 0 ≤ v (q + 2) 1) (e6 : v (q + 2) 1 ≤ 16) : q_call (d + 2) 115 [.inr (.inr (.inl (some q)))] v G Q = Q (.inl (J (J (v (q + 3) 1) (v (q + 4) 1)) (v (q + 2) 1))) v G := by
  refine q_call_eq ?_ Q
  have j1 := J_rng (v (q + 3) 1) (v (q + 4) 1)
  obtain ⟨h1, h2, h3, h4, h5, h6, h7, h8, h9, h10⟩ := h
  simp (disch := first | assumption | omega) only [E115, h1, h2, h3, h4, h5, h6, h7, h8, h9, c_mix, q_push_I, q_push_L, q_push_P, q_push_U, show Int.toNat 1 = 1 from rfl]
  repeat' first | (refine And.intro ?_ ?_) | split | rfl | exact True.intro | assumption | omega
end
def bhF : Nat → Nat → Nat
  | 0, u => u
  | f + 1, u => if u % 2 = 1 then bhF f (u / 2) else u
def bhE (u : Nat) : Nat := if u = 0 then 0 else u + 1
/-- the tree that is told next -/
def bh (t : Nat) : Nat := bhE (bhF 5 t)
theorem bhF_le : ∀ (f u : Nat), bhF f u ≤ u
  | 0, u => Nat.le_refl _
  | f + 1, u => by
    unfold bhF
    split
    · exact Nat.le_trans (bhF_le f (u / 2)) (by omega)
    · exact Nat.le_refl _
theorem s_bh_loop {d : Nat} {v : q_H} {G : q_Gr} {Q : q_V → q_H → q_Gr → Prop} {z0 : q_V} : ∀ (f level up : Nat), level + f = 5 → up ≤ 31 → Q (.inl ((bhE (bhF f up) : Int))) v G → q_wp d 116 4 [z0, .inl up, .inl level] [] v G Q := by
  intro f
  induction f with
  | zero =>
    intro level up h h2 hQ
    rw [e_116_4]
    simp only [E116]
    have h : level = 5 := by omega
    subst h
    have hQ : Q (.inl ((bhE up : Int))) v G := hQ
    unfold bhE at hQ
    rw [if_pos (by omega)]
    refine ⟨by constructor <;> constructor <;> omega, by constructor <;> omega, ?_⟩
    by_cases h0 : up = 0
    · rw [if_pos h0] at hQ
      rw [if_neg (by omega)]
      exact hQ
    · rw [if_neg h0] at hQ
      rw [if_pos (by omega), show (up : Int) + 1 = ((up + 1 : Nat) : Int) by omega]
      exact hQ
  | succ f ih =>
    intro level up h h2 hQ
    rw [e_116_4]
    simp only [E116]
    unfold bhF at hQ
    rw [if_neg (by omega), show (up : Int).tmod 2 = ((up % 2 : Nat) : Int) by rw [Int.tmod_eq_emod_of_nonneg (by omega)]; omega, show (up : Int).tdiv 2 = ((up / 2 : Nat) : Int) by rw [Int.tdiv_eq_ediv_of_nonneg (by omega)]; omega, show (level : Int) + 1 = ((level + 1 : Nat) : Int) by omega]
    by_cases h1 : up % 2 = 1
    · rw [if_pos h1] at hQ
      have := ih (level + 1) (up / 2) (by omega) (by omega) hQ
      repeat' first | (refine And.intro ?_ ?_) | split | rfl | exact True.intro | assumption | omega
    · rw [if_neg h1] at hQ
      unfold bhE at hQ
      by_cases h0 : up = 0
      · rw [if_pos h0] at hQ
        repeat' first | (refine And.intro ?_ ?_) | split | rfl | exact True.intro | assumption | omega
      · rw [if_neg h0] at hQ
        rw [show (up : Int) + 1 = ((up + 1 : Nat) : Int) by omega]
        repeat' first | (refine And.intro ?_ ?_) | split | rfl | exact True.intro | assumption | omega
theorem c_bh {t d : Nat} {v : q_H} {G : q_Gr} {Q : q_V → q_H → q_Gr → Prop} (ht : t < 32) : q_call (d + 1) 116 [.inl t] v G Q = Q (.inl ((bh t : Int))) v G := by
  refine q_call_eq ?_ Q
  simp only [E116]
  exact s_bh_loop 5 0 t rfl (by omega) ⟨rfl, rfl, rfl⟩
/-- the shape of a tree -/
theorem s_shape_loop {d q n : Nat} {G : q_Gr} {Q : q_V → q_H → q_Gr → Prop} {v0 : q_H} (h : gTree G q) (hn : n ≤ 16) (hQ : ∀ v', (∀ u, 1 ≤ u → u < 32 → v' (q + 1) u = ((sh n u).1 : Int) ∧ v' (q + 2) u = ((sh n u).2 : Int)) → (∀ b, b ≠ q + 1 → b ≠ q + 2 → v' b = v0 b) → Q (.inr (.inr (.inr ()))) v' G) : ∀ (r t : Nat) (v : q_H) (z1 z3 z4 : q_V), t + r = 16 → 1 ≤ t → (∀ u, 1 ≤ u → u < 2 * t → v (q + 1) u = ((sh n u).1 : Int) ∧ v (q + 2) u = ((sh n u).2 : Int)) → (∀ b, b ≠ q + 1 → b ≠ q + 2 → v b = v0 b) → q_wp d 105 16 [.inr (.inr (.inl (some q))), z1, .inl t, z3, z4] [] v G Q := by
  obtain ⟨h1, h2, h3, h4, h5, h6, h7, h8, h9, h10⟩ := h
  intro r
  induction r with
  | zero =>
    intro t v z1 z3 z4 ht h1t hi hf
    rw [e_105_16]
    simp only [E105]
    rw [if_pos (by omega)]
    refine ⟨?_, hQ v (fun u g1 g2 => hi u g1 (by omega)) hf⟩
    repeat' first | (refine And.intro ?_ ?_) | split | rfl | exact True.intro | assumption | omega
  | succ r ih =>
    intro t v z1 z3 z4 ht h1t hi hf
    rw [e_105_16]
    have ha := sh_all n (by omega) t (by omega) h1t
    have hb := sh_bd n (by omega) t (by omega) h1t
    have hw := hi t h1t (by omega)
    simp (disch := omega) only [E105, h1, h2, h3, h4, h5, h6, h7, h8, h9, hw.1, hw.2, u_n, u_s, Int.toNat_natCast, show ((2 : Int) * (t : Int)).toNat = 2 * t by omega, show ((2 : Int) * (t : Int) + 1).toNat = 2 * t + 1 by omega]
    rw [if_neg (by omega)]
    by_cases hw1 : 1 < (sh n t).2
    · have e2 : (((sh n t).2 : Int) + 1).tdiv 2 = ((((sh n t).2 + 1) / 2 : Nat) : Int) := by rw [Int.tdiv_eq_ediv_of_nonneg (by omega)]; omega
      rw [if_neg (by omega)]
      simp (disch := omega) only [E105, h1, h2, h3, h4, h5, h6, h7, h8, h9, hw.1, hw.2, u_n, u_s, Int.toNat_natCast, show ((2 : Int) * (t : Int)).toNat = 2 * t by omega, show ((2 : Int) * (t : Int) + 1).toNat = 2 * t + 1 by omega, e2, if_neg, if_pos, show ((t : Int) + 1) = ((t + 1 : Nat) : Int) by omega]
      repeat' first | (refine And.intro ?_ ?_) | rfl | exact True.intro | omega | (refine ih (t + 1) _ _ _ _ (by omega) (by omega) (fun u g1 g2 => ?_) (fun b g1 g2 => ?_))
      all_goals first | (simp (disch := omega) only [u_r]; exact hf b g1 g2) | (rcases (show u = 2 * t ∨ u = 2 * t + 1 ∨ u < 2 * t by omega) with rfl | rfl | u1 <;> first | (simp (disch := omega) only [ha.1, ha.2, u_n, u_s, if_pos, if_neg, Nat.add_zero]; done) | (simp (disch := omega) only [ha.1, ha.2, u_n, u_s, if_pos, if_neg, Nat.add_zero]; omega) | (simp (disch := omega) only [u_n]; exact (hi u g1 u1).1) | (simp (disch := omega) only [u_n]; exact (hi u g1 u1).2))
    · rw [if_pos (by omega)]
      simp (disch := omega) only [E105, h1, h2, h3, h4, h5, h6, h7, h8, h9, hw.1, hw.2, u_n, u_s, Int.toNat_natCast, show ((2 : Int) * (t : Int)).toNat = 2 * t by omega, show ((2 : Int) * (t : Int) + 1).toNat = 2 * t + 1 by omega, if_neg, if_pos, show ((t : Int) + 1) = ((t + 1 : Nat) : Int) by omega]
      repeat' first | (refine And.intro ?_ ?_) | rfl | exact True.intro | omega | (refine ih (t + 1) _ _ _ _ (by omega) (by omega) (fun u g1 g2 => ?_) (fun b g1 g2 => ?_))
      all_goals first | (simp (disch := omega) only [u_r]; exact hf b g1 g2) | (rcases (show u = 2 * t ∨ u = 2 * t + 1 ∨ u < 2 * t by omega) with rfl | rfl | u1 <;> first | (simp (disch := omega) only [ha.1, ha.2, u_n, u_s, if_pos, if_neg, Nat.add_zero]; done) | (simp (disch := omega) only [ha.1, ha.2, u_n, u_s, if_pos, if_neg, Nat.add_zero]; omega) | (simp (disch := omega) only [u_n]; exact (hi u g1 u1).1) | (simp (disch := omega) only [u_n]; exact (hi u g1 u1).2))
theorem c_shape {d q n : Nat} {v : q_H} {G : q_Gr} {Q : q_V → q_H → q_Gr → Prop} (h : gTree G q) (hn : n ≤ 16) (hQ : ∀ v', (∀ u, 1 ≤ u → u < 32 → v' (q + 1) u = ((sh n u).1 : Int) ∧ v' (q + 2) u = ((sh n u).2 : Int)) → (∀ b, b ≠ q + 1 → b ≠ q + 2 → v' b = v b) → Q (.inr (.inr (.inr ()))) v' G) : q_call (d + 1) 105 [.inr (.inr (.inl (some q))), .inl n] v G Q := by
  have h' := h
  obtain ⟨h1, h2, h3, h4, h5, h6, h7, h8, h9, h10⟩ := h'
  simp only [E105, h1, h2, h3, h4, h5, h6, h7, h8, h9, show Int.toNat 1 = 1 from rfl]
  have := s_shape_loop (d := d) (v0 := v) h hn hQ 15 1 (q_up (q_up v (q + 1) 1 0) (q + 2) 1 (n : Int)) (.inl n) (.inr (.inr (.inr ()))) (.inr (.inr (.inr ()))) rfl (Nat.le_refl _) (fun u g1 g2 => by
    have : u = 1 := by omega
    subst this
    simp (disch := omega) only [u_n, u_s, sh_1]
    exact ⟨rfl, True.intro⟩) (fun b g1 g2 => by simp (disch := omega) only [u_r])
  repeat' first | (refine And.intro ?_ ?_) | split | rfl | exact True.intro | assumption | omega
