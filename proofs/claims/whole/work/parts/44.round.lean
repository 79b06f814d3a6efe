section
variable {d q : Nat} {v : q_H} {G : q_Gr} {Q : q_V → q_H → q_Gr → Prop}
/-! ===== told, round, seal ===== -/
theorem c_tseal1 (h : gTree G q) : q_call (d + 2) 110 [.inr (.inr (.inl (some q))), .inl 1] v G Q = Q (.inl (v (q + 3) 1)) v G := c_tseal (t := 1) h (by decide)
theorem c_tsum1 (h : gTree G q) : q_call (d + 2) 111 [.inr (.inr (.inl (some q))), .inl 1] v G Q = Q (.inl (v (q + 4) 1)) v G := c_tsum (t := 1) h (by decide)
def toldV (v : q_H) (t n : Nat) (b : Int) : Int := if b = 0 then v (110 + 9 * t + 1) 2 - 2 else if b = 1 then tsl (v (110 + 9 * t + 2)) (v (110 + 9 * t + 3)) (n + 2) else if b = 2 then (sl (v (110 + 9 * t + 2)) (v (110 + 9 * t + 3)) 0 (n + 2)).1 else (sl (v (110 + 9 * t + 2)) (v (110 + 9 * t + 3)) 0 (n + 2)).2
theorem k_told {t n : Nat} {b : Int} (hG : gok G) (ht : t < 3) (hI : tabI v (110 + 9 * t) t n) (hb : 0 ≤ b ∧ b ≤ 3) : q_call (d + 8) 124 [.inr (.inr (.inl (some 32))), .inl t, .inl b] v G Q = Q (.inl (toldV v t n b)) v G := by
  refine q_call_eq ?_ Q
  obtain ⟨g0, g⟩ := g_table hG t ht
  have gt := g.2.2.2.2
  obtain ⟨e1, e2, e3⟩ := tab_tree hI
  unfold toldV
  rcases (show b = 0 ∨ b = 1 ∨ b = 2 ∨ b = 3 by omega) with c | c | c | c
  · subst c
    simp (disch := first | assumption | omega) only [E124, SHC hG, g0, c_within, c_trows, q_push_I, q_push_L, q_push_P, q_push_U, ↓if_pos, ↓if_neg, Int.toNat_natCast]
    repeat' first | (refine And.intro ?_ ?_) | rfl | exact True.intro | assumption | omega
  · subst c
    simp (disch := first | assumption | omega) only [E124, SHC hG, g0, c_within, c_ttree, c_ktab hG ht hI, q_push_I, q_push_L, q_push_P, q_push_U, ↓if_pos, ↓if_neg, Int.toNat_natCast]
    repeat' first | (refine And.intro ?_ ?_) | rfl | exact True.intro | assumption | omega
  · subst c
    simp (disch := first | assumption | omega) only [E124, SHC hG, g0, c_within, c_ttree, c_tseal1, e2, q_push_I, q_push_L, q_push_P, q_push_U, ↓if_pos, ↓if_neg, Int.toNat_natCast]
    repeat' first | (refine And.intro ?_ ?_) | rfl | exact True.intro | assumption | omega
  · subst c
    simp (disch := first | assumption | omega) only [E124, SHC hG, g0, c_within, c_ttree, c_tsum1, e3, q_push_I, q_push_L, q_push_P, q_push_U, ↓if_pos, ↓if_neg, Int.toNat_natCast]
    repeat' first | (refine And.intro ?_ ?_) | rfl | exact True.intro | assumption | omega
theorem m_told {t n : Nat} {b : Int} (hG : gok G) (ht : t < 3) (hI : tabI v (110 + 9 * t) t n) (hb : 0 ≤ b ∧ b ≤ 3) (hQ : ∀ v', (∀ b, b ≠ 137 → b ≠ 144 → b ≠ 145 → b ≠ 146 → b ≠ 147 → v' b = v b) → (∀ j, j ≠ 0 → j ≠ 8 → v' 137 j = v 137 j) → Q (.inl (toldV v t n b)) v' G) : q_call (d + 8) 169 [.inr (.inr (.inl (some 137))), .inl t, .inl b] v G Q := by
  have hI' : tabI (q_up v 137 0 0) (110 + 9 * t) t n := tabI_cg (fun b hb => u_r (by omega)) hI
  have h14 := hI.1
  have hrw : v 141 t = v (110 + 9 * t + 1) 2 - 2 := by
    have := hI.2.1
    have := hI.2.2.1
    omega
  simp (disch := omega) only [E169, SHM hG, c_isTable, c_in, q_push_I, q_push_L, q_push_P, q_push_U, ↓if_pos, ↓if_neg]
  repeat' first | (refine And.intro ?_ ?_) | rfl | exact True.intro | omega | (refine c_mtab (n := n) hG ht hI' (fun v' g1 g2 g3 => ?_))
  have fin := hQ v' (fun b b1 b2 b3 b4 b5 => by rw [g2 b b1 b2 b3 b4 b5, u_r b1]) (fun j j1 j2 => by rw [g3 j j2, u_n (by omega)])
  obtain ⟨l1, l2, l3⟩ := g1
  have s1 := l3 0 (n + 2) (by omega) (by omega)
  rw [show 17 * 0 + (n + 2) = n + 2 by omega] at s1
  have e141 : v' 141 t = v (110 + 9 * t + 1) 2 - 2 := by rw [g2 141 (by decide) (by decide) (by decide) (by decide) (by decide), u_n (by omega), hrw]
  unfold toldV at fin
  simp (disch := omega) only [u_r] at s1
  rcases (show b = 0 ∨ b = 1 ∨ b = 2 ∨ b = 3 by omega) with c | c | c | c
  · subst c
    simp (disch := first | assumption | omega) only [E169, SHM hG, q_push_I, q_push_L, q_push_P, q_push_U, ↓if_pos, ↓if_neg, Int.toNat_natCast, e141]
    simp (disch := omega) only [↓if_pos, ↓if_neg] at fin
    repeat' first | (refine And.intro ?_ ?_) | rfl | exact True.intro | assumption | omega
  · subst c
    simp (disch := first | assumption | omega) only [E169, SHM hG, q_push_I, q_push_L, q_push_P, q_push_U, u_r, ↓if_pos, ↓if_neg, Int.toNat_natCast]
    simp (disch := omega) only [↓if_pos, ↓if_neg] at fin
    repeat' first | (refine And.intro ?_ ?_) | rfl | exact True.intro | assumption | omega
  · subst c
    simp (disch := first | assumption | omega) only [E169, SHM hG, q_push_I, q_push_L, q_push_P, q_push_U, l1, s1.1, ↓if_pos, ↓if_neg, Int.toNat_natCast]
    simp (disch := omega) only [↓if_pos, ↓if_neg] at fin
    repeat' first | (refine And.intro ?_ ?_) | rfl | exact True.intro | assumption | omega
  · subst c
    simp (disch := first | assumption | omega) only [E169, SHM hG, q_push_I, q_push_L, q_push_P, q_push_U, l1, s1.2, ↓if_pos, ↓if_neg, Int.toNat_natCast]
    simp (disch := omega) only [↓if_pos, ↓if_neg] at fin
    repeat' first | (refine And.intro ?_ ?_) | rfl | exact True.intro | assumption | omega
theorem op_told {a b : Int} (hI : Inv v G) (ha : -2147483648 ≤ a ∧ a ≤ 2147483647) (hb : -2147483648 ≤ b ∧ b ≤ 2147483647) : twin (d + 8) 124 169 [.inl a, .inl b] v G Inv := by
  have hG := hI.1
  by_cases hv : (0 ≤ a ∧ a ≤ 2) ∧ (0 ≤ b ∧ b ≤ 3)
  · obtain ⟨t, rfl⟩ : ∃ t : Nat, a = (t : Int) := ⟨a.toNat, by omega⟩
    have ht : t < 3 := by omega
    obtain ⟨n, hT⟩ := hI.2.2.2.2.2.2.2.2 t ht
    have hr := tab_key hT
    have h14 := hT.1
    have hsz := hT.2.2.1
    have rr := sl_rng (key := v (110 + 9 * t + 2)) (val := v (110 + 9 * t + 3)) (M := 999) (n + 2) 0 (n + 2) (Nat.le_refl _) (by omega) (fun j h1 h2 => (hr j (by omega)).2)
    have r2 := tsl_rng (v (110 + 9 * t + 2)) (v (110 + 9 * t + 3)) (n + 2)
    apply twin_of
    rw [k_told hG ht hT hv.2]
    refine ⟨toldV v t n b, rfl, rfl, ?_, ?_, m_told hG ht hT hv.2 (fun v' h1 h2 => ⟨rfl, rfl, fun b hb => h1 b (by omega) (by omega) (by omega) (by omega) (by omega), Inv_c hI (fun b j hb => ?_)⟩)⟩
    · unfold toldV
      repeat' first | (refine And.intro ?_ ?_) | split | rfl | exact True.intro | assumption | omega
    · unfold toldV
      repeat' first | (refine And.intro ?_ ?_) | split | rfl | exact True.intro | assumption | omega
    · by_cases e : b = 137
      · subst e
        exact h2 j (by omega) (by omega)
      · rw [h1 b e (by omega) (by omega) (by omega) (by omega)]
  · refine twin_mk (z := -1000001) (v1 := v) (v2 := q_up v 137 0 0) ?_ ?_ (by decide) (Inv_c hI (fun b j h1 => by rw [u_n (by omega)]))
    · simp (disch := omega) only [E124, SHC hG, c_within, q_push_I, q_push_L, q_push_P, q_push_U]
      repeat' first | (refine And.intro ?_ ?_) | rfl | exact True.intro | omega | split
    · simp (disch := omega) only [E169, SHM hG, c_isTable, c_in, q_push_I, q_push_L, q_push_P, q_push_U]
      repeat' first | (refine And.intro ?_ ?_) | rfl | exact True.intro | omega | split
theorem tab_n {t n : Nat} (h : tabI v q t n) : n = (v 141 t).toNat := by
  have := h.2.1
  omega
theorem tb_all (h : tbI v) (t : Nat) (ht : t < 3) : tabI v (110 + 9 * t) t (v 141 t).toNat := by
  obtain ⟨n, hn⟩ := h t ht
  rw [← tab_n hn]
  exact hn
/-- the seal of a table -/
def tS (v : q_H) (t : Nat) : Int := tsl (v (110 + 9 * t + 2)) (v (110 + 9 * t + 3)) ((v 141 t).toNat + 2)
theorem tS_rng (v : q_H) (t : Nat) : 0 ≤ tS v t ∧ tS v t ≤ 65520 := tsl_rng _ _ _
theorem tS_cg {v' : q_H} {t : Nat} (h1 : v' (110 + 9 * t + 2) = v (110 + 9 * t + 2)) (h2 : v' (110 + 9 * t + 3) = v (110 + 9 * t + 3)) (h3 : v' 141 = v 141) : tS v' t = tS v t := by
  unfold tS
  rw [h1, h2, h3]
theorem c_kseal {t : Nat} (hG : gok G) (ht : t < 3) (hB : tbI v) : q_call (d + 2) 115 [.inr (.inr (.inl (some (110 + 9 * t + 4))))] v G Q = Q (.inl (tS v t)) v G := c_ktab hG ht (tb_all hB t ht)
theorem c_mseal {t : Nat} (hG : gok G) (ht : t < 3) (hB : tbI v) (hQ : ∀ v', (∀ b, b ≠ 137 → b ≠ 144 → b ≠ 145 → b ≠ 146 → b ≠ 147 → v' b = v b) → (∀ j, j ≠ 8 → v' 137 j = v 137 j) → Q (.inl (tS v t)) v' G) : q_call (d + 4) 168 [.inr (.inr (.inl (some 137))), .inl t] v G Q := c_mtab hG ht (tb_all hB t ht) (fun v' _ h2 h3 => hQ v' h2 h3)
theorem s_round_loop {r : Nat} {v0 : q_H} (hG : gok G) (hr : r < 20) (hB : tbI v0) (hC : ∀ v' (z2 : q_V), (∀ b, b ≠ 35 → v' b = v0 b) → (∀ j, j < 4 * r → v' 35 j = v0 35 j) → (∀ i, i < 3 → v' 35 (4 * r + i) = tS v0 i) → q_wp (d + 2) 125 52 [.inr (.inr (.inl (some 32))), .inl ((4 * r : Nat)), z2] [] v' G Q) : ∀ (k i : Nat) (v : q_H), i + k = 3 → (∀ b, b ≠ 35 → v b = v0 b) → (∀ j, j < 4 * r → v 35 j = v0 35 j) → (∀ j, j < i → v 35 (4 * r + j) = tS v0 j) → q_wp (d + 2) 125 21 [.inr (.inr (.inl (some 32))), .inl ((4 * r : Nat)), .inl i] [] v G Q := by
  intro k
  induction k with
  | zero =>
    intro i v hi hf h1 h2
    have hi : i = 3 := by omega
    subst hi
    rw [e_125_21]
    simp (disch := omega) only [e_125_22, e_125_23, ↓if_pos]
    have := hC v (.inl ((3 : Nat))) hf h1 h2
    repeat' first | (refine And.intro ?_ ?_) | rfl | exact True.intro | assumption | omega
  | succ k ih =>
    intro i v hi hf h1 h2
    have hi3 : i < 3 := by omega
    obtain ⟨g0, g⟩ := g_table hG i hi3
    have hB' : tbI v := tbI_cg (fun b hb => hf b (by omega)) hB
    have eS : tS v i = tS v0 i := tS_cg (hf _ (by omega)) (hf _ (by omega)) (hf _ (by omega))
    rw [e_125_21]
    have := ih (i + 1) (q_up v 35 (4 * r + i) (tS v0 i)) (by omega) (fun b hb => by rw [u_r hb, hf b hb]) (fun j hj => by rw [u_n (by omega), h1 j hj]) (fun j hj => by
      by_cases e : j = i
      · subst e
        rw [u_s rfl rfl]
      · rw [u_n (by omega), h2 j (by omega)])
    simp (disch := first | assumption | omega) only [E125, SHC hG, g0, c_ttree, c_kseal hG hi3 hB', eS, q_push_I, q_push_L, q_push_P, q_push_U, ↓if_neg, Int.toNat_natCast, show ((4 * r : Nat) : Int) + (i : Int) = ((4 * r + i : Nat) : Int) by omega, show (i : Int) + 1 = ((i + 1 : Nat) : Int) by omega]
    repeat' first | (refine And.intro ?_ ?_) | rfl | exact True.intro | assumption | omega
/-- the line of a round -/
def lnV (v : q_H) (a r : Nat) : Int := if r = 0 then J (J (tS v 0) (tS v 1)) (tS v 2) else J (v a (4 * r - 1)) (J (J (tS v 0) (tS v 1)) (tS v 2))
theorem lnV_rng (v : q_H) (a r : Nat) : 0 ≤ lnV v a r ∧ lnV v a r ≤ 65520 := by
  unfold lnV
  split
  · exact J_rng _ _
  · exact J_rng _ _
theorem c_rnum {r w : Nat} (hG : gok G) (hr : r < 20) (hw : w < 4) : q_call (d + 2) 148 [.inr (.inr (.inl (some 32))), .inl r, .inl w] v G Q = Q (.inl (v 35 (4 * r + w))) v G := by
  refine q_call_eq ?_ Q
  simp (disch := omega) only [E148, SHC hG, c_within, q_push_I, q_push_L, q_push_P, q_push_U, ↓if_pos, ↓if_neg, show ((r : Int) * 4 + (w : Int)).toNat = 4 * r + w by omega]
  repeat' first | (refine And.intro ?_ ?_) | rfl | exact True.intro | assumption | omega
theorem k_round {r : Nat} (hG : gok G) (hr : r < 20) (hR : v 32 3 = (r : Int)) (hB : tbI v) (hs : ∀ j, j < 4 * r → 0 ≤ v 35 j ∧ v 35 j ≤ 65520) (hQ : ∀ v', (∀ b, b ≠ 35 → b ≠ 32 → v' b = v b) → (∀ j, j ≠ 3 → v' 32 j = v 32 j) → v' 32 3 = (r : Int) + 1 → (∀ j, j < 4 * r → v' 35 j = v 35 j) → (∀ i, i < 3 → v' 35 (4 * r + i) = tS v i) → v' 35 (4 * r + 3) = lnV v 35 r → Q (.inl ((r : Int) + 1 - 1)) v' G) : q_call (d + 8) 125 [.inr (.inr (.inl (some 32)))] v G Q := by
  simp (disch := omega) only [E125, SHC hG, hR, ↓if_pos, show (r : Int) * 4 = ((4 * r : Nat) : Int) by omega]
  have key := s_round_loop (d := d + 5) (Q := Q) (v0 := v) hG hr hB (fun u z2 f1 f2 f3 => by
    have s0 := f3 0 (by decide)
    have s1 := f3 1 (by decide)
    have s2 := f3 2 (by decide)
    rw [Nat.add_zero] at s0
    have r0 := tS_rng v 0
    have r1 := tS_rng v 1
    have r2 := tS_rng v 2
    have j1 := J_rng (tS v 0) (tS v 1)
    have j2 := J_rng (J (tS v 0) (tS v 1)) (tS v 2)
    have hR' : u 32 3 = (r : Int) := by rw [f1 32 (by decide), hR]
    have fin := fun (x : Int) (hx : x = lnV v 35 r) => hQ (q_up (q_up u 35 (4 * r + 3) x) 32 3 ((r : Int) + 1)) (fun b b1 b2 => by rw [u_r b2, u_r b1, f1 b b1]) (fun j hj => by rw [u_n (by omega), u_n (by omega), f1 32 (by decide)]) (by rw [u_s rfl rfl]) (fun j hj => by rw [u_n (by omega), u_n (by omega), f2 j hj]) (fun i hi => by rw [u_n (by omega), u_n (by omega), f3 i hi]) (by rw [u_n (by omega), u_s rfl rfl, hx])
    by_cases c : r = 0
    · have fin := fin (J (J (tS v 0) (tS v 1)) (tS v 2)) (by unfold lnV; rw [if_pos c])
      simp (disch := omega) only [E125, SHC hG, hR', u_n, u_s, c_mix, q_push_I, q_push_L, q_push_P, q_push_U, ↓if_pos, ↓if_neg, Int.toNat_natCast, show (((4 * r : Nat) : Int) + 1).toNat = 4 * r + 1 by omega, show (((4 * r : Nat) : Int) + 2).toNat = 4 * r + 2 by omega, show (((4 * r : Nat) : Int) + 3).toNat = 4 * r + 3 by omega, s0, s1, s2]
      repeat' first | (refine And.intro ?_ ?_) | rfl | exact True.intro | assumption | omega
    · have s3 := f2 (4 * r - 1) (by omega)
      have hs3 := hs (4 * r - 1) (by omega)
      have fin := fin (J (v 35 (4 * r - 1)) (J (J (tS v 0) (tS v 1)) (tS v 2))) (by unfold lnV; rw [if_neg c])
      have e4 : ∀ (d' : Nat) (Q' : q_V → q_H → q_Gr → Prop), q_call (d' + 2) 148 [.inr (.inr (.inl (some 32))), .inl ((r : Int) - 1), .inl 3] u G Q' = Q' (.inl (v 35 (4 * r - 1))) u G := fun d' Q' => by
        have := c_rnum (d := d') (v := u) (G := G) (Q := Q') (r := r - 1) (w := 3) hG (by omega) (by decide)
        rw [show 4 * (r - 1) + 3 = 4 * r - 1 by omega, s3, show ((r - 1 : Nat) : Int) = (r : Int) - 1 by omega] at this
        exact this
      simp (disch := omega) only [E125, SHC hG, hR', e4, u_n, u_s, c_mix, q_push_I, q_push_L, q_push_P, q_push_U, ↓if_pos, ↓if_neg, Int.toNat_natCast, show (((4 * r : Nat) : Int) + 1).toNat = 4 * r + 1 by omega, show (((4 * r : Nat) : Int) + 2).toNat = 4 * r + 2 by omega, show (((4 * r : Nat) : Int) + 3).toNat = 4 * r + 3 by omega, s0, s1, s2]
      repeat' first | (refine And.intro ?_ ?_) | rfl | exact True.intro | assumption | omega) 3 0 v rfl (fun b _ => rfl) (fun j _ => rfl) (fun j hj => by omega)
  repeat' first | (refine And.intro ?_ ?_) | rfl | exact True.intro | assumption | omega
theorem s_mround_loop {r : Nat} {v0 : q_H} (hG : gok G) (hr : r < 20) (hB : tbI v0) (hC : ∀ v' (z2 : q_V), (∀ b, b ≠ 137 → ¬ (144 ≤ b ∧ b ≤ 148) → v' b = v0 b) → (∀ j, j ≠ 8 → v' 137 j = v0 137 j) → (∀ j, j < 4 * r → v' 148 j = v0 148 j) → (∀ i, i < 3 → v' 148 (4 * r + i) = tS v0 i) → q_wp (d + 4) 170 50 [.inr (.inr (.inl (some 137))), .inl ((4 * r : Nat)), z2] [] v' G Q) : ∀ (k i : Nat) (v : q_H), i + k = 3 → (∀ b, b ≠ 137 → ¬ (144 ≤ b ∧ b ≤ 148) → v b = v0 b) → (∀ j, j ≠ 8 → v 137 j = v0 137 j) → (∀ j, j < 4 * r → v 148 j = v0 148 j) → (∀ j, j < i → v 148 (4 * r + j) = tS v0 j) → q_wp (d + 4) 170 26 [.inr (.inr (.inl (some 137))), .inl ((4 * r : Nat)), .inl i] [] v G Q := by
  intro k
  induction k with
  | zero =>
    intro i v hi hf hf2 h1 h2
    have hi : i = 3 := by omega
    subst hi
    rw [e_170_26]
    simp (disch := omega) only [e_170_27, e_170_28, ↓if_pos]
    have := hC v (.inl ((3 : Nat))) hf hf2 h1 h2
    repeat' first | (refine And.intro ?_ ?_) | rfl | exact True.intro | assumption | omega
  | succ k ih =>
    intro i v hi hf hf2 h1 h2
    have hi3 : i < 3 := by omega
    have hB' : tbI v := tbI_cg (fun b hb => hf b (by omega) (by omega)) hB
    have eS : tS v i = tS v0 i := tS_cg (hf _ (by omega) (by omega)) (hf _ (by omega) (by omega)) (hf _ (by omega) (by omega))
    rw [e_170_26]
    simp (disch := first | assumption | omega) only [E170, SHM hG, q_push_I, q_push_L, q_push_P, q_push_U, ↓if_neg]
    repeat' first | (refine And.intro ?_ ?_) | rfl | exact True.intro | omega | (refine c_mseal hG hi3 hB' (fun v' g2 g3 => ?_))
    have := ih (i + 1) (q_up v' 148 (4 * r + i) (tS v0 i)) (by omega) (fun b b1 b2 => by rw [u_r (by omega), g2 b (by omega) (by omega) (by omega) (by omega) (by omega), hf b b1 b2]) (fun j hj => by rw [u_n (by omega), g3 j hj, hf2 j hj]) (fun j hj => by rw [u_n (by omega), g2 148 (by decide) (by decide) (by decide) (by decide) (by decide), h1 j hj]) (fun j hj => by
      by_cases e : j = i
      · subst e
        rw [u_s rfl rfl]
      · rw [u_n (by omega), g2 148 (by decide) (by decide) (by decide) (by decide) (by decide), h2 j (by omega)])
    simp (disch := first | assumption | omega) only [E170, SHM hG, eS, q_push_I, q_push_L, q_push_P, q_push_U, ↓if_neg, Int.toNat_natCast, show ((4 * r : Nat) : Int) + (i : Int) = ((4 * r + i : Nat) : Int) by omega, show (i : Int) + 1 = ((i + 1 : Nat) : Int) by omega]
    repeat' first | (refine And.intro ?_ ?_) | rfl | exact True.intro | assumption | omega
theorem m_round {r : Nat} (hG : gok G) (hr : r < 20) (hR : v 137 13 = (r : Int)) (hB : tbI v) (hs : ∀ j, j < 4 * r → 0 ≤ v 148 j ∧ v 148 j ≤ 65520) (hQ : ∀ v', (∀ b, b ≠ 137 → ¬ (144 ≤ b ∧ b ≤ 148) → v' b = v b) → (∀ j, j ≠ 0 → j ≠ 8 → j ≠ 13 → v' 137 j = v 137 j) → v' 137 13 = (r : Int) + 1 → (∀ j, j < 4 * r → v' 148 j = v 148 j) → (∀ i, i < 3 → v' 148 (4 * r + i) = tS v i) → v' 148 (4 * r + 3) = lnV v 148 r → Q (.inl ((r : Int) + 1 - 1)) v' G) : q_call (d + 8) 170 [.inr (.inr (.inl (some 137)))] v G Q := by
  have eS : ∀ t, t < 3 → tS (q_up v 137 0 0) t = tS v t := fun t ht => tS_cg (u_r (by omega)) (u_r (by omega)) (u_r (by omega))
  simp (disch := omega) only [E170, SHM hG, u_n, hR, ↓if_neg, ↓if_pos, show (4 : Int) * (r : Int) = ((4 * r : Nat) : Int) by omega]
  have key := s_mround_loop (d := d + 3) (Q := Q) (v0 := q_up v 137 0 0) hG hr (tbI_cg (fun b hb => u_r (by omega)) hB) (fun u z2 f1 f1' f2 f3 => by
    have s0 := f3 0 (by decide)
    have s1 := f3 1 (by decide)
    have s2 := f3 2 (by decide)
    rw [Nat.add_zero] at s0
    rw [eS 0 (by decide)] at s0
    rw [eS 1 (by decide)] at s1
    rw [eS 2 (by decide)] at s2
    have r0 := tS_rng v 0
    have r1 := tS_rng v 1
    have r2 := tS_rng v 2
    have j1 := J_rng (tS v 0) (tS v 1)
    have j2 := J_rng (J (tS v 0) (tS v 1)) (tS v 2)
    have hR' : u 137 13 = (r : Int) := by rw [f1' 13 (by decide), u_n (by omega), hR]
    have fin := fun (x : Int) (hx : x = lnV v 148 r) => hQ (q_up (q_up u 148 (4 * r + 3) x) 137 13 ((r : Int) + 1)) (fun b b1 b2 => by rw [u_r b1, u_r (by omega), f1 b b1 b2, u_r b1]) (fun j hj hj2 hj3 => by rw [u_n (by omega), u_n (by omega), f1' j hj2, u_n (by omega)]) (by rw [u_s rfl rfl]) (fun j hj => by rw [u_n (by omega), u_n (by omega), f2 j hj, u_n (by omega)]) (fun i hi => by rw [u_n (by omega), u_n (by omega), f3 i hi, eS i hi]) (by rw [u_n (by omega), u_s rfl rfl, hx])
    by_cases c : r = 0
    · have fin := fin (J (J (tS v 0) (tS v 1)) (tS v 2)) (by unfold lnV; rw [if_pos c])
      simp (disch := omega) only [E170, SHM hG, hR', u_n, u_s, c_join, q_push_I, q_push_L, q_push_P, q_push_U, ↓if_pos, ↓if_neg, Int.toNat_natCast, show (((4 * r : Nat) : Int) + 1).toNat = 4 * r + 1 by omega, show (((4 * r : Nat) : Int) + 2).toNat = 4 * r + 2 by omega, show (((4 * r : Nat) : Int) + 3).toNat = 4 * r + 3 by omega, s0, s1, s2]
      repeat' first | (refine And.intro ?_ ?_) | rfl | exact True.intro | assumption | omega
    · have s3 := f2 (4 * r - 1) (by omega)
      rw [u_n (by omega)] at s3
      have hs3 := hs (4 * r - 1) (by omega)
      have fin := fin (J (v 148 (4 * r - 1)) (J (J (tS v 0) (tS v 1)) (tS v 2))) (by unfold lnV; rw [if_neg c])
      simp (disch := omega) only [E170, SHM hG, hR', u_n, u_s, c_join, q_push_I, q_push_L, q_push_P, q_push_U, ↓if_pos, ↓if_neg, Int.toNat_natCast, show (((4 * r : Nat) : Int) + 1).toNat = 4 * r + 1 by omega, show (((4 * r : Nat) : Int) + 2).toNat = 4 * r + 2 by omega, show (((4 * r : Nat) : Int) + 3).toNat = 4 * r + 3 by omega, show (((4 * r : Nat) : Int) - 1).toNat = 4 * r - 1 by omega, s0, s1, s2, s3]
      repeat' first | (refine And.intro ?_ ?_) | rfl | exact True.intro | assumption | omega) 3 0 (q_up v 137 0 0) rfl (fun b _ _ => rfl) (fun j _ => rfl) (fun j _ => rfl) (fun j hj => by omega)
  repeat' first | (refine And.intro ?_ ?_) | rfl | exact True.intro | assumption | omega
theorem op_round (hI : Inv v G) : twin (d + 8) 125 170 [] v G Inv := by
  have hG := hI.1
  have hB := hI.2.2.2.2.2.2.2.2
  obtain ⟨r1, r2, r3, r4⟩ := hI.2.2.2.1
  obtain ⟨r, hr⟩ : ∃ r : Nat, v 32 3 = (r : Int) := ⟨(v 32 3).toNat, by omega⟩
  by_cases c : r < 20
  · apply twin_of
    refine k_round hG c hr hB (fun j hj => (r4 j (by omega)).2) (fun v1 a1 a2 a3 a4 a5 a6 => ⟨(r : Int) + 1 - 1, rfl, rfl, by omega, by omega, ?_⟩)
    have e137 := a1 137 (by decide) (by decide)
    have e148 := a1 148 (by decide) (by decide)
    have eS : ∀ t, t < 3 → tS v1 t = tS v t := fun t ht => tS_cg (a1 _ (by omega) (by omega)) (a1 _ (by omega) (by omega)) (a1 _ (by omega) (by omega))
    refine m_round hG c (by rw [e137, ← r1, hr]) (tbI_cg (fun b hb => a1 b (by omega) (by omega)) hB) (fun j hj => by rw [e148, ← (r4 j (by omega)).1]; exact (r4 j (by omega)).2) (fun v2 b1 b2 b3 b4 b5 b6 => ⟨rfl, rfl, fun b hb => by rw [b1 b (by omega) (by omega), a1 b (by omega) (by omega)], Inv_crd hI (fun b j h1 h2 => ?_) ⟨?_, ?_, ?_, fun j hj => ?_⟩⟩)
    · by_cases e : b = 137
      · subst e
        rw [b2 j (by omega) (by omega) (by omega), e137]
      · by_cases e2 : b = 32
        · subst e2
          rw [b1 32 (by omega) (by omega), a2 j (by omega)]
        · rw [b1 b e (by omega), a1 b (by omega) e2]
    · rw [b1 32 (by decide) (by decide), a3, b3]
    · rw [b1 32 (by decide) (by decide), a3]
      omega
    · rw [b1 32 (by decide) (by decide), a3]
      omega
    · rw [b1 32 (by decide) (by decide), a3] at hj
      rw [b1 35 (by decide) (by decide)]
      by_cases c1 : j < 4 * r
      · have := r4 j (by omega)
        rw [a4 j c1, b4 j c1, e148]
        exact this
      · by_cases c2 : j = 4 * r + 3
        · subst c2
          have hl := lnV_rng v 35 r
          have el : lnV v1 148 r = lnV v 35 r := by
            unfold lnV
            rw [eS 0 (by decide), eS 1 (by decide), eS 2 (by decide), e148]
            by_cases c3 : r = 0
            · rw [if_pos c3, if_pos c3]
            · rw [if_neg c3, if_neg c3, (r4 (4 * r - 1) (by omega)).1]
          rw [a6, b6, el]
          exact ⟨rfl, hl⟩
        · have x1 := a5 (j - 4 * r) (by omega)
          have x2 := b5 (j - 4 * r) (by omega)
          have hl := tS_rng v (j - 4 * r)
          rw [show 4 * r + (j - 4 * r) = j by omega] at x1 x2
          rw [x1, x2, eS _ (by omega)]
          exact ⟨rfl, hl⟩
  · have hr20 : r = 20 := by omega
    subst hr20
    refine twin_mk (z := -1000003) (v1 := v) (v2 := q_up v 137 0 0) ?_ ?_ (by decide) (Inv_c hI (fun b j h1 => by rw [u_n (by omega)]))
    · simp (disch := omega) only [E125, SHC hG, hr, ↓if_neg]
      repeat' first | (refine And.intro ?_ ?_) | rfl | exact True.intro | assumption | omega
    · simp (disch := omega) only [E170, SHM hG, u_n, ← r1, hr, ↓if_neg]
      repeat' first | (refine And.intro ?_ ?_) | rfl | exact True.intro | assumption | omega
theorem op_seal {a b : Int} (hI : Inv v G) (ha : -2147483648 ≤ a ∧ a ≤ 2147483647) (hb : -2147483648 ≤ b ∧ b ≤ 2147483647) : twin (d + 8) 126 171 [.inl a, .inl b] v G Inv := by
  have hG := hI.1
  obtain ⟨r1, r2, r3, r4⟩ := hI.2.2.2.1
  by_cases c : (0 ≤ a ∧ a < v 32 3) ∧ (0 ≤ b ∧ b ≤ 3)
  · obtain ⟨t, rfl⟩ : ∃ t : Nat, a = (t : Int) := ⟨a.toNat, by omega⟩
    obtain ⟨w, rfl⟩ : ∃ w : Nat, b = (w : Int) := ⟨b.toNat, by omega⟩
    have h4 := r4 (4 * t + w) (by omega)
    refine twin_mk (z := v 35 (4 * t + w)) (v1 := v) (v2 := q_up v 137 0 0) ?_ ?_ (by omega) (Inv_c hI (fun b j h1 => by rw [u_n (by omega)]))
    · simp (disch := first | assumption | omega) only [E126, SHC hG, c_within, c_rnum, ↓if_neg, ↓if_pos, q_push_I, q_push_L, q_push_P, q_push_U]
      repeat' first | (refine And.intro ?_ ?_) | rfl | exact True.intro | assumption | omega
    · simp (disch := omega) only [E171, SHM hG, c_in, u_n, ↓if_neg, ↓if_pos, h4.1, q_push_I, q_push_L, q_push_P, q_push_U, show ((4 : Int) * (t : Int) + (w : Int)).toNat = 4 * t + w by omega]
      repeat' first | (refine And.intro ?_ ?_) | rfl | exact True.intro | assumption | omega
  · refine twin_mk (z := -1000001) (v1 := v) (v2 := q_up v 137 0 0) ?_ ?_ (by decide) (Inv_c hI (fun b j h1 => by rw [u_n (by omega)]))
    · simp (disch := omega) only [E126, SHC hG, c_within, q_push_I, q_push_L, q_push_P, q_push_U]
      repeat' first | (refine And.intro ?_ ?_) | rfl | exact True.intro | omega | split
    · simp (disch := omega) only [E171, SHM hG, u_n, c_in, q_push_I, q_push_L, q_push_P, q_push_U]
      repeat' first | (refine And.intro ?_ ?_) | rfl | exact True.intro | omega | split
end
