/-! ===== searching ===== -/
def srch (p : Nat → Bool) : Nat → Nat → Nat
  | 0, i => i
  | f + 1, i => if p i then i else srch p f (i + 1)
theorem srch_sp (p : Nat → Bool) : ∀ (f i : Nat), i ≤ srch p f i ∧ srch p f i ≤ i + f ∧ (∀ k, i ≤ k → k < srch p f i → p k = false) ∧ (srch p f i < i + f → p (srch p f i) = true)
  | 0, i => ⟨Nat.le_refl _, Nat.le_refl _, fun k h1 h2 => absurd h2 (by unfold srch; omega), fun h => absurd h (by unfold srch; omega)⟩
  | f + 1, i => by
    unfold srch
    by_cases h : p i = true
    · rw [if_pos h]
      exact ⟨Nat.le_refl _, by omega, fun k h1 h2 => by omega, fun _ => h⟩
    · rw [if_neg h]
      obtain ⟨h1, h2, h3, h4⟩ := srch_sp p f (i + 1)
      refine ⟨by omega, by omega, fun k g1 g2 => ?_, fun g => h4 (by omega)⟩
      by_cases e : k = i
      · subst e
        simpa using h
      · exact h3 k (by omega) g2
/-- a search ends where nothing before is it, and it is the first -/
theorem srch_eq {p : Nat → Bool} {f i r : Nat} (h1 : i ≤ r) (h2 : r ≤ i + f) (h3 : ∀ k, i ≤ k → k < r → p k = false) (h4 : r < i + f → p r = true) : srch p f i = r := by
  obtain ⟨g1, g2, g3, g4⟩ := srch_sp p f i
  rcases Nat.lt_trichotomy (srch p f i) r with h | h | h
  · have := h3 _ g1 h
    rw [g4 (by omega)] at this
    cases this
  · exact h
  · have := g3 _ h1 h
    rw [h4 (by omega)] at this
    cases this
section
variable {d q : Nat} {v : q_H} {G : q_Gr} {Q : q_V → q_H → q_Gr → Prop}
/-- placeOf -/
def plcR (n r : Nat) : Int := if r < n then (r : Int) else -1
def plc (key : Nat → Int) (n : Nat) (x : Int) : Int := plcR n (srch (fun k => decide (key k = x)) n 0)
theorem s_place_loop {n : Nat} {x : Int} (h : gRow G q) (hn : v q 2 = (n : Int)) (h16 : n ≤ 16) (hk : ∀ k, k < n → -2147483648 ≤ v (q + 1) k ∧ v (q + 1) k ≤ 2147483647) (hx : -2147483648 ≤ x) (hx2 : x ≤ 2147483647) : ∀ (r i : Nat), i + r = n → Q (.inl (plcR n (srch (fun k => decide (v (q + 1) k = x)) r i))) v G → q_wp d 85 2 [.inr (.inr (.inl (some q))), .inl x, .inl i] [] v G Q := by
  obtain ⟨h1, h2, h3, h4, h5, h6, h7, h8⟩ := h
  intro r
  induction r with
  | zero =>
    intro i hi hQ
    rw [e_85_2]
    simp only [E85, h1, hn]
    unfold srch plcR at hQ
    rw [if_neg (by omega)] at hQ
    rw [if_pos (by omega)]
    repeat' first | (refine And.intro ?_ ?_) | split | rfl | exact True.intro | assumption | omega
  | succ r ih =>
    intro i hi hQ
    have hki := hk i (by omega)
    rw [e_85_2]
    simp only [E85, h1, h2, h4, h5, hn, Int.toNat_natCast]
    rw [if_neg (by omega)]
    unfold srch at hQ
    by_cases hx1 : v (q + 1) i = x
    · rw [if_pos (by simpa using hx1)] at hQ
      unfold plcR at hQ
      rw [if_pos (by omega)] at hQ
      rw [if_neg (by omega)]
      repeat' first | (refine And.intro ?_ ?_) | split | rfl | exact True.intro | assumption | omega
    · rw [if_neg (by simpa using hx1)] at hQ
      rw [if_pos (by omega), show ((i : Int) + 1) = ((i + 1 : Nat) : Int) by omega]
      have := ih (i + 1) (by omega) hQ
      repeat' first | (refine And.intro ?_ ?_) | split | rfl | exact True.intro | assumption | omega
theorem c_rplace {n : Nat} {x : Int} (h : gRow G q) (hn : v q 2 = (n : Int)) (h16 : n ≤ 16) (hk : ∀ k, k < n → -2147483648 ≤ v (q + 1) k ∧ v (q + 1) k ≤ 2147483647) (hx : -2147483648 ≤ x) (hx2 : x ≤ 2147483647) : q_call (d + 1) 85 [.inr (.inr (.inl (some q))), .inl x] v G Q = Q (.inl (plc (v (q + 1)) n x)) v G := by
  refine q_call_eq ?_ Q
  simp only [E85]
  exact ⟨h.1, s_place_loop h hn h16 hk hx hx2 n 0 (by omega) ⟨rfl, rfl, rfl⟩⟩
/-- firstFrom, of n + 1 leaves -/
def ffr (key : Nat → Int) (n : Nat) (x : Int) : Nat := srch (fun k => decide (x ≤ key k)) n 0
theorem s_ff_loop {n : Nat} {x : Int} (g1 : (G.2.1 q).1 = 8) (g2 : G.1 q 0 = some (q + 1)) (h : gRow G (q + 1)) (hn : v (q + 1) 2 = (n : Int) + 1) (h16 : n ≤ 15) (hk : ∀ k, k ≤ n → -2147483648 ≤ v (q + 2) k ∧ v (q + 2) k ≤ 2147483647) (hx : -2147483648 ≤ x) (hx2 : x ≤ 2147483647) : ∀ (r i : Nat), i + r = n → Q (.inl ((srch (fun k => decide (x ≤ v (q + 2) k)) r i : Int))) v G → q_wp (d + 2) 103 2 [.inr (.inr (.inl (some q))), .inl x, .inl i] [] v G Q := by
  intro r
  induction r with
  | zero =>
    intro i hi hQ
    rw [e_103_2]
    simp (disch := first | assumption | omega) only [E103, g1, g2, c_rsize, q_push_I, q_push_L, q_push_P, q_push_U, hn]
    unfold srch at hQ
    rw [if_pos (by omega)]
    repeat' first | (refine And.intro ?_ ?_) | split | rfl | exact True.intro | assumption | omega
  | succ r ih =>
    intro i hi hQ
    have hki := hk i (by omega)
    rw [e_103_2]
    simp (disch := first | assumption | omega) only [E103, g1, g2, c_rsize, c_rkey, q_push_I, q_push_L, q_push_P, q_push_U, hn, Int.toNat_natCast, ↓if_neg, ↓if_pos]
    unfold srch at hQ
    have e : q + 1 + 1 = q + 2 := rfl
    by_cases hx1 : x ≤ v (q + 2) i
    · rw [if_pos (by simpa using hx1)] at hQ
      simp (disch := first | assumption | omega) only [e, ↓if_neg, ↓if_pos]
      repeat' first | (refine And.intro ?_ ?_) | split | rfl | exact True.intro | assumption | omega
    · rw [if_neg (by simpa using hx1)] at hQ
      simp (disch := first | assumption | omega) only [e, ↓if_neg, ↓if_pos, show ((i : Int) + 1) = ((i + 1 : Nat) : Int) by omega]
      have := ih (i + 1) (by omega) hQ
      repeat' first | (refine And.intro ?_ ?_) | split | rfl | exact True.intro | assumption | omega
theorem c_ff {n : Nat} {x : Int} (g : gTab G q) (hn : v (q + 1) 2 = (n : Int) + 1) (h16 : n ≤ 15) (hk : ∀ k, k ≤ n → -2147483648 ≤ v (q + 2) k ∧ v (q + 2) k ≤ 2147483647) (hx : -2147483648 ≤ x) (hx2 : x ≤ 2147483647) : q_call (d + 3) 103 [.inr (.inr (.inl (some q))), .inl x] v G Q = Q (.inl ((ffr (v (q + 2)) n x : Int))) v G := by
  refine q_call_eq ?_ Q
  simp only [E103]
  exact ⟨g.1, s_ff_loop g.1 g.2.1 g.2.2.2.1 hn h16 hk hx hx2 n 0 (by omega) ⟨rfl, rfl, rfl⟩⟩
theorem c_trows (g : gTab G q) : q_call (d + 2) 100 [.inr (.inr (.inl (some q)))] v G Q = Q (.inl (v (q + 1) 2 - 2)) v G := by
  refine q_call_eq ?_ Q
  have g1 := g.1
  have g2 := g.2.1
  have g3 := g.2.2.2.1
  simp (disch := assumption) only [E100, g1, g2, c_rsize, q_push_I, q_push_L, q_push_P, q_push_U]
  repeat' first | (refine And.intro ?_ ?_) | split | rfl | exact True.intro | assumption | omega
theorem c_tleaves (g : gTab G q) : q_call (d + 1) 101 [.inr (.inr (.inl (some q)))] v G Q = Q (.inr (.inr (.inl (some (q + 1))))) v G := by
  refine q_call_eq ?_ Q
  simp only [E101, g.1, g.2.1]
  repeat' first | (refine And.intro ?_ ?_) | split | rfl | exact True.intro | assumption | omega
theorem c_ttree (g : gTab G q) : q_call (d + 1) 102 [.inr (.inr (.inl (some q)))] v G Q = Q (.inr (.inr (.inl (some (q + 4))))) v G := by
  refine q_call_eq ?_ Q
  simp only [E102, g.1, g.2.2.1]
  repeat' first | (refine And.intro ?_ ?_) | split | rfl | exact True.intro | assumption | omega
/-- sealAnew -/
theorem s_seal_loop {n rw' T : Nat} {v0 : q_H} (g1 : (G.2.1 q).1 = 8) (g2 : G.1 q 0 = some rw') (g3 : G.1 q 1 = some T) (gr : gRow G rw') (gt : gTree G T) (hT : T = rw' + 3) (hn : v0 rw' 2 = (n : Int)) (h2n : 1 ≤ n) (h16 : n ≤ 16) (hk : ∀ k, k < n → (-1 ≤ v0 (rw' + 1) k ∧ v0 (rw' + 1) k ≤ 1000) ∧ 0 ≤ v0 (rw' + 2) k ∧ v0 (rw' + 2) k ≤ 999) (hQ : ∀ v', treeI v' T n (v0 (rw' + 1)) (v0 (rw' + 2)) → (∀ b, b ≤ T ∨ T + 4 < b → v' b = v0 b) → Q (.inr (.inr (.inr ()))) v' G) : ∀ (t : Nat) (v : q_H) (z2 : q_V), t < 32 → (∀ u, 1 ≤ u → u < 32 → v (T + 1) u = ((sh n u).1 : Int) ∧ v (T + 2) u = ((sh n u).2 : Int)) → (∀ u, t < u → u < 32 → 1 ≤ (sh n u).2 → v (T + 3) u = (sl (v0 (rw' + 1)) (v0 (rw' + 2)) (sh n u).1 (sh n u).2).1 ∧ v (T + 4) u = (sl (v0 (rw' + 1)) (v0 (rw' + 2)) (sh n u).1 (sh n u).2).2) → (∀ b, b ≤ T ∨ T + 4 < b → v b = v0 b) → q_wp (d + 4) 97 17 [.inr (.inr (.inl (some q))), .inl t, z2] [] v G Q := by
  intro t
  induction t with
  | zero =>
    intro v z2 ht hs he hf
    rw [e_97_17]
    simp only [E97]
    have := hQ v ⟨hs, fun u h1 h2 h3 => he u (by omega) h2 h3⟩ hf
    rw [if_pos (by omega)]
    repeat' first | (refine And.intro ?_ ?_) | split | rfl | exact True.intro | assumption | omega
  | succ t ih =>
    intro v z2 ht hs he hf
    have hst := hs (t + 1) (by omega) ht
    have hb := sh_bd n (by omega) (t + 1) ht (by omega)
    rw [e_97_17]
    simp (disch := first | assumption | omega) only [E97, g1, g2, g3, c_tstart, c_tleaf, q_push_I, q_push_L, q_push_P, q_push_U, hst.1, hst.2, ↓if_neg, ↓if_pos]
    by_cases hw1 : (sh n (t + 1)).2 = 1
    · have hkk := hk (sh n (t + 1)).1 (by omega)
      have hr1 : v rw' = v0 rw' := hf _ (by omega)
      have hr2 : v (rw' + 1) = v0 (rw' + 1) := hf _ (by omega)
      have hr3 : v (rw' + 2) = v0 (rw' + 2) := hf _ (by omega)
      have hr4 : v rw' 2 = (n : Int) := by rw [hr1, hn]
      have hsl := sl_leaf (v0 (rw' + 1)) (v0 (rw' + 2)) (sh n (t + 1)).1 (sh n (t + 1)).2 (by omega)
      simp (disch := first | assumption | omega) only [E97, g1, g2, g3, c_rkey, c_rval, c_tbleaf, q_push_I, q_push_L, q_push_P, q_push_U, hst.1, hst.2, ↓if_neg, ↓if_pos, Int.toNat_natCast, hr2, hr3, hr4, show ((t + 1 : Nat) : Int) + -1 = (t : Int) by omega]
      repeat' first | (refine And.intro ?_ ?_) | rfl | exact True.intro | omega | assumption | (refine ih _ _ (by omega) (fun u h1 h2 => ?_) (fun u h1 h2 h3 => ?_) (fun b h1 => ?_))
      all_goals first | (simp (disch := omega) only [u_r]; exact hf b h1) | (simp (disch := omega) only [u_n]; exact (hs u h1 h2).1) | (simp (disch := omega) only [u_n]; exact (hs u h1 h2).2) | (rcases (show u = t + 1 ∨ t + 1 < u by omega) with rfl | h4 <;> first | (simp (disch := omega) only [u_n, u_s, hsl]; done) | (simp (disch := omega) only [u_n]; exact (he u h4 h2 h3).1) | (simp (disch := omega) only [u_n]; exact (he u h4 h2 h3).2))
    · by_cases hw2 : 1 < (sh n (t + 1)).2
      · have ha := sh_all n (by omega) (t + 1) (by omega) (by omega)
        rw [if_pos hw2, if_pos hw2] at ha
        have e1 := he (2 * (t + 1)) (by omega) (by omega) (by rw [ha.1]; show 1 ≤ ((sh n (t + 1)).2 + 1) / 2; omega)
        have e2 := he (2 * (t + 1) + 1) (by omega) (by omega) (by rw [ha.2]; show 1 ≤ (sh n (t + 1)).2 - ((sh n (t + 1)).2 + 1) / 2; omega)
        rw [ha.1] at e1
        rw [ha.2] at e2
        dsimp only at e1 e2
        have hsl := sl_fork (v0 (rw' + 1)) (v0 (rw' + 2)) (sh n (t + 1)).1 (sh n (t + 1)).2 hw2
        have r1 := sl_rng (key := v0 (rw' + 1)) (val := v0 (rw' + 2)) (M := 999) _ (sh n (t + 1)).1 (((sh n (t + 1)).2 + 1) / 2) (Nat.le_refl _) (by omega) (fun j h1 h2 => (hk j (by omega)).2)
        have r2 := sl_rng (key := v0 (rw' + 1)) (val := v0 (rw' + 2)) (M := 999) _ ((sh n (t + 1)).1 + ((sh n (t + 1)).2 + 1) / 2) ((sh n (t + 1)).2 - ((sh n (t + 1)).2 + 1) / 2) (Nat.le_refl _) (by omega) (fun j h1 h2 => (hk j (by omega)).2)
        rw [← e1.1, ← e1.2] at r1
        rw [← e2.1, ← e2.2] at r2
        rw [← e1.1, ← e1.2, ← e2.1, ← e2.2] at hsl
        simp (disch := first | assumption | omega) only [E97, g1, g2, g3, c_tbfork, c_tfork, q_push_I, q_push_L, q_push_P, q_push_U, hst.1, hst.2, ↓if_neg, ↓if_pos, Int.toNat_natCast, show ((t + 1 : Nat) : Int) + -1 = (t : Int) by omega]
        repeat' first | (refine And.intro ?_ ?_) | rfl | exact True.intro | omega | assumption | (refine ih _ _ (by omega) (fun u h1 h2 => ?_) (fun u h1 h2 h3 => ?_) (fun b h1 => ?_))
        all_goals first | (simp (disch := omega) only [u_r]; exact hf b h1) | (simp (disch := omega) only [u_n]; exact (hs u h1 h2).1) | (simp (disch := omega) only [u_n]; exact (hs u h1 h2).2) | (rcases (show u = t + 1 ∨ t + 1 < u by omega) with rfl | h4 <;> first | (simp (disch := omega) only [u_n, u_s, hsl]; done) | (simp (disch := omega) only [u_n]; exact (he u h4 h2 h3).1) | (simp (disch := omega) only [u_n]; exact (he u h4 h2 h3).2))
      · simp (disch := first | assumption | omega) only [E97, g1, g2, g3, c_tfork, q_push_I, q_push_L, q_push_P, q_push_U, hst.1, hst.2, ↓if_neg, ↓if_pos, Int.toNat_natCast, show ((t + 1 : Nat) : Int) + -1 = (t : Int) by omega]
        repeat' first | (refine And.intro ?_ ?_) | rfl | exact True.intro | omega | assumption | (refine ih _ _ (by omega) hs (fun u h1 h2 h3 => ?_) hf)
        all_goals (rcases (show u = t + 1 ∨ t + 1 < u by omega) with rfl | h4 <;> first | omega | exact (he u h4 h2 h3).1 | exact (he u h4 h2 h3).2 | exact he u h4 h2 h3)
theorem c_seal {n : Nat} (g : gTab G q) (hn : v (q + 1) 2 = (n : Int)) (h2n : 1 ≤ n) (h16 : n ≤ 16) (hk : ∀ k, k < n → (-1 ≤ v (q + 2) k ∧ v (q + 2) k ≤ 1000) ∧ 0 ≤ v (q + 3) k ∧ v (q + 3) k ≤ 999) (hQ : ∀ v', treeI v' (q + 4) n (v (q + 2)) (v (q + 3)) → (∀ b, b ≤ q + 4 ∨ q + 8 < b → v' b = v b) → Q (.inr (.inr (.inr ()))) v' G) : q_call (d + 5) 97 [.inr (.inr (.inl (some q)))] v G Q := by
  have g1 := g.1
  have g2 := g.2.1
  have g3 := g.2.2.1
  have gr := g.2.2.2.1
  have gt := g.2.2.2.2
  simp (disch := assumption) only [E97, g1, g2, g3, c_rsize, q_push_I, q_push_L, q_push_P, q_push_U, hn]
  refine ⟨True.intro, True.intro, True.intro, c_shape gt h16 (fun v' h1 h2 => ?_)⟩
  simp only [q_push_I, q_push_L, q_push_P, q_push_U, E97]
  exact s_seal_loop (v0 := v) g1 g2 g3 gr gt rfl hn h2n h16 hk hQ 31 v' _ (by omega) h1 (fun u h3 h4 => by omega) (fun b hb => h2 b (by omega) (by omega))
end
