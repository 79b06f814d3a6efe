section
variable {d q : Nat} {v : q_H} {G : q_Gr} {Q : q_V → q_H → q_Gr → Prop}
theorem s_ahead_loop {low : Int} {x : Nat} (hG : gok G) (hx : x ≤ 14) (h1 : ∀ j, j < x → v 144 (j + 1) < low) (h2 : low ≤ v 144 (x + 1)) (hr : ∀ j, j ≤ x + 1 → -1 ≤ v 144 j ∧ v 144 j ≤ 1000) (hl : 0 ≤ low) (hl2 : low ≤ 999) (hQ : Q (.inl x) v G) : ∀ (r i : Nat), i + r = x → q_wp d 189 2 [.inr (.inr (.inl (some 137))), .inl low, .inl i] [] v G Q := by
  intro r
  induction r with
  | zero =>
    intro i hi
    have hi : i = x := by omega
    subst hi
    have := hr (i + 1) (by omega)
    rw [e_189_2]
    simp (disch := omega) only [E189, SHM hG, ↓if_pos, show ((i : Int) + 1).toNat = i + 1 by omega]
    repeat' first | (refine And.intro ?_ ?_) | rfl | exact True.intro | assumption | omega
  | succ r ih =>
    intro i hi
    have := hr (i + 1) (by omega)
    have := h1 i (by omega)
    have nx := ih (i + 1) (by omega)
    rw [e_189_2]
    simp (disch := omega) only [E189, SHM hG, ↓if_neg, show ((i : Int) + 1).toNat = i + 1 by omega, show (i : Int) + 1 = ((i + 1 : Nat) : Int) by omega, Int.toNat_natCast]
    repeat' first | (refine And.intro ?_ ?_) | rfl | exact True.intro | assumption | omega
theorem c_ahead {low : Int} {x : Nat} (hG : gok G) (hx : x ≤ 14) (h1 : ∀ j, j < x → v 144 (j + 1) < low) (h2 : low ≤ v 144 (x + 1)) (hr : ∀ j, j ≤ x + 1 → -1 ≤ v 144 j ∧ v 144 j ≤ 1000) (hl : 0 ≤ low) (hl2 : low ≤ 999) : q_call (d + 1) 189 [.inr (.inr (.inl (some 137))), .inl low] v G Q = Q (.inl x) v G := by
  refine q_call_eq ?_ Q
  simp only [E189, SHM hG]
  exact ⟨True.intro, s_ahead_loop hG hx h1 h2 hr hl hl2 ⟨rfl, rfl, rfl⟩ x 0 (by omega)⟩
theorem s_behind_loop {high : Int} {x : Nat} (hG : gok G) (hx : x ≤ 15) (h1 : ∀ j, j < x → v 144 j ≤ high) (h2 : high < v 144 x) (hr : ∀ j, j ≤ x → -1 ≤ v 144 j ∧ v 144 j ≤ 1000) (hl : 0 ≤ high) (hl2 : high ≤ 999) (hQ : Q (.inl x) v G) : ∀ (r i : Nat), i + r = x → q_wp d 190 2 [.inr (.inr (.inl (some 137))), .inl high, .inl i] [] v G Q := by
  intro r
  induction r with
  | zero =>
    intro i hi
    have hi : i = x := by omega
    subst hi
    have := hr i (by omega)
    rw [e_190_2]
    simp (disch := omega) only [E190, SHM hG, ↓if_pos, Int.toNat_natCast]
    repeat' first | (refine And.intro ?_ ?_) | rfl | exact True.intro | assumption | omega
  | succ r ih =>
    intro i hi
    have := hr i (by omega)
    have := h1 i (by omega)
    have nx := ih (i + 1) (by omega)
    rw [e_190_2]
    simp (disch := omega) only [E190, SHM hG, ↓if_neg, show (i : Int) + 1 = ((i + 1 : Nat) : Int) by omega, Int.toNat_natCast]
    repeat' first | (refine And.intro ?_ ?_) | rfl | exact True.intro | assumption | omega
theorem c_behind {high : Int} {x : Nat} (hG : gok G) (hx : x ≤ 15) (h1 : ∀ j, j < x → v 144 j ≤ high) (h2 : high < v 144 x) (hr : ∀ j, j ≤ x → -1 ≤ v 144 j ∧ v 144 j ≤ 1000) (hl : 0 ≤ high) (hl2 : high ≤ 999) : q_call (d + 1) 190 [.inr (.inr (.inl (some 137))), .inl high] v G Q = Q (.inl x) v G := by
  refine q_call_eq ?_ Q
  simp only [E190, SHM hG]
  exact ⟨True.intro, s_behind_loop hG hx h1 h2 hr hl hl2 ⟨rfl, rfl, rfl⟩ x 0 (by omega)⟩
/-- the loop that marks what is shown -/
theorem s_mark_loop {w : Int} {x y N : Nat} {v0 : q_H} {z2 z3 z4 : q_V} (hG : gok G) (hN : N ≤ 16) (h8 : v0 137 8 = (N : Int)) (hx : x < 1000) (hy : y < 2000) (hw0 : 0 ≤ w) (hw : w ≤ 2) (hC : ∀ v', (∀ b, b ≠ 156 → v' b = v0 b) → (∀ j, j < N → v' 156 j = if pfS w x y j then 1 else 0) → q_wp d 191 100 [.inr (.inr (.inl (some 137))), .inl w, z2, z3, z4, .inl x, .inl y, .inl N] [] v' G Q) : ∀ (r i : Nat) (v : q_H), i + r = N → (∀ b, b ≠ 156 → v b = v0 b) → (∀ j, j < i → v 156 j = if pfS w x y j then 1 else 0) → q_wp d 191 36 [.inr (.inr (.inl (some 137))), .inl w, z2, z3, z4, .inl x, .inl y, .inl i] [] v G Q := by
  intro r
  induction r with
  | zero =>
    intro i v hi hf hS
    have hi : i = N := by omega
    subst hi
    have e8 : v 137 8 = (i : Int) := by rw [hf 137 (by decide), h8]
    have := hC v hf hS
    rw [e_191_36]
    simp (disch := omega) only [e_191_38, e_191_39, e_191_42, SHM hG, e8, ↓if_pos]
    repeat' first | (refine And.intro ?_ ?_) | exact True.intro | omega | assumption | rfl
  | succ r ih =>
    intro i v hi hf hS
    have e8 : v 137 8 = (N : Int) := by rw [hf 137 (by decide), h8]
    have nx := fun (b : Int) (hb : b = if pfS w x y i then 1 else 0) => ih (i + 1) (q_up v 156 i b) (by omega) (fun c hc => by rw [u_r hc, hf c hc]) (fun j hj => by
      by_cases e : j = i
      · subst e
        rw [u_s rfl rfl, hb]
      · rw [u_n (by omega), hS j (by omega)])
    rw [e_191_36]
    have nx1 := fun h => nx 1 h
    have nx0 := fun h => nx 0 h
    unfold pfS at nx1 nx0
    by_cases c1 : i < x
    · have n0 := nx0 (by rw [if_neg (by simp; omega)])
      clear nx nx1 nx0 ih hC
      simp (disch := omega) only [E191, SHM hG, e8, ↓if_pos, ↓if_neg, Int.toNat_natCast, show (i : Int) + 1 = ((i + 1 : Nat) : Int) by omega]
      repeat' first | (refine And.intro ?_ ?_) | exact True.intro | omega | assumption | rfl
    · by_cases c2 : y < i
      · have n0 := nx0 (by rw [if_neg (by simp; omega)])
        clear nx nx1 nx0 ih hC
        simp (disch := omega) only [E191, SHM hG, e8, ↓if_pos, ↓if_neg, Int.toNat_natCast, show (i : Int) + 1 = ((i + 1 : Nat) : Int) by omega]
        repeat' first | (refine And.intro ?_ ?_) | exact True.intro | omega | assumption | rfl
      · by_cases c3 : w = 1
        · by_cases c4 : i < x + 2
          · have n1 := nx1 (by rw [if_pos (by simp; omega)])
            clear nx nx1 nx0 ih hC
            simp (disch := omega) only [E191, SHM hG, e8, ↓if_pos, ↓if_neg, Int.toNat_natCast, show (i : Int) + 1 = ((i + 1 : Nat) : Int) by omega]
            repeat' first | (refine And.intro ?_ ?_) | exact True.intro | exact n1 | rfl | omega
          · by_cases c5 : y < i + 2
            · have n1 := nx1 (by rw [if_pos (by simp; omega)])
              clear nx nx1 nx0 ih hC
              simp (disch := omega) only [E191, SHM hG, e8, ↓if_pos, ↓if_neg, Int.toNat_natCast, show (i : Int) + 1 = ((i + 1 : Nat) : Int) by omega]
              repeat' first | (refine And.intro ?_ ?_) | exact True.intro | omega | assumption | rfl
            · have n0 := nx0 (by rw [if_neg (by simp; omega)])
              clear nx nx1 nx0 ih hC
              simp (disch := omega) only [E191, SHM hG, e8, ↓if_pos, ↓if_neg, Int.toNat_natCast, show (i : Int) + 1 = ((i + 1 : Nat) : Int) by omega]
              repeat' first | (refine And.intro ?_ ?_) | exact True.intro | omega | assumption | rfl
        · have n1 := nx1 (by rw [if_pos (by simp; omega)])
          clear nx nx1 nx0 ih hC
          simp (disch := omega) only [E191, SHM hG, e8, ↓if_pos, ↓if_neg, Int.toNat_natCast, show (i : Int) + 1 = ((i + 1 : Nat) : Int) by omega]
          repeat' first | (refine And.intro ?_ ?_) | exact True.intro | omega | assumption | rfl
/-- tellProof -/
theorem c_mproof {t : Nat} {w low high : Int} {L : List Int} (hG : gok G) (ht : t < 3) (hI : tabI v (110 + 9 * t) t (v 141 t).toNat) (hw0 : 0 ≤ w) (hw : w ≤ 2) (hl : 0 ≤ low) (hl2 : low ≤ 999) (hh : 0 ≤ high) (hh2 : high ≤ 999) (hL : hasL v 137 32 155 L) (h6 : L.length + (pfW v w t low high).length ≤ 600) (hQ : ∀ v', mfr v' v → hasL v' 137 32 155 (L ++ pfW v w t low high) → Q (.inr (.inr (.inr ()))) v' G) : q_call (d + 4) 191 [.inr (.inr (.inl (some 137))), .inl w, .inl t, .inl low, .inl high] v G Q := by
  have h14 := hI.1
  have hkey := tab_key hI
  obtain ⟨p1, p2, p3⟩ := plm_sp (v := v) (t := t) (n := (v 141 t).toNat) (x := low)
  obtain ⟨q1, q2, q3⟩ := plm_sp (v := v) (t := t) (n := (v 141 t).toNat) (x := high + 1)
  unfold pfW at hQ h6
  rw [List.length_cons] at h6
  generalize hn : (v 141 t).toNat = n at *
  have i4 := hI.2.2.2.1
  have i5 := hI.2.2.2.2.1
  have i8 := hI.2.2.2.2.2.2.2.1
  simp (disch := omega) only [e_191, e_191_0, e_191_1, e_191_2, SHM hG]
  refine ⟨True.intro, c_lay hG ht hI (fun v1 g1 g2 g3 => ?_)⟩
  have hl1 := g1.1
  have k144 : ∀ j, j < n + 2 → v1 144 j = v (110 + 9 * t + 2) j := fun j hj => (g1.2.1 j hj).1
  have hr : ∀ j, j < n + 2 → -1 ≤ v1 144 j ∧ v1 144 j ≤ 1000 := fun j hj => by rw [k144 j hj]; exact (hkey j hj).1
  have ea : ∀ (d' : Nat) (Q' : q_V → q_H → q_Gr → Prop), q_call (d' + 1) 189 [.inr (.inr (.inl (some 137))), .inl low] v1 G Q' = Q' (.inl (plm v t n low)) v1 G := fun d' Q' => c_ahead hG (by omega) (fun j hj => by
    rw [k144 _ (by omega), (i8 j (by omega)).1]
    exact p2 j hj) (by
    rw [k144 _ (by omega)]
    by_cases c : plm v t n low = n
    · rw [c, i5]
      omega
    · rw [(i8 _ (by omega)).1]
      exact p3 (by omega)) (fun j hj => hr j (by omega)) hl hl2
  have eb : ∀ (d' : Nat) (Q' : q_V → q_H → q_Gr → Prop), q_call (d' + 1) 190 [.inr (.inr (.inl (some 137))), .inl high] v1 G Q' = Q' (.inl ((plm v t n (high + 1) + 1 : Nat))) v1 G := fun d' Q' => c_behind hG (by omega) (fun j hj => by
    rw [k144 _ (by omega)]
    cases j with
    | zero => omega
    | succ j =>
      rw [(i8 j (by omega)).1]
      have := q2 j (by omega)
      omega) (by
    rw [k144 _ (by omega)]
    by_cases c : plm v t n (high + 1) = n
    · rw [c, i5]
      omega
    · rw [(i8 _ (by omega)).1]
      have := q3 (by omega)
      omega) (fun j hj => hr j (by omega)) hh hh2
  have fin : ∀ y, y = pfY v w t low high → y < 2000 → ∀ v2, (∀ b, b ≠ 156 → v2 b = v1 b) → (∀ j, j < n + 2 → v2 156 j = if pfS w (plm v t n low) y j then 1 else 0) → q_wp (d + 3) 191 100 [.inr (.inr (.inl (some 137))), .inl w, .inl t, .inl low, .inl high, .inl (plm v t n low), .inl y, .inl ((n + 2 : Nat))] [] v2 G Q := fun y hy hy2 v2 f1 f2 => by
    have hl2 : layI v2 (n + 2) (v (110 + 9 * t + 2)) (v (110 + 9 * t + 3)) := by
      unfold layI
      rw [f1 137 (by decide), f1 144 (by decide), f1 145 (by decide), f1 146 (by decide), f1 147 (by decide)]
      exact g1
    have hL2 : hasL v2 137 32 155 L := by
      refine ⟨by rw [f1 137 (by decide), g3 32 (by decide)]; exact hL.1, fun k hk => by rw [f1 155 (by decide), g2 155 (by decide) (by decide) (by decide) (by decide) (by decide)]; exact hL.2 k hk⟩
    simp (disch := omega) only [e_191_100, e_191_101, SHM hG]
    refine c_mtree (S := pfS w (plm v t n low) y) hG (by omega) (by omega) hl2 f2 hL2 (by rw [hy]; omega) (fun v3 r1 r2 => ?_)
    have := hQ v3 ⟨fun b b1 b2 b3 => by rw [r1.1 b b1 b2 b3, f1 b (by omega), g2 b b1 (by omega) (by omega) (by omega) (by omega)], fun j j1 j2 => by rw [r1.2 j j1 j2, f1 137 (by decide), g3 j j1]⟩ (by rw [← hy]; exact r2)
    simp only [e_191_104, q_push_I, q_push_L, q_push_P, q_push_U]
    exact this
  by_cases c2 : w = 2
  · have ey : pfY v w t low high = plm v t n low + high.toNat := by unfold pfY; rw [if_pos c2, hn]
    have key := s_mark_loop (d := d + 3) (Q := Q) (w := w) (z2 := .inl t) (z3 := .inl low) (z4 := .inl high) (x := plm v t n low) (y := plm v t n low + high.toNat) (N := n + 2) (v0 := v1) hG (by omega) hl1 (by omega) (by omega) hw0 hw (fin _ ey.symm (by omega)) (n + 2) 0 v1 (by omega) (fun _ _ => rfl) (fun j hj => by omega)
    simp (disch := omega) only [E191, SHM hG, ea, q_push_I, q_push_L, q_push_P, q_push_U, ↓if_neg, ↓if_pos, show (plm v t n low : Int) + high = ((plm v t n low + high.toNat : Nat) : Int) by omega]
    repeat' first | (refine And.intro ?_ ?_) | rfl | exact True.intro | assumption | omega
  · have ey : pfY v w t low high = plm v t n (high + 1) + 1 := by unfold pfY; rw [if_neg c2, hn]
    have key := s_mark_loop (d := d + 3) (Q := Q) (w := w) (z2 := .inl t) (z3 := .inl low) (z4 := .inl high) (x := plm v t n low) (y := plm v t n (high + 1) + 1) (N := n + 2) (v0 := v1) hG (by omega) hl1 (by omega) (by omega) hw0 hw (fin _ ey.symm (by omega)) (n + 2) 0 v1 (by omega) (fun _ _ => rfl) (fun j hj => by omega)
    simp (disch := omega) only [E191, SHM hG, ea, eb, q_push_I, q_push_L, q_push_P, q_push_U, ↓if_neg, ↓if_pos]
    repeat' first | (refine And.intro ?_ ?_) | rfl | exact True.intro | assumption | omega
end
