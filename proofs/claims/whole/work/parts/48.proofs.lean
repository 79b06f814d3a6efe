/-! ===== all proofs of an act: the pure list ===== -/
def pfS (w : Int) (x y : Nat) : Nat → Bool := fun j => decide (x ≤ j ∧ j ≤ y ∧ (w ≠ 1 ∨ j < x + 2 ∨ y < j + 2))
def pfY (v : q_H) (w : Int) (t : Nat) (low high : Int) : Nat := if w = 2 then plm v t (v 141 t).toNat low + high.toNat else plm v t (v 141 t).toNat (high + 1) + 1
def pfW (v : q_H) (w : Int) (t : Nat) (low high : Int) : List Int := (((v 141 t).toNat + 2 : Nat) : Int) :: tl (v (110 + 9 * t + 2)) (v (110 + 9 * t + 3)) (pfS w (plm v t (v 141 t).toNat low) (pfY v w t low high)) 0 ((v 141 t).toNat + 2)
def prb (v : q_H) (a b : Nat) : Nat → Nat → List Int
  | 0, _ => []
  | r + 1, i => pfW v 0 b (v 142 (14 * a + i)) (v 142 (14 * a + i)) ++ prb v a b r (i + 1)
def allP (v : q_H) (w : Int) (a b : Nat) (low high : Int) : List Int := pfW v (if w < 3 then w else 0) a low high ++ (if w = 5 then pfW v 0 b low high else if w = 4 ∨ w = 6 then prb v a b (plm v a (v 141 a).toNat (high + 1) - plm v a (v 141 a).toNat low) (plm v a (v 141 a).toNat low) else [])
theorem pfW_cg {v v' : q_H} {w : Int} {t : Nat} {low high : Int} (h1 : v' 141 = v 141) (h2 : v' 142 = v 142) (h3 : v' (110 + 9 * t + 2) = v (110 + 9 * t + 2)) (h4 : v' (110 + 9 * t + 3) = v (110 + 9 * t + 3)) : pfW v' w t low high = pfW v w t low high := by
  unfold pfW pfY plm
  rw [h1, h2, h3, h4]
theorem prb_cg {v v' : q_H} {a b : Nat} (h1 : v' 141 = v 141) (h2 : v' 142 = v 142) (h3 : v' (110 + 9 * b + 2) = v (110 + 9 * b + 2)) (h4 : v' (110 + 9 * b + 3) = v (110 + 9 * b + 3)) : ∀ r i, prb v' a b r i = prb v a b r i
  | 0, i => rfl
  | r + 1, i => by
    unfold prb
    rw [prb_cg h1 h2 h3 h4 r (i + 1), h2, pfW_cg h1 h2 h3 h4]
theorem allP_cg {v v' : q_H} {w : Int} {a b : Nat} {low high : Int} (h1 : v' 141 = v 141) (h2 : v' 142 = v 142) (h3 : ∀ b, 110 ≤ b → b < 137 → v' b = v b) (ha : a < 3) (hb : b < 3) : allP v' w a b low high = allP v w a b low high := by
  have e : ∀ t n x, plm v' t n x = plm v t n x := fun t n x => by unfold plm; rw [h2]
  unfold allP
  rw [pfW_cg h1 h2 (h3 _ (by omega) (by omega)) (h3 _ (by omega) (by omega)), pfW_cg h1 h2 (h3 _ (by omega) (by omega)) (h3 _ (by omega) (by omega)), prb_cg h1 h2 (h3 _ (by omega) (by omega)) (h3 _ (by omega) (by omega)), h1, e, e]
/-- lengths -/
def tln : Nat → (Nat → Bool) → Nat → Nat → Nat
  | 0, _, _, _ => 0
  | f + 1, S, k, n => if anyS S n k = false then 3 else if n ≤ 1 then 3 else 1 + (tln f S k ((n + 1) / 2) + tln f S (k + (n + 1) / 2) (n - (n + 1) / 2))
theorem tln_ok (key val : Nat → Int) (S : Nat → Bool) : ∀ (m k n : Nat), n ≤ m → 1 ≤ n → (tl key val S k n).length = tln m S k n := by
  intro m
  induction m with
  | zero => intro k n h1 h2; omega
  | succ m ih =>
    intro k n h1 h2
    unfold tln
    by_cases h : anyS S n k = true
    · rw [if_neg (by rw [h]; decide)]
      by_cases hn : n ≤ 1
      · rw [tl_leaf h hn, if_pos hn]
        rfl
      · rw [tl_fork h (by omega), if_neg hn, List.length_cons, List.length_append, ih k ((n + 1) / 2) (by omega) (by omega), ih (k + (n + 1) / 2) (n - (n + 1) / 2) (by omega) (by omega)]
        omega
    · rw [tl_no (by simpa using h), if_pos (by simpa using h)]
      rfl
theorem pln_ok : ∀ N, N < 17 → 2 ≤ N → ∀ x, x < 16 → tln 16 (pfS 0 x (x + 1)) 0 N ≤ 37 ∧ tln 16 (pfS 0 x (x + 2)) 0 N ≤ 37 := by decide +kernel
theorem pfW_len {v : q_H} {w : Int} {t : Nat} {low high : Int} (h : v 141 t ≤ 14) : (pfW v w t low high).length ≤ 64 := by
  unfold pfW
  have := tl_len (v (110 + 9 * t + 2)) (v (110 + 9 * t + 3)) (pfS w (plm v t (v 141 t).toNat low) (pfY v w t low high)) ((v 141 t).toNat + 2) 0 ((v 141 t).toNat + 2) (Nat.le_refl _) (by omega)
  rw [List.length_cons]
  omega
section
variable {d q : Nat} {v : q_H} {G : q_Gr} {Q : q_V → q_H → q_Gr → Prop}
theorem plm_mono {t n : Nat} {x y : Int} (h : x ≤ y) : plm v t n x ≤ plm v t n y := by
  obtain ⟨p1, p2, p3⟩ := plm_sp (v := v) (t := t) (n := n) (x := x)
  obtain ⟨q1, q2, q3⟩ := plm_sp (v := v) (t := t) (n := n) (x := y)
  rcases Nat.lt_or_ge (plm v t n y) (plm v t n x) with c | c
  · have := p2 _ c
    have := q3 (by omega)
    omega
  · exact c
theorem plm_next {t n : Nat} {x : Int} (hI : tabI v q t n) : plm v t n (x + 1) ≤ plm v t n x + 1 := by
  obtain ⟨p1, p2, p3⟩ := plm_sp (v := v) (t := t) (n := n) (x := x)
  obtain ⟨q1, q2, q3⟩ := plm_sp (v := v) (t := t) (n := n) (x := x + 1)
  rcases Nat.lt_or_ge (plm v t n x + 1) (plm v t n (x + 1)) with c | c
  · have a1 := p3 (by omega)
    have a2 := q2 (plm v t n x + 1) c
    have a3 := hI.2.2.2.2.2.2.2.2.1 (plm v t n x + 1) (by omega)
    have b1 := (hI.2.2.2.2.2.2.2.1 (plm v t n x) (by omega)).1
    have b2 := (hI.2.2.2.2.2.2.2.1 (plm v t n x + 1) (by omega)).1
    omega
  · exact c
theorem pfW_plen {t : Nat} {z : Int} (hI : tabI v (110 + 9 * t) t (v 141 t).toNat) : (pfW v 0 t z z).length ≤ 38 := by
  have h1 := plm_next (x := z) hI
  have h2 := plm_mono (v := v) (t := t) (n := (v 141 t).toNat) (x := z) (y := z + 1) (by omega)
  have h14 := hI.1
  have p1 := (plm_sp (v := v) (t := t) (n := (v 141 t).toNat) (x := z)).1
  have := pln_ok ((v 141 t).toNat + 2) (by omega) (by omega) (plm v t (v 141 t).toNat z) (by omega)
  unfold pfW pfY
  rw [List.length_cons, if_neg (by decide), tln_ok _ _ _ 16 0 _ (by omega) (by omega)]
  rcases (show plm v t (v 141 t).toNat (z + 1) + 1 = plm v t (v 141 t).toNat z + 1 ∨ plm v t (v 141 t).toNat (z + 1) + 1 = plm v t (v 141 t).toNat z + 2 by omega) with e | e
  · rw [e]
    omega
  · rw [e]
    omega
theorem prb_len {a b : Nat} (hI : tabI v (110 + 9 * b) b (v 141 b).toNat) : ∀ r i, (prb v a b r i).length ≤ 38 * r
  | 0, i => by unfold prb; exact Nat.zero_le _
  | r + 1, i => by
    have h1 := prb_len (a := a) hI r (i + 1)
    have h2 := pfW_plen (z := v 142 (14 * a + i)) hI
    unfold prb
    rw [List.length_append]
    omega
theorem allP_len {w : Int} {a b : Nat} {low high : Int} (ha : tabI v (110 + 9 * a) a (v 141 a).toNat) (hb : tabI v (110 + 9 * b) b (v 141 b).toNat) : (allP v w a b low high).length ≤ 600 := by
  have h1 := ha.1
  have h2 := hb.1
  have p1 := (plm_sp (v := v) (t := a) (n := (v 141 a).toNat) (x := high + 1)).1
  have l1 := pfW_len (v := v) (w := if w < 3 then w else 0) (t := a) (low := low) (high := high) (by omega)
  have l2 := pfW_len (v := v) (w := 0) (t := b) (low := low) (high := high) (by omega)
  have l3 := prb_len (a := a) hb (plm v a (v 141 a).toNat (high + 1) - plm v a (v 141 a).toNat low) (plm v a (v 141 a).toNat low)
  unfold allP
  generalize (if w < 3 then w else 0) = ww at *
  rw [List.length_append]
  split
  · omega
  · split
    · omega
    · show _ + 0 ≤ 600
      omega
/-! ===== the class tells them ===== -/
theorem c_kff {t n : Nat} {x : Int} (hG : gok G) (ht : t < 3) (hI : tabI v (110 + 9 * t) t n) (hx : 0 ≤ x) (hx2 : x ≤ 1000) : q_call (d + 3) 103 [.inr (.inr (.inl (some (110 + 9 * t)))), .inl x] v G Q = Q (.inl ((plm v t n x + 1 : Nat))) v G := by
  have hkey := tab_key hI
  have h14 := hI.1
  rw [c_ff (g_table hG t ht).2 (n := n + 1) (by rw [hI.2.2.1]; omega) (by omega) (fun k hk => by have := hkey k (by omega); omega) (by omega) (by omega), tab_ff hI hx hx2]
theorem c_trange {t : Nat} {low high : Int} (hG : gok G) (ht : t < 3) (hI : tabI v (110 + 9 * t) t (v 141 t).toNat) (hl : 0 ≤ low) (hlh : low ≤ high) (hh : high ≤ 999) (h0 : 0 ≤ v 42 1) (h6 : v 42 1 + (pfW v 0 t low high).length ≤ 600) (hQ : ∀ v', (∀ b, b ≠ 41 → b ≠ 42 → b ≠ 43 → v' b = v b) → (∀ L, hasL v 42 1 43 L → hasL v' 42 1 43 (L ++ pfW v 0 t low high)) → Q (.inr (.inr (.inr ()))) v' G) : q_call (d + 5) 67 [.inr (.inr (.inl (some 40))), .inr (.inr (.inl (some (110 + 9 * t)))), .inl low, .inl high] v G Q := by
  obtain ⟨g0, g⟩ := g_table hG t ht
  have h14 := hI.1
  have pm := plm_mono (v := v) (t := t) (n := (v 141 t).toNat) (x := low) (y := high + 1) (by omega)
  have p1 := (plm_sp (v := v) (t := t) (n := (v 141 t).toNat) (x := high + 1)).1
  generalize hn : (v 141 t).toNat = n at *
  generalize hx : plm v t n low = x at *
  generalize hy : plm v t n (high + 1) = y at *
  have hI1 : tabI (q_fl1 v 41 0 16 0) (110 + 9 * t) t n := tabI_cg (fun b hb => fl_r (by omega)) hI
  have hI2 : tabI (q_fl1 (q_fl1 v 41 0 16 0) 41 x (min (y + 1 + 1) 16) 1) (110 + 9 * t) t n := tabI_cg (fun b hb => fl_r (by omega)) hI1
  have e1 : ∀ (d' : Nat) (Q' : q_V → q_H → q_Gr → Prop), q_call (d' + 3) 103 [.inr (.inr (.inl (some (110 + 9 * t)))), .inl low] (q_fl1 v 41 0 16 0) G Q' = Q' (.inl ((x + 1 : Nat))) (q_fl1 v 41 0 16 0) G := fun d' Q' => by rw [c_kff hG ht hI1 hl (by omega), plm_cg (v := v) (fl_r (by omega)), hx]
  have e2 : ∀ (d' : Nat) (Q' : q_V → q_H → q_Gr → Prop), q_call (d' + 3) 103 [.inr (.inr (.inl (some (110 + 9 * t)))), .inl (high + 1)] (q_fl1 v 41 0 16 0) G Q' = Q' (.inl ((y + 1 : Nat))) (q_fl1 v 41 0 16 0) G := fun d' Q' => by rw [c_kff hG ht hI1 (by omega) (by omega), plm_cg (v := v) (fl_r (by omega)), hy]
  have e3 : ∀ (d' : Nat) (Q' : q_V → q_H → q_Gr → Prop), q_call (d' + 1) 69 [.inr (.inr (.inl (some 40))), .inl (((x + 1 : Nat) : Int) - 1), .inl ((y + 1 : Nat))] (q_fl1 v 41 0 16 0) G Q' = Q' (.inr (.inr (.inr ()))) (q_fl1 (q_fl1 v 41 0 16 0) 41 x (min (y + 1 + 1) 16) 1) G := fun d' Q' => by rw [show ((x + 1 : Nat) : Int) - 1 = (x : Int) by omega, c_show hG (by omega) (by omega) (by omega)]
  have eW : pfW v 0 t low high = ((n + 2 : Nat) : Int) :: tl (v (110 + 9 * t + 2)) (v (110 + 9 * t + 3)) (pfS 0 x (y + 1)) 0 (n + 2) := by
    unfold pfW pfY
    rw [if_neg (by decide), hn, hx, hy]
  rw [eW, List.length_cons] at h6
  rw [eW] at hQ
  have e4 : ∀ (d' : Nat) (Q' : q_V → q_H → q_Gr → Prop), q_call (d' + 4) 70 [.inr (.inr (.inl (some 40))), .inr (.inr (.inl (some (110 + 9 * t))))] (q_fl1 (q_fl1 v 41 0 16 0) 41 x (min (y + 1 + 1) 16) 1) G Q' = Q' (.inr (.inr (.inr ()))) (q_apl (q_fl1 (q_fl1 v 41 0 16 0) 41 x (min (y + 1 + 1) 16) 1) 42 1 43 (((n + 2 : Nat) : Int) :: tl (v (110 + 9 * t + 2)) (v (110 + 9 * t + 3)) (pfS 0 x (y + 1)) 0 (n + 2))) G := fun d' Q' => by
    rw [c_tshown (S := pfS 0 x (y + 1)) hG g (by omega) hI2 (fun j hj => ?_) (by rw [fl_n (by omega), fl_n (by omega)]; exact h0) (by rw [fl_n (by omega), fl_n (by omega), fl_r (by omega), fl_r (by omega), fl_r (by omega), fl_r (by omega)]; omega), fl_r (by omega), fl_r (by omega), fl_r (by omega), fl_r (by omega)]
    unfold pfS
    by_cases c : x ≤ j ∧ j < min (y + 1 + 1) 16
    · rw [fl_i rfl c.1 c.2, if_pos (by simp; omega)]
    · rw [fl_n (by omega), fl_i rfl (by omega) hj, if_neg (by simp; omega)]
  have fin := hQ (q_apl (q_fl1 (q_fl1 v 41 0 16 0) 41 x (min (y + 1 + 1) 16) 1) 42 1 43 (((n + 2 : Nat) : Int) :: tl (v (110 + 9 * t + 2)) (v (110 + 9 * t + 3)) (pfS 0 x (y + 1)) 0 (n + 2))) (fun b b1 b2 b3 => by rw [apl_r b2 b3, fl_r b1, fl_r b1]) (fun L hL => hasL_apl (by decide) ⟨by rw [fl_n (by omega), fl_n (by omega)]; exact hL.1, fun k hk => by rw [fl_n (by omega), fl_n (by omega)]; exact hL.2 k hk⟩)
  simp (disch := first | assumption | omega) only [E67, SHC hG, g.1, c_hide, e1, e2, e3, e4, q_push_I, q_push_L, q_push_P, q_push_U]
  repeat' first | (refine And.intro ?_ ?_) | rfl | exact True.intro | assumption | omega
end
