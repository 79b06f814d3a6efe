/-! ===== answers of acts: the pure list ===== -/
def gat (v : q_H) (t : Nat) : Nat → Nat → List (Int × Int)
  | 0, _ => []
  | r + 1, i => (v 142 (14 * t + i), v 143 (14 * t + i)) :: gat v t r (i + 1)
def gE (v : q_H) (t f e : Nat) : Nat → Nat → List (Int × Int)
  | 0, _ => []
  | r + 1, i => (if i = f ∨ i + 1 = e then [(v 142 (14 * t + i), v 143 (14 * t + i))] else []) ++ gE v t f e r (i + 1)
def sumV (v : q_H) (t : Nat) : Nat → Nat → Int
  | 0, _ => 0
  | r + 1, i => v 143 (14 * t + i) + sumV v t r (i + 1)
theorem gat_len (v : q_H) (t : Nat) : ∀ r i, (gat v t r i).length = r
  | 0, i => rfl
  | r + 1, i => by unfold gat; rw [List.length_cons, gat_len v t r (i + 1)]
theorem gE_len1 (v : q_H) (t f e : Nat) : ∀ r i, f < i → i + r = e → (gE v t f e r i).length = min 1 r
  | 0, i, _, _ => rfl
  | r + 1, i, h1, h2 => by
    unfold gE
    rw [List.length_append, gE_len1 v t f e r (i + 1) (by omega) (by omega)]
    by_cases c : r = 0
    · rw [if_pos (by omega)]
      show 1 + _ = _
      omega
    · rw [if_neg (by omega)]
      show 0 + _ = _
      omega
theorem gE_len (v : q_H) (t f e : Nat) : ∀ r, f + r = e → (gE v t f e r f).length = min 2 r
  | 0, _ => rfl
  | r + 1, h => by
    unfold gE
    rw [List.length_append, gE_len1 v t f e r (f + 1) (by omega) (by omega), if_pos (Or.inl rfl)]
    show 1 + _ = _
    omega
theorem gE_le (v : q_H) (t f e : Nat) : ∀ r i, (gE v t f e r i).length ≤ r
  | 0, i => Nat.le_refl _
  | r + 1, i => by
    unfold gE
    rw [List.length_append]
    have := gE_le v t f e r (i + 1)
    split
    · show 1 + _ ≤ _
      omega
    · show 0 + _ ≤ _
      omega
theorem sumV_rng {v : q_H} {t : Nat} : ∀ r i, (∀ k, i ≤ k → k < i + r → 0 ≤ v 143 (14 * t + k) ∧ v 143 (14 * t + k) ≤ 999) → 0 ≤ sumV v t r i ∧ sumV v t r i ≤ 999 * r
  | 0, i, _ => by unfold sumV; omega
  | r + 1, i, h => by
    have h1 := sumV_rng r (i + 1) (fun k k1 k2 => h k (by omega) (by omega))
    have h2 := h i (Nat.le_refl _) (by omega)
    unfold sumV
    omega
abbrev hasK (v : q_H) (b : Nat) (k : Int) : Prop := plm v b (v 141 b).toNat k < (v 141 b).toNat ∧ v 142 (14 * b + plm v b (v 141 b).toNat k) = k
abbrev valK (v : q_H) (b : Nat) (k : Int) : Int := v 143 (14 * b + plm v b (v 141 b).toNat k)
def arow (v : q_H) (w : Int) (a b i : Nat) : List Int := if w ≤ 3 then [v 142 (14 * a + i), v 143 (14 * a + i)] else if hasK v b (v 142 (14 * a + i)) then (if w = 6 then [] else [v 142 (14 * a + i), v 143 (14 * a + i), valK v b (v 142 (14 * a + i))]) else (if w = 6 then [v 142 (14 * a + i), v 143 (14 * a + i)] else [])
def ansM (v : q_H) (w : Int) (a b : Nat) : Nat → Nat → List Int
  | 0, _ => []
  | r + 1, i => arow v w a b i ++ ansM v w a b r (i + 1)
def ansE (v : q_H) (w : Int) (a : Nat) (low high : Int) : Nat := if w = 2 then min (plm v a (v 141 a).toNat low + high.toNat) (v 141 a).toNat else plm v a (v 141 a).toNat (high + 1)
def ansV (v : q_H) (w : Int) (a b : Nat) (low high : Int) : List Int := if w = 1 then [((min 2 (ansE v w a low high - plm v a (v 141 a).toNat low) : Nat) : Int), sumV v a (ansE v w a low high - plm v a (v 141 a).toNat low) (plm v a (v 141 a).toNat low)] else ansM v w a b (ansE v w a low high - plm v a (v 141 a).toNat low) (plm v a (v 141 a).toNat low)
theorem fnd_gat_no {v : q_H} {t : Nat} {x : Int} : ∀ r i, (∀ k, i ≤ k → k < i + r → v 142 (14 * t + k) ≠ x) → fnd x (gat v t r i) = none
  | 0, i, _ => rfl
  | r + 1, i, h => by
    unfold gat fnd
    rw [if_neg (h i (Nat.le_refl _) (by omega))]
    exact fnd_gat_no r (i + 1) (fun k k1 k2 => h k (by omega) (by omega))
theorem fnd_gat_at {v : q_H} {t m : Nat} {x : Int} (hm : v 142 (14 * t + m) = x) : ∀ r i, i ≤ m → m < i + r → (∀ k, i ≤ k → k < m → v 142 (14 * t + k) ≠ x) → fnd x (gat v t r i) = some (v 143 (14 * t + m))
  | 0, i, h1, h2, _ => by omega
  | r + 1, i, h1, h2, h => by
    unfold gat fnd
    by_cases c : i = m
    · subst c
      rw [if_pos hm]
    · rw [if_neg (h i (Nat.le_refl _) (by omega))]
      exact fnd_gat_at hm r (i + 1) (by omega) (by omega) (fun k k1 k2 => h k (by omega) k2)
section
variable {d q : Nat} {v : q_H} {G : q_Gr} {Q : q_V → q_H → q_Gr → Prop}
theorem fnd_gat {t : Nat} {lo hi x : Int} (hI : tabI v (110 + 9 * t) t (v 141 t).toNat) (h1 : lo ≤ x) (h2 : x ≤ hi) : fnd x (gat v t (plm v t (v 141 t).toNat (hi + 1) - plm v t (v 141 t).toNat lo) (plm v t (v 141 t).toNat lo)) = if hasK v t x then some (valK v t x) else none := by
  have m1 := plm_mono (v := v) (t := t) (n := (v 141 t).toNat) h1
  have m2 := plm_mono (v := v) (t := t) (n := (v 141 t).toNat) (show x ≤ hi + 1 by omega)
  obtain ⟨p1, p2, p3⟩ := plm_sp (v := v) (t := t) (n := (v 141 t).toNat) (x := x)
  obtain ⟨q1, q2, q3⟩ := plm_sp (v := v) (t := t) (n := (v 141 t).toNat) (x := hi + 1)
  by_cases c : hasK v t x
  · rw [if_pos c]
    have c : plm v t (v 141 t).toNat x < (v 141 t).toNat ∧ v 142 (14 * t + plm v t (v 141 t).toNat x) = x := c
    show _ = some (v 143 (14 * t + plm v t (v 141 t).toNat x))
    generalize hm : plm v t (v 141 t).toNat x = m at *
    generalize hE : plm v t (v 141 t).toNat (hi + 1) = e at *
    generalize hF : plm v t (v 141 t).toNat lo = f at *
    refine fnd_gat_at c.2 _ _ m1 ?_ (fun k k1 k2 => by have := p2 k k2; omega)
    rcases Nat.lt_or_ge m e with hlt | hge
    · omega
    · have e1 : e = m := by omega
      have := q3 (by omega)
      rw [e1, c.2] at this
      omega
  · rw [if_neg c]
    have c : ¬ (plm v t (v 141 t).toNat x < (v 141 t).toNat ∧ v 142 (14 * t + plm v t (v 141 t).toNat x) = x) := c
    generalize hm : plm v t (v 141 t).toNat x = m at *
    generalize hE : plm v t (v 141 t).toNat (hi + 1) = e at *
    generalize hF : plm v t (v 141 t).toNat lo = f at *
    refine fnd_gat_no _ _ (fun k k1 k2 hk => ?_)
    rcases Nat.lt_or_ge k m with hlt | hge
    · have := p2 k hlt
      omega
    · by_cases ek : k = m
      · subst ek
        exact c ⟨by omega, hk⟩
      · have := p3 (by omega)
        have mo := tab_mono hI (m + 1) (k + 1) (by omega) (by omega)
        have a1 := (hI.2.2.2.2.2.2.2.1 m (by omega)).1
        have a2 := (hI.2.2.2.2.2.2.2.1 k (by omega)).1
        rw [a1, a2] at mo
        omega
theorem ansL_eq {w sum : Int} {a b i0 e0 : Nat} {RB : List (Int × Int)} (h1 : w ≠ 1) (hw6 : w ≤ 6) (h0 : w ≤ 3 → RB = []) (hf : ∀ k, i0 ≤ k → k < e0 → 3 < w → fnd (v 142 (14 * a + k)) RB = if hasK v b (v 142 (14 * a + k)) then some (valK v b (v 142 (14 * a + k))) else none) : ∀ r i, i0 ≤ i → i + r = e0 → ansL w (gat v a r i) RB sum = ansM v w a b r i := by
  intro r
  induction r with
  | zero =>
    intro i _ _
    unfold ansL
    rw [if_neg h1]
    split <;> rfl
  | succ r ih =>
    intro i hi he
    have nx := ih (i + 1) (by omega) (by omega)
    have hfi := hf i hi (by omega)
    unfold ansL at nx ⊢
    rw [if_neg h1] at nx ⊢
    unfold gat ansM arow
    by_cases c3 : w ≤ 3
    · have e := h0 c3
      subst e
      rw [if_neg (by omega)] at nx ⊢
      rw [if_pos c3, ← nx]
      rfl
    · have hfi := hfi (by omega)
      rw [if_neg c3]
      by_cases c4 : w = 4 ∨ w = 5
      · rw [if_pos c4] at nx ⊢
        rw [← nx]
        show mat1 RB (v 142 (14 * a + i), v 143 (14 * a + i)) ++ _ = _
        congr 1
        unfold mat1
        simp only [hfi]
        by_cases c : hasK v b (v 142 (14 * a + i))
        · rw [if_pos c, if_pos c, if_neg (by omega)]
        · rw [if_neg c, if_neg c, if_neg (by omega)]
      · rw [if_neg c4] at nx ⊢
        rw [← nx]
        show mis1 RB (v 142 (14 * a + i), v 143 (14 * a + i)) ++ _ = _
        congr 1
        unfold mis1
        simp only [hfi]
        by_cases c : hasK v b (v 142 (14 * a + i))
        · rw [if_pos c, if_pos c, if_pos (by omega)]
        · rw [if_neg c, if_neg c, if_pos (by omega)]
theorem ansM_len {w : Int} {a b : Nat} : ∀ r i, (ansM v w a b r i).length ≤ 3 * r
  | 0, i => Nat.le_refl _
  | r + 1, i => by
    have h := ansM_len (w := w) (a := a) (b := b) r (i + 1)
    unfold ansM arow
    rw [List.length_append]
    repeat' split
    all_goals (simp only [List.length_cons, List.length_nil]; omega)
theorem ansM_rng {w : Int} {a b : Nat} (hA : tabI v (110 + 9 * a) a (v 141 a).toNat) (hB : tabI v (110 + 9 * b) b (v 141 b).toNat) : ∀ r i, i + r ≤ (v 141 a).toNat → ∀ x, x ∈ ansM v w a b r i → 0 ≤ x ∧ x ≤ 999
  | 0, i, _, x, hx => by unfold ansM at hx; cases hx
  | r + 1, i, hi, x, hx => by
    unfold ansM at hx
    rcases List.mem_append.mp hx with hx | hx
    · obtain ⟨k1, k2, k3, k4, k5, k6⟩ := hA.2.2.2.2.2.2.2.1 i (by omega)
      rw [k1] at k3 k4
      rw [k2] at k5 k6
      unfold arow at hx
      split at hx
      · simp only [List.mem_cons, List.not_mem_nil, or_false] at hx
        rcases hx with rfl | rfl <;> omega
      · split at hx
        · next c =>
          obtain ⟨j1, j2, j3, j4, j5, j6⟩ := hB.2.2.2.2.2.2.2.1 _ c.1
          rw [j2] at j5 j6
          split at hx
          · cases hx
          · simp only [List.mem_cons, List.not_mem_nil, or_false] at hx
            rcases hx with hx | hx | hx
            · omega
            · omega
            · have hx : x = v 143 (14 * b + plm v b (v 141 b).toNat (v 142 (14 * a + i))) := hx
              omega
        · split at hx
          · simp only [List.mem_cons, List.not_mem_nil, or_false] at hx
            rcases hx with rfl | rfl <;> omega
          · cases hx
    · exact ansM_rng hA hB r (i + 1) (by omega) x hx
theorem ansE_le {w low high : Int} {a : Nat} : ansE v w a low high ≤ (v 141 a).toNat := by
  unfold ansE
  split
  · omega
  · exact (plm_sp (v := v) (t := a) (n := (v 141 a).toNat) (x := high + 1)).1
theorem ansE_ge {w low high : Int} {a : Nat} (h : w ≠ 2 → low ≤ high) : plm v a (v 141 a).toNat low ≤ ansE v w a low high := by
  have p1 := (plm_sp (v := v) (t := a) (n := (v 141 a).toNat) (x := low)).1
  unfold ansE
  split
  · omega
  · next c =>
    have := h c
    exact plm_mono (by omega)
theorem ansV_ok {w low high : Int} {a b : Nat} (hA : tabI v (110 + 9 * a) a (v 141 a).toNat) (hB : tabI v (110 + 9 * b) b (v 141 b).toNat) : (ansV v w a b low high).length ≤ 42 ∧ ∀ x, x ∈ ansV v w a b low high → 0 ≤ x ∧ x ≤ 100000 := by
  have h14 := hA.1
  have hE := ansE_le (v := v) (w := w) (a := a) (low := low) (high := high)
  generalize he : ansE v w a low high = e at *
  generalize hi : plm v a (v 141 a).toNat low = i at *
  unfold ansV
  rw [he, hi]
  split
  · refine ⟨by simp, fun x hx => ?_⟩
    have sr := sumV_rng (v := v) (t := a) (e - i) i (fun k k1 k2 => by
      obtain ⟨k1', k2', k3, k4, k5, k6⟩ := hA.2.2.2.2.2.2.2.1 k (by omega)
      rw [k2'] at k5 k6
      omega)
    simp only [List.mem_cons, List.not_mem_nil, or_false] at hx
    rcases hx with rfl | rfl <;> omega
  · have hl := ansM_len (v := v) (w := w) (a := a) (b := b) (e - i) i
    refine ⟨by omega, fun x hx => ?_⟩
    by_cases c : i ≤ e
    · have := ansM_rng hA hB (e - i) i (by omega) x hx
      omega
    · rw [show e - i = 0 by omega] at hx
      cases hx
theorem gat_cg {v' : q_H} {t : Nat} (h1 : v' 142 = v 142) (h2 : v' 143 = v 143) : ∀ r i, gat v' t r i = gat v t r i
  | 0, i => rfl
  | r + 1, i => by
    unfold gat
    rw [h1, h2, gat_cg h1 h2 r (i + 1)]
theorem gat_rok {t : Nat} (hI : tabI v (110 + 9 * t) t (v 141 t).toNat) : ∀ r i, i + r ≤ (v 141 t).toNat → rok (gat v t r i)
  | 0, i, _ => fun k hk => absurd hk (Nat.not_lt_zero _)
  | r + 1, i, h => by
    intro k hk
    have hx := hI.2.2.2.2.2.2.2.1 i (by omega)
    unfold gat at hk ⊢
    match k, hk with
    | 0, _ =>
      rw [List.getElem_cons_zero]
      show -2147483648 ≤ v 142 (14 * t + i) ∧ v 142 (14 * t + i) ≤ 2147483647
      omega
    | k + 1, hk =>
      have := gat_rok hI r (i + 1) (by omega) k (by simpa using hk)
      rw [List.getElem_cons_succ]
      exact this
theorem gE_rok {t f e : Nat} (hI : tabI v (110 + 9 * t) t (v 141 t).toNat) : ∀ r i, i + r ≤ (v 141 t).toNat → rok (gE v t f e r i)
  | 0, i, _ => fun k hk => absurd hk (Nat.not_lt_zero _)
  | r + 1, i, h => by
    intro k hk
    have hx := hI.2.2.2.2.2.2.2.1 i (by omega)
    have hr := gE_rok (f := f) (e := e) hI r (i + 1) (by omega)
    unfold gE at hk ⊢
    split at hk
    · next c =>
      simp only [if_pos c]
      match k, hk with
      | 0, _ =>
        show -2147483648 ≤ v 142 (14 * t + i) ∧ v 142 (14 * t + i) ≤ 2147483647
        omega
      | k + 1, hk => exact hr k (by simpa using hk)
    · next c =>
      simp only [if_neg c]
      exact hr k (by simpa using hk)
/-! ===== the class gathers ===== -/
theorem g_row46 (hG : gok G) : gRow G 46 := ⟨by rw [sh_46 hG], rf_46_0 hG, rf_46_1 hG, by rw [sh_47 hG], by rw [sh_47 hG], by rw [sh_48 hG], by rw [sh_48 hG], by decide⟩
theorem g_row49 (hG : gok G) : gRow G 49 := ⟨by rw [sh_49 hG], rf_49_0 hG, rf_49_1 hG, by rw [sh_50 hG], by rw [sh_50 hG], by rw [sh_51 hG], by rw [sh_51 hG], by decide⟩
theorem c_tkey {t n i : Nat} (hG : gok G) (ht : t < 3) (hI : tabI v (110 + 9 * t) t n) (hi : i < n) : q_call (d + 2) 83 [.inr (.inr (.inl (some (110 + 9 * t + 1)))), .inl ((i + 1 : Nat))] v G Q = Q (.inl (v 142 (14 * t + i))) v G := by
  have h14 := hI.1
  have hsz := hI.2.2.1
  have g := (g_table hG t ht).2.2.2.2.1
  rw [c_rkey g (by omega) (by omega) (by omega) (by omega), if_pos (by omega), Int.toNat_natCast, ← (hI.2.2.2.2.2.2.2.1 i hi).1]
theorem c_tval {t n i : Nat} (hG : gok G) (ht : t < 3) (hI : tabI v (110 + 9 * t) t n) (hi : i < n) : q_call (d + 2) 84 [.inr (.inr (.inl (some (110 + 9 * t + 1)))), .inl ((i + 1 : Nat))] v G Q = Q (.inl (v 143 (14 * t + i))) v G := by
  have h14 := hI.1
  have hsz := hI.2.2.1
  have g := (g_table hG t ht).2.2.2.2.1
  rw [c_rval g (by omega) (by omega) (by omega) (by omega), if_pos (by omega), Int.toNat_natCast, ← (hI.2.2.2.2.2.2.2.1 i hi).2.1]
theorem s_gather {t n e : Nat} {v0 : q_H} {z2 : q_V} (hG : gok G) (gq : gRow G q) (hq : q < 60) (ht : t < 3) (hI : tabI v0 (110 + 9 * t) t n) (he : e ≤ n) : ∀ (r i : Nat) (v : q_H) (xs : List (Int × Int)), i + r = e → (∀ b, b ≠ q → b ≠ q + 1 → b ≠ q + 2 → v b = v0 b) → hasR v q xs → xs.length + r ≤ 16 → (∀ v', (∀ b, b ≠ q → b ≠ q + 1 → b ≠ q + 2 → v' b = v0 b) → hasR v' q (xs ++ gat v0 t r i) → Q (.inr (.inr (.inr ()))) v' G) → q_wp (d + 2) 74 3 [.inr (.inr (.inl (some q))), .inr (.inr (.inl (some (110 + 9 * t + 1)))), z2, .inl ((e + 1 : Nat)), .inl ((i + 1 : Nat))] [] v G Q := by
  have h14 := hI.1
  intro r
  induction r with
  | zero =>
    intro i v xs h hf hx hl hC
    have fin := hC v hf (by show hasR v q (xs ++ []); rw [List.append_nil]; exact hx)
    rw [e_74_3]
    simp (disch := omega) only [E74, ↓if_pos]
    repeat' first | exact fin | (refine And.intro ?_ ?_) | exact True.intro | omega | rfl
  | succ r ih =>
    intro i v xs h hf hx hl hC
    have hI' : tabI v (110 + 9 * t) t n := tabI_cg (fun b hb => hf b (by omega) (by omega) (by omega)) hI
    have e1 : v 142 = v0 142 := hf _ (by omega) (by omega) (by omega)
    have e2 : v 143 = v0 143 := hf _ (by omega) (by omega) (by omega)
    have ek : ∀ (d' : Nat) (Q' : q_V → q_H → q_Gr → Prop), q_call (d' + 2) 83 [.inr (.inr (.inl (some (110 + 9 * t + 1)))), .inl ((i + 1 : Nat))] v G Q' = Q' (.inl (v0 142 (14 * t + i))) v G := fun d' Q' => by rw [c_tkey hG ht hI' (by omega), e1]
    have ev : ∀ (d' : Nat) (Q' : q_V → q_H → q_Gr → Prop), q_call (d' + 2) 84 [.inr (.inr (.inl (some (110 + 9 * t + 1)))), .inl ((i + 1 : Nat))] v G Q' = Q' (.inl (v0 143 (14 * t + i))) v G := fun d' Q' => by rw [c_tval hG ht hI' (by omega), e2]
    have hx1 := hx.1
    have nx := ih (i + 1) (q_rins v q (v q 2).toNat (v0 142 (14 * t + i)) (v0 143 (14 * t + i))) (xs ++ [(v0 142 (14 * t + i), v0 143 (14 * t + i))]) (by omega) (fun b b1 b2 b3 => by rw [rins_r b1 b2 b3, hf b b1 b2 b3]) (hasR_add hx) (by rw [List.length_append]; show xs.length + 1 + r ≤ 16; omega) (fun v' h1 h2 => hC v' h1 (by rw [List.append_assoc] at h2; exact h2))
    rw [e_74_3]
    simp (disch := first | assumption | omega) only [E74, ek, ev, c_radd, q_push_I, q_push_L, q_push_P, q_push_U, ↓if_neg, show ((i + 1 : Nat) : Int) + 1 = ((i + 1 + 1 : Nat) : Int) by omega]
    repeat' first | (refine And.intro ?_ ?_) | exact True.intro | omega | assumption | rfl
theorem c_gather {t n e i : Nat} {xs : List (Int × Int)} (hG : gok G) (gq : gRow G q) (hq : q < 60) (ht : t < 3) (hI : tabI v (110 + 9 * t) t n) (he : e ≤ n) (hie : i ≤ e) (hx : hasR v q xs) (hl : xs.length + (e - i) ≤ 16) (hQ : ∀ v', (∀ b, b ≠ q → b ≠ q + 1 → b ≠ q + 2 → v' b = v b) → hasR v' q (xs ++ gat v t (e - i) i) → Q (.inr (.inr (.inr ()))) v' G) : q_call (d + 3) 74 [.inr (.inr (.inl (some q))), .inr (.inr (.inl (some (110 + 9 * t + 1)))), .inl ((i + 1 : Nat)), .inl ((e + 1 : Nat))] v G Q := by
  have := s_gather (d := d) (z2 := .inl ((i + 1 : Nat))) (Q := Q) hG gq hq ht hI he (e - i) i v xs (by omega) (fun _ _ _ _ => rfl) hx hl hQ
  simp only [E74]
  exact this
theorem s_gends {t n e f : Nat} {v0 : q_H} (hG : gok G) (ht : t < 3) (hI : tabI v0 (110 + 9 * t) t n) (he : e ≤ n) : ∀ (r i : Nat) (v : q_H) (xs : List (Int × Int)) (sm : Int), i + r = e → f ≤ i → (∀ b, b ≠ 46 → b ≠ 47 → b ≠ 48 → v b = v0 b) → hasR v 46 xs → xs.length + r ≤ 16 → (∀ v', (∀ b, b ≠ 46 → b ≠ 47 → b ≠ 48 → v' b = v0 b) → hasR v' 46 (xs ++ gE v0 t f e r i) → Q (.inl (sm + sumV v0 t r i)) v' G) → q_wp (d + 2) 75 6 [.inr (.inr (.inl (some 40))), .inr (.inr (.inl (some (110 + 9 * t + 1)))), .inl ((f + 1 : Nat)), .inl ((e + 1 : Nat)), .inl sm, .inl ((i + 1 : Nat))] [] v G Q := by
  have h14 := hI.1
  have gq := g_row46 hG
  intro r
  induction r with
  | zero =>
    intro i v xs sm h hfi hf hx hl hC
    have fin := hC v hf (by show hasR v 46 (xs ++ []); rw [List.append_nil]; exact hx)
    unfold sumV at fin
    rw [Int.add_zero] at fin
    rw [e_75_6]
    simp (disch := omega) only [E75, ↓if_pos]
    repeat' first | exact fin | (refine And.intro ?_ ?_) | exact True.intro | omega | rfl
  | succ r ih =>
    intro i v xs sm h hfi hf hx hl hC
    have hI' : tabI v (110 + 9 * t) t n := tabI_cg (fun b hb => hf b (by omega) (by omega) (by omega)) hI
    have e1 : v 142 = v0 142 := hf _ (by omega) (by omega) (by omega)
    have e2 : v 143 = v0 143 := hf _ (by omega) (by omega) (by omega)
    have ek : ∀ (d' : Nat) (Q' : q_V → q_H → q_Gr → Prop), q_call (d' + 2) 83 [.inr (.inr (.inl (some (110 + 9 * t + 1)))), .inl ((i + 1 : Nat))] v G Q' = Q' (.inl (v0 142 (14 * t + i))) v G := fun d' Q' => by rw [c_tkey hG ht hI' (by omega), e1]
    have ev : ∀ (d' : Nat) (Q' : q_V → q_H → q_Gr → Prop), q_call (d' + 2) 84 [.inr (.inr (.inl (some (110 + 9 * t + 1)))), .inl ((i + 1 : Nat))] v G Q' = Q' (.inl (v0 143 (14 * t + i))) v G := fun d' Q' => by rw [c_tval hG ht hI' (by omega), e2]
    have hx1 := hx.1
    have es : sm + v0 143 (14 * t + i) + sumV v0 t r (i + 1) = sm + sumV v0 t (r + 1) i := by
      conv => rhs; unfold sumV
      omega
    rw [e_75_6]
    by_cases c : i = f ∨ i + 1 = e
    · have eg : gE v0 t f e (r + 1) i = [(v0 142 (14 * t + i), v0 143 (14 * t + i))] ++ gE v0 t f e r (i + 1) := by
        conv => lhs; unfold gE
        rw [if_pos c]
      have nx := ih (i + 1) (q_rins v 46 (v 46 2).toNat (v0 142 (14 * t + i)) (v0 143 (14 * t + i))) (xs ++ [(v0 142 (14 * t + i), v0 143 (14 * t + i))]) (sm + v0 143 (14 * t + i)) (by omega) (by omega) (fun b b1 b2 b3 => by rw [rins_r b1 b2 b3, hf b b1 b2 b3]) (hasR_add hx) (by rw [List.length_append]; show xs.length + 1 + r ≤ 16; omega) (fun v' h1 h2 => by rw [es]; exact hC v' h1 (by rw [eg, ← List.append_assoc]; exact h2))
      by_cases c1 : i = f
      · simp (disch := first | assumption | omega) only [E75, SHC hG, ek, ev, c_radd gq, q_push_I, q_push_L, q_push_P, q_push_U, ↓if_neg, ↓if_pos, show ((i + 1 : Nat) : Int) + 1 = ((i + 1 + 1 : Nat) : Int) by omega]
        repeat' first | (refine And.intro ?_ ?_) | exact True.intro | omega | assumption | rfl
      · simp (disch := first | assumption | omega) only [E75, SHC hG, ek, ev, c_radd gq, q_push_I, q_push_L, q_push_P, q_push_U, ↓if_neg, ↓if_pos, show ((i + 1 : Nat) : Int) + 1 = ((i + 1 + 1 : Nat) : Int) by omega]
        repeat' first | (refine And.intro ?_ ?_) | exact True.intro | omega | assumption | rfl
    · have eg : gE v0 t f e (r + 1) i = gE v0 t f e r (i + 1) := by
        conv => lhs; unfold gE
        rw [if_neg c, List.nil_append]
      have nx := ih (i + 1) v xs (sm + v0 143 (14 * t + i)) (by omega) (by omega) hf hx (by omega) (fun v' h1 h2 => by rw [es]; exact hC v' h1 (by rw [eg]; exact h2))
      simp (disch := first | assumption | omega) only [E75, SHC hG, ek, ev, q_push_I, q_push_L, q_push_P, q_push_U, ↓if_neg, ↓if_pos, show ((i + 1 : Nat) : Int) + 1 = ((i + 1 + 1 : Nat) : Int) by omega]
      repeat' first | (refine And.intro ?_ ?_) | exact True.intro | omega | assumption | rfl
end
