/-! ===== which cells count between two calls ===== -/
abbrev shC (b _j : Nat) : Prop := (94 ≤ b ∧ b < 110) ∨ b = 138 ∨ b = 139 ∨ b = 140
abbrev stC (b j : Nat) : Prop := (b = 32 ∧ j = 9) ∨ (b = 137 ∧ j = 1)
abbrev rdC (b j : Nat) : Prop := (b = 32 ∧ j = 3) ∨ b = 35 ∨ (b = 137 ∧ j = 13) ∨ b = 148
abbrev tpC (b j : Nat) : Prop := (b = 36 ∧ (j = 1 ∨ j = 10)) ∨ b = 37 ∨ (b = 137 ∧ (j = 23 ∨ j = 24)) ∨ b = 154
abbrev acC (b j : Nat) : Prop := (b = 36 ∧ j = 3) ∨ (b = 137 ∧ j = 15) ∨ (149 ≤ b ∧ b < 154) ∨ 174 ≤ b
abbrev ckC (b j : Nat) : Prop := (b = 52 ∧ j = 2) ∨ (b = 70 ∧ j = 1) ∨ b = 71 ∨ (b = 137 ∧ (j = 61 ∨ j = 62 ∨ j = 56 ∨ j = 57)) ∨ b = 172
abbrev asC (b j : Nat) : Prop := (b = 92 ∧ j = 1) ∨ b = 93 ∨ (b = 137 ∧ j = 65) ∨ b = 173
abbrev tbC (b _j : Nat) : Prop := (110 ≤ b ∧ b < 137) ∨ b = 141 ∨ b = 142 ∨ b = 143
section
variable {v v' : q_H} {G : q_Gr}
theorem shI_c (h : ∀ b j, shC b j → v' b j = v b j) (hi : shI v) : shI v' := shI_cg (fun b hb => funext fun j => h b j hb) hi
theorem stI_c (h : ∀ b j, stC b j → v' b j = v b j) (hi : stI v) : stI v' := stI_cg (h _ _ (Or.inl ⟨rfl, rfl⟩)) (h _ _ (Or.inr ⟨rfl, rfl⟩)) hi
theorem rdI_c (h : ∀ b j, rdC b j → v' b j = v b j) (hi : rdI v) : rdI v' := rdI_cg (h _ _ (by omega)) (h _ _ (by omega)) (funext fun j => h _ _ (by omega)) (funext fun j => h _ _ (by omega)) hi
theorem tpI_c (h : ∀ b j, tpC b j → v' b j = v b j) (hi : tpI v) : tpI v' := tpI_cg (h _ _ (by omega)) (h _ _ (by omega)) (h _ _ (by omega)) (h _ _ (by omega)) (funext fun j => h _ _ (by omega)) (funext fun j => h _ _ (by omega)) hi
theorem acI_c (h : ∀ b j, acC b j → v' b j = v b j) (hi : acI v G) : acI v' G := acI_cg (h _ _ (by omega)) (h _ _ (by omega)) (fun b hb => funext fun j => h _ _ (by omega)) hi
theorem ckI_c (h : ∀ b j, ckC b j → v' b j = v b j) (hi : ckI v) : ckI v' := ckI_cg (h _ _ (by omega)) (h _ _ (by omega)) (h _ _ (by omega)) (h _ _ (by omega)) (h _ _ (by omega)) (h _ _ (by omega)) (funext fun j => h _ _ (by omega)) (funext fun j => h _ _ (by omega)) hi
theorem asI_c (h : ∀ b j, asC b j → v' b j = v b j) (hi : asI v) : asI v' := asI_cg (h _ _ (by omega)) (h _ _ (by omega)) (funext fun j => h _ _ (by omega)) (funext fun j => h _ _ (by omega)) hi
theorem tbI_c (h : ∀ b j, tbC b j → v' b j = v b j) (hi : tbI v) : tbI v' := tbI_cg (fun b hb => funext fun j => h b j hb) hi
abbrev cr (b j : Nat) : Prop := shC b j ∨ stC b j ∨ rdC b j ∨ tpC b j ∨ acC b j ∨ ckC b j ∨ asC b j ∨ tbC b j
theorem Inv_c (hi : Inv v G) (h : ∀ b j, cr b j → v' b j = v b j) : Inv v' G := by
  obtain ⟨i1, i2, i3, i4, i5, i6, i7, i8, i9⟩ := hi
  exact ⟨i1, shI_c (fun b j hb => h b j (Or.inl hb)) i2, stI_c (fun b j hb => h b j (Or.inr (Or.inl hb))) i3, rdI_c (fun b j hb => h b j (Or.inr (Or.inr (Or.inl hb)))) i4, tpI_c (fun b j hb => h b j (Or.inr (Or.inr (Or.inr (Or.inl hb))))) i5, acI_c (fun b j hb => h b j (Or.inr (Or.inr (Or.inr (Or.inr (Or.inl hb)))))) i6, ckI_c (fun b j hb => h b j (Or.inr (Or.inr (Or.inr (Or.inr (Or.inr (Or.inl hb))))))) i7, asI_c (fun b j hb => h b j (Or.inr (Or.inr (Or.inr (Or.inr (Or.inr (Or.inr (Or.inl hb)))))))) i8, tbI_c (fun b j hb => h b j (Or.inr (Or.inr (Or.inr (Or.inr (Or.inr (Or.inr (Or.inr hb)))))))) i9⟩
theorem Inv_ctb (hi : Inv v G) (h : ∀ b j, cr b j → ¬ tbC b j → v' b j = v b j) (hx : tbI v') : Inv v' G := by
  obtain ⟨i1, i2, i3, i4, i5, i6, i7, i8, i9⟩ := hi
  exact ⟨i1, shI_c (fun b j hb => h b j (Or.inl hb) (by omega)) i2, stI_c (fun b j hb => h b j (Or.inr (Or.inl hb)) (by omega)) i3, rdI_c (fun b j hb => h b j (Or.inr (Or.inr (Or.inl hb))) (by omega)) i4, tpI_c (fun b j hb => h b j (Or.inr (Or.inr (Or.inr (Or.inl hb)))) (by omega)) i5, acI_c (fun b j hb => h b j (Or.inr (Or.inr (Or.inr (Or.inr (Or.inl hb))))) (by omega)) i6, ckI_c (fun b j hb => h b j (Or.inr (Or.inr (Or.inr (Or.inr (Or.inr (Or.inl hb)))))) (by omega)) i7, asI_c (fun b j hb => h b j (Or.inr (Or.inr (Or.inr (Or.inr (Or.inr (Or.inr (Or.inl hb))))))) (by omega)) i8, hx⟩
theorem Inv_crd (hi : Inv v G) (h : ∀ b j, cr b j → ¬ rdC b j → v' b j = v b j) (hx : rdI v') : Inv v' G := by
  obtain ⟨i1, i2, i3, i4, i5, i6, i7, i8, i9⟩ := hi
  exact ⟨i1, shI_c (fun b j hb => h b j (Or.inl hb) (by omega)) i2, stI_c (fun b j hb => h b j (Or.inr (Or.inl hb)) (by omega)) i3, hx, tpI_c (fun b j hb => h b j (Or.inr (Or.inr (Or.inr (Or.inl hb)))) (by omega)) i5, acI_c (fun b j hb => h b j (Or.inr (Or.inr (Or.inr (Or.inr (Or.inl hb))))) (by omega)) i6, ckI_c (fun b j hb => h b j (Or.inr (Or.inr (Or.inr (Or.inr (Or.inr (Or.inl hb)))))) (by omega)) i7, asI_c (fun b j hb => h b j (Or.inr (Or.inr (Or.inr (Or.inr (Or.inr (Or.inr (Or.inl hb))))))) (by omega)) i8, tbI_c (fun b j hb => h b j (Or.inr (Or.inr (Or.inr (Or.inr (Or.inr (Or.inr (Or.inr hb))))))) (by omega)) i9⟩
theorem Inv_ctp (hi : Inv v G) (h : ∀ b j, cr b j → ¬ tpC b j → v' b j = v b j) (hx : tpI v') : Inv v' G := by
  obtain ⟨i1, i2, i3, i4, i5, i6, i7, i8, i9⟩ := hi
  exact ⟨i1, shI_c (fun b j hb => h b j (Or.inl hb) (by omega)) i2, stI_c (fun b j hb => h b j (Or.inr (Or.inl hb)) (by omega)) i3, rdI_c (fun b j hb => h b j (Or.inr (Or.inr (Or.inl hb))) (by omega)) i4, hx, acI_c (fun b j hb => h b j (Or.inr (Or.inr (Or.inr (Or.inr (Or.inl hb))))) (by omega)) i6, ckI_c (fun b j hb => h b j (Or.inr (Or.inr (Or.inr (Or.inr (Or.inr (Or.inl hb)))))) (by omega)) i7, asI_c (fun b j hb => h b j (Or.inr (Or.inr (Or.inr (Or.inr (Or.inr (Or.inr (Or.inl hb))))))) (by omega)) i8, tbI_c (fun b j hb => h b j (Or.inr (Or.inr (Or.inr (Or.inr (Or.inr (Or.inr (Or.inr hb))))))) (by omega)) i9⟩
theorem Inv_cas (hi : Inv v G) (h : ∀ b j, cr b j → ¬ asC b j → v' b j = v b j) (hx : asI v') : Inv v' G := by
  obtain ⟨i1, i2, i3, i4, i5, i6, i7, i8, i9⟩ := hi
  exact ⟨i1, shI_c (fun b j hb => h b j (Or.inl hb) (by omega)) i2, stI_c (fun b j hb => h b j (Or.inr (Or.inl hb)) (by omega)) i3, rdI_c (fun b j hb => h b j (Or.inr (Or.inr (Or.inl hb))) (by omega)) i4, tpI_c (fun b j hb => h b j (Or.inr (Or.inr (Or.inr (Or.inl hb)))) (by omega)) i5, acI_c (fun b j hb => h b j (Or.inr (Or.inr (Or.inr (Or.inr (Or.inl hb))))) (by omega)) i6, ckI_c (fun b j hb => h b j (Or.inr (Or.inr (Or.inr (Or.inr (Or.inr (Or.inl hb)))))) (by omega)) i7, hx, tbI_c (fun b j hb => h b j (Or.inr (Or.inr (Or.inr (Or.inr (Or.inr (Or.inr (Or.inr hb))))))) (by omega)) i9⟩
theorem Inv_cst (hi : Inv v G) (h : ∀ b j, cr b j → ¬ stC b j → v' b j = v b j) (hx : stI v') : Inv v' G := by
  obtain ⟨i1, i2, i3, i4, i5, i6, i7, i8, i9⟩ := hi
  exact ⟨i1, shI_c (fun b j hb => h b j (Or.inl hb) (by omega)) i2, hx, rdI_c (fun b j hb => h b j (Or.inr (Or.inr (Or.inl hb))) (by omega)) i4, tpI_c (fun b j hb => h b j (Or.inr (Or.inr (Or.inr (Or.inl hb)))) (by omega)) i5, acI_c (fun b j hb => h b j (Or.inr (Or.inr (Or.inr (Or.inr (Or.inl hb))))) (by omega)) i6, ckI_c (fun b j hb => h b j (Or.inr (Or.inr (Or.inr (Or.inr (Or.inr (Or.inl hb)))))) (by omega)) i7, asI_c (fun b j hb => h b j (Or.inr (Or.inr (Or.inr (Or.inr (Or.inr (Or.inr (Or.inl hb))))))) (by omega)) i8, tbI_c (fun b j hb => h b j (Or.inr (Or.inr (Or.inr (Or.inr (Or.inr (Or.inr (Or.inr hb))))))) (by omega)) i9⟩
theorem Inv_css (hi : Inv v G) (h : ∀ b j, cr b j → ¬ stC b j → ¬ shC b j → v' b j = v b j) (hx : stI v') (hy : shI v') : Inv v' G := by
  obtain ⟨i1, i2, i3, i4, i5, i6, i7, i8, i9⟩ := hi
  exact ⟨i1, hy, hx, rdI_c (fun b j hb => h b j (Or.inr (Or.inr (Or.inl hb))) (by omega) (by omega)) i4, tpI_c (fun b j hb => h b j (Or.inr (Or.inr (Or.inr (Or.inl hb)))) (by omega) (by omega)) i5, acI_c (fun b j hb => h b j (Or.inr (Or.inr (Or.inr (Or.inr (Or.inl hb))))) (by omega) (by omega)) i6, ckI_c (fun b j hb => h b j (Or.inr (Or.inr (Or.inr (Or.inr (Or.inr (Or.inl hb)))))) (by omega) (by omega)) i7, asI_c (fun b j hb => h b j (Or.inr (Or.inr (Or.inr (Or.inr (Or.inr (Or.inr (Or.inl hb))))))) (by omega) (by omega)) i8, tbI_c (fun b j hb => h b j (Or.inr (Or.inr (Or.inr (Or.inr (Or.inr (Or.inr (Or.inr hb))))))) (by omega) (by omega)) i9⟩
theorem Inv_csk (hi : Inv v G) (h : ∀ b j, cr b j → ¬ stC b j → ¬ ckC b j → v' b j = v b j) (hx : stI v') (hy : ckI v') : Inv v' G := by
  obtain ⟨i1, i2, i3, i4, i5, i6, i7, i8, i9⟩ := hi
  exact ⟨i1, shI_c (fun b j hb => h b j (Or.inl hb) (by omega) (by omega)) i2, hx, rdI_c (fun b j hb => h b j (Or.inr (Or.inr (Or.inl hb))) (by omega) (by omega)) i4, tpI_c (fun b j hb => h b j (Or.inr (Or.inr (Or.inr (Or.inl hb)))) (by omega) (by omega)) i5, acI_c (fun b j hb => h b j (Or.inr (Or.inr (Or.inr (Or.inr (Or.inl hb))))) (by omega) (by omega)) i6, hy, asI_c (fun b j hb => h b j (Or.inr (Or.inr (Or.inr (Or.inr (Or.inr (Or.inr (Or.inl hb))))))) (by omega) (by omega)) i8, tbI_c (fun b j hb => h b j (Or.inr (Or.inr (Or.inr (Or.inr (Or.inr (Or.inr (Or.inr hb))))))) (by omega) (by omega)) i9⟩
theorem tabI_cg2 {q t n : Nat} (h : ∀ b, q ≤ b → b < q + 9 → v' b = v b) (h1 : v' 141 t = v 141 t) (h2 : ∀ k, k < 14 → v' 142 (14 * t + k) = v 142 (14 * t + k)) (h3 : ∀ k, k < 14 → v' 143 (14 * t + k) = v 143 (14 * t + k)) (hi : tabI v q t n) : tabI v' q t n := by
  obtain ⟨i1, i2, i3, i4, i5, i6, i7, i8, i9, i10⟩ := hi
  unfold tabI treeI
  rw [h1, h (q + 1) (by omega) (by omega), h (q + 2) (by omega) (by omega), h (q + 3) (by omega) (by omega), show q + 4 + 1 = q + 5 from rfl, show q + 4 + 2 = q + 6 from rfl, show q + 4 + 3 = q + 7 from rfl, show q + 4 + 4 = q + 8 from rfl, h (q + 5) (by omega) (by omega), h (q + 6) (by omega) (by omega), h (q + 7) (by omega) (by omega), h (q + 8) (by omega) (by omega)]
  refine ⟨i1, i2, i3, i4, i5, i6, i7, fun k hk => ?_, i9, i10⟩
  rw [h2 k (by omega), h3 k (by omega)]
  exact i8 k hk
theorem tab_mono {q t n : Nat} (h : tabI v q t n) (i : Nat) : ∀ j, i < j → j ≤ n + 1 → v (q + 2) i < v (q + 2) j := by
  intro j
  induction j with
  | zero => intro h1; omega
  | succ j ih =>
    intro h1 h2
    have := h.2.2.2.2.2.2.2.2.1 j (by omega)
    by_cases e : i = j
    · subst e
      exact this
    · have := ih (by omega) (by omega)
      omega
/-- the reference's placeOf -/
def plm (v : q_H) (t n : Nat) (x : Int) : Nat := srch (fun k => decide (x ≤ v 142 (14 * t + k))) n 0
theorem plm_sp {t n : Nat} {x : Int} : plm v t n x ≤ n ∧ (∀ k, k < plm v t n x → v 142 (14 * t + k) < x) ∧ (plm v t n x < n → x ≤ v 142 (14 * t + plm v t n x)) := by
  have h := srch_sp (fun k => decide (x ≤ v 142 (14 * t + k))) n 0
  refine ⟨by have := h.2.1; unfold plm; omega, fun k hk => ?_, fun hk => ?_⟩
  · have := h.2.2.1 k (Nat.zero_le _) hk
    have := of_decide_eq_false this
    omega
  · have := h.2.2.2 (by unfold plm at hk; omega)
    exact of_decide_eq_true this
theorem tab_ff {q t n : Nat} {x : Int} (h : tabI v q t n) (hx : 0 ≤ x) (hx2 : x ≤ 1000) : ffr (v (q + 2)) (n + 1) x = plm v t n x + 1 := by
  obtain ⟨p1, p2, p3⟩ := plm_sp (v := v) (t := t) (n := n) (x := x)
  obtain ⟨i1, i2, i3, i4, i5, i6, i7, i8, i9, i10⟩ := h
  refine srch_eq (Nat.zero_le _) (by omega) (fun k h1 h2 => ?_) (fun h1 => ?_)
  · cases k with
    | zero => simp only [i4]; exact decide_eq_false (by omega)
    | succ k =>
      have := p2 k (by omega)
      have := (i8 k (by omega)).1
      exact decide_eq_false (by omega)
  · have := p3 (by omega)
    have := (i8 _ (show plm v t n x < n by omega)).1
    exact decide_eq_true (by omega)
theorem tab_plc {q t n : Nat} {x : Int} (h : tabI v q t n) (hx : 0 ≤ x) (hx2 : x ≤ 999) : plc (v (q + 2)) (n + 2) x = if plm v t n x < n ∧ v 142 (14 * t + plm v t n x) = x then ((plm v t n x + 1 : Nat) : Int) else -1 := by
  obtain ⟨p1, p2, p3⟩ := plm_sp (v := v) (t := t) (n := n) (x := x)
  have hm := tab_mono h
  obtain ⟨i1, i2, i3, i4, i5, i6, i7, i8, i9, i10⟩ := h
  unfold plc
  split
  · next hf =>
    have e := (i8 _ hf.1).1
    rw [srch_eq (r := plm v t n x + 1) (Nat.zero_le _) (by omega) (fun k h1 h2 => ?_) (fun h1 => decide_eq_true (by omega))]
    · unfold plcR
      rw [if_pos (by omega)]
    · have := hm k (plm v t n x + 1) (by omega) (by omega)
      exact decide_eq_false (by omega)
  · next hf =>
    rw [srch_eq (r := n + 2) (Nat.zero_le _) (by omega) (fun k h1 h2 => ?_) (fun h1 => by omega)]
    · unfold plcR
      rw [if_neg (by omega)]
    · apply decide_eq_false
      intro hk
      by_cases h3 : k < plm v t n x + 1
      · cases k with
        | zero => omega
        | succ k =>
          have := p2 k (by omega)
          have := (i8 k (by omega)).1
          omega
      · by_cases h4 : plm v t n x = n
        · have : k = n + 1 := by omega
          subst this
          omega
        · have e := (i8 (plm v t n x) (by omega)).1
          have := p3 (by omega)
          by_cases h5 : k = plm v t n x + 1
          · subst h5
            omega
          · have := hm (plm v t n x + 1) k (by omega) (by omega)
            omega
end
