/-! ===== CHECK: what is read, as a pure function of the numbers ===== -/
/-- place, last key, shown, keys, amounts -/
abbrev RS : Type := Nat × Int × (Nat → Bool) × (Nat → Int) × (Nat → Int)
abbrev okN (L : List Int) (p : Nat) (lo hi : Int) : Prop := p < L.length ∧ lo ≤ L.getD p 0 ∧ L.getD p 0 ≤ hi
def klo (N k : Nat) (last : Int) : Int := if k = 0 then -1 else if k + 1 = N then 1000 else last + 1
def khi (N k : Nat) : Int := if k = 0 then -1 else if k + 1 = N then 1000 else 999
def vhi (N k : Nat) : Int := if k = 0 ∨ k + 1 = N then 0 else 999
def upB (f : Nat → Bool) (k : Nat) : Nat → Bool := fun j => if j = k then true else f j
def upF (f : Nat → Int) (k : Nat) (x : Int) : Nat → Int := fun j => if j = k then x else f j
def hidS (L : List Int) (k : Nat) (s : RS) : RS := (s.1 + 3, s.2.1, s.2.2.1, s.2.2.2.1, upF s.2.2.2.2 k (L.getD (s.1 + 2) 0))
def leafS (L : List Int) (k : Nat) (s : RS) : RS := (s.1 + 3, L.getD (s.1 + 1) 0, upB s.2.2.1 k, upF s.2.2.2.1 k (L.getD (s.1 + 1) 0), upF s.2.2.2.2 k (L.getD (s.1 + 2) 0))
def rdT (L : List Int) (N : Nat) : Nat → Nat → Nat → RS → Nat ⊕ (RS × Int × Int)
  | 0, _, _, s => .inl s.1
  | f + 1, k, n, s =>
    if ¬ okN L s.1 0 1 then .inl s.1
    else if L.getD s.1 0 = 0 then
      (if ¬ okN L (s.1 + 1) 0 65520 then .inl (s.1 + 1) else if ¬ okN L (s.1 + 2) 0 14000 then .inl (s.1 + 2) else .inr (hidS L k s, L.getD (s.1 + 1) 0, L.getD (s.1 + 2) 0))
    else if n ≤ 1 then
      (if ¬ okN L (s.1 + 1) (klo N k s.2.1) (khi N k) then .inl (s.1 + 1) else if ¬ okN L (s.1 + 2) 0 (vhi N k) then .inl (s.1 + 2) else .inr (leafS L k s, J (J (L.getD (s.1 + 1) 0 + 1) (L.getD (s.1 + 2) 0)) 7, L.getD (s.1 + 2) 0))
    else match rdT L N f k ((n + 1) / 2) (s.1 + 1, s.2) with
      | .inl e => .inl e
      | .inr r => match rdT L N f (k + (n + 1) / 2) (n - (n + 1) / 2) r.1 with
        | .inl e => .inl e
        | .inr r2 => .inr (r2.1, J (J r.2.1 r2.2.1) (J r.2.2 r2.2.2), r.2.2 + r2.2.2)
section
variable {L : List Int} {N f k n : Nat} {s : RS}
theorem rdT_1 (h : ¬ okN L s.1 0 1) : rdT L N (f + 1) k n s = .inl s.1 := by rw [rdT, if_pos h]
theorem rdT_h1 (h : okN L s.1 0 1) (h0 : L.getD s.1 0 = 0) (h1 : ¬ okN L (s.1 + 1) 0 65520) : rdT L N (f + 1) k n s = .inl (s.1 + 1) := by rw [rdT, if_neg (fun q => q h), if_pos h0, if_pos h1]
theorem rdT_h2 (h : okN L s.1 0 1) (h0 : L.getD s.1 0 = 0) (h1 : okN L (s.1 + 1) 0 65520) (h2 : ¬ okN L (s.1 + 2) 0 14000) : rdT L N (f + 1) k n s = .inl (s.1 + 2) := by rw [rdT, if_neg (fun q => q h), if_pos h0, if_neg (fun q => q h1), if_pos h2]
theorem rdT_hy (h : okN L s.1 0 1) (h0 : L.getD s.1 0 = 0) (h1 : okN L (s.1 + 1) 0 65520) (h2 : okN L (s.1 + 2) 0 14000) : rdT L N (f + 1) k n s = .inr (hidS L k s, L.getD (s.1 + 1) 0, L.getD (s.1 + 2) 0) := by rw [rdT, if_neg (fun q => q h), if_pos h0, if_neg (fun q => q h1), if_neg (fun q => q h2)]
theorem rdT_l1 (h : okN L s.1 0 1) (h0 : L.getD s.1 0 ≠ 0) (hn : n ≤ 1) (h1 : ¬ okN L (s.1 + 1) (klo N k s.2.1) (khi N k)) : rdT L N (f + 1) k n s = .inl (s.1 + 1) := by rw [rdT, if_neg (fun q => q h), if_neg h0, if_pos hn, if_pos h1]
theorem rdT_l2 (h : okN L s.1 0 1) (h0 : L.getD s.1 0 ≠ 0) (hn : n ≤ 1) (h1 : okN L (s.1 + 1) (klo N k s.2.1) (khi N k)) (h2 : ¬ okN L (s.1 + 2) 0 (vhi N k)) : rdT L N (f + 1) k n s = .inl (s.1 + 2) := by rw [rdT, if_neg (fun q => q h), if_neg h0, if_pos hn, if_neg (fun q => q h1), if_pos h2]
theorem rdT_ly (h : okN L s.1 0 1) (h0 : L.getD s.1 0 ≠ 0) (hn : n ≤ 1) (h1 : okN L (s.1 + 1) (klo N k s.2.1) (khi N k)) (h2 : okN L (s.1 + 2) 0 (vhi N k)) : rdT L N (f + 1) k n s = .inr (leafS L k s, J (J (L.getD (s.1 + 1) 0 + 1) (L.getD (s.1 + 2) 0)) 7, L.getD (s.1 + 2) 0) := by rw [rdT, if_neg (fun q => q h), if_neg h0, if_pos hn, if_neg (fun q => q h1), if_neg (fun q => q h2)]
theorem rdT_k1 {e : Nat} (h : okN L s.1 0 1) (h0 : L.getD s.1 0 ≠ 0) (hn : ¬ n ≤ 1) (h1 : rdT L N f k ((n + 1) / 2) (s.1 + 1, s.2) = .inl e) : rdT L N (f + 1) k n s = .inl e := by rw [rdT, if_neg (fun q => q h), if_neg h0, if_neg hn, h1]
theorem rdT_k2 {e : Nat} {r : RS × Int × Int} (h : okN L s.1 0 1) (h0 : L.getD s.1 0 ≠ 0) (hn : ¬ n ≤ 1) (h1 : rdT L N f k ((n + 1) / 2) (s.1 + 1, s.2) = .inr r) (h2 : rdT L N f (k + (n + 1) / 2) (n - (n + 1) / 2) r.1 = .inl e) : rdT L N (f + 1) k n s = .inl e := by
  rw [rdT, if_neg (fun q => q h), if_neg h0, if_neg hn, h1]
  simp only [h2]
theorem rdT_ky {r r2 : RS × Int × Int} (h : okN L s.1 0 1) (h0 : L.getD s.1 0 ≠ 0) (hn : ¬ n ≤ 1) (h1 : rdT L N f k ((n + 1) / 2) (s.1 + 1, s.2) = .inr r) (h2 : rdT L N f (k + (n + 1) / 2) (n - (n + 1) / 2) r.1 = .inr r2) : rdT L N (f + 1) k n s = .inr (r2.1, J (J r.2.1 r2.2.1) (J r.2.2 r2.2.2), r.2.2 + r2.2.2) := by
  rw [rdT, if_neg (fun q => q h), if_neg h0, if_neg hn, h1]
  simp only [h2]
end
/-- what holds of what was read of the first k leaves -/
def rdInv (N k : Nat) (s : RS) : Prop := (∀ j, s.2.2.1 j = true → j < k) ∧ (∀ j, s.2.2.1 j = true → s.2.2.2.1 j ≤ s.2.1) ∧ (∀ i j, i < j → s.2.2.1 i = true → s.2.2.1 j = true → s.2.2.2.1 i < s.2.2.2.1 j) ∧ (k < N → s.2.1 ≤ 999) ∧ (-1 ≤ s.2.1 ∧ s.2.1 ≤ 1000) ∧ (∀ j, s.2.2.1 j = true → -1 ≤ s.2.2.2.1 j ∧ s.2.2.2.1 j ≤ 1000 ∧ (j + 1 < N → s.2.2.2.1 j ≤ 999) ∧ (j + 1 = N → s.2.2.2.1 j = 1000) ∧ 0 ≤ s.2.2.2.2 j ∧ s.2.2.2.2 j ≤ 999) ∧ ∀ j, 0 ≤ s.2.2.2.2 j ∧ s.2.2.2.2 j ≤ 14000
theorem rdInv_hid {L : List Int} {N k n : Nat} {s : RS} (hn : 1 ≤ n) (h : rdInv N k s) (h2 : okN L (s.1 + 2) 0 14000) : rdInv N (k + n) (hidS L k s) := by
  obtain ⟨i1, i2, i3, i4, i5, i6, i7⟩ := h
  refine ⟨fun j hj => ?_, i2, i3, fun c => i4 (by omega), i5, fun j hj => ?_, fun j => ?_⟩
  · have := i1 j hj
    omega
  · have hlt := i1 j hj
    have := i6 j hj
    unfold hidS upF
    simp only [if_neg (show j ≠ k by omega)]
    exact this
  · unfold hidS upF
    simp only
    split
    · exact h2.2
    · exact i7 j
theorem rdInv_leaf {L : List Int} {N k : Nat} {s : RS} (hN : 2 ≤ N) (hk : k + 1 ≤ N) (h : rdInv N k s) (h1 : okN L (s.1 + 1) (klo N k s.2.1) (khi N k)) (h2 : okN L (s.1 + 2) 0 (vhi N k)) : rdInv N (k + 1) (leafS L k s) ∧ (-1 ≤ L.getD (s.1 + 1) 0 ∧ L.getD (s.1 + 1) 0 ≤ 1000) ∧ 0 ≤ L.getD (s.1 + 2) 0 ∧ L.getD (s.1 + 2) 0 ≤ 999 := by
  obtain ⟨i1, i2, i3, i4, i5, i6, i7⟩ := h
  obtain ⟨-, q1, q2⟩ := h1
  obtain ⟨-, q3, q4⟩ := h2
  have i4 := i4 (by omega)
  have b1 : (-1 ≤ L.getD (s.1 + 1) 0 ∧ L.getD (s.1 + 1) 0 ≤ 1000) ∧ (k + 1 < N → L.getD (s.1 + 1) 0 ≤ 999) ∧ (k + 1 = N → L.getD (s.1 + 1) 0 = 1000) ∧ (k ≠ 0 → s.2.1 < L.getD (s.1 + 1) 0) := by
    unfold klo at q1
    unfold khi at q2
    refine ⟨⟨?_, ?_⟩, fun c => ?_, fun c => ?_, fun c => ?_⟩ <;> (repeat' split at q1) <;> (repeat' split at q2) <;> omega
  have b2 : 0 ≤ L.getD (s.1 + 2) 0 ∧ L.getD (s.1 + 2) 0 ≤ 999 := by
    unfold vhi at q4
    split at q4 <;> omega
  obtain ⟨b0, b3, b4, b5⟩ := b1
  refine ⟨⟨fun j hj => ?_, fun j hj => ?_, fun i j hij hi hj => ?_, fun c => b3 c, b0, fun j hj => ?_, fun j => ?_⟩, b0, b2⟩
  · unfold leafS upB at hj
    simp only at hj
    by_cases c : j = k
    · omega
    · rw [if_neg c] at hj
      have := i1 j hj
      omega
  · unfold leafS upB at hj
    unfold leafS upF
    simp only at hj ⊢
    by_cases c : j = k
    · rw [if_pos c]
      exact Int.le_refl _
    · rw [if_neg c] at hj ⊢
      have e1 := i1 j hj
      have e2 := i2 j hj
      have e3 := b5 (by omega)
      omega
  · unfold leafS upB at hi hj
    unfold leafS upF
    simp only at hi hj ⊢
    by_cases c : j = k
    · subst c
      rw [if_neg (by omega)] at hi
      rw [if_pos rfl, if_neg (by omega)]
      have e2 := i2 i hi
      have e3 := b5 (by omega)
      omega
    · rw [if_neg c] at hj
      have := i1 j hj
      rw [if_neg (by omega)] at hi
      rw [if_neg c, if_neg (by omega)]
      exact i3 i j hij hi hj
  · unfold leafS upB at hj
    unfold leafS upF
    simp only at hj ⊢
    by_cases c : j = k
    · subst c
      rw [if_pos rfl, if_pos rfl]
      exact ⟨b0.1, b0.2, b3, b4, b2.1, b2.2⟩
    · rw [if_neg c] at hj
      rw [if_neg c, if_neg c]
      exact i6 j hj
  · unfold leafS upF
    simp only
    split
    · omega
    · exact i7 j
theorem rd_ok {L : List Int} {N : Nat} (hN : 2 ≤ N) : ∀ (f k n : Nat) (s : RS), n ≤ f → 1 ≤ n → k + n ≤ N → rdInv N k s → ∀ r, rdT L N f k n s = .inr r → rdInv N (k + n) r.1 ∧ (0 ≤ r.2.1 ∧ r.2.1 ≤ 65520) ∧ (0 ≤ r.2.2 ∧ r.2.2 ≤ 14000 * n) ∧ s.1 < r.1.1 ∧ r.1.1 ≤ L.length := by
  intro f
  induction f with
  | zero => intro k n s h1 h2; omega
  | succ f ih =>
    intro k n s h1 h2 h3 hI r hr
    by_cases c : okN L s.1 0 1
    · by_cases c0 : L.getD s.1 0 = 0
      · by_cases c1 : okN L (s.1 + 1) 0 65520
        · by_cases c2 : okN L (s.1 + 2) 0 14000
          · rw [rdT_hy c c0 c1 c2] at hr
            cases hr
            refine ⟨rdInv_hid h2 hI c2, c1.2, ⟨c2.2.1, ?_⟩, ?_, ?_⟩
            · show L.getD (s.1 + 2) 0 ≤ _
              have := c2.2.2
              omega
            · show s.1 < s.1 + 3
              omega
            · show s.1 + 3 ≤ _
              have := c2.1
              omega
          · rw [rdT_h2 c c0 c1 c2] at hr
            cases hr
        · rw [rdT_h1 c c0 c1] at hr
          cases hr
      · by_cases cn : n ≤ 1
        · by_cases c1 : okN L (s.1 + 1) (klo N k s.2.1) (khi N k)
          · by_cases c2 : okN L (s.1 + 2) 0 (vhi N k)
            · rw [rdT_ly c c0 cn c1 c2] at hr
              cases hr
              have e1 : n = 1 := by omega
              subst e1
              have q := rdInv_leaf hN h3 hI c1 c2
              refine ⟨q.1, J_rng _ _, ⟨q.2.2.1, ?_⟩, ?_, ?_⟩
              · show L.getD (s.1 + 2) 0 ≤ _
                have := q.2.2.2
                omega
              · show s.1 < s.1 + 3
                omega
              · show s.1 + 3 ≤ _
                have := c2.1
                omega
            · rw [rdT_l2 c c0 cn c1 c2] at hr
              cases hr
          · rw [rdT_l1 c c0 cn c1] at hr
            cases hr
        · cases hA : rdT L N f k ((n + 1) / 2) (s.1 + 1, s.2) with
          | inl e =>
            rw [rdT_k1 c c0 cn hA] at hr
            cases hr
          | inr r1 =>
            obtain ⟨a1, a2, a3, a4, a5⟩ := ih k ((n + 1) / 2) (s.1 + 1, s.2) (by omega) (by omega) (by omega) hI r1 hA
            have a4 : s.1 + 1 < r1.1.1 := a4
            cases hB : rdT L N f (k + (n + 1) / 2) (n - (n + 1) / 2) r1.1 with
            | inl e =>
              rw [rdT_k2 c c0 cn hA hB] at hr
              cases hr
            | inr r2 =>
              obtain ⟨b1, b2, b3, b4, b5⟩ := ih (k + (n + 1) / 2) (n - (n + 1) / 2) r1.1 (by omega) (by omega) (by omega) a1 r2 hB
              rw [rdT_ky c c0 cn hA hB] at hr
              cases hr
              refine ⟨by rw [show k + (n + 1) / 2 + (n - (n + 1) / 2) = k + n by omega] at b1; exact b1, J_rng _ _, ?_, ?_, b5⟩
              · show 0 ≤ r1.2.2 + r2.2.2 ∧ r1.2.2 + r2.2.2 ≤ 14000 * (n : Int)
                omega
              · show s.1 < r2.1.1
                omega
    · rw [rdT_1 c] at hr
      cases hr
/-! ===== searches ===== -/
def lstP (P : Nat → Bool) : Nat → Int
  | 0 => -1
  | n + 1 => if P n then (n : Int) else lstP P n
def fstP (P : Nat → Bool) : Nat → Nat → Int
  | 0, _ => -1
  | r + 1, i => if P i then (i : Int) else fstP P r (i + 1)
def allS (S : Nat → Bool) : Nat → Nat → Bool
  | 0, _ => true
  | r + 1, i => S i && allS S r (i + 1)
def rws (S : Nat → Bool) (K A : Nat → Int) : Nat → Nat → List (Int × Int)
  | 0, _ => []
  | r + 1, i => (if S i then [(K i, A i)] else []) ++ rws S K A r (i + 1)
def rwk (S : Nat → Bool) (K A : Nat → Int) : Nat → Nat → List (Int × Int)
  | 0, _ => []
  | r + 1, i => (if S i = true ∧ K i < 1000 then [(K i, A i)] else []) ++ rwk S K A r (i + 1)
def sumA (A : Nat → Int) : Nat → Nat → Int
  | 0, _ => 0
  | r + 1, i => A i + sumA A r (i + 1)
theorem lstP_sp (P : Nat → Bool) : ∀ n, -1 ≤ lstP P n ∧ lstP P n < n ∧ (0 ≤ lstP P n → P (lstP P n).toNat = true) ∧ ∀ j : Nat, lstP P n < j → j < n → P j = false
  | 0 => by
    unfold lstP
    refine ⟨by decide, by decide, fun h => by omega, fun j _ h => by omega⟩
  | n + 1 => by
    obtain ⟨h1, h2, h3, h4⟩ := lstP_sp P n
    unfold lstP
    by_cases c : P n = true
    · rw [if_pos c]
      refine ⟨by omega, by omega, fun _ => by rw [Int.toNat_natCast]; exact c, fun j h5 h6 => by omega⟩
    · rw [if_neg c]
      refine ⟨h1, by omega, h3, fun j h5 h6 => ?_⟩
      by_cases e : j = n
      · subst e
        simpa using c
      · exact h4 j h5 (by omega)
theorem fstP_sp (P : Nat → Bool) : ∀ r i, -1 ≤ fstP P r i ∧ fstP P r i < (i + r : Nat) ∧ (0 ≤ fstP P r i → (i : Int) ≤ fstP P r i ∧ P (fstP P r i).toNat = true ∧ ∀ j : Nat, i ≤ j → (j : Int) < fstP P r i → P j = false) ∧ (fstP P r i < 0 → ∀ j : Nat, i ≤ j → j < i + r → P j = false)
  | 0, i => by
    unfold fstP
    refine ⟨by decide, by omega, fun h => by omega, fun _ j h1 h2 => by omega⟩
  | r + 1, i => by
    obtain ⟨h1, h2, h3, h4⟩ := fstP_sp P r (i + 1)
    unfold fstP
    by_cases c : P i = true
    · rw [if_pos c]
      refine ⟨by omega, by omega, fun _ => ⟨Int.le_refl _, by rw [Int.toNat_natCast]; exact c, fun j h5 h6 => by omega⟩, fun h => by omega⟩
    · rw [if_neg c]
      refine ⟨h1, by omega, fun h => ?_, fun h j h5 h6 => ?_⟩
      · obtain ⟨g1, g2, g3⟩ := h3 h
        refine ⟨by omega, g2, fun j h5 h6 => ?_⟩
        by_cases e : j = i
        · subst e
          simpa using c
        · exact g3 j (by omega) h6
      · by_cases e : j = i
        · subst e
          simpa using c
        · exact h4 h j (by omega) (by omega)
theorem allS_sp {S : Nat → Bool} : ∀ r i, allS S r i = true → ∀ j, i ≤ j → j < i + r → S j = true
  | 0, i, _, j, h1, h2 => by omega
  | r + 1, i, h, j, h1, h2 => by
    unfold allS at h
    rw [Bool.and_eq_true] at h
    by_cases e : j = i
    · subst e
      exact h.1
    · exact allS_sp r (i + 1) h.2 j (by omega) (by omega)
abbrev pB (s : RS) (low : Int) : Nat → Bool := fun j => s.2.2.1 j && decide (s.2.2.2.1 j < low)
abbrev pA (s : RS) (high : Int) : Nat → Bool := fun j => s.2.2.1 j && decide (high < s.2.2.2.1 j)
/-- the end of FIRST -/
def fE (N x : Nat) (hi : Int) : Nat := min (x + hi.toNat) (N - 1)
def enB (w : Int) (S : Nat → Bool) (x y : Nat) : Bool := if w = 1 then S (x + 1) && S (y - 1) else allS S (y - x - 1) (x + 1)
/-- left, the class's end, the reference's end -/
def enw (w : Int) (N : Nat) (s : RS) (low high : Int) : Option (Nat × Nat × Nat) :=
  if lstP (pB s low) N < 0 then none
  else if w = 2 then (if allS s.2.2.1 (fE N (lstP (pB s low) N).toNat high - (lstP (pB s low) N).toNat) ((lstP (pB s low) N).toNat + 1) = true then some ((lstP (pB s low) N).toNat, fE N (lstP (pB s low) N).toNat high + 1, if fE N (lstP (pB s low) N).toNat high = N - 1 then fE N (lstP (pB s low) N).toNat high else fE N (lstP (pB s low) N).toNat high + 1) else none)
  else if fstP (pA s high) N 0 < 0 then none
  else if enB w s.2.2.1 (lstP (pB s low) N).toNat (fstP (pA s high) N 0).toNat = true then some ((lstP (pB s low) N).toNat, (fstP (pA s high) N 0).toNat, (fstP (pA s high) N 0).toNat)
  else none
def rs0 (pos : Nat) : RS := (pos, -1, fun _ => false, fun _ => 0, fun _ => 0)
theorem rdInv_0 (N pos : Nat) : rdInv N 0 (rs0 pos) := by
  unfold rs0
  refine ⟨?_, ?_, ?_, ?_, ?_, ?_, ?_⟩
  · intro j h
    cases h
  · intro j h
    cases h
  · intro i j _ h
    cases h
  · intro _
    show (-1 : Int) ≤ 999
    decide
  · show (-1 : Int) ≤ -1 ∧ (-1 : Int) ≤ 1000
    decide
  · intro j h
    cases h
  · intro j
    show (0 : Int) ≤ 0 ∧ (0 : Int) ≤ 14000
    decide
def nL (L : List Int) (pos : Nat) : Nat := (L.getD pos 0).toNat
def rdP (L : List Int) (pos : Nat) (due w low high : Int) : (Nat × Int) ⊕ (RS × Nat × Nat × Nat) :=
  if ¬ okN L pos 2 16 then .inl (pos, 1)
  else match rdT L (nL L pos) 16 0 (nL L pos) (rs0 (pos + 1)) with
    | .inl e => .inl (e, 1)
    | .inr r => if J (J r.2.1 r.2.2) (nL L pos) ≠ due then .inl (r.1.1, 2) else match enw w (nL L pos) r.1 low high with
      | none => .inl (r.1.1, 3)
      | some z => .inr (r.1, z)
/-- rows of a proof -/
def rwP (r : RS × Nat × Nat × Nat) : List (Int × Int) := rws r.1.2.2.1 r.1.2.2.2.1 r.1.2.2.2.2 (r.2.2.2 - r.2.1 - 1) (r.2.1 + 1)
def smP (r : RS × Nat × Nat × Nat) : Int := sumA r.1.2.2.2.2 (r.2.2.1 - r.2.1 - 1) (r.2.1 + 1)
theorem rws_len (S : Nat → Bool) (K A : Nat → Int) : ∀ r i, (rws S K A r i).length ≤ r
  | 0, i => Nat.le_refl _
  | r + 1, i => by
    have := rws_len S K A r (i + 1)
    unfold rws
    rw [List.length_append]
    split
    · show 1 + _ ≤ _
      omega
    · show 0 + _ ≤ _
      omega
theorem rws_mem {S : Nat → Bool} {K A : Nat → Int} : ∀ r i x, x ∈ rws S K A r i → ∃ j, i ≤ j ∧ j < i + r ∧ S j = true ∧ x = (K j, A j)
  | 0, i, x, h => by unfold rws at h; cases h
  | r + 1, i, x, h => by
    unfold rws at h
    rcases List.mem_append.mp h with h | h
    · split at h
      · next c =>
        simp only [List.mem_cons, List.not_mem_nil, or_false] at h
        exact ⟨i, Nat.le_refl _, by omega, c, h⟩
      · cases h
    · obtain ⟨j, j1, j2, j3, j4⟩ := rws_mem r (i + 1) x h
      exact ⟨j, by omega, by omega, j3, j4⟩
theorem rwk_eq {S : Nat → Bool} {K A : Nat → Int} : ∀ r i, (∀ j, i ≤ j → j < i + r → S j = true → K j < 1000) → rwk S K A r i = rws S K A r i
  | 0, i, _ => rfl
  | r + 1, i, h => by
    unfold rwk rws
    rw [rwk_eq r (i + 1) (fun j j1 j2 => h j (by omega) (by omega))]
    congr 1
    by_cases c : S i = true
    · rw [if_pos ⟨c, h i (Nat.le_refl _) (by omega) c⟩, if_pos c]
    · rw [if_neg (fun q => c q.1), if_neg c]
theorem rwk_app {S : Nat → Bool} {K A : Nat → Int} : ∀ r i, ¬ (S (i + r) = true ∧ K (i + r) < 1000) → rwk S K A (r + 1) i = rwk S K A r i
  | 0, i, h => by
    rw [Nat.add_zero] at h
    unfold rwk
    rw [if_neg h]
    rfl
  | r + 1, i, h => by
    rw [show i + (r + 1) = i + 1 + r by omega] at h
    conv => lhs; unfold rwk
    conv => rhs; unfold rwk
    rw [rwk_app r (i + 1) h]
/-- what an accepted proof is like -/
theorem enw_ok {w low high : Int} {N : Nat} {s : RS} {z : Nat × Nat × Nat} (hN : 2 ≤ N) (hI : rdInv N N s) (hlow : low ≤ 1000) (hk : w = 2 → 1 ≤ high) (hlh : w ≠ 2 → low ≤ high) (h : enw w N s low high = some z) : z.1 < z.2.2 ∧ z.2.2 < N ∧ z.1 < z.2.1 ∧ z.2.1 ≤ N ∧ (w ≠ 2 → z.2.1 = z.2.2 ∧ ∀ j, z.1 < j → j < z.2.2 → s.2.2.1 j = true → low ≤ s.2.2.2.1 j ∧ s.2.2.2.1 j ≤ high) ∧ rwk s.2.2.1 s.2.2.2.1 s.2.2.2.2 (z.2.1 - z.1 - 1) (z.1 + 1) = rws s.2.2.1 s.2.2.2.1 s.2.2.2.2 (z.2.2 - z.1 - 1) (z.1 + 1) := by
  obtain ⟨l1, l2, l3, l4⟩ := lstP_sp (pB s low) N
  obtain ⟨f1, f2, f3, f4⟩ := fstP_sp (pA s high) N 0
  unfold enw at h
  generalize lstP (pB s low) N = x at *
  generalize fstP (pA s high) N 0 = y at *
  split at h
  · cases h
  · next cx =>
    have l3 := l3 (by omega)
    rw [Bool.and_eq_true, decide_eq_true_eq] at l3
    split at h
    · next c2 =>
      have hk := hk c2
      split at h
      · next ca =>
        cases h
        have hE : fE N x.toNat high = min (x.toNat + high.toNat) (N - 1) := rfl
        have hall := allS_sp _ _ ca
        generalize fE N x.toNat high = e at *
        have x1 : x.toNat + 1 < N + 1 := by omega
        have kx : ∀ j, j + 1 < N → s.2.2.1 j = true → s.2.2.2.1 j < 1000 := fun j j1 j2 => by
          have := (hI.2.2.2.2.2.1 j j2).2.2.1 j1
          omega
        have hx1 : x.toNat + 1 < N := by
          rcases Nat.lt_or_ge (x.toNat + 1) N with c | c
          · exact c
          · exfalso
            have := (hI.2.2.2.2.2.1 x.toNat l3.1).2.2.2.1 (by omega)
            omega
        by_cases ce : e = N - 1
        · simp only [if_pos ce]
          refine ⟨by omega, by omega, by omega, by omega, fun c => absurd c2 c, ?_⟩
          rw [show e + 1 - x.toNat - 1 = (e - x.toNat - 1) + 1 by omega, rwk_app _ _ (fun q => ?_)]
          · exact rwk_eq _ _ (fun j j1 j2 j3 => kx j (by omega) j3)
          · have := (hI.2.2.2.2.2.1 _ q.1).2.2.2.1 (by omega)
            have := q.2
            omega
        · simp only [if_neg ce]
          refine ⟨by omega, by omega, by omega, by omega, fun c => absurd c2 c, ?_⟩
          exact rwk_eq _ _ (fun j j1 j2 j3 => kx j (by omega) j3)
      · cases h
    · next c2 =>
      split at h
      · cases h
      · next cy =>
        obtain ⟨g1, g2, g3⟩ := f3 (by omega)
        rw [Bool.and_eq_true, decide_eq_true_eq] at g2
        have hlh := hlh c2
        have hxy : x.toNat < y.toNat := by
          rcases Nat.lt_or_ge x.toNat y.toNat with c | c
          · exact c
          · exfalso
            by_cases e : x.toNat = y.toNat
            · rw [e] at l3
              omega
            · have := hI.2.2.1 y.toNat x.toNat (by omega) g2.1 l3.1
              omega
        split at h
        · cases h
          show x.toNat < y.toNat ∧ y.toNat < N ∧ x.toNat < y.toNat ∧ y.toNat ≤ N ∧ (w ≠ 2 → y.toNat = y.toNat ∧ ∀ j, x.toNat < j → j < y.toNat → s.2.2.1 j = true → low ≤ s.2.2.2.1 j ∧ s.2.2.2.1 j ≤ high) ∧ rwk s.2.2.1 s.2.2.2.1 s.2.2.2.2 (y.toNat - x.toNat - 1) (x.toNat + 1) = rws s.2.2.1 s.2.2.2.1 s.2.2.2.2 (y.toNat - x.toNat - 1) (x.toNat + 1)
          refine ⟨hxy, by omega, hxy, by omega, fun _ => ⟨rfl, fun j j1 j2 j3 => ?_⟩, ?_⟩
          · have p1 := l4 j (by omega) (by omega)
            have p2 := g3 j (by omega) (by omega)
            have p1 : (s.2.2.1 j && decide (s.2.2.2.1 j < low)) = false := p1
            have p2 : (s.2.2.1 j && decide (high < s.2.2.2.1 j)) = false := p2
            rw [j3, Bool.true_and, decide_eq_false_iff_not] at p1 p2
            omega
          · refine rwk_eq _ _ (fun j j1 j2 j3 => ?_)
            have := (hI.2.2.2.2.2.1 j j3).2.2.1 (by omega)
            omega
        · cases h
