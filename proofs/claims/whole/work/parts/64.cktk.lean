/-! ===== CHECK as a whole, pure ===== -/
def wh (w : Int) : Int := if w < 3 then w else 0
def prbs (L : List Int) (sb : Int) : List (Int × Int) → Nat → List (Int × Int) → (Nat × Int) ⊕ (Nat × List (Int × Int))
  | [], pos, RB => .inr (pos, RB)
  | r :: rs, pos, RB => match rdP L pos sb 0 r.1 r.1 with
    | .inl e => .inl e
    | .inr z => prbs L sb rs z.1.1 (RB ++ rwP z)
def fin1 (L : List Int) (pos : Nat) (T : List Int) : (Nat × Int) ⊕ List Int := if pos < L.length then .inl (pos, 1) else .inr T
def tk (L : List Int) (w sa sb low high : Int) : (Nat × Int) ⊕ List Int := match rdP L 0 sa (wh w) low high with
  | .inl e => .inl e
  | .inr z => if w = 5 then (match rdP L z.1.1 sb 0 low high with
      | .inl e => .inl e
      | .inr z2 => fin1 L z2.1.1 (ansL w (rwP z) (rwP z2) 0))
    else if w = 4 ∨ w = 6 then (match prbs L sb (rwP z) z.1.1 [] with
      | .inl e => .inl e
      | .inr q => fin1 L q.1 (ansL w (rwP z) q.2 0))
    else fin1 L z.1.1 (ansL w (rwP z) [] (smP z))
def mprb (L : List Int) (sb w : Int) : List (Int × Int) → Nat → List Int → (Nat × Int) ⊕ (Nat × List Int)
  | [], pos, T => .inr (pos, T)
  | r :: rs, pos, T => match rdP L pos sb 0 r.1 r.1 with
    | .inl e => .inl e
    | .inr z => mprb L sb w rs z.1.1 (T ++ (if w = 6 then mis1 (rwP z) r else mat1 (rwP z) r))
theorem rdP_inr {L : List Int} {pos : Nat} {due w low high : Int} {z : RS × Nat × Nat × Nat} (h : rdP L pos due w low high = .inr z) : okN L pos 2 16 ∧ (2 ≤ nL L pos ∧ nL L pos ≤ 16) ∧ rdInv (nL L pos) (nL L pos) z.1 ∧ enw w (nL L pos) z.1 low high = some z.2 ∧ pos < z.1.1 ∧ z.1.1 ≤ L.length := by
  unfold rdP at h
  split at h
  · cases h
  · next c =>
    have c : okN L pos 2 16 := Classical.not_not.mp c
    have hn : 2 ≤ nL L pos ∧ nL L pos ≤ 16 := by
      unfold nL
      omega
    cases hr : rdT L (nL L pos) 16 0 (nL L pos) (rs0 (pos + 1)) with
    | inl e =>
      rw [hr] at h
      cases h
    | inr r =>
      rw [hr] at h
      have ok := rd_ok hn.1 16 0 (nL L pos) (rs0 (pos + 1)) hn.2 (by omega) (by omega) (rdInv_0 _ _) r hr
      rw [Nat.zero_add] at ok
      simp only at h
      split at h
      · cases h
      · cases he : enw w (nL L pos) r.1 low high with
        | none =>
          rw [he] at h
          cases h
        | some q =>
          rw [he] at h
          cases h
          have := ok.2.2.2.1
          have : pos + 1 < r.1.1 := this
          exact ⟨c, hn, ok.1, he, by show pos < r.1.1; omega, ok.2.2.2.2⟩
theorem rws_pw {S : Nat → Bool} {K A : Nat → Int} (h : ∀ i j, i < j → S i = true → S j = true → K i < K j) : ∀ r i, List.Pairwise (fun a b => a.1 < b.1) (rws S K A r i)
  | 0, i => List.Pairwise.nil
  | r + 1, i => by
    have hr := rws_pw (A := A) h r (i + 1)
    unfold rws
    by_cases c : S i = true
    · rw [if_pos c]
      refine List.Pairwise.cons (fun y hy => ?_) hr
      obtain ⟨j, j1, j2, j3, j4⟩ := rws_mem r (i + 1) y hy
      subst j4
      exact h i j (by omega) c j3
    · rw [if_neg c]
      exact hr
theorem fnd_app {z : Int} (X Y : List (Int × Int)) : fnd z (X ++ Y) = (match fnd z X with | some y => some y | none => fnd z Y) := by
  induction X with
  | nil => rfl
  | cons r rs ih =>
    have e1 : ∀ W, fnd z (r :: W) = if r.1 = z then some r.2 else fnd z W := fun W => rfl
    show fnd z (r :: (rs ++ Y)) = _
    rw [e1, e1]
    by_cases c : r.1 = z
    · rw [if_pos c, if_pos c]
    · rw [if_neg c, if_neg c]
      exact ih
theorem fnd_none {z : Int} : ∀ (X : List (Int × Int)), (∀ x, x ∈ X → x.1 ≠ z) → fnd z X = none
  | [], _ => rfl
  | r :: rs, h => by
    unfold fnd
    rw [if_neg (h r List.mem_cons_self)]
    exact fnd_none rs (fun x hx => h x (List.mem_cons_of_mem _ hx))
theorem fnd_mem {z y : Int} : ∀ (X : List (Int × Int)), fnd z X = some y → (z, y) ∈ X
  | [], h => by cases h
  | r :: rs, h => by
    unfold fnd at h
    split at h
    · next c =>
      cases h
      rw [← c]
      exact List.mem_cons_self
    · exact List.mem_cons_of_mem _ (fnd_mem rs h)
/-- rows of an accepted proof -/
theorem rwP_ok {L : List Int} {pos : Nat} {due w low high : Int} {z : RS × Nat × Nat × Nat} (hlow : low ≤ 1000) (hk : w = 2 → 1 ≤ high) (hlh : w ≠ 2 → low ≤ high) (h : rdP L pos due w low high = .inr z) : (rwP z).length ≤ 14 ∧ List.Pairwise (fun a b => a.1 < b.1) (rwP z) ∧ (∀ x, x ∈ rwP z → (0 ≤ x.1 ∧ x.1 ≤ 999) ∧ 0 ≤ x.2 ∧ x.2 ≤ 999) ∧ (w ≠ 2 → ∀ x, x ∈ rwP z → low ≤ x.1 ∧ x.1 ≤ high) := by
  obtain ⟨h1, h2, h3, h4, h5, h6⟩ := rdP_inr h
  obtain ⟨e1, e2, e3, e4, e5, e6⟩ := enw_ok h2.1 h3 hlow hk hlh h4
  have hl := rws_len z.1.2.2.1 z.1.2.2.2.1 z.1.2.2.2.2 (z.2.2.2 - z.2.1 - 1) (z.2.1 + 1)
  refine ⟨?_, rws_pw h3.2.2.1 _ _, fun x hx => ?_, fun cw x hx => ?_⟩
  · unfold rwP
    omega
  · obtain ⟨j, j1, j2, j3, j4⟩ := rws_mem _ _ x hx
    subst j4
    have b := h3.2.2.2.2.2.1 j j3
    have b1 := b.2.2.1 (by omega)
    refine ⟨⟨?_, b1⟩, b.2.2.2.2⟩
    -- the left leaf is shown, and its key is below
    have hx : z.1.2.2.1 z.2.1 = true := by
      have l3 := (lstP_sp (pB z.1 low) (nL L pos)).2.2.1
      unfold enw at h4
      generalize lstP (pB z.1 low) (nL L pos) = xx at *
      split at h4
      · cases h4
      · have l3 := l3 (by omega)
        rw [Bool.and_eq_true] at l3
        split at h4
        · split at h4
          · have := congrArg (fun q => q.map (fun r => r.1)) h4
            have : xx.toNat = z.2.1 := by simpa using this
            rw [← this]
            exact l3.1
          · cases h4
        · split at h4
          · cases h4
          · split at h4
            · have := congrArg (fun q => q.map (fun r => r.1)) h4
              have : xx.toNat = z.2.1 := by simpa using this
              rw [← this]
              exact l3.1
            · cases h4
    have lt := h3.2.2.1 z.2.1 j (by omega) hx j3
    have := (h3.2.2.2.2.2.1 z.2.1 hx).1
    show 0 ≤ z.1.2.2.2.1 j
    omega
  · obtain ⟨j, j1, j2, j3, j4⟩ := rws_mem _ _ x hx
    subst j4
    exact (e5 cw).2 j (by omega) (by omega) j3
theorem pw_len1 {k : Int} : ∀ (X : List (Int × Int)), List.Pairwise (fun a b => a.1 < b.1) X → (∀ x, x ∈ X → k ≤ x.1 ∧ x.1 ≤ k) → X.length ≤ 1
  | [], _, _ => by decide
  | [a], _, _ => by simp
  | a :: b :: X, h, hk => by
    exfalso
    have h1 := (List.pairwise_cons.mp h).1 b List.mem_cons_self
    have h2 := hk a List.mem_cons_self
    have h3 := hk b (List.mem_cons_of_mem _ List.mem_cons_self)
    omega
theorem prbs_ok {L : List Int} {sb : Int} : ∀ (rest : List (Int × Int)) (pos : Nat) (RB : List (Int × Int)) (q : Nat × List (Int × Int)), (∀ r, r ∈ rest → 0 ≤ r.1 ∧ r.1 ≤ 999) → prbs L sb rest pos RB = .inr q → q.2.length ≤ RB.length + rest.length ∧ (∀ z, (∀ r, r ∈ rest → r.1 ≠ z) → fnd z q.2 = fnd z RB) ∧ ((∀ x, x ∈ RB → (0 ≤ x.1 ∧ x.1 ≤ 999) ∧ 0 ≤ x.2 ∧ x.2 ≤ 999) → ∀ x, x ∈ q.2 → (0 ≤ x.1 ∧ x.1 ≤ 999) ∧ 0 ≤ x.2 ∧ x.2 ≤ 999)
  | [], pos, RB, q, _, h => by
    unfold prbs at h
    cases h
    exact ⟨by simp, fun _ _ => rfl, fun h => h⟩
  | r :: rs, pos, RB, q, hr, h => by
    unfold prbs at h
    cases hz : rdP L pos sb 0 r.1 r.1 with
    | inl e =>
      rw [hz] at h
      cases h
    | inr z =>
      rw [hz] at h
      simp only at h
      have kr := hr r List.mem_cons_self
      have ok := rwP_ok (by omega) (fun c => absurd c (by decide)) (fun _ => Int.le_refl _) hz
      have ok4 := ok.2.2.2 (by decide)
      have len := pw_len1 _ ok.2.1 ok4
      obtain ⟨a1, a2, a3⟩ := prbs_ok rs _ _ q (fun x hx => hr x (List.mem_cons_of_mem _ hx)) h
      refine ⟨?_, fun y hy => ?_, fun hB => a3 (fun x hx => ?_)⟩
      · rw [List.length_append] at a1
        rw [List.length_cons]
        omega
      · rw [a2 y (fun x hx => hy x (List.mem_cons_of_mem _ hx)), fnd_app]
        have hne := hy r List.mem_cons_self
        rw [fnd_none (z := y) (rwP z) (fun x hx => by have := ok4 x hx; omega)]
        cases fnd y RB <;> rfl
      · rcases List.mem_append.mp hx with hx | hx
        · exact hB x hx
        · exact ok.2.2.1 x hx
theorem mprb_eq {L : List Int} {sb w : Int} : ∀ (rest : List (Int × Int)) (pos : Nat) (T : List Int) (RB : List (Int × Int)), (∀ r, r ∈ rest → 0 ≤ r.1 ∧ r.1 ≤ 999) → List.Pairwise (fun a b => a.1 < b.1) rest → (∀ r, r ∈ rest → fnd r.1 RB = none) → mprb L sb w rest pos T = match prbs L sb rest pos RB with
    | .inl e => .inl e
    | .inr q => .inr (q.1, T ++ (if w = 6 then mis q.2 rest else mat q.2 rest))
  | [], pos, T, RB, _, _, _ => by
    unfold mprb prbs
    simp only
    split <;> (show _ = Sum.inr (pos, T ++ []); rw [List.append_nil])
  | r :: rs, pos, T, RB, hr, hp, hn => by
    conv => lhs; unfold mprb
    conv => rhs; unfold prbs
    cases hz : rdP L pos sb 0 r.1 r.1 with
    | inl e => rfl
    | inr z =>
      simp only
      have kr := hr r List.mem_cons_self
      have ok := rwP_ok (by omega) (fun c => absurd c (by decide)) (fun _ => Int.le_refl _) hz
      have ok4 := ok.2.2.2 (by decide)
      have hp2 := List.pairwise_cons.mp hp
      rw [mprb_eq rs z.1.1 _ (RB ++ rwP z) (fun x hx => hr x (List.mem_cons_of_mem _ hx)) hp2.2 (fun x hx => by
        have lt := hp2.1 x hx
        rw [fnd_app, hn x (List.mem_cons_of_mem _ hx)]
        exact fnd_none _ (fun y hy => by have := ok4 y hy; omega))]
      cases hq : prbs L sb rs z.1.1 (RB ++ rwP z) with
      | inl e => rfl
      | inr q =>
        simp only
        have pk := (prbs_ok rs _ _ q (fun x hx => hr x (List.mem_cons_of_mem _ hx)) hq).2.1 r.1 (fun x hx => by have := hp2.1 x hx; omega)
        rw [fnd_app, hn r List.mem_cons_self] at pk
        have e1 : mis1 q.2 r = mis1 (rwP z) r := by unfold mis1; rw [pk]
        have e2 : mat1 q.2 r = mat1 (rwP z) r := by unfold mat1; rw [pk]
        congr 2
        by_cases c : w = 6
        · simp only [if_pos c]
          rw [List.append_assoc, ← e1]
          rfl
        · simp only [if_neg c]
          rw [List.append_assoc, ← e2]
          rfl
theorem rok_of {X : List (Int × Int)} (h : ∀ x, x ∈ X → (0 ≤ x.1 ∧ x.1 ≤ 999) ∧ 0 ≤ x.2 ∧ x.2 ≤ 999) : rok X := fun k hk => by
  have := h _ (List.getElem_mem hk)
  omega
theorem mat_ok {RB : List (Int × Int)} (hB : ∀ x, x ∈ RB → (0 ≤ x.1 ∧ x.1 ≤ 999) ∧ 0 ≤ x.2 ∧ x.2 ≤ 999) : ∀ (RA : List (Int × Int)), (∀ x, x ∈ RA → (0 ≤ x.1 ∧ x.1 ≤ 999) ∧ 0 ≤ x.2 ∧ x.2 ≤ 999) → (mat RB RA).length ≤ 3 * RA.length ∧ ∀ x, x ∈ mat RB RA → 0 ≤ x ∧ x ≤ 999
  | [], _ => ⟨Nat.le_refl _, fun x hx => by cases hx⟩
  | r :: rs, hA => by
    obtain ⟨h1, h2⟩ := mat_ok hB rs (fun x hx => hA x (List.mem_cons_of_mem _ hx))
    have hr := hA r List.mem_cons_self
    unfold mat mat1
    cases hf : fnd r.1 RB with
    | none => exact ⟨by simp only [List.length_append, List.length_cons, List.length_nil]; omega, fun x hx => h2 x hx⟩
    | some y =>
      have hy := hB _ (fnd_mem _ hf)
      refine ⟨by simp only [List.length_append, List.length_cons, List.length_nil]; omega, fun x hx => ?_⟩
      rcases List.mem_append.mp hx with hx | hx
      · simp only [List.mem_cons, List.not_mem_nil, or_false] at hx
        rcases hx with rfl | rfl | rfl
        · exact hr.1
        · exact hr.2
        · exact hy.2
      · exact h2 x hx
theorem mis_ok {RB : List (Int × Int)} : ∀ (RA : List (Int × Int)), (∀ x, x ∈ RA → (0 ≤ x.1 ∧ x.1 ≤ 999) ∧ 0 ≤ x.2 ∧ x.2 ≤ 999) → (mis RB RA).length ≤ 3 * RA.length ∧ ∀ x, x ∈ mis RB RA → 0 ≤ x ∧ x ≤ 999
  | [], _ => ⟨Nat.le_refl _, fun x hx => by cases hx⟩
  | r :: rs, hA => by
    obtain ⟨h1, h2⟩ := mis_ok (RB := RB) rs (fun x hx => hA x (List.mem_cons_of_mem _ hx))
    have hr := hA r List.mem_cons_self
    unfold mis mis1
    cases hf : fnd r.1 RB with
    | some y => exact ⟨by simp only [List.length_append, List.length_cons, List.length_nil]; omega, fun x hx => h2 x hx⟩
    | none =>
      refine ⟨by simp only [List.length_append, List.length_cons, List.length_nil]; omega, fun x hx => ?_⟩
      rcases List.mem_append.mp hx with hx | hx
      · simp only [List.mem_cons, List.not_mem_nil, or_false] at hx
        rcases hx with rfl | rfl
        · exact hr.1
        · exact hr.2
      · exact h2 x hx
theorem sumA_rng {A : Nat → Int} (h : ∀ j, 0 ≤ A j ∧ A j ≤ 14000) : ∀ r i, 0 ≤ sumA A r i ∧ sumA A r i ≤ 14000 * r
  | 0, i => by unfold sumA; omega
  | r + 1, i => by
    have h1 := sumA_rng h r (i + 1)
    have h2 := h i
    unfold sumA
    omega
