/-! ===== tokens, pure ===== -/
abbrev sIs (x : Int) : Bool := decide (x = 32 ∨ x = 10)
abbrev lIs (x : Int) : Bool := decide (97 ≤ x ∧ x ≤ 122)
abbrev fIs (x : Int) : Bool := decide (48 ≤ x ∧ x ≤ 57)
def tkS (f : Nat → Int) (N c : Nat) : Nat := srch (fun k => !sIs (f k)) (N - c) c
def tkE (f : Nat → Int) (N c : Nat) : Nat := if N ≤ tkS f N c then N else if lIs (f (tkS f N c)) then srch (fun k => !lIs (f k)) (N - tkS f N c) (tkS f N c) else if fIs (f (tkS f N c)) then srch (fun k => !fIs (f k)) (N - tkS f N c) (tkS f N c) else tkS f N c + 1
def tkK (f : Nat → Int) (N c : Nat) : Int := if N ≤ tkS f N c then 0 else if lIs (f (tkS f N c)) then 1 else if fIs (f (tkS f N c)) then (if tkE f N c - tkS f N c ≤ 3 then 2 else 4) else if f (tkS f N c) = 59 then 3 else 4
def valF (f : Nat → Int) : Nat → Nat → Int → Int
  | 0, _, acc => acc
  | r + 1, i, acc => valF f r (i + 1) (10 * acc + f i - 48)
def tkV (f : Nat → Int) (N c : Nat) : Int := valF f (tkE f N c - tkS f N c) (tkS f N c) 0
theorem valF_s (f : Nat → Int) : ∀ r i acc, valF f (r + 1) i acc = 10 * valF f r i acc + f (i + r) - 48
  | 0, i, acc => rfl
  | r + 1, i, acc => by
    have h := valF_s f r (i + 1) (10 * acc + f i - 48)
    rw [show i + 1 + r = i + (r + 1) by omega] at h
    exact h
theorem tkS_ok {f : Nat → Int} {N c : Nat} (h : c ≤ N) : c ≤ tkS f N c ∧ tkS f N c ≤ N := by
  have := srch_sp (fun k => !sIs (f k)) (N - c) c
  unfold tkS
  omega
theorem srch_gt {p : Nat → Bool} {n s : Nat} (h : p s = false) (hs : s < n) : s < srch p (n - s) s ∧ srch p (n - s) s ≤ n ∧ ∀ k, s ≤ k → k < srch p (n - s) s → p k = false := by
  obtain ⟨h1, h2, h3, h4⟩ := srch_sp p (n - s) s
  refine ⟨?_, by omega, h3⟩
  rcases Nat.lt_or_ge s (srch p (n - s) s) with c | c
  · exact c
  · exfalso
    have e : srch p (n - s) s = s := by omega
    have := h4 (by omega)
    rw [e, h] at this
    cases this
theorem tkE_ok {f : Nat → Int} {N c : Nat} (h : c ≤ N) : tkS f N c ≤ tkE f N c ∧ tkE f N c ≤ N ∧ (tkK f N c ≠ 0 → c < tkE f N c ∧ tkS f N c < N ∧ tkS f N c < tkE f N c) ∧ (tkK f N c = 0 → tkS f N c = N) := by
  have hs := tkS_ok (f := f) h
  unfold tkK tkE
  generalize tkS f N c = s at *
  by_cases c1 : N ≤ s
  · rw [if_pos c1, if_pos c1]
    exact ⟨by omega, by omega, fun h => absurd rfl h, fun _ => by omega⟩
  · rw [if_neg c1, if_neg c1]
    by_cases c2 : lIs (f s) = true
    · rw [if_pos c2, if_pos c2]
      have g := srch_gt (p := fun k => !lIs (f k)) (n := N) (s := s) (by simpa using c2) (by omega)
      exact ⟨by omega, by omega, fun _ => ⟨by omega, by omega, by omega⟩, fun h => by omega⟩
    · rw [if_neg c2, if_neg c2]
      by_cases c3 : fIs (f s) = true
      · rw [if_pos c3]
        have g := srch_gt (p := fun k => !fIs (f k)) (n := N) (s := s) (by simpa using c3) (by omega)
        refine ⟨by omega, by omega, fun _ => ⟨by omega, by omega, by omega⟩, fun h => ?_⟩
        rw [if_pos c3] at h
        split at h <;> omega
      · rw [if_neg c3]
        refine ⟨by omega, by omega, fun _ => ⟨by omega, by omega, by omega⟩, fun h => ?_⟩
        rw [if_neg c3] at h
        split at h <;> omega
theorem valF_rng {f : Nat → Int} : ∀ r i acc, (∀ k, i ≤ k → k < i + r → 48 ≤ f k ∧ f k ≤ 57) → 0 ≤ acc → acc ≤ 99999999 → r ≤ 3 → 0 ≤ valF f r i acc ∧ (acc = 0 → valF f r i acc ≤ 999 ∧ (r ≤ 2 → valF f r i acc ≤ 99) ∧ (r ≤ 1 → valF f r i acc ≤ 9))
  | 0, i, acc, h, h0, h1, hr => by
    unfold valF
    exact ⟨h0, fun e => by omega⟩
  | r + 1, i, acc, h, h0, h1, hr => by
    have hs := valF_s f r i acc
    have ih := valF_rng (f := f) r i acc (fun k k1 k2 => h k k1 (by omega)) h0 h1 (by omega)
    have hk := h (i + r) (by omega) (by omega)
    rw [hs]
    refine ⟨by omega, fun e => ?_⟩
    have ih2 := ih.2 e
    refine ⟨?_, fun h2 => ?_, fun h2 => ?_⟩
    · have := ih2.2.1 (by omega)
      omega
    · have := ih2.2.2 (by omega)
      omega
    · have e0 : r = 0 := by omega
      subst e0
      have : valF f 0 i acc = acc := rfl
      rw [this, e]
      omega
theorem tkV_rng {f : Nat → Int} {N c : Nat} (h : c ≤ N) (hk : tkK f N c = 2) : 0 ≤ tkV f N c ∧ tkV f N c ≤ 999 := by
  have hs := tkS_ok (f := f) h
  have key : tkE f N c - tkS f N c ≤ 3 ∧ ∀ k, tkS f N c ≤ k → k < tkE f N c → 48 ≤ f k ∧ f k ≤ 57 := by
    unfold tkK at hk
    unfold tkE at hk ⊢
    generalize tkS f N c = s at *
    by_cases c1 : N ≤ s
    · rw [if_pos c1] at hk
      omega
    · rw [if_neg c1] at hk
      simp only [if_neg c1] at hk ⊢
      by_cases c2 : lIs (f s) = true
      · rw [if_pos c2] at hk
        omega
      · rw [if_neg c2] at hk
        simp only [if_neg c2] at hk ⊢
        by_cases c3 : fIs (f s) = true
        · rw [if_pos c3] at hk
          simp only [if_pos c3] at hk ⊢
          have g := srch_gt (p := fun k => !fIs (f k)) (n := N) (s := s) (by simpa using c3) (by omega)
          refine ⟨?_, fun k k1 k2 => ?_⟩
          · split at hk
            · assumption
            · omega
          · have := g.2.2 k k1 k2
            simpa using this
        · rw [if_neg c3] at hk
          split at hk <;> omega
  unfold tkV
  have := valF_rng (f := f) (tkE f N c - tkS f N c) (tkS f N c) 0 (fun k k1 k2 => key.2 k k1 (by omega)) (by decide) (by decide) key.1
  exact ⟨this.1, (this.2 rfl).1⟩
section
variable {d q : Nat} {v : q_H} {G : q_Gr} {Q : q_V → q_H → q_Gr → Prop}
/-- the bytes that the class reads -/
def tpC' (v : q_H) (f : Nat → Int) (N : Nat) : Prop := N ≤ 200 ∧ v 36 1 = (N : Int) ∧ ∀ k, k < N → v 37 k = f k ∧ 0 ≤ f k ∧ f k ≤ 255
theorem c_byte {f : Nat → Int} {N i : Nat} (hG : gok G) (h : tpC' v f N) (hi : i < 100000) : q_call (d + 2) 59 [.inr (.inr (.inl (some 36))), .inl i] v G Q = Q (.inl (if i < N then f i else 0)) v G := by
  refine q_call_eq ?_ Q
  obtain ⟨h1, h2, h3⟩ := h
  by_cases c : i < N
  · have := (h3 i c).1
    rw [if_pos c]
    simp (disch := omega) only [E59, SHC hG, h2, c_within, this, ↓if_neg, ↓if_pos, q_push_I, q_push_L, q_push_P, q_push_U, Int.toNat_natCast]
    repeat' first | (refine And.intro ?_ ?_) | exact True.intro | omega | assumption | rfl
  · rw [if_neg c]
    simp (disch := omega) only [E59, SHC hG, h2, c_within, ↓if_neg, ↓if_pos, q_push_I, q_push_L, q_push_P, q_push_U]
    repeat' first | (refine And.intro ?_ ?_) | exact True.intro | omega | assumption | rfl
theorem c_lIs {x : Int} (hx : -2147483648 ≤ x ∧ x ≤ 2147483647) : q_call (d + 1) 60 [.inl x] v G Q = Q (.inl (if lIs x then 1 else 0)) v G := by
  refine q_call_eq ?_ Q
  simp only [E60, lIs, decide_eq_true_eq]
  repeat' first | (refine And.intro ?_ ?_) | rfl | exact True.intro | omega | split
theorem c_fIs {x : Int} (hx : -2147483648 ≤ x ∧ x ≤ 2147483647) : q_call (d + 1) 61 [.inl x] v G Q = Q (.inl (if fIs x then 1 else 0)) v G := by
  refine q_call_eq ?_ Q
  simp only [E61, fIs, decide_eq_true_eq]
  repeat' first | (refine And.intro ?_ ?_) | rfl | exact True.intro | omega | split
theorem srch_y {p : Nat → Bool} {r i : Nat} (h : p i = true) : srch p (r + 1) i = i := srch_eq (Nat.le_refl _) (by omega) (fun k h1 h2 => by omega) (fun _ => h)
theorem srch_n {p : Nat → Bool} {r i : Nat} (h : p i = false) : srch p (r + 1) i = srch p r (i + 1) := by
  obtain ⟨h1, h2, h3, h4⟩ := srch_sp p r (i + 1)
  refine srch_eq (by omega) (by omega) (fun k k1 k2 => ?_) (fun hlt => h4 (by omega))
  by_cases e : k = i
  · rw [e]; exact h
  · exact h3 k (by omega) k2
theorem srch_0 {p : Nat → Bool} {i : Nat} : srch p 0 i = i := by
  have := srch_sp p 0 i
  omega
theorem s_skip {f : Nat → Int} {N : Nat} (hG : gok G) (h : tpC' v f N) : ∀ (r i : Nat), i + r = N → q_wp (d + 2) 56 39 [.inr (.inr (.inl (some 36))), .inl ((srch (fun k => !sIs (f k)) r i : Nat))] [] v G Q → q_wp (d + 2) 56 5 [.inr (.inr (.inl (some 36))), .inl i] [] v G Q := by
  have h1 := h.1
  have h2 := h.2.1
  intro r
  induction r with
  | zero =>
    intro i hi hQ
    rw [srch_0] at hQ
    rw [e_56_5]
    simp (disch := omega) only [e_56_6, e_56_7, e_56_10, SHC hG, h2, ↓if_pos]
    repeat' first | (refine And.intro ?_ ?_) | exact True.intro | omega | assumption | rfl
  | succ r ih =>
    intro i hi hQ
    have hf := h.2.2 i (by omega)
    have eb : ∀ (d' : Nat) (Q' : q_V → q_H → q_Gr → Prop), q_call (d' + 2) 59 [.inr (.inr (.inl (some 36))), .inl i] v G Q' = Q' (.inl (f i)) v G := fun d' Q' => by rw [c_byte hG h (by omega), if_pos (by omega)]
    rw [e_56_5]
    by_cases c : f i = 32 ∨ f i = 10
    · rw [srch_n (by show (!sIs (f i)) = false; rw [show sIs (f i) = true from decide_eq_true c]; rfl)] at hQ
      have nx := ih (i + 1) (by omega) hQ
      by_cases c1 : f i = 32
      · simp (disch := omega) only [e_56_6, e_56_7, e_56_10, e_56_13, e_56_14, e_56_15, e_56_18, e_56_20, e_56_23, e_56_24, e_56_25, e_56_28, e_56_30, e_56_33, e_56_36, SHC hG, h2, eb, ↓if_neg, ↓if_pos, q_push_I, q_push_L, q_push_P, q_push_U, show (i : Int) + 1 = ((i + 1 : Nat) : Int) by omega]
        repeat' first | (refine And.intro ?_ ?_) | exact True.intro | omega | assumption | rfl
      · simp (disch := omega) only [e_56_6, e_56_7, e_56_10, e_56_13, e_56_14, e_56_15, e_56_18, e_56_20, e_56_23, e_56_24, e_56_25, e_56_28, e_56_30, e_56_33, e_56_36, SHC hG, h2, eb, ↓if_neg, ↓if_pos, q_push_I, q_push_L, q_push_P, q_push_U, show (i : Int) + 1 = ((i + 1 : Nat) : Int) by omega]
        repeat' first | (refine And.intro ?_ ?_) | exact True.intro | omega | assumption | rfl
    · rw [srch_y (by show (!sIs (f i)) = true; rw [show sIs (f i) = false from decide_eq_false c]; rfl)] at hQ
      simp (disch := omega) only [e_56_6, e_56_7, e_56_10, e_56_13, e_56_14, e_56_15, e_56_18, e_56_20, e_56_23, e_56_24, e_56_25, e_56_28, e_56_30, e_56_33, e_56_36, SHC hG, h2, eb, ↓if_neg, ↓if_pos, q_push_I, q_push_L, q_push_P, q_push_U]
      repeat' first | (refine And.intro ?_ ?_) | exact True.intro | omega | assumption | rfl
theorem tpC'_fr {v' : q_H} {f : Nat → Int} {N : Nat} (h1 : v' 36 1 = v 36 1) (h2 : v' 37 = v 37) (h : tpC' v f N) : tpC' v' f N := by
  unfold tpC'
  rw [h1, h2]
  exact h
/-- the class's readName -/
theorem s_name {f : Nat → Int} {N : Nat} {v0 : q_H} (hG : gok G) (h : tpC' v0 f N) : ∀ (r e : Nat) (v : q_H), e + r = N → (∀ b, b ≠ 36 → v b = v0 b) → (∀ j, j ≠ 6 → v 36 j = v0 36 j) → v 36 6 = (e : Int) → (∀ v', (∀ b, b ≠ 36 → v' b = v0 b) → (∀ j, j ≠ 6 → v' 36 j = v0 36 j) → v' 36 6 = ((srch (fun k => !lIs (f k)) r e : Nat) : Int) → Q (.inr (.inr (.inr ()))) v' G) → q_wp (d + 2) 57 0 [.inr (.inr (.inl (some 36)))] [] v G Q := by
  intro r
  induction r with
  | zero =>
    intro e v he hf hj h6 hC
    have ht := tpC'_fr (hj 1 (by omega)) (hf 37 (by omega)) h
    have h2 := ht.2.1
    have h1 := ht.1
    rw [srch_0] at hC
    have fin := hC v hf hj h6
    rw [e_57_0]
    simp (disch := omega) only [e_57_1, e_57_4, e_57_5, e_57_8, e_57_38, SHC hG, h2, h6, ↓if_pos]
    repeat' first | exact fin | (refine And.intro ?_ ?_) | exact True.intro | omega | rfl
  | succ r ih =>
    intro e v he hf hj h6 hC
    have ht := tpC'_fr (hj 1 (by omega)) (hf 37 (by omega)) h
    have h2 := ht.2.1
    have h1 := ht.1
    have hfe := ht.2.2 e (by omega)
    have eb : ∀ (d' : Nat) (Q' : q_V → q_H → q_Gr → Prop), q_call (d' + 2) 59 [.inr (.inr (.inl (some 36))), .inl e] v G Q' = Q' (.inl (f e)) v G := fun d' Q' => by rw [c_byte hG ht (by omega), if_pos (by omega)]
    have el : ∀ (d' : Nat) (Q' : q_V → q_H → q_Gr → Prop), q_call (d' + 1) 60 [.inl (f e)] v G Q' = Q' (.inl (if lIs (f e) then 1 else 0)) v G := fun d' Q' => c_lIs (by omega)
    rw [e_57_0]
    by_cases c : lIs (f e) = true
    · rw [srch_n (by simpa using c)] at hC
      rw [if_pos c] at el
      have nx := ih (e + 1) (q_up v 36 6 ((e + 1 : Nat) : Int)) (by omega) (fun b hb => by rw [u_r hb, hf b hb]) (fun j hj' => by rw [u_n (by omega), hj j hj']) (u_s rfl rfl) hC
      simp (disch := omega) only [e_57_1, e_57_4, e_57_5, e_57_8, e_57_11, e_57_12, e_57_13, e_57_16, e_57_19, e_57_22, e_57_25, e_57_26, e_57_27, e_57_30, e_57_31, e_57_32, e_57_35, SHC hG, h2, h6, eb, el, ↓if_neg, ↓if_pos, q_push_I, q_push_L, q_push_P, q_push_U, show (e : Int) + 1 = ((e + 1 : Nat) : Int) by omega]
      repeat' first | (refine And.intro ?_ ?_) | exact True.intro | omega | assumption | rfl
    · rw [srch_y (by show (!lIs (f e)) = true; rw [Bool.eq_false_iff.mpr c]; rfl)] at hC
      rw [if_neg c] at el
      have fin := hC v hf hj h6
      simp (disch := omega) only [e_57_1, e_57_4, e_57_5, e_57_8, e_57_11, e_57_12, e_57_13, e_57_16, e_57_19, e_57_22, e_57_25, e_57_26, e_57_27, e_57_30, e_57_31, e_57_32, e_57_35, e_57_38, SHC hG, h2, h6, eb, el, ↓if_neg, ↓if_pos, q_push_I, q_push_L, q_push_P, q_push_U]
      repeat' first | exact fin | (refine And.intro ?_ ?_) | exact True.intro | omega | rfl
theorem s_figs {f : Nat → Int} {N s : Nat} {v0 : q_H} (hG : gok G) (h : tpC' v0 f N) (h5 : v0 36 5 = (s : Int)) : ∀ (r e : Nat) (v : q_H), e + r = N → s ≤ e → (∀ b, b ≠ 36 → v b = v0 b) → (∀ j, j ≠ 4 → j ≠ 6 → j ≠ 7 → v 36 j = v0 36 j) → v 36 6 = (e : Int) → (e - s ≤ 3 → v 36 7 = valF f (e - s) s 0) → (∀ v', (∀ b, b ≠ 36 → v' b = v0 b) → (∀ j, j ≠ 4 → j ≠ 6 → j ≠ 7 → v' 36 j = v0 36 j) → v' 36 6 = ((srch (fun k => !fIs (f k)) r e : Nat) : Int) → v' 36 4 = (if srch (fun k => !fIs (f k)) r e - s ≤ 3 then 2 else 4) → (srch (fun k => !fIs (f k)) r e - s ≤ 3 → v' 36 7 = valF f (srch (fun k => !fIs (f k)) r e - s) s 0) → Q (.inr (.inr (.inr ()))) v' G) → q_wp (d + 2) 58 13 [.inr (.inr (.inl (some 36)))] [] v G Q := by
  intro r
  induction r with
  | zero =>
    intro e v he hse hf hj h6 h7 hC
    have ht := tpC'_fr (hj 1 (by omega) (by omega) (by omega)) (hf 37 (by omega)) h
    have h2 := ht.2.1
    have h1 := ht.1
    have w5 : v 36 5 = (s : Int) := by rw [hj 5 (by omega) (by omega) (by omega), h5]
    rw [srch_0] at hC
    rw [e_58_13]
    by_cases c3 : e - s ≤ 3
    · have fin := hC (q_up v 36 4 2) (fun b hb => by rw [u_r hb, hf b hb]) (fun j j1 j2 j3 => by rw [u_n (by omega), hj j j1 j2 j3]) (by rw [u_n (by omega), h6]) (by rw [u_s rfl rfl, if_pos c3]) (fun _ => by rw [u_n (by omega)]; exact h7 c3)
      simp (disch := omega) only [e_58_14, e_58_17, e_58_18, e_58_21, e_58_91, e_58_92, e_58_93, e_58_96, e_58_97, e_58_100, e_58_101, e_58_102, e_58_105, e_58_106, e_58_109, e_58_110, e_58_113, SHC hG, h2, h6, w5, ↓if_neg, ↓if_pos]
      repeat' first | exact fin | (refine And.intro ?_ ?_) | exact True.intro | omega | rfl
    · have fin := hC (q_up v 36 4 4) (fun b hb => by rw [u_r hb, hf b hb]) (fun j j1 j2 j3 => by rw [u_n (by omega), hj j j1 j2 j3]) (by rw [u_n (by omega), h6]) (by rw [u_s rfl rfl, if_neg c3]) (fun h => absurd h c3)
      simp (disch := omega) only [e_58_14, e_58_17, e_58_18, e_58_21, e_58_91, e_58_92, e_58_93, e_58_96, e_58_97, e_58_100, e_58_101, e_58_102, e_58_105, e_58_106, e_58_109, e_58_110, e_58_113, SHC hG, h2, h6, w5, ↓if_neg, ↓if_pos]
      repeat' first | exact fin | (refine And.intro ?_ ?_) | exact True.intro | omega | rfl
  | succ r ih =>
    intro e v he hse hf hj h6 h7 hC
    have ht := tpC'_fr (hj 1 (by omega) (by omega) (by omega)) (hf 37 (by omega)) h
    have h2 := ht.2.1
    have h1 := ht.1
    have w5 : v 36 5 = (s : Int) := by rw [hj 5 (by omega) (by omega) (by omega), h5]
    have hfe := ht.2.2 e (by omega)
    have eb : ∀ (d' : Nat) (Q' : q_V → q_H → q_Gr → Prop), q_call (d' + 2) 59 [.inr (.inr (.inl (some 36))), .inl e] v G Q' = Q' (.inl (f e)) v G := fun d' Q' => by rw [c_byte hG ht (by omega), if_pos (by omega)]
    have el : ∀ (d' : Nat) (Q' : q_V → q_H → q_Gr → Prop), q_call (d' + 1) 61 [.inl (f e)] v G Q' = Q' (.inl (if fIs (f e) then 1 else 0)) v G := fun d' Q' => c_fIs (by omega)
    rw [e_58_13]
    by_cases c : fIs (f e) = true
    · rw [srch_n (by simpa using c)] at hC
      rw [if_pos c] at el
      by_cases c3 : e - s < 3
      · have h7 := h7 (by omega)
        have nx := ih (e + 1) (q_up (q_up v 36 7 (10 * valF f (e - s) s 0 + f e - 48)) 36 6 ((e + 1 : Nat) : Int)) (by omega) (by omega) (fun b hb => by rw [u_r hb, u_r hb, hf b hb]) (fun j j1 j2 j3 => by rw [u_n (by omega), u_n (by omega), hj j j1 j2 j3]) (u_s rfl rfl) (fun _ => by rw [u_n (by omega), u_s rfl rfl, show e + 1 - s = (e - s) + 1 by omega, valF_s, show s + (e - s) = e by omega]) hC
        simp (disch := omega) only [e_58_14, e_58_17, e_58_18, e_58_21, e_58_24, e_58_25, e_58_26, e_58_29, e_58_32, e_58_35, e_58_38, e_58_39, e_58_40, e_58_43, e_58_44, e_58_47, e_58_48, e_58_49, e_58_52, e_58_54, e_58_55, e_58_58, e_58_59, e_58_60, e_58_61, e_58_64, e_58_67, e_58_68, e_58_70, e_58_71, e_58_74, e_58_75, e_58_78, e_58_79, e_58_80, e_58_83, e_58_84, e_58_85, e_58_88, SHC hG, h2, h6, h7, w5, eb, el, u_n, ↓if_neg, ↓if_pos, q_push_I, q_push_L, q_push_P, q_push_U, show (e : Int) + 1 = ((e + 1 : Nat) : Int) by omega]
        repeat' first | (refine And.intro ?_ ?_) | exact True.intro | omega | assumption | rfl
      · have nx := ih (e + 1) (q_up (q_up v 36 7 0) 36 6 ((e + 1 : Nat) : Int)) (by omega) (by omega) (fun b hb => by rw [u_r hb, u_r hb, hf b hb]) (fun j j1 j2 j3 => by rw [u_n (by omega), u_n (by omega), hj j j1 j2 j3]) (u_s rfl rfl) (fun h => by omega) hC
        simp (disch := omega) only [e_58_14, e_58_17, e_58_18, e_58_21, e_58_24, e_58_25, e_58_26, e_58_29, e_58_32, e_58_35, e_58_38, e_58_39, e_58_40, e_58_43, e_58_44, e_58_47, e_58_48, e_58_49, e_58_52, e_58_54, e_58_55, e_58_58, e_58_59, e_58_60, e_58_61, e_58_64, e_58_67, e_58_68, e_58_70, e_58_71, e_58_74, e_58_75, e_58_78, e_58_79, e_58_80, e_58_83, e_58_84, e_58_85, e_58_88, SHC hG, h2, h6, w5, eb, el, u_n, ↓if_neg, ↓if_pos, q_push_I, q_push_L, q_push_P, q_push_U, show (e : Int) + 1 = ((e + 1 : Nat) : Int) by omega]
        repeat' first | (refine And.intro ?_ ?_) | exact True.intro | omega | assumption | rfl
    · rw [srch_y (by show (!fIs (f e)) = true; rw [Bool.eq_false_iff.mpr c]; rfl)] at hC
      rw [if_neg c] at el
      by_cases c3 : e - s ≤ 3
      · have fin := hC (q_up v 36 4 2) (fun b hb => by rw [u_r hb, hf b hb]) (fun j j1 j2 j3 => by rw [u_n (by omega), hj j j1 j2 j3]) (by rw [u_n (by omega), h6]) (by rw [u_s rfl rfl, if_pos c3]) (fun _ => by rw [u_n (by omega)]; exact h7 c3)
        simp (disch := omega) only [e_58_14, e_58_17, e_58_18, e_58_21, e_58_24, e_58_25, e_58_26, e_58_29, e_58_32, e_58_35, e_58_91, e_58_92, e_58_93, e_58_96, e_58_97, e_58_100, e_58_101, e_58_102, e_58_105, e_58_106, e_58_109, e_58_110, e_58_113, SHC hG, h2, h6, w5, eb, el, ↓if_neg, ↓if_pos, q_push_I, q_push_L, q_push_P, q_push_U]
        repeat' first | exact fin | (refine And.intro ?_ ?_) | exact True.intro | omega | rfl
      · have fin := hC (q_up v 36 4 4) (fun b hb => by rw [u_r hb, hf b hb]) (fun j j1 j2 j3 => by rw [u_n (by omega), hj j j1 j2 j3]) (by rw [u_n (by omega), h6]) (by rw [u_s rfl rfl, if_neg c3]) (fun h => absurd h c3)
        simp (disch := omega) only [e_58_14, e_58_17, e_58_18, e_58_21, e_58_24, e_58_25, e_58_26, e_58_29, e_58_32, e_58_35, e_58_91, e_58_92, e_58_93, e_58_96, e_58_97, e_58_100, e_58_101, e_58_102, e_58_105, e_58_106, e_58_109, e_58_110, e_58_113, SHC hG, h2, h6, w5, eb, el, ↓if_neg, ↓if_pos, q_push_I, q_push_L, q_push_P, q_push_U]
        repeat' first | exact fin | (refine And.intro ?_ ?_) | exact True.intro | omega | rfl
/-- the class stands at the token that begins from c on -/
def tokC (v : q_H) (f : Nat → Int) (N c : Nat) : Prop := v 36 4 = tkK f N c ∧ v 36 5 = (tkS f N c : Int) ∧ v 36 6 = (tkE f N c : Int) ∧ (tkK f N c = 2 → v 36 7 = tkV f N c)
theorem c_ntok {f : Nat → Int} {N c : Nat} (hG : gok G) (h : tpC' v f N) (hc : c ≤ N) (h6 : v 36 6 = (c : Int)) (hQ : ∀ v', (∀ b, b ≠ 36 → v' b = v b) → (∀ j, ¬ (4 ≤ j ∧ j ≤ 7) → v' 36 j = v 36 j) → tokC v' f N c → Q (.inr (.inr (.inr ()))) v' G) : q_call (d + 4) 56 [.inr (.inr (.inl (some 36)))] v G Q := by
  have h1 := h.1
  have h2 := h.2.1
  have hs := tkS_ok (f := f) hc
  have tks : tkK f N c = if N ≤ tkS f N c then 0 else if lIs (f (tkS f N c)) then 1 else if fIs (f (tkS f N c)) then (if tkE f N c - tkS f N c ≤ 3 then 2 else 4) else if f (tkS f N c) = 59 then 3 else 4 := rfl
  have tes : tkE f N c = if N ≤ tkS f N c then N else if lIs (f (tkS f N c)) then srch (fun k => !lIs (f k)) (N - tkS f N c) (tkS f N c) else if fIs (f (tkS f N c)) then srch (fun k => !fIs (f k)) (N - tkS f N c) (tkS f N c) else tkS f N c + 1 := rfl
  have nx := s_skip (d := d + 1) (Q := Q) hG h (N - c) c (by omega) (by
    show q_wp (d + 3) 56 39 [.inr (.inr (.inl (some 36))), .inl ((tkS f N c : Nat))] [] v G Q
    have tvs : tkV f N c = valF f (tkE f N c - tkS f N c) (tkS f N c) 0 := rfl
    unfold tokC at hQ
    generalize tkS f N c = s at *
    generalize hv1 : q_up (q_up v 36 5 (s : Int)) 36 6 ((s : Int) + 1) = v1
    have f1 : ∀ b, b ≠ 36 → v1 b = v b := fun b hb => by rw [← hv1, u_r hb, u_r hb]
    have f1q : ∀ j, j ≠ 5 → j ≠ 6 → v1 36 j = v 36 j := fun j j1 j2 => by rw [← hv1, u_n (by omega), u_n (by omega)]
    have w5 : v1 36 5 = (s : Int) := by rw [← hv1, u_n (by omega), u_s rfl rfl]
    have w6 : v1 36 6 = ((s + 1 : Nat) : Int) := by
      rw [← hv1, u_s rfl rfl]
      omega
    have w1 : v1 36 1 = (N : Int) := by rw [f1q 1 (by omega) (by omega), h2]
    have ht := tpC'_fr (f1q 1 (by omega) (by omega)) (f1 37 (by omega)) h
    by_cases c1 : N ≤ s
    · rw [if_pos c1] at tks tes
      have fin := hQ (q_up (q_up v1 36 4 0) 36 6 (N : Int)) (fun b hb => by rw [u_r hb, u_r hb, f1 b hb]) (fun j hj => by rw [u_n (by omega), u_n (by omega), f1q j (by omega) (by omega)]) ⟨by rw [u_n (by omega), u_s rfl rfl, tks], by rw [u_n (by omega), u_n (by omega), w5], by rw [u_s rfl rfl, tes], fun e => by rw [tks] at e; omega⟩
      simp (disch := omega) only [e_56_39, e_56_40, e_56_41, e_56_44, e_56_45, e_56_46, e_56_47, e_56_48, e_56_51, e_56_52, e_56_53, e_56_56, e_56_59, e_56_60, e_56_61, e_56_64, e_56_65, e_56_66, e_56_69, e_56_72, e_56_135, SHC hG, hv1, w1, u_n, ↓if_neg, ↓if_pos]
      repeat' first | exact fin | (refine And.intro ?_ ?_) | exact True.intro | omega | rfl
    · rw [if_neg c1] at tks tes
      have hfs := h.2.2 s (by omega)
      have eb : ∀ (d' : Nat) (Q' : q_V → q_H → q_Gr → Prop), q_call (d' + 2) 59 [.inr (.inr (.inl (some 36))), .inl s] v1 G Q' = Q' (.inl (f s)) v1 G := fun d' Q' => by rw [c_byte hG ht (by omega), if_pos (by omega)]
      have el : ∀ (d' : Nat) (Q' : q_V → q_H → q_Gr → Prop), q_call (d' + 1) 60 [.inl (f s)] v1 G Q' = Q' (.inl (if lIs (f s) then 1 else 0)) v1 G := fun d' Q' => c_lIs (by omega)
      have ef : ∀ (d' : Nat) (Q' : q_V → q_H → q_Gr → Prop), q_call (d' + 1) 61 [.inl (f s)] v1 G Q' = Q' (.inl (if fIs (f s) then 1 else 0)) v1 G := fun d' Q' => c_fIs (by omega)
      by_cases c2 : lIs (f s) = true
      · rw [if_pos c2] at tks tes el
        have sn : srch (fun k => !lIs (f k)) (N - s) s = srch (fun k => !lIs (f k)) (N - (s + 1)) (s + 1) := by
          rw [show N - s = N - (s + 1) + 1 by omega]
          exact srch_n (by simpa using c2)
        rw [sn] at tes
        have key : q_call (d + 3) 57 [.inr (.inr (.inl (some 36)))] (q_up v1 36 4 1) G (fun r v' G' => q_wp (d + 3) 56 95 [.inr (.inr (.inl (some 36))), .inl s] (q_push r []) v' G' Q) := by
          have nx := s_name (d := d) (Q := fun r v' G' => q_wp (d + 3) 56 95 [.inr (.inr (.inl (some 36))), .inl s] (q_push r []) v' G' Q) (v0 := q_up v1 36 4 1) hG (tpC'_fr (u_n (by omega)) (u_r (by omega)) ht) (N - (s + 1)) (s + 1) (q_up v1 36 4 1) (by omega) (fun _ _ => rfl) (fun _ _ => rfl) (by rw [u_n (by omega), w6]) (fun v' g1 g2 g3 => by
            have fin := hQ v' (fun b hb => by rw [g1 b hb, u_r hb, f1 b hb]) (fun j hj => by rw [g2 j (by omega), u_n (by omega), f1q j (by omega) (by omega)]) ⟨by rw [g2 4 (by omega), u_s rfl rfl, tks], by rw [g2 5 (by omega), u_n (by omega), w5], by rw [g3, tes], fun e => by rw [tks] at e; omega⟩
            simp only [e_56_95, e_56_135, q_push_I, q_push_L, q_push_P, q_push_U]
            exact fin)
          simp only [e_57, SHC hG]
          exact ⟨True.intro, nx⟩
        simp (disch := omega) only [e_56_39, e_56_40, e_56_41, e_56_44, e_56_45, e_56_46, e_56_47, e_56_48, e_56_51, e_56_52, e_56_53, e_56_56, e_56_75, e_56_76, e_56_77, e_56_80, e_56_83, e_56_86, e_56_87, e_56_88, e_56_91, e_56_92, SHC hG, hv1, w1, eb, el, ↓if_neg, ↓if_pos, q_push_I, q_push_L, q_push_P, q_push_U]
        repeat' first | (refine And.intro ?_ ?_) | exact True.intro | omega | assumption | rfl
      · rw [if_neg c2] at tks tes el
        by_cases c3 : fIs (f s) = true
        · rw [if_pos c3] at tks tes ef
          have key : q_call (d + 3) 58 [.inr (.inr (.inl (some 36)))] v1 G (fun r v' G' => q_wp (d + 3) 56 113 [.inr (.inr (.inl (some 36))), .inl s] (q_push r []) v' G' Q) := by
            have nx := s_figs (d := d) (Q := fun r v' G' => q_wp (d + 3) 56 113 [.inr (.inr (.inl (some 36))), .inl s] (q_push r []) v' G' Q) (v0 := v1) hG ht w5 (N - s) s (q_up (q_up v1 36 6 (s : Int)) 36 7 0) (by omega) (Nat.le_refl _) (fun b hb => by rw [u_r hb, u_r hb]) (fun j j1 j2 j3 => by rw [u_n (by omega), u_n (by omega)]) (by rw [u_n (by omega), u_s rfl rfl]) (fun _ => by rw [u_s rfl rfl, Nat.sub_self]; rfl) (fun v' g1 g2 g3 g4 g5 => by
              rw [← tes] at g3 g4 g5
              have fin := hQ v' (fun b hb => by rw [g1 b hb, f1 b hb]) (fun j hj => by rw [g2 j (by omega) (by omega) (by omega), f1q j (by omega) (by omega)]) ⟨by rw [g4, tks], by rw [g2 5 (by omega) (by omega) (by omega), w5], g3, fun e => by
                rw [tks] at e
                split at e
                · next c4 => rw [g5 c4, tvs]
                · omega⟩
              simp only [e_56_113, e_56_135, q_push_I, q_push_L, q_push_P, q_push_U]
              exact fin)
            simp (disch := omega) only [e_58, e_58_0, e_58_1, e_58_2, e_58_5, e_58_8, e_58_9, e_58_10, SHC hG, w5, u_n]
            repeat' first | (refine And.intro ?_ ?_) | exact True.intro | omega | assumption | rfl
          simp (disch := omega) only [e_56_39, e_56_40, e_56_41, e_56_44, e_56_45, e_56_46, e_56_47, e_56_48, e_56_51, e_56_52, e_56_53, e_56_56, e_56_75, e_56_76, e_56_77, e_56_80, e_56_83, e_56_98, e_56_99, e_56_100, e_56_103, e_56_106, e_56_109, e_56_110, SHC hG, hv1, w1, eb, el, ef, ↓if_neg, ↓if_pos, q_push_I, q_push_L, q_push_P, q_push_U]
          repeat' first | (refine And.intro ?_ ?_) | exact True.intro | omega | assumption | rfl
        · rw [if_neg c3] at tks tes ef
          by_cases c4 : f s = 59
          · rw [if_pos c4] at tks
            have fin := hQ (q_up v1 36 4 3) (fun b hb => by rw [u_r hb, f1 b hb]) (fun j hj => by rw [u_n (by omega), f1q j (by omega) (by omega)]) ⟨by rw [u_s rfl rfl, tks], by rw [u_n (by omega), w5], by rw [u_n (by omega), w6, tes], fun e => by rw [tks] at e; omega⟩
            simp (disch := omega) only [e_56_39, e_56_40, e_56_41, e_56_44, e_56_45, e_56_46, e_56_47, e_56_48, e_56_51, e_56_52, e_56_53, e_56_56, e_56_75, e_56_76, e_56_77, e_56_80, e_56_83, e_56_98, e_56_99, e_56_100, e_56_103, e_56_106, e_56_116, e_56_117, e_56_118, e_56_119, e_56_122, e_56_124, e_56_127, e_56_128, e_56_131, e_56_132, e_56_135, SHC hG, hv1, w1, eb, el, ef, ↓if_neg, ↓if_pos, q_push_I, q_push_L, q_push_P, q_push_U]
            repeat' first | exact fin | (refine And.intro ?_ ?_) | exact True.intro | omega | rfl
          · rw [if_neg c4] at tks
            have fin := hQ (q_up v1 36 4 4) (fun b hb => by rw [u_r hb, f1 b hb]) (fun j hj => by rw [u_n (by omega), f1q j (by omega) (by omega)]) ⟨by rw [u_s rfl rfl, tks], by rw [u_n (by omega), w5], by rw [u_n (by omega), w6, tes], fun e => by rw [tks] at e; omega⟩
            simp (disch := omega) only [e_56_39, e_56_40, e_56_41, e_56_44, e_56_45, e_56_46, e_56_47, e_56_48, e_56_51, e_56_52, e_56_53, e_56_56, e_56_75, e_56_76, e_56_77, e_56_80, e_56_83, e_56_98, e_56_99, e_56_100, e_56_103, e_56_106, e_56_116, e_56_117, e_56_118, e_56_119, e_56_122, e_56_124, e_56_127, e_56_128, e_56_131, e_56_132, e_56_135, SHC hG, hv1, w1, eb, el, ef, ↓if_neg, ↓if_pos, q_push_I, q_push_L, q_push_P, q_push_U]
            repeat' first | exact fin | (refine And.intro ?_ ?_) | exact True.intro | omega | rfl)
  simp (disch := omega) only [e_56, e_56_0, e_56_1, e_56_4, SHC hG, h6]
  repeat' first | (refine And.intro ?_ ?_) | exact True.intro | omega | assumption | rfl
end
