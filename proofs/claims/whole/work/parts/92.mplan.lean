theorem rdN_pl {f : Nat → Int} {N : Nat} {w : Int} : ∀ (m k c : Nat) (ns : List Int) (e : Int × Nat), c ≤ N → rdN f N w m k c ns = .inl e → e.2 ≤ N := by
  intro m
  induction m with
  | zero =>
    intro k c ns e hc h
    have te := tkS_ok (f := f) hc
    unfold rdN at h
    by_cases c3 : tkK f N c = 3
    · rw [if_pos c3] at h
      cases h
    · rw [if_neg c3] at h
      cases h
      exact te.2
  | succ m ih =>
    intro k c ns e hc h
    have te := tkE_ok (f := f) hc
    have ts := tkS_ok (f := f) hc
    unfold rdN at h
    by_cases c2 : tkK f N c = 2
    · rw [if_pos c2] at h
      by_cases ci : blo w k (ns.getD (k - 1) 0) ≤ tkV f N c ∧ tkV f N c ≤ bhi w k
      · rw [if_pos ci] at h
        exact ih _ _ _ _ te.2.1 h
      · rw [if_neg ci] at h
        cases h
        exact ts.2
    · rw [if_neg c2] at h
      cases h
      exact ts.2
theorem rdA_pl {f : Nat → Int} {N c : Nat} {na : Int} {e : Int × Nat} (hc : c ≤ N) (h : rdA f N c na = .inl e) : e.2 ≤ N := by
  have te := tkE_ok (f := f) hc
  have ts := tkS_ok (f := f) hc
  unfold rdA at h
  by_cases cw : wdA f N c < 0
  · rw [if_pos cw] at h
    cases h
    exact ts.2
  · rw [if_neg cw] at h
    by_cases c12 : 12 ≤ na
    · rw [if_pos c12] at h
      cases h
      exact ts.2
    · rw [if_neg c12] at h
      generalize hr : rdN f N (wdA f N c) (nOf (wdA f N c)) 0 (tkE f N c) [] = y at h
      cases y with
      | inl e' =>
        cases h
        exact rdN_pl _ _ _ _ _ te.2.1 hr
      | inr r => cases h
theorem rdAll_pl {f : Nat → Int} {N : Nat} : ∀ (n c a : Nat) (l : List (Int × List Int)) (e : Int × Nat), c ≤ N → rdAll f N n c a l = .inl e → e.2 ≤ N := by
  intro n
  induction n with
  | zero =>
    intro c a l e hc h
    unfold rdAll at h
    cases h
  | succ n ih =>
    intro c a l e hc h
    by_cases c0 : tkK f N c = 0
    · rw [rdAll_0 c0] at h
      cases h
    · generalize hr : rdA f N c a = y
      cases y with
      | inl e' =>
        rw [rdAll_e c0 hr] at h
        cases h
        exact rdA_pl hc hr
      | inr x =>
        rw [rdAll_x c0 hr] at h
        exact ih _ _ _ _ (rdA_ok hc hr).2.2.2 h
section
variable {d q : Nat} {v : q_H} {G : q_Gr} {Q : q_V → q_H → q_Gr → Prop}
theorem s_mplan {f : Nat → Int} {N a0 : Nat} {v0 : q_H} (hG : gok G) (hT : tpM v0 f N) : ∀ (n c : Nat) (l : List (Int × List Int)) (v : q_H), N < n + c → c ≤ N → a0 + l.length ≤ 12 → mpI v0 v a0 l → v 137 30 = 0 → v 137 21 = ((a0 + l.length : Nat) : Int) → tokM v f N c →
    (∀ v' l' (ft : Int) (pl : Nat), rdAll f N n c (a0 + l.length) l = .inl (ft, pl) → mpI v0 v' a0 l' → v' 137 30 = ft → v' 137 31 = (pl : Int) → 1 ≤ ft → ft ≤ 3 → q_wp (d + 5) 183 62 [.inr (.inr (.inl (some 137)))] [] v' G Q) →
    (∀ v' l', rdAll f N n c (a0 + l.length) l = .inr l' → mpI v0 v' a0 l' → a0 + l'.length ≤ 12 → v' 137 30 = 0 → v' 137 21 = ((a0 + l'.length : Nat) : Int) → q_wp (d + 5) 183 62 [.inr (.inr (.inl (some 137)))] [] v' G Q) →
    q_wp (d + 5) 183 40 [.inr (.inr (.inl (some 137)))] [] v G Q := by
  have h200 := hT.1
  intro n
  induction n with
  | zero =>
    intro c l v h1 h3
    omega
  | succ n ih =>
    intro c l v h1 hc hl pI h30 h21 tk hD hS
    have kr := tkK_rng f N c
    have te := tkE_ok (f := f) hc
    have t1 := tk.1
    by_cases c0 : tkK f N c = 0
    · have fin := hS v l (rdAll_0 c0) pI hl h30 h21
      have t1 : v 137 27 = 1 := by rw [t1, c0]; rfl
      clear hD hS ih
      rw [e_183_40]
      simp (disch := omega) only [e_183_41, e_183_44, e_183_47, e_183_48, e_183_51, e_183_52, SHM hG, t1, h30, ↓if_pos, ↓if_neg]
      repeat' first | (refine And.intro ?_ ?_) | exact True.intro | omega | assumption | rfl
    · have e27 : v 137 27 ≠ 1 ∧ 0 ≤ v 137 27 ∧ v 137 27 ≤ 5 := by
        rw [t1]
        unfold mkK
        split <;> omega
      have hT' : tpM v f N := tpM_fr (v := v0) (pI.2.1 25 (by omega) (by omega)) (pI.1 154 (by omega) (by omega)) hT
      have key : q_call (d + 5) 182 [.inr (.inr (.inl (some 137)))] v G (fun r v' G' => q_wp (d + 5) 183 59 [.inr (.inr (.inl (some 137)))] (q_push r []) v' G' Q) := by
        refine m_ract hG hT' hc h21 hl h30 tk (fun ft pl v' hr' g1 g2 p' x30 x31 => ?_) (fun v' x hr' p' x30 tk' xN => ?_)
        · have fin := hD v' l ft pl (rdAll_e c0 hr') (mpI_mwf p' pI) x30 x31 g1 g2
          clear hD hS ih
          have nx : q_wp (d + 5) 183 40 [.inr (.inr (.inl (some 137)))] [] v' G Q := by
            rw [e_183_40]
            simp (disch := omega) only [e_183_41, e_183_44, SHM hG, x30, ↓if_pos, ↓if_neg]
            repeat' first | (refine And.intro ?_ ?_) | exact True.intro | omega | assumption | rfl
          simp (disch := omega) only [e_183_59, q_push_I, q_push_L, q_push_P, q_push_U]
          repeat' first | (refine And.intro ?_ ?_) | exact True.intro | omega | assumption | rfl
        · have ok := rdA_ok hc hr'
          have na := ok.2.1
          have hl' : (l ++ [x.1]).length = l.length + 1 := by rw [List.length_append]; rfl
          have pI' := mpI_x (a := a0 + l.length) (x := x.1) (mpI_mwf p' pI) rfl
          have mf := mst_f (v := v') (a := a0 + l.length) (w := x.1.1) (x0 := acA x.1.2) (x1 := acB x.1.1 x.1.2) (x2 := acL x.1.1 x.1.2) (x3 := acH x.1.1 x.1.2)
          have nx := ih x.2 (l ++ [x.1]) _ (by omega) ok.2.2.2 (by omega) pI' (by rw [mst_n (by omega) (by omega), x30]) (by rw [mf.2.2.2.2.2, hl']; omega) (by
            unfold tokM
            rw [mst_n (by omega) (by omega), mst_n (by omega) (by omega), mst_n (by omega) (by omega), mst_n (by omega) (by omega)]
            exact tk') (fun v'' l' ft pl hr => hD v'' l' ft pl (by rw [rdAll_x c0 hr', ← hr, hl']; rfl)) (fun v'' l' hr => hS v'' l' (by rw [rdAll_x c0 hr', ← hr, hl']; rfl))
          clear hD hS ih
          simp (disch := omega) only [e_183_59, q_push_I, q_push_L, q_push_P, q_push_U]
          repeat' first | (refine And.intro ?_ ?_) | exact True.intro | omega | assumption | rfl
      clear hD hS ih
      rw [e_183_40]
      simp (disch := omega) only [e_183_41, e_183_44, e_183_47, e_183_48, e_183_51, e_183_52, e_183_55, e_183_56, SHM hG, h30, ↓if_pos, ↓if_neg]
      repeat' first | (refine And.intro ?_ ?_) | exact True.intro | omega | assumption | rfl
/-- the reference when a plan begins -/
def plS (v : q_H) (N a0 : Nat) : q_H := q_up (q_up (q_up (q_up (q_up (q_up v 137 0 0) 137 25 (N : Int)) 137 23 0) 137 26 0) 137 30 0) 137 21 (a0 : Int)
theorem plS_n {N a0 b j : Nat} (h : ¬ (b = 137 ∧ (j = 0 ∨ j = 25 ∨ j = 23 ∨ j = 26 ∨ j = 30 ∨ j = 21))) : plS v N a0 b j = v b j := by
  unfold plS
  rw [u_n (by omega), u_n (by omega), u_n (by omega), u_n (by omega), u_n (by omega), u_n (by omega)]
theorem plS_f {N a0 : Nat} : plS v N a0 137 25 = (N : Int) ∧ plS v N a0 137 23 = 0 ∧ plS v N a0 137 26 = 0 ∧ plS v N a0 137 30 = 0 ∧ plS v N a0 137 21 = (a0 : Int) := by
  unfold plS
  refine ⟨?_, ?_, ?_, ?_, ?_⟩ <;> simp (disch := omega) only [u_n, u_s]
theorem m_plan {f : Nat → Int} {N a0 : Nat} (hG : gok G) (hN : N ≤ 200) (h23 : v 137 23 = (N : Int)) (hT : ∀ k, k < N → v 154 k = f k ∧ 0 ≤ f k ∧ f k ≤ 255) (h15 : v 137 15 = (a0 : Int)) (ha : a0 ≤ 12)
  (hD : ∀ v' l' (ft : Int) (pl : Nat), rdAll f N 201 0 a0 [] = .inl (ft, pl) → mpI (plS v N a0) v' a0 l' → 1 ≤ ft → ft ≤ 3 → Q (.inl (-1000100 - (pl : Int))) (q_up v' 137 24 ft) G)
  (hS : ∀ v' l', rdAll f N 201 0 a0 [] = .inr l' → mpI (plS v N a0) v' a0 l' → a0 + l'.length ≤ 12 → Q (.inl ((a0 + l'.length : Nat))) (q_up v' 137 15 ((a0 + l'.length : Nat) : Int)) G) : q_call (d + 6) 183 [.inr (.inr (.inl (some 137)))] v G Q := by
  have pf := plS_f (v := v) (N := N) (a0 := a0)
  have hT1 : tpM (plS v N a0) f N := ⟨hN, pf.1, fun k hk => by rw [plS_n (by omega)]; exact hT k hk⟩
  have key : q_call (d + 5) 176 [.inr (.inr (.inl (some 137)))] (plS v N a0) G (fun r v' G' => q_wp (d + 5) 183 40 [.inr (.inr (.inl (some 137)))] (q_push r []) v' G' Q) := by
    refine m_step (c := 0) hG hT1 (by omega) pf.2.2.1 (fun v1 f1 f1q tk => ?_)
    have pI : mpI (plS v N a0) v1 a0 [] := ⟨fun b b1 _ => f1 b b1, fun j j1 j2 => f1q j (by omega), fun b j b1 b2 _ => by rw [f1 b (by omega)], fun k hk => absurd hk (Nat.not_lt_zero k)⟩
    have nx := s_mplan (d := d) (Q := Q) (a0 := a0) (v0 := plS v N a0) hG hT1 201 0 [] v1 (by omega) (by omega) ha pI (by rw [f1q 30 (by omega)]; exact pf.2.2.2.1) (by rw [f1q 21 (by omega)]; exact pf.2.2.2.2) tk (fun v' l' ft pl hrd pI' x30 x31 g1 g2 => by
      have fin := hD v' l' ft pl hrd pI' g1 g2
      have hp := rdAll_pl 201 0 a0 [] _ (by omega) hrd
      have hp : pl ≤ N := hp
      have y31 : q_up v' 137 24 ft 137 31 = (pl : Int) := by rw [u_n (by omega), x31]
      clear hD hS
      simp (disch := omega) only [e_183_62, e_183_63, e_183_66, e_183_69, e_183_70, e_183_71, e_183_74, e_183_77, e_183_80, e_183_81, e_183_84, e_183_85, SHM hG, x30, y31, ↓if_pos, ↓if_neg]
      repeat' first | exact fin | (refine And.intro ?_ ?_) | exact True.intro | omega | rfl) (fun v' l' hrd pI' hl x30 x21 => by
      have fin := hS v' l' hrd pI' hl
      clear hD hS
      simp (disch := omega) only [e_183_62, e_183_63, e_183_66, e_183_86, e_183_87, e_183_88, e_183_91, e_183_94, e_183_95, e_183_98, SHM hG, x30, x21, u_s, ↓if_pos, ↓if_neg]
      repeat' first | exact fin | (refine And.intro ?_ ?_) | exact True.intro | omega | rfl)
    clear hD hS
    simp only [q_push_I, q_push_L, q_push_P, q_push_U]
    exact nx
  clear hD hS
  unfold plS at key
  simp (disch := omega) only [e_183, e_183_0, e_183_1, e_183_2, e_183_5, e_183_6, e_183_7, e_183_10, e_183_13, e_183_14, e_183_15, e_183_18, e_183_19, e_183_20, e_183_23, e_183_24, e_183_25, e_183_28, e_183_29, e_183_30, e_183_33, e_183_36, e_183_37, SHM hG, h23, h15, u_n]
  repeat' first | (refine And.intro ?_ ?_) | exact True.intro | omega | assumption | rfl
end
