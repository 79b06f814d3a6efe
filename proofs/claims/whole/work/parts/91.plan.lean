section
variable {d q : Nat} {v : q_H} {G : q_Gr} {Q : q_V → q_H → q_Gr → Prop}
theorem s_cplan {f : Nat → Int} {N a0 : Nat} {v0 : q_H} {G0 : q_Gr} (hG0 : gok G0) (hC : csI v0) (hT : tpC' v0 f N) (hr : G0.2.2.1 + 12 ≤ 600000 ∧ G0.2.2.2 + 72 ≤ 7302250) : ∀ (n c i : Nat) (l : List (Int × List Int)) (v : q_H) (G : q_Gr) (z3 : q_V), N < n + c → i ≤ c → c ≤ N → a0 + l.length ≤ 12 → plI v0 G0 v G a0 l → v 36 9 = 0 → tokC v f N c →
    (∀ v' G' (a' i' : Int) l' z (ft : Int) (pl : Nat), rdAll f N n c (a0 + l.length) l = .inl (ft, pl) → plI v0 G0 v' G' a0 l' → a0 + l'.length ≤ 12 → v' 36 9 = ft → v' 36 5 = (pl : Int) → 1 ≤ ft → ft ≤ 3 → q_wp (d + 8) 50 80 [.inr (.inr (.inl (some 36))), .inl (a'), .inl (i'), z] [] v' G' Q) →
    (∀ v' G' (i' : Int) l' z, rdAll f N n c (a0 + l.length) l = .inr l' → plI v0 G0 v' G' a0 l' → a0 + l'.length ≤ 12 → v' 36 9 = 0 → q_wp (d + 8) 50 80 [.inr (.inr (.inl (some 36))), .inl ((a0 + l'.length : Nat)), .inl (i'), z] [] v' G' Q) →
    q_wp (d + 8) 50 21 [.inr (.inr (.inl (some 36))), .inl ((a0 + l.length : Nat)), .inl i, z3] [] v G Q := by
  have h142 := hG0.2.2.2.2
  have h200 := hT.1
  intro n
  induction n with
  | zero =>
    intro c i l v G z3 h1 _ h3
    omega
  | succ n ih =>
    intro c i l v G z3 h1 h2 hc hl pI h9 tk hD hS
    have hG := pI.1
    have kr := tkK_rng f N c
    have te := tkE_ok (f := f) hc
    have t1 := tk.1
    by_cases c0 : tkK f N c = 0
    · have fin := hS v G i l z3 (rdAll_0 c0) pI hl h9
      rw [c0] at t1
      clear hD hS ih
      rw [e_50_21]
      by_cases ci : i < 200
      · simp (disch := omega) only [e_50_22, e_50_25, e_50_28, e_50_29, e_50_32, SHC hG, t1, ↓if_pos, ↓if_neg]
        repeat' first | (refine And.intro ?_ ?_) | exact True.intro | omega | assumption | rfl
      · simp (disch := omega) only [e_50_22, e_50_25, e_50_28, e_50_29, e_50_32, SHC hG, t1, ↓if_pos, ↓if_neg]
        repeat' first | (refine And.intro ?_ ?_) | exact True.intro | omega | assumption | rfl
    · have t2 := te.2.2.1 c0
      have hT' : tpC' v f N := tpC'_fr (v := v0) (pI.2.2.1 1 (by omega) (by omega)) (pI.2.1 37 (by omega) (by omega) (by omega)) hT
      have hC' : csI v := csI_cg (fun b hb => pI.2.1 b (by omega) (by omega) (by omega)) hC
      have g3 := pI.2.2.2.1
      have g4 := pI.2.2.2.2.1
      have key : q_call (d + 8) 51 [.inr (.inr (.inl (some 36))), .inl ((a0 + l.length : Nat))] v G (fun r v' G' => q_wp (d + 8) 50 47 [.inr (.inr (.inl (some 36))), .inl ((a0 + l.length : Nat)), .inl i, z3] (q_push r []) v' G' Q) := by
        refine c_ract hG hC' hT' hc (by omega) (fun hna => ⟨by omega, by omega⟩) h9 tk (fun v' ft pl hr' p' x9 x5 w1 w2 w4 => ?_) (fun v' x hr' f1 f2 x9 xN tk' hrow => ?_)
        · have fin : ∀ z, q_wp (d + 8) 50 80 [.inr (.inr (.inl (some 36))), .inl ((a0 + l.length : Nat)), .inl ((i : Int) + 1), z] [] v' G Q := fun z => hD v' G (a0 + l.length : Nat) (i + 1) l z ft pl (rdAll_e c0 hr') (plI_pfr h142 p' pI) hl x9 x5 w1 w2
          clear hD hS ih
          have nx : q_wp (d + 8) 50 21 [.inr (.inr (.inl (some 36))), .inl ((a0 + l.length : Nat)), .inl ((i : Int) + 1), .inr (.inr (.inl none))] [] v' G Q := by
            have fin := fin (.inr (.inr (.inl none)))
            rw [e_50_21]
            by_cases ci : i + 1 < 200
            · by_cases ck : v' 36 4 = 0
              · simp (disch := omega) only [e_50_22, e_50_25, e_50_28, e_50_29, e_50_32, e_50_35, e_50_36, e_50_39, SHC hG, ↓if_pos, ↓if_neg]
                repeat' first | (refine And.intro ?_ ?_) | exact True.intro | omega | assumption | rfl
              · simp (disch := omega) only [e_50_22, e_50_25, e_50_28, e_50_29, e_50_32, e_50_35, e_50_36, e_50_39, SHC hG, ↓if_pos, ↓if_neg]
                repeat' first | (refine And.intro ?_ ?_) | exact True.intro | omega | assumption | rfl
            · simp (disch := omega) only [e_50_22, e_50_25, e_50_28, e_50_29, e_50_32, e_50_35, e_50_36, e_50_39, SHC hG, ↓if_pos, ↓if_neg]
              repeat' first | (refine And.intro ?_ ?_) | exact True.intro | omega | assumption | rfl
          clear fin
          simp (disch := omega) only [e_50_47, e_50_48, e_50_49, e_50_52, e_50_74, e_50_77, SHC hG, ↓if_pos, ↓if_neg, q_push_I, q_push_L, q_push_P, q_push_U]
          repeat' first | (refine And.intro ?_ ?_) | exact True.intro | omega | assumption | rfl
        · have ok := rdA_ok hc hr'
          have na := ok.2.1
          have hG1 : gok (q_mk G 0 6) := gok_mk hG
          have aF : acF (v' (32 + G.2.2.1)) x.1 := by
            rw [hrow]
            exact actW_f
          have pI' := plI_x (a := a0 + l.length) h142 pI rfl ok.1 f1 f2 aF
          have hG2 := pI'.1
          have hl' : (l ++ [x.1]).length = l.length + 1 := by rw [List.length_append]; rfl
          have nx := ih x.2 (i + 1) (l ++ [x.1]) v' _ (.inr (.inr (.inl (some (32 + G.2.2.1))))) (by omega) (by omega) ok.2.2.2 (by omega) pI' x9 tk' (fun v'' G'' a' i' l' z ft pl hr => hD v'' G'' a' i' l' z ft pl (by rw [rdAll_x c0 hr', ← hr, hl']; rfl)) (fun v'' G'' i' l' z hr => hS v'' G'' i' l' z (by rw [rdAll_x c0 hr', ← hr, hl']; rfl))
          rw [hl'] at nx
          have gn : (q_mk G 0 6).2.1 (32 + G.2.2.1) = (0, 6) := mk_2n
          clear hD hS ih pI pI' hrow
          have ew : ∀ (d' : Nat) (Q' : q_V → q_H → q_Gr → Prop), q_call (d' + 1) 144 [.inl ((a0 + l.length : Nat)), .inl 12] v' (q_mk G 0 6) Q' = Q' (.inl 1) v' (q_mk G 0 6) := fun d' Q' => by
            rw [c_within (by omega) (by omega) (by omega) (by omega), if_pos (by omega)]
          simp (disch := omega) only [e_50_47, e_50_48, e_50_49, e_50_52, e_50_55, e_50_56, e_50_58, e_50_61, e_50_64, e_50_65, e_50_68, e_50_69, e_50_70, e_50_71, e_50_74, e_50_77, SHC hG1, x9, ew, gn, ↓if_pos, ↓if_neg, q_push_I, q_push_L, q_push_P, q_push_U, Int.toNat_natCast, show ((a0 + l.length : Nat) : Int) + 1 = ((a0 + (l.length + 1) : Nat) : Int) by omega, show (i : Int) + 1 = ((i + 1 : Nat) : Int) by omega]
          repeat' first | (refine And.intro ?_ ?_) | exact True.intro | omega | assumption | rfl
      clear hD hS ih
      rw [e_50_21]
      simp (disch := omega) only [e_50_22, e_50_25, e_50_28, e_50_29, e_50_32, e_50_35, e_50_36, e_50_39, e_50_42, e_50_43, e_50_44, SHC hG, t1, h9, ↓if_pos, ↓if_neg]
      repeat' first | (refine And.intro ?_ ?_) | exact True.intro | omega | assumption | rfl
/-- plan of the class -/
theorem c_plan {f : Nat → Int} {N a0 : Nat} (hG : gok G) (hC : csI v) (hT : tpC' v f N) (h3 : v 36 3 = (a0 : Int)) (ha : a0 ≤ 12) (hr : G.2.2.1 + 12 ≤ 600000 ∧ G.2.2.2 + 72 ≤ 7302250)
  (hD : ∀ v' G' l' (ft : Int) (pl : Nat), rdAll f N 201 0 a0 [] = .inl (ft, pl) → plI v G v' G' a0 l' → a0 + l'.length ≤ 12 → 1 ≤ ft → ft ≤ 3 → Q (.inl (-1000100 - (pl : Int))) (q_up (q_up v' 36 1 0) 36 10 ft) G')
  (hS : ∀ v' G' l', rdAll f N 201 0 a0 [] = .inr l' → plI v G v' G' a0 l' → a0 + l'.length ≤ 12 → Q (.inl ((a0 + l'.length : Nat))) (q_up (q_up v' 36 1 0) 36 3 ((a0 + l'.length : Nat) : Int)) G') (hpl : ∀ ft pl, rdAll f N 201 0 a0 [] = .inl (ft, pl) → pl ≤ 200) : q_call (d + 10) 128 [.inr (.inr (.inl (some 32)))] v G Q := by
  have h142 := hG.2.2.2.2
  have h200 := hT.1
  have key : q_call (d + 9) 50 [.inr (.inr (.inl (some 36)))] v G (fun r v' G' => q_wp (d + 9) 128 7 [.inr (.inr (.inl (some 32))), .inr (.inr (.inr ()))] (q_push r []) v' G' Q) := by
    generalize hQ1 : (fun (r : q_V) (v' : q_H) (G' : q_Gr) => q_wp (d + 9) 128 7 [.inr (.inr (.inl (some 32))), .inr (.inr (.inr ()))] (q_push r []) v' G' Q) = Q1
    have hD1 : ∀ v' G' l' (ft : Int) (pl : Nat), rdAll f N 201 0 a0 [] = .inl (ft, pl) → plI v G v' G' a0 l' → a0 + l'.length ≤ 12 → 1 ≤ ft → ft ≤ 3 → Q1 (.inl ((pl : Int))) (q_up (q_up v' 36 1 0) 36 10 ft) G' := fun v' G' l' ft pl hrd pI hl g1 g2 => by
      have fin := hD v' G' l' ft pl hrd pI hl g1 g2
      have hp := hpl ft pl hrd
      have hG' := pI.1
      rw [← hQ1]
      clear hD hS hQ1
      simp (disch := omega) only [e_128_7, e_128_8, e_128_9, e_128_12, e_128_13, e_128_16, e_128_19, e_128_22, e_128_24, e_128_25, e_128_26, SHC hG', ↓if_pos, ↓if_neg, q_push_I, q_push_L, q_push_P, q_push_U]
      repeat' first | exact fin | (refine And.intro ?_ ?_) | exact True.intro | omega | rfl
    have hS1 : ∀ v' G' l', rdAll f N 201 0 a0 [] = .inr l' → plI v G v' G' a0 l' → a0 + l'.length ≤ 12 → Q1 (.inl (-1)) (q_up (q_up v' 36 1 0) 36 3 ((a0 + l'.length : Nat) : Int)) G' := fun v' G' l' hrd pI hl => by
      have fin := hS v' G' l' hrd pI hl
      have hG' := pI.1
      rw [← hQ1]
      clear hD hS hQ1
      have ea : ∀ (d' : Nat) (Q' : q_V → q_H → q_Gr → Prop), q_call (d' + 1) 46 [.inr (.inr (.inl (some 36)))] (q_up (q_up v' 36 1 0) 36 3 ((a0 + l'.length : Nat) : Int)) G' Q' = Q' (.inl ((a0 + l'.length : Nat))) (q_up (q_up v' 36 1 0) 36 3 ((a0 + l'.length : Nat) : Int)) G' := fun d' Q' => by
        refine q_call_eq ?_ Q'
        simp (disch := omega) only [E46, SHC hG', u_s]
        repeat' first | (refine And.intro ?_ ?_) | exact True.intro | omega | assumption | rfl
      simp (disch := omega) only [e_128_7, e_128_8, e_128_9, e_128_12, e_128_13, e_128_16, e_128_19, e_128_22, e_128_24, e_128_25, e_128_26, SHC hG', ea, ↓if_pos, ↓if_neg, q_push_I, q_push_L, q_push_P, q_push_U]
      repeat' first | exact fin | (refine And.intro ?_ ?_) | exact True.intro | omega | rfl
    clear hD hS hQ1
    have k2 : q_call (d + 8) 56 [.inr (.inr (.inl (some 36)))] (q_up (q_up v 36 9 0) 36 6 0) G (fun r v' G' => q_wp (d + 8) 50 19 [.inr (.inr (.inl (some 36))), .inl a0, .inr (.inr (.inr ())), .inr (.inr (.inr ()))] (q_push r []) v' G' Q1) := by
      have hT1 : tpC' (q_up (q_up v 36 9 0) 36 6 0) f N := tpC'_fr (v := v) (by rw [u_n (by omega), u_n (by omega)]) (by rw [u_r (by omega), u_r (by omega)]) hT
      refine c_ntok (c := 0) hG hT1 (by omega) (u_s rfl rfl) (fun v1 f1 f1q tk => ?_)
      have fq : ∀ j, ¬ (4 ≤ j ∧ j ≤ 7) → j ≠ 9 → v1 36 j = v 36 j := fun j j1 j2 => by rw [f1q j j1, u_n (by omega), u_n (by omega)]
      have fb : ∀ b, b ≠ 36 → v1 b = v b := fun b hb => by rw [f1 b hb, u_r hb, u_r hb]
      have pI : plI v G v1 G a0 [] := ⟨hG, fun b b1 _ _ => fb b b1, fq, rfl, rfl, fun _ _ => rfl, fun _ _ => rfl, fun k hk => absurd hk (Nat.not_lt_zero k)⟩
      have nx := s_cplan (d := d) (Q := Q1) (a0 := a0) (v0 := v) (G0 := G) hG hC hT hr 201 0 0 [] v1 G (.inr (.inr (.inr ()))) (by omega) (by omega) (by omega) ha pI (by rw [f1q 9 (by omega), u_n (by omega), u_s rfl rfl]) tk (fun v' G' a' i' l' z ft pl hrd pI' hl x9 x5 g1 g2 => by
        have fin := hD1 v' G' l' ft pl hrd pI' hl g1 g2
        have hp := hpl ft pl hrd
        have hG' := pI'.1
        have y9 : q_up v' 36 1 0 36 9 = ft := by rw [u_n (by omega), x9]
        have y5 : q_up (q_up v' 36 1 0) 36 10 ft 36 5 = (pl : Int) := by rw [u_n (by omega), u_n (by omega), x5]
        clear hD1 hS1
        simp (disch := omega) only [e_50_80, e_50_81, e_50_82, e_50_85, e_50_86, e_50_89, e_50_92, e_50_93, e_50_94, e_50_97, e_50_100, e_50_101, e_50_104, SHC hG', y9, y5, ↓if_pos, ↓if_neg]
        repeat' first | exact fin | (refine And.intro ?_ ?_) | exact True.intro | omega | rfl) (fun v' G' i' l' z hrd pI' hl x9 => by
        have fin := hS1 v' G' l' hrd pI' hl
        have hG' := pI'.1
        have y9 : q_up v' 36 1 0 36 9 = 0 := by rw [u_n (by omega), x9]
        clear hD1 hS1
        simp (disch := omega) only [e_50_80, e_50_81, e_50_82, e_50_85, e_50_86, e_50_89, e_50_105, e_50_106, e_50_107, e_50_110, e_50_111, SHC hG', y9, ↓if_pos, ↓if_neg]
        repeat' first | exact fin | (refine And.intro ?_ ?_) | exact True.intro | omega | rfl)
      have nx : q_wp (d + 8) 50 21 [.inr (.inr (.inl (some 36))), .inl ((a0 : Int)), .inl 0, .inr (.inr (.inr ()))] [] v1 G Q1 := nx
      clear hD1 hS1
      simp (disch := omega) only [e_50_19, e_50_20, q_push_I, q_push_L, q_push_P, q_push_U]
      repeat' first | (refine And.intro ?_ ?_) | exact True.intro | omega | assumption | rfl
    clear hD1 hS1
    simp (disch := omega) only [e_50, e_50_0, e_50_1, e_50_4, e_50_5, e_50_6, e_50_7, e_50_10, e_50_11, e_50_12, e_50_15, e_50_16, SHC hG, h3]
    repeat' first | (refine And.intro ?_ ?_) | exact True.intro | omega | assumption | rfl
  clear hD hS
  simp (disch := omega) only [e_128, e_128_0, e_128_1, e_128_4, SHC hG]
  repeat' first | (refine And.intro ?_ ?_) | exact True.intro | omega | assumption | rfl
end
