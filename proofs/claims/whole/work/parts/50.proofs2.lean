section
variable {d q : Nat} {v : q_H} {G : q_Gr} {Q : q_V → q_H → q_Gr → Prop}
theorem s_prob_no {p from' e : Nat} {z2 : q_V} (hG : gok G) (hp : G.2.1 p = (0, 6)) (h0 : 0 ≤ v p 0) (h6 : v p 0 ≤ 6) (hpr : ¬ (v p 0 = 4 ∨ v p 0 = 6)) {z3 z4 z5 : q_V} (hf : from' < 1000) (he : e < 1000) (hQ : Q (.inr (.inr (.inl (some 42)))) v G) : q_wp (d + 5) 66 172 [.inr (.inr (.inl (some 40))), .inr (.inr (.inl (some p))), z2, z3, z4, z5, .inl e, .inl (from')] [] v G Q := by
  have epr : ∀ (d' : Nat) (Q' : q_V → q_H → q_Gr → Prop), q_call (d' + 1) 3 [.inr (.inr (.inl (some p)))] v G Q' = Q' (.inl 0) v G := fun d' Q' => by
    rw [c_prob hp h0 h6, if_neg hpr]
  rw [e_66_172]
  by_cases c : from' < e
  · simp (disch := first | assumption | omega) only [E66, SHC hG, hp, epr, q_push_I, q_push_L, q_push_P, q_push_U, ↓if_neg, ↓if_pos]
    repeat' first | (refine And.intro ?_ ?_) | rfl | exact True.intro | assumption | omega
  · simp (disch := first | assumption | omega) only [E66, SHC hG, q_push_I, q_push_L, q_push_P, q_push_U, ↓if_neg, ↓if_pos]
    repeat' first | (refine And.intro ?_ ?_) | rfl | exact True.intro | assumption | omega
/-- what comes behind the first proof -/
theorem s_rest {p a b : Nat} {v0 : q_H} {z2 z7 : q_V} {w low high : Int} {n : Nat} {L : List Int} (hG : gok G) (hp : G.2.1 p = (0, 6)) (hp2 : 174 ≤ p) (hw : v0 p 0 = w) (hw0 : 0 ≤ w) (hw6 : w ≤ 6) (hlo : v0 p 3 = low) (hhi : v0 p 4 = high) (ha : a < 3) (hb : b < 3) (hB : tbI v0) (hn : (v0 141 a).toNat = n) (hl : 0 ≤ low) (hl2 : low ≤ 999) (hh : 4 ≤ w → low ≤ high ∧ high ≤ 999) (hf : ∀ b, b ≠ 41 → b ≠ 42 → b ≠ 43 → v b = v0 b) (hL : hasL v 42 1 43 L) (hL6 : L.length ≤ 64) (hQ : ∀ v', (∀ b, b ≠ 41 → b ≠ 42 → b ≠ 43 → v' b = v0 b) → hasL v' 42 1 43 (L ++ (if w = 5 then pfW v0 0 b low high else if w = 4 ∨ w = 6 then prb v0 a b (plm v0 a n (high + 1) - plm v0 a n low) (plm v0 a n low) else [])) → Q (.inr (.inr (.inl (some 42)))) v' G) : q_wp (d + 5) 66 146 [.inr (.inr (.inl (some 40))), .inr (.inr (.inl (some p))), z2, .inr (.inr (.inl (some (110 + 9 * a)))), .inr (.inr (.inl (some (110 + 9 * b)))), .inl ((plm v0 a n low + 1 : Nat)), .inl ((plm v0 a n (high + 1) + 1 : Nat)), z7] [] v G Q := by
  have ep : v p = v0 p := hf p (by omega) (by omega) (by omega)
  have hBv : tbI v := tbI_cg (fun b hb => hf b (by omega) (by omega) (by omega)) hB
  have hIa := tb_all hB a ha
  rw [hn] at hIa
  have h14 := hIa.1
  have p1 := (plm_sp (v := v0) (t := a) (n := n) (x := high + 1)).1
  have p2 := (plm_sp (v := v0) (t := a) (n := n) (x := low)).1
  have hL1 := hL.1
  by_cases c5 : w = 5
  · rw [if_pos c5] at hQ
    have hh := hh (by omega)
    have hIb := tb_all hBv b hb
    have eW : pfW v 0 b low high = pfW v0 0 b low high := pfW_cg (hf _ (by omega) (by omega) (by omega)) (hf _ (by omega) (by omega) (by omega)) (hf _ (by omega) (by omega) (by omega)) (hf _ (by omega) (by omega) (by omega))
    have pl := pfW_len (v := v) (w := 0) (t := b) (low := low) (high := high) (by have := hIb.1; omega)
    simp (disch := omega) only [e_66_146, e_66_147, e_66_150, e_66_151, e_66_154, e_66_155, e_66_157, e_66_158, e_66_161, e_66_162, e_66_165, hp, ep, hw, hlo, hhi, ↓if_neg]
    have nx : q_call (d + 5) 67 [.inr (.inr (.inl (some 40))), .inr (.inr (.inl (some (110 + 9 * b)))), .inl low, .inl high] v G (fun r v' G' => q_wp (d + 5) 66 168 [.inr (.inr (.inl (some 40))), .inr (.inr (.inl (some p))), z2, .inr (.inr (.inl (some (110 + 9 * a)))), .inr (.inr (.inl (some (110 + 9 * b)))), .inl ((plm v0 a n low + 1 : Nat)), .inl ((plm v0 a n (high + 1) + 1 : Nat)), z7] (q_push r []) v' G' Q) := c_trange hG hb hIb hl hh.1 hh.2 (by omega) (by omega) (fun v' h1 h2 => by
      have ep' : v' p = v0 p := by rw [h1 p (by omega) (by omega) (by omega), ep]
      have fin := hQ v' (fun b b1 b2 b3 => by rw [h1 b b1 b2 b3, hf b b1 b2 b3]) (by rw [← eW]; exact h2 L hL)
      simp only [e_66_168, e_66_170, q_push_I, q_push_L, q_push_P, q_push_U]
      exact s_prob_no hG hp (by rw [ep', hw]; exact hw0) (by rw [ep', hw]; exact hw6) (by rw [ep', hw]; omega) (by omega) (by omega) fin)
    repeat' first | (refine And.intro ?_ ?_) | rfl | exact True.intro | assumption | omega
  · rw [if_neg c5] at hQ
    simp (disch := omega) only [e_66_146, e_66_147, e_66_150, e_66_151, e_66_168, e_66_170, hp, ep, hw, ↓if_neg, ↓if_pos]
    by_cases c4 : w = 4 ∨ w = 6
    · rw [if_pos c4] at hQ
      have hh := hh (by omega)
      have pm := plm_mono (v := v0) (t := a) (n := n) (x := low) (y := high + 1) (by omega)
      have := s_prob_loop (d := d) (Q := Q) (z2 := z2) (z5 := .inl ((plm v0 a n low + 1 : Nat))) hG hp hp2 (by rw [hw]; exact c4) ha hb hB hn p1 (plm v0 a n (high + 1) - plm v0 a n low) (plm v0 a n low) v L (by omega) hf hL (by omega) hQ
      repeat' first | (refine And.intro ?_ ?_) | rfl | exact True.intro | assumption | omega
    · rw [if_neg c4, List.append_nil] at hQ
      have := s_prob_no (d := d) (v := v) (G := G) (Q := Q) (p := p) (from' := plm v0 a n low + 1) (e := plm v0 a n (high + 1) + 1) (z2 := z2) (z3 := .inr (.inr (.inl (some (110 + 9 * a))))) (z4 := .inr (.inr (.inl (some (110 + 9 * b))))) (z5 := .inl ((plm v0 a n low + 1 : Nat))) hG hp (by rw [ep, hw]; exact hw0) (by rw [ep, hw]; exact hw6) (by rw [ep, hw]; exact c4) (by omega) (by omega) (hQ v hf hL)
      repeat' first | (refine And.intro ?_ ?_) | rfl | exact True.intro | assumption | omega
/-- proofsOf -/
theorem c_proofs {p a b : Nat} {w low high hi : Int} (hG : gok G) (hB : tbI v) (hp : G.2.1 p = (0, 6)) (hp2 : 174 ≤ p) (hw : v p 0 = w) (hw0 : 0 ≤ w) (hw6 : w ≤ 6) (h1 : v p 1 = (a : Int)) (h2 : v p 2 = (b : Int)) (ha : a < 3) (hb : b < 3) (hlo : v p 3 = low) (hl : 0 ≤ low) (hl2 : low ≤ 999) (hhi : v p 4 = high) (hk : w = 2 → high = low ∧ v p 5 = hi ∧ 1 ≤ hi ∧ hi ≤ 14) (hh : w ≠ 2 → hi = high ∧ low ≤ high ∧ high ≤ 999) (hQ : ∀ v', (∀ b, b ≠ 41 → b ≠ 42 → b ≠ 43 → v' b = v b) → hasL v' 42 1 43 (allP v w a b low hi) → Q (.inr (.inr (.inl (some 42)))) v' G) : q_call (d + 6) 66 [.inr (.inr (.inl (some 40))), .inr (.inr (.inl (some p))), .inr (.inr (.inl (some 34)))] v G Q := by
  obtain ⟨ga0, ga⟩ := g_table hG a ha
  obtain ⟨gb0, gb⟩ := g_table hG b hb
  have hIa := tb_all hB a ha
  have hN := g_num42 hG
  have h14 := hIa.1
  have hsz := hIa.2.2.1
  have gr := ga.2.2.2.1
  have hh9 : 0 ≤ high ∧ high ≤ 999 ∧ low ≤ high := by
    by_cases c : w = 2
    · have := hk c
      omega
    · have := hh c
      omega
  have pm := plm_mono (v := v) (t := a) (n := (v 141 a).toNat) (x := low) (y := high + 1) (by omega)
  have p1 := (plm_sp (v := v) (t := a) (n := (v 141 a).toNat) (x := high + 1)).1
  have p2 := (plm_sp (v := v) (t := a) (n := (v 141 a).toNat) (x := low)).1
  have e1 : ∀ (d' : Nat) (Q' : q_V → q_H → q_Gr → Prop), q_call (d' + 3) 103 [.inr (.inr (.inl (some (110 + 9 * a)))), .inl low] v G Q' = Q' (.inl ((plm v a (v 141 a).toNat low + 1 : Nat))) v G := fun d' Q' => c_kff hG ha hIa hl (by omega)
  have e2 : ∀ (d' : Nat) (Q' : q_V → q_H → q_Gr → Prop), q_call (d' + 3) 103 [.inr (.inr (.inl (some (110 + 9 * a)))), .inl (high + 1)] v G Q' = Q' (.inl ((plm v a (v 141 a).toNat (high + 1) + 1 : Nat))) v G := fun d' Q' => c_kff hG ha hIa (by omega) (by omega)
  generalize hn : (v 141 a).toNat = n at *
  have hB0 : tbI (q_up v 42 1 0) := tbI_cg (fun b hb => u_r (by omega)) hB
  have hn0 : (q_up v 42 1 0 141 a).toNat = n := by rw [u_n (by omega), hn]
  have l1 := pfW_len (v := v) (w := if w < 3 then w else 0) (t := a) (low := low) (high := hi) (by omega)
  have rest := fun (v' : q_H) (z2 z7 : q_V) (hf : ∀ b, b ≠ 41 → b ≠ 42 → b ≠ 43 → v' b = v b) (hL : hasL v' 42 1 43 (pfW v (if w < 3 then w else 0) a low hi)) => s_rest (d := d) (Q := Q) (v0 := v) (z2 := z2) (z7 := z7) hG hp hp2 hw hw0 hw6 hlo hhi ha hb hB hn hl hl2 (fun c => (hh (by omega)).2) hf hL l1 (fun v'' g1 g2 => hQ v'' g1 (by
    unfold allP
    by_cases c : w = 2
    · rw [if_neg (show ¬ w = 5 by omega), if_neg (show ¬ (w = 4 ∨ w = 6) by omega)] at *
      exact g2
    · rw [hn, (hh c).1] at *
      exact g2))
  generalize hx : plm v a n low = x at *
  generalize hy : plm v a n (high + 1) = y at *
  by_cases c1 : w = 1
  · subst c1
    have hq := hh (by decide)
    rw [hq.1, if_pos (by decide)] at rest
    rw [hq.1, if_pos (by decide)] at l1
    have eW : pfW v 1 a low high = ((n + 2 : Nat) : Int) :: tl (v (110 + 9 * a + 2)) (v (110 + 9 * a + 3)) (pfS 1 x (y + 1)) 0 (n + 2) := by
      unfold pfW pfY
      rw [if_neg (by decide), hn, hx, hy]
    rw [eW] at rest l1
    rw [List.length_cons] at l1
    generalize hA : q_fl1 (q_fl1 (q_fl1 (q_up v 42 1 0) 41 0 16 0) 41 x (min (x + 1 + 1) 16) 1) 41 y (min (y + 1 + 1) 16) 1 = A at *
    have hAr : ∀ b, b ≠ 41 → b ≠ 42 → A b = v b := fun b b1 b2 => by rw [← hA, fl_r b1, fl_r b1, fl_r b1, u_r b2]
    have hA42 : A 42 1 = 0 := by rw [← hA, fl_n (by omega), fl_n (by omega), fl_n (by omega), u_s rfl rfl]
    have hIA : tabI A (110 + 9 * a) a n := tabI_cg (fun b hb => hAr b (by omega) (by omega)) hIa
    have e3 : ∀ (d' : Nat) (Q' : q_V → q_H → q_Gr → Prop), q_call (d' + 1) 69 [.inr (.inr (.inl (some 40))), .inl (((x + 1 : Nat) : Int) - 1), .inl ((x + 1 : Nat))] (q_fl1 (q_up v 42 1 0) 41 0 16 0) G Q' = Q' (.inr (.inr (.inr ()))) (q_fl1 (q_fl1 (q_up v 42 1 0) 41 0 16 0) 41 x (min (x + 1 + 1) 16) 1) G := fun d' Q' => by rw [show ((x + 1 : Nat) : Int) - 1 = (x : Int) by omega, c_show hG (by omega) (by omega) (by omega)]
    have e4 : ∀ (d' : Nat) (Q' : q_V → q_H → q_Gr → Prop), q_call (d' + 1) 69 [.inr (.inr (.inl (some 40))), .inl (((y + 1 : Nat) : Int) - 1), .inl ((y + 1 : Nat))] (q_fl1 (q_fl1 (q_up v 42 1 0) 41 0 16 0) 41 x (min (x + 1 + 1) 16) 1) G Q' = Q' (.inr (.inr (.inr ()))) A G := fun d' Q' => by rw [show ((y + 1 : Nat) : Int) - 1 = (y : Int) by omega, c_show hG (by omega) (by omega) (by omega), hA]
    have e5 : ∀ (d' : Nat) (Q' : q_V → q_H → q_Gr → Prop), q_call (d' + 4) 70 [.inr (.inr (.inl (some 40))), .inr (.inr (.inl (some (110 + 9 * a))))] A G Q' = Q' (.inr (.inr (.inr ()))) (q_apl A 42 1 43 (((n + 2 : Nat) : Int) :: tl (v (110 + 9 * a + 2)) (v (110 + 9 * a + 3)) (pfS 1 x (y + 1)) 0 (n + 2))) G := fun d' Q' => by
      rw [c_tshown (S := pfS 1 x (y + 1)) hG ga (by omega) hIA (fun j hj => ?_) (by omega) (by rw [hA42, hAr _ (by omega) (by omega), hAr _ (by omega) (by omega)]; omega), hAr _ (by omega) (by omega), hAr _ (by omega) (by omega)]
      unfold pfS
      rw [← hA]
      by_cases c : y ≤ j ∧ j < min (y + 1 + 1) 16
      · rw [fl_i rfl c.1 c.2, if_pos (by simp; omega)]
      · by_cases c' : x ≤ j ∧ j < min (x + 1 + 1) 16
        · rw [fl_n (by omega), fl_i rfl c'.1 c'.2, if_pos (by simp; omega)]
        · rw [fl_n (by omega), fl_n (by omega), fl_i rfl (by omega) hj, if_neg (by simp; omega)]
    have fin := rest (q_apl A 42 1 43 (((n + 2 : Nat) : Int) :: tl (v (110 + 9 * a + 2)) (v (110 + 9 * a + 3)) (pfS 1 x (y + 1)) 0 (n + 2))) (.inr (.inr (.inl (some 34)))) (.inr (.inr (.inr ()))) (fun b b1 b2 b3 => by rw [apl_r b2 b3, hAr b b1 b2]) (by
      have := hasL_apl (q := 42) (f := 1) (i := 43) (ys := ((n + 2 : Nat) : Int) :: tl (v (110 + 9 * a + 2)) (v (110 + 9 * a + 3)) (pfS 1 x (y + 1)) 0 (n + 2)) (by decide) (hasL_0 hA42)
      exact this)
    simp (disch := first | assumption | omega) only [e_66, e_66_0, e_66_1, e_66_2, e_66_5, e_66_6, e_66_7, e_66_8, e_66_9, e_66_12, e_66_13, e_66_15, e_66_16, e_66_17, e_66_20, e_66_23, e_66_25, e_66_26, e_66_27, e_66_30, e_66_31, e_66_32, e_66_35, e_66_37, e_66_38, e_66_41, e_66_44, e_66_45, e_66_48, e_66_49, e_66_52, e_66_53, e_66_56, e_66_57, e_66_59, e_66_60, e_66_61, e_66_63, e_66_66, e_66_67, e_66_69, e_66_70, e_66_71, e_66_73, e_66_76, e_66_77, e_66_78, e_66_81, e_66_84, e_66_85, e_66_88, e_66_89, e_66_92, e_66_93, e_66_96, e_66_97, e_66_99, e_66_100, e_66_101, e_66_103, e_66_104, e_66_105, e_66_106, e_66_109, e_66_110, e_66_111, e_66_114, e_66_117, e_66_118, e_66_119, e_66_122, e_66_125, e_66_126, e_66_127, e_66_130, e_66_133, e_66_134, e_66_135, e_66_136, e_66_139, e_66_140, e_66_143, SHC hG, ga0, gb0, hp, hw, h1, h2, hlo, hhi, e1, e2, c_nclear, c_hide, e3, e4, e5, u_n, q_push_I, q_push_L, q_push_P, q_push_U, ↓if_neg, ↓if_pos, Int.toNat_natCast]
    repeat' first | (refine And.intro ?_ ?_) | rfl | exact True.intro | assumption | omega
  · by_cases c2 : w = 2
    · subst c2
      have hq := hk rfl
      rw [if_pos (by decide)] at rest l1
      obtain ⟨k, hk'⟩ : ∃ k : Nat, hi = (k : Int) := ⟨hi.toNat, by omega⟩
      have eW : pfW v 2 a low hi = ((n + 2 : Nat) : Int) :: tl (v (110 + 9 * a + 2)) (v (110 + 9 * a + 3)) (pfS 2 x (min (x + k) (n + 1))) 0 (n + 2) := by
        unfold pfW pfY
        rw [if_pos rfl, hn, hx, hk', Int.toNat_natCast]
        congr 1
        refine tl_cg (n + 2) 0 (n + 2) (Nat.le_refl _) (by omega) (fun j g1 g2 => ⟨rfl, rfl, ?_⟩)
        unfold pfS
        apply decide_eq_decide.mpr
        omega
      rw [eW] at rest l1
      rw [List.length_cons] at l1
      generalize hA : q_fl1 (q_fl1 (q_up v 42 1 0) 41 0 16 0) 41 x (min (min (x + k) (n + 1) + 1) 16) 1 = A at *
      have hAr : ∀ b, b ≠ 41 → b ≠ 42 → A b = v b := fun b b1 b2 => by rw [← hA, fl_r b1, fl_r b1, u_r b2]
      have hA42 : A 42 1 = 0 := by rw [← hA, fl_n (by omega), fl_n (by omega), u_s rfl rfl]
      have hIA : tabI A (110 + 9 * a) a n := tabI_cg (fun b hb => hAr b (by omega) (by omega)) hIa
      have e3 : ∀ (d' : Nat) (Q' : q_V → q_H → q_Gr → Prop), q_call (d' + 1) 69 [.inr (.inr (.inl (some 40))), .inl (((x + 1 : Nat) : Int) - 1), .inl (if (n : Int) + 2 - 1 < ((x + 1 : Nat) : Int) - 1 + hi then (n : Int) + 2 - 1 else ((x + 1 : Nat) : Int) - 1 + hi)] (q_fl1 (q_up v 42 1 0) 41 0 16 0) G Q' = Q' (.inr (.inr (.inr ()))) A G := fun d' Q' => by
        rw [show ((x + 1 : Nat) : Int) - 1 = (x : Int) by omega, show (if (n : Int) + 2 - 1 < (x : Int) + hi then (n : Int) + 2 - 1 else (x : Int) + hi) = ((min (x + k) (n + 1) : Nat) : Int) by split <;> omega, c_show hG (by omega) (by omega) (by omega), hA]
      have e5 : ∀ (d' : Nat) (Q' : q_V → q_H → q_Gr → Prop), q_call (d' + 4) 70 [.inr (.inr (.inl (some 40))), .inr (.inr (.inl (some (110 + 9 * a))))] A G Q' = Q' (.inr (.inr (.inr ()))) (q_apl A 42 1 43 (((n + 2 : Nat) : Int) :: tl (v (110 + 9 * a + 2)) (v (110 + 9 * a + 3)) (pfS 2 x (min (x + k) (n + 1))) 0 (n + 2))) G := fun d' Q' => by
        rw [c_tshown (S := pfS 2 x (min (x + k) (n + 1))) hG ga (by omega) hIA (fun j hj => ?_) (by omega) (by rw [hA42, hAr _ (by omega) (by omega), hAr _ (by omega) (by omega)]; omega), hAr _ (by omega) (by omega), hAr _ (by omega) (by omega)]
        unfold pfS
        rw [← hA]
        by_cases c : x ≤ j ∧ j < min (min (x + k) (n + 1) + 1) 16
        · rw [fl_i rfl c.1 c.2, if_pos (by simp; omega)]
        · rw [fl_n (by omega), fl_i rfl (by omega) hj, if_neg (by simp; omega)]
      have fin := rest (q_apl A 42 1 43 (((n + 2 : Nat) : Int) :: tl (v (110 + 9 * a + 2)) (v (110 + 9 * a + 3)) (pfS 2 x (min (x + k) (n + 1))) 0 (n + 2))) (.inr (.inr (.inl (some 34)))) (.inr (.inr (.inr ()))) (fun b b1 b2 b3 => by rw [apl_r b2 b3, hAr b b1 b2]) (by
        have := hasL_apl (q := 42) (f := 1) (i := 43) (ys := ((n + 2 : Nat) : Int) :: tl (v (110 + 9 * a + 2)) (v (110 + 9 * a + 3)) (pfS 2 x (min (x + k) (n + 1))) 0 (n + 2)) (by decide) (hasL_0 hA42)
        exact this)
      have hk5 := hq.2.1
      simp (disch := first | assumption | omega) only [e_66, e_66_0, e_66_1, e_66_2, e_66_5, e_66_6, e_66_7, e_66_8, e_66_9, e_66_12, e_66_13, e_66_15, e_66_16, e_66_17, e_66_20, e_66_23, e_66_25, e_66_26, e_66_27, e_66_30, e_66_31, e_66_32, e_66_35, e_66_37, e_66_38, e_66_41, e_66_44, e_66_45, e_66_48, e_66_49, e_66_52, e_66_53, e_66_56, e_66_57, e_66_59, e_66_60, e_66_61, e_66_63, e_66_66, e_66_67, e_66_69, e_66_70, e_66_71, e_66_73, e_66_76, e_66_77, e_66_78, e_66_81, e_66_84, e_66_85, e_66_88, e_66_89, e_66_92, e_66_93, e_66_96, e_66_97, e_66_99, e_66_100, e_66_101, e_66_103, e_66_104, e_66_105, e_66_106, e_66_109, e_66_110, e_66_111, e_66_114, e_66_117, e_66_118, e_66_119, e_66_122, e_66_125, e_66_126, e_66_127, e_66_130, e_66_133, e_66_134, e_66_135, e_66_136, e_66_139, e_66_140, e_66_143, SHC hG, ga0, gb0, ga.1, hp, hw, h1, h2, hlo, hhi, hk5, hsz, e1, e2, c_nclear, c_hide, c_tleaves, c_rsize, e3, e5, u_n, fl_n, q_push_I, q_push_L, q_push_P, q_push_U, ↓if_neg, ↓if_pos, Int.toNat_natCast]
      repeat' first | (refine And.intro ?_ ?_) | rfl | exact True.intro | assumption | omega
    · have hq := hh c2
      have ew : (if w < 3 then w else 0) = 0 := by split <;> omega
      rw [hq.1, ew] at rest l1
      have hI0 := tb_all hB0 a ha
      have eW : pfW (q_up v 42 1 0) 0 a low high = pfW v 0 a low high := pfW_cg (u_r (by omega)) (u_r (by omega)) (u_r (by omega)) (u_r (by omega))
      have nx : q_call (d + 5) 67 [.inr (.inr (.inl (some 40))), .inr (.inr (.inl (some (110 + 9 * a)))), .inl low, .inl high] (q_up v 42 1 0) G (fun r v' G' => q_wp (d + 5) 66 146 [.inr (.inr (.inl (some 40))), .inr (.inr (.inl (some p))), .inr (.inr (.inl (some 34))), .inr (.inr (.inl (some (110 + 9 * a)))), .inr (.inr (.inl (some (110 + 9 * b)))), .inl ((x + 1 : Nat)), .inl ((y + 1 : Nat)), .inr (.inr (.inr ()))] (q_push r []) v' G' Q) := c_trange hG ha hI0 hl hh9.2.2 hh9.2.1 (by rw [u_s rfl rfl]; decide) (by rw [u_s rfl rfl, eW]; omega) (fun v' g1 g2 => by
        simp only [q_push_I, q_push_L, q_push_P, q_push_U]
        have g3 := g2 [] (hasL_0 (u_s rfl rfl))
        rw [eW, List.nil_append] at g3
        exact rest v' _ _ (fun b b1 b2 b3 => by rw [g1 b b1 b2 b3, u_r b2]) g3)
      simp (disch := first | assumption | omega) only [e_66, e_66_0, e_66_1, e_66_2, e_66_5, e_66_6, e_66_7, e_66_8, e_66_9, e_66_12, e_66_13, e_66_15, e_66_16, e_66_17, e_66_20, e_66_23, e_66_25, e_66_26, e_66_27, e_66_30, e_66_31, e_66_32, e_66_35, e_66_37, e_66_38, e_66_41, e_66_44, e_66_45, e_66_48, e_66_49, e_66_52, e_66_53, e_66_56, e_66_57, e_66_59, e_66_60, e_66_61, e_66_63, e_66_66, e_66_67, e_66_69, e_66_70, e_66_71, e_66_73, e_66_76, e_66_77, e_66_78, e_66_81, e_66_84, e_66_85, e_66_88, e_66_89, e_66_92, e_66_93, e_66_96, e_66_97, e_66_99, e_66_100, e_66_101, e_66_103, e_66_104, e_66_105, e_66_106, e_66_109, e_66_110, e_66_111, e_66_114, e_66_117, e_66_118, e_66_119, e_66_122, e_66_125, e_66_126, e_66_127, e_66_130, e_66_133, e_66_134, e_66_135, e_66_136, e_66_139, e_66_140, e_66_143, SHC hG, ga0, gb0, hp, hw, h1, h2, hlo, hhi, e1, e2, c_nclear, u_n, q_push_I, q_push_L, q_push_P, q_push_U, ↓if_neg, ↓if_pos, Int.toNat_natCast]
      repeat' first | (refine And.intro ?_ ?_) | rfl | exact True.intro | assumption | omega
end
