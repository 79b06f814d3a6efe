section
variable {d q : Nat} {v : q_H} {G : q_Gr} {Q : q_V → q_H → q_Gr → Prop}
theorem s_ans_rest {p b : Nat} {v0 : q_H} {z2 z3 z5 z6 : q_V} {w low high sum : Int} {RA : List (Int × Int)} {T : List Int} (hG : gok G) (hC : csI v0) (hB : tbI v0) (hb : b < 3) (hp : G.2.1 p = (0, 6)) (hp2 : 174 ≤ p) (hw : v0 p 0 = w) (hw0 : 0 ≤ w) (hw6 : w ≤ 6) (hlo : v0 p 3 = low) (hl : 0 ≤ low) (hl2 : low ≤ 999) (hhi : v0 p 4 = high) (hh : 4 ≤ w → low ≤ high ∧ high ≤ 999) (hf : ∀ b, b < 46 ∨ 51 < b → v b = v0 b) (hA : hasR v 46 RA) (lA : RA.length ≤ 16) (oA : rok RA) (hB0 : hasR v 49 []) (hT : ∀ RB, (w < 4 → RB = []) → (4 ≤ w → RB = gat v0 b (plm v0 b (v0 141 b).toNat (high + 1) - plm v0 b (v0 141 b).toNat low) (plm v0 b (v0 141 b).toNat low)) → ansL w RA RB sum = T) (hQ : ∀ v', (∀ b, b < 44 ∨ 51 < b → v' b = v0 b) → hasL v' 44 1 45 T → Q (.inr (.inr (.inl (some 44)))) v' G) : q_wp (d + 5) 73 137 [.inr (.inr (.inl (some 40))), .inr (.inr (.inl (some p))), z2, z3, .inr (.inr (.inl (some (110 + 9 * b)))), z5, z6, .inl sum] [] v G Q := by
  have hp' : (G.2.1 p).1 = 0 := by rw [hp]
  have vp := hf p (by omega)
  have w0 : v p 0 = w := by rw [vp, hw]
  have w3 : v p 3 = low := by rw [vp, hlo]
  have w4 : v p 4 = high := by rw [vp, hhi]
  have hC' : csI v := csI_cg (fun b hb => hf b (by omega)) hC
  have epr : ∀ (d' : Nat) (Q' : q_V → q_H → q_Gr → Prop), q_call (d' + 4) 4 [.inr (.inr (.inl (some p)))] v G Q' = Q' (.inl (isoI (kd w) 5)) v G := fun d' Q' => by rw [c_pair hG hC' hp (by omega) (by omega), w0]
  by_cases c4 : 4 ≤ w
  · have hp5 : isoI (kd w) 5 = 1 := by
      rcases (show w = 4 ∨ w = 5 ∨ w = 6 by omega) with e | e | e <;> subst e <;> decide
    rw [hp5] at epr
    have tB := tb_all hB b hb
    have tB' : tabI v (110 + 9 * b) b (v0 141 b).toNat := tabI_cg (fun b hb => hf b (by omega)) tB
    have h14 := tB.1
    have q1 := (plm_sp (v := v0) (t := b) (n := (v0 141 b).toNat) (x := high + 1)).1
    have mono := plm_mono (v := v0) (t := b) (n := (v0 141 b).toNat) (show low ≤ high + 1 by omega)
    have e142 : v 142 = v0 142 := hf _ (by omega)
    have k1 : ∀ (d' : Nat) (Q' : q_V → q_H → q_Gr → Prop), q_call (d' + 3) 103 [.inr (.inr (.inl (some (110 + 9 * b)))), .inl low] v G Q' = Q' (.inl ((plm v0 b (v0 141 b).toNat low + 1 : Nat))) v G := fun d' Q' => by rw [c_kff hG hb tB' hl (by omega), plm_cg e142]
    have k2 : ∀ (d' : Nat) (Q' : q_V → q_H → q_Gr → Prop), q_call (d' + 3) 103 [.inr (.inr (.inl (some (110 + 9 * b)))), .inl (high + 1)] v G Q' = Q' (.inl ((plm v0 b (v0 141 b).toNat (high + 1) + 1 : Nat))) v G := fun d' Q' => by rw [c_kff hG hb tB' (by omega) (by omega), plm_cg e142]
    have gr := gat_rok tB (plm v0 b (v0 141 b).toNat (high + 1) - plm v0 b (v0 141 b).toNat low) (plm v0 b (v0 141 b).toNat low) (by omega)
    have gl := gat_len v0 b (plm v0 b (v0 141 b).toNat (high + 1) - plm v0 b (v0 141 b).toNat low) (plm v0 b (v0 141 b).toNat low)
    have hT' := hT _ (fun h => by omega) (fun _ => rfl)
    generalize hF : plm v0 b (v0 141 b).toNat low = f at *
    generalize hE : plm v0 b (v0 141 b).toNat (high + 1) = e at *
    have key : q_call (d + 5) 74 [.inr (.inr (.inl (some 49))), .inr (.inr (.inl (some (110 + 9 * b + 1)))), .inl ((f + 1 : Nat)), .inl ((e + 1 : Nat))] v G (fun r v' G' => q_wp (d + 5) 73 176 [.inr (.inr (.inl (some 40))), .inr (.inr (.inl (some p))), z2, z3, .inr (.inr (.inl (some (110 + 9 * b)))), z5, z6, .inl sum] (q_push r []) v' G' Q) := c_gather (xs := []) (n := (v0 141 b).toNat) hG (g_row49 hG) (by decide) hb tB' (by omega) (by omega) hB0 (by show 0 + (e - f) ≤ 16; omega) (fun v1 f1 r1 => by
      have eg : gat v b (e - f) f = gat v0 b (e - f) f := gat_cg e142 (hf _ (by omega)) _ _
      rw [List.nil_append, eg] at r1
      have hA1 : hasR v1 46 RA := hasR_fr (f1 _ (by omega) (by omega) (by omega)) (f1 _ (by omega) (by omega) (by omega)) (f1 _ (by omega) (by omega) (by omega)) hA
      have k3 : q_call (d + 5) 5 [.inr (.inr (.inl (some p))), .inr (.inr (.inl (some 44))), .inr (.inr (.inl (some 46))), .inr (.inr (.inl (some 49))), .inl sum] v1 G (fun r v' G' => q_wp (d + 5) 73 194 [.inr (.inr (.inl (some 40))), .inr (.inr (.inl (some p))), z2, z3, .inr (.inr (.inl (some (110 + 9 * b)))), z5, z6, .inl sum] (q_push r []) v' G' Q) := c_into (d := d + 1) (w := w) hp hp2 (by rw [f1 p (by omega) (by omega) (by omega), w0]) hw0 hw6 (g_num44 hG) (by decide) (g_row46 hG) (g_row49 hG) (by omega) (by omega) hA1 r1 lA (by omega) oA gr (fun v2 f2 l2 => by
        rw [hT'] at l2
        have fin := hQ v2 (fun b hb => by rw [f2 b (by omega) (by omega), f1 b (by omega) (by omega) (by omega), hf b (by omega)]) l2
        simp only [E73, SHC hG, q_push_I, q_push_L, q_push_P, q_push_U]
        repeat' first | exact fin | (refine And.intro ?_ ?_) | exact True.intro | omega | rfl)
      simp only [e_73_176, e_73_177, e_73_178, e_73_181, e_73_182, e_73_185, e_73_186, e_73_189, e_73_191, SHC hG, q_push_I, q_push_L, q_push_P, q_push_U]
      repeat' first | (refine And.intro ?_ ?_) | exact True.intro | omega | assumption | rfl)
    have gt := (g_table hG b hb).2
    simp (disch := first | assumption | omega) only [e_73_137, e_73_138, e_73_141, e_73_144, e_73_145, e_73_148, e_73_150, e_73_153, e_73_155, e_73_156, e_73_159, e_73_162, e_73_164, e_73_165, e_73_168, e_73_169, e_73_170, e_73_173, SHC hG, hp', epr, c_tleaves, w3, w4, k1, k2, q_push_I, q_push_L, q_push_P, q_push_U, ↓if_neg]
    repeat' first | (refine And.intro ?_ ?_) | exact True.intro | omega | assumption | rfl
  · have hp5 : isoI (kd w) 5 = 0 := by
      rcases (show w = 0 ∨ w = 1 ∨ w = 2 ∨ w = 3 by omega) with e | e | e | e <;> subst e <;> decide
    rw [hp5] at epr
    have hT' := hT [] (fun _ => rfl) (fun h => by omega)
    have k3 : q_call (d + 5) 5 [.inr (.inr (.inl (some p))), .inr (.inr (.inl (some 44))), .inr (.inr (.inl (some 46))), .inr (.inr (.inl (some 49))), .inl sum] v G (fun r v' G' => q_wp (d + 5) 73 194 [.inr (.inr (.inl (some 40))), .inr (.inr (.inl (some p))), z2, z3, .inr (.inr (.inl (some (110 + 9 * b)))), z5, z6, .inl sum] (q_push r []) v' G' Q) := c_into (d := d + 1) (w := w) hp hp2 w0 hw0 hw6 (g_num44 hG) (by decide) (g_row46 hG) (g_row49 hG) (by omega) (by omega) hA hB0 lA (by decide) oA (fun k hk => absurd hk (Nat.not_lt_zero _)) (fun v2 f2 l2 => by
      rw [hT'] at l2
      have fin := hQ v2 (fun b hb => by rw [f2 b (by omega) (by omega), hf b (by omega)]) l2
      simp only [E73, SHC hG, q_push_I, q_push_L, q_push_P, q_push_U]
      repeat' first | exact fin | (refine And.intro ?_ ?_) | exact True.intro | omega | rfl)
    simp (disch := first | assumption | omega) only [e_73_137, e_73_138, e_73_141, e_73_176, e_73_177, e_73_178, e_73_181, e_73_182, e_73_185, e_73_186, e_73_189, e_73_191, SHC hG, epr, q_push_I, q_push_L, q_push_P, q_push_U, ↓if_pos]
    repeat' first | (refine And.intro ?_ ?_) | exact True.intro | omega | assumption | rfl
theorem k_ans {p n a b : Nat} (hG : gok G) (hC : csI v) (hB : tbI v) (hp : G.2.1 p = (0, 6)) (hp2 : 174 ≤ p) (h : actI v p n) (ha : v 150 n = (a : Int)) (hb : v 151 n = (b : Int)) (hQ : ∀ v', (∀ b, b < 44 ∨ 51 < b → v' b = v b) → hasL v' 44 1 45 (ansV v (v 149 n) a b (v 152 n) (v 153 n)) → Q (.inr (.inr (.inl (some 44)))) v' G) : q_call (d + 6) 73 [.inr (.inr (.inl (some 40))), .inr (.inr (.inl (some p))), .inr (.inr (.inl (some 34)))] v G Q := by
  obtain ⟨a1, a2, a3, a4, a5, a6, a7, a8, a9, a10, a11⟩ := h
  have hp' : (G.2.1 p).1 = 0 := by rw [hp]
  have ha3 : a < 3 := by omega
  have hb3 : b < 3 := by omega
  obtain ⟨ga0, ga⟩ := g_table hG a ha3
  obtain ⟨gb0, gb⟩ := g_table hG b hb3
  have tA := tb_all hB a ha3
  have h14 := tA.1
  rw [← a1, ← a4] at hQ
  have pa : v p 1 = (a : Int) := by omega
  have pb : v p 2 = (b : Int) := by omega
  generalize hw : v p 0 = w at *
  generalize hlo : v p 3 = low at *
  generalize hhi : v p 4 = high at *
  generalize hk : v 153 n = hi at *
  have hE := ansE_le (v := v) (w := w) (a := a) (low := low) (high := hi)
  have hE2 := ansE_ge (v := v) (w := w) (a := a) (low := low) (high := hi) (fun c => by have := a10 c; omega)
  have hhr : 0 ≤ high + 1 ∧ high + 1 ≤ 1000 := by
    by_cases c : w = 2
    · have := a9 c; omega
    · have := a10 c; omega
  have k1 : ∀ (d' : Nat) (Q' : q_V → q_H → q_Gr → Prop), q_call (d' + 3) 103 [.inr (.inr (.inl (some (110 + 9 * a)))), .inl low] v G Q' = Q' (.inl ((plm v a (v 141 a).toNat low + 1 : Nat))) v G := fun d' Q' => by rw [c_kff hG ha3 tA (by omega) (by omega)]
  have k2 : ∀ (d' : Nat) (Q' : q_V → q_H → q_Gr → Prop), q_call (d' + 3) 103 [.inr (.inr (.inl (some (110 + 9 * a)))), .inl (high + 1)] v G Q' = Q' (.inl ((plm v a (v 141 a).toNat (high + 1) + 1 : Nat))) v G := fun d' Q' => by rw [c_kff hG ha3 tA (by omega) (by omega)]
  generalize hv1 : q_up (q_up v 46 2 0) 49 2 0 = v1
  have f1 : ∀ b, b < 46 ∨ 51 < b → v1 b = v b := fun b hb => by rw [← hv1, u_r (by omega), u_r (by omega)]
  have rA : hasR v1 46 [] := by
    rw [← hv1]
    exact ⟨by rw [u_n (by omega), u_s rfl rfl]; rfl, fun k hk => absurd hk (Nat.not_lt_zero _)⟩
  have rB : hasR v1 49 [] := by
    rw [← hv1]
    exact ⟨by rw [u_s rfl rfl]; rfl, fun k hk => absurd hk (Nat.not_lt_zero _)⟩
  have w0 : v1 p 0 = w := by rw [f1 p (by omega), hw]
  have tA1 : tabI v1 (110 + 9 * a) a (v 141 a).toNat := tabI_cg (fun b hb => f1 b (by omega)) tA
  have e142 : v1 142 = v 142 := f1 _ (by omega)
  have e143 : v1 143 = v 143 := f1 _ (by omega)
  have e5 : v1 p 5 = v p 5 := by rw [f1 p (by omega)]
  have els : v1 (110 + 9 * a + 1) 2 = ((v 141 a).toNat : Int) + 2 := tA1.2.2.1
  have gl := ga.2.2.2.1
  have c46 := c_rclear (d := d + 4) (v := v) (Q := Q) (g_row46 hG)
  have ecl : ∀ (d' : Nat) (u : q_H) (Q' : q_V → q_H → q_Gr → Prop), q_call (d' + 1) 77 [.inr (.inr (.inl (some 46)))] u G Q' = Q' (.inr (.inr (.inr ()))) (q_up u 46 2 0) G := fun d' u Q' => c_rclear (g_row46 hG)
  have ecm : ∀ (d' : Nat) (u : q_H) (Q' : q_V → q_H → q_Gr → Prop), q_call (d' + 1) 77 [.inr (.inr (.inl (some 49)))] u G Q' = Q' (.inr (.inr (.inr ()))) (q_up u 49 2 0) G := fun d' u Q' => c_rclear (g_row49 hG)
  clear c46
  -- what the rest asks for
  have rest : ∀ (u : q_H) (RA : List (Int × Int)) (sum : Int) (z5 z6 : q_V), (∀ b, b < 46 ∨ 51 < b → u b = v b) → hasR u 46 RA → RA.length ≤ 16 → rok RA → hasR u 49 [] → (∀ RB, (w < 4 → RB = []) → (4 ≤ w → RB = gat v b (plm v b (v 141 b).toNat (high + 1) - plm v b (v 141 b).toNat low) (plm v b (v 141 b).toNat low)) → ansL w RA RB sum = ansV v w a b low hi) → q_wp (d + 5) 73 137 [.inr (.inr (.inl (some 40))), .inr (.inr (.inl (some p))), .inr (.inr (.inl (some 34))), .inr (.inr (.inl (some (110 + 9 * a)))), .inr (.inr (.inl (some (110 + 9 * b)))), z5, z6, .inl sum] [] u G Q := fun u RA sum z5 z6 hu h1 h2 h3 h4 h5 => s_ans_rest (v0 := v) (w := w) (low := low) (high := high) hG hC hB hb3 hp hp2 hw a5.1 a5.2 hlo a8.1 a8.2 hhi (fun c => by have := a10 (by omega); omega) hu h1 h2 h3 h4 h5 hQ
  clear hQ
  generalize hF : plm v a (v 141 a).toNat low = f at *
  by_cases c1 : w = 1
  · have eh : high = hi := (a10 (by omega)).1
    have eE : ansE v w a low hi = plm v a (v 141 a).toNat (high + 1) := by unfold ansE; rw [if_neg (by omega), eh]
    rw [eE] at hE hE2
    generalize hEE : plm v a (v 141 a).toNat (high + 1) = e at *
    have key := s_gends (d := d + 2) (G := G) (Q := fun r v' G' => q_wp (d + 5) 73 74 [.inr (.inr (.inl (some 40))), .inr (.inr (.inl (some p))), .inr (.inr (.inl (some 34))), .inr (.inr (.inl (some (110 + 9 * a)))), .inr (.inr (.inl (some (110 + 9 * b)))), .inl ((f + 1 : Nat)), .inl ((e + 1 : Nat)), .inl 0] (q_push r []) v' G' Q) (f := f) (n := (v 141 a).toNat) hG ha3 tA1 hE (e - f) f v1 [] 0 (by omega) (Nat.le_refl _) (fun _ _ _ _ => rfl) rA (by show 0 + (e - f) ≤ 16; omega) (fun u fu ru => by
      rw [List.nil_append] at ru
      have nx := rest u _ (0 + sumV v1 a (e - f) f) (.inl ((f + 1 : Nat))) (.inl ((e + 1 : Nat))) (fun b hb => by rw [fu b (by omega) (by omega) (by omega), f1 b hb]) ru (by have := gE_le v1 a f e (e - f) f; omega) (gE_rok (by rw [show v1 141 = v 141 from f1 _ (by omega)]; exact tA1) _ _ (by rw [show v1 141 = v 141 from f1 _ (by omega)]; omega)) (hasR_fr (fu _ (by omega) (by omega) (by omega)) (fu _ (by omega) (by omega) (by omega)) (fu _ (by omega) (by omega) (by omega)) rB) (fun RB _ _ => by
        unfold ansL ansV
        rw [if_pos c1, if_pos c1, gE_len v1 a f e (e - f) (by omega), eE, hF]
        have es : ∀ r i, sumV v1 a r i = sumV v a r i := fun r => by
          induction r with
          | zero => intro i; rfl
          | succ r ih => intro i; unfold sumV; rw [e143, ih]
        rw [es, Int.zero_add])
      simp only [e_73_74, e_73_76, q_push_I, q_push_L, q_push_P, q_push_U]
      exact nx)
    have key2 : q_call (d + 5) 75 [.inr (.inr (.inl (some 40))), .inr (.inr (.inl (some (110 + 9 * a + 1)))), .inl ((f + 1 : Nat)), .inl ((e + 1 : Nat))] v1 G (fun r v' G' => q_wp (d + 5) 73 74 [.inr (.inr (.inl (some 40))), .inr (.inr (.inl (some p))), .inr (.inr (.inl (some 34))), .inr (.inr (.inl (some (110 + 9 * a)))), .inr (.inr (.inl (some (110 + 9 * b)))), .inl ((f + 1 : Nat)), .inl ((e + 1 : Nat)), .inl 0] (q_push r []) v' G' Q) := by
      simp only [E75, SHC hG]
      exact ⟨True.intro, key⟩
    simp (disch := first | assumption | omega) only [e_73, e_73_0, e_73_1, e_73_2, e_73_5, e_73_6, e_73_7, e_73_8, e_73_9, e_73_12, e_73_13, e_73_15, e_73_16, e_73_17, e_73_20, e_73_23, e_73_25, e_73_26, e_73_27, e_73_30, e_73_31, e_73_32, e_73_35, e_73_37, e_73_38, e_73_40, e_73_41, e_73_44, e_73_47, e_73_48, e_73_51, e_73_54, e_73_55, e_73_58, e_73_59, e_73_62, e_73_63, e_73_64, e_73_67, e_73_69, e_73_71, SHC hG, hp', pa, pb, ga0, gb0, hlo, hhi, k1, k2, ecl, ecm, hv1, w0, c1, c_tleaves, Int.toNat_natCast, q_push_I, q_push_L, q_push_P, q_push_U, ↓if_neg, ↓if_pos]
    repeat' first | (refine And.intro ?_ ?_) | exact True.intro | omega | assumption | rfl
  · have key : ∀ (e : Nat) (z6 : q_V), e = ansE v w a low hi → q_call (d + 5) 74 [.inr (.inr (.inl (some 46))), .inr (.inr (.inl (some (110 + 9 * a + 1)))), .inl ((f + 1 : Nat)), .inl ((e + 1 : Nat))] v1 G (fun r v' G' => q_wp (d + 5) 73 137 [.inr (.inr (.inl (some 40))), .inr (.inr (.inl (some p))), .inr (.inr (.inl (some 34))), .inr (.inr (.inl (some (110 + 9 * a)))), .inr (.inr (.inl (some (110 + 9 * b)))), .inl ((f + 1 : Nat)), z6, .inl 0] (q_push r []) v' G' Q) := fun e z6 he => c_gather (xs := []) (n := (v 141 a).toNat) hG (g_row46 hG) (by decide) ha3 tA1 (by omega) (by omega) rA (by show 0 + (e - f) ≤ 16; omega) (fun u fu ru => by
      rw [List.nil_append, gat_cg e142 e143] at ru
      have nx := rest u _ 0 (.inl ((f + 1 : Nat))) z6 (fun b hb => by rw [fu b (by omega) (by omega) (by omega), f1 b hb]) ru (by rw [gat_len]; omega) (gat_rok tA _ _ (by omega)) (hasR_fr (fu _ (by omega) (by omega) (by omega)) (fu _ (by omega) (by omega) (by omega)) (fu _ (by omega) (by omega) (by omega)) rB) (fun RB r1 r2 => by
        unfold ansV
        rw [if_neg c1, ← he, hF]
        refine ansL_eq (i0 := f) (e0 := e) c1 a5.2 (fun c => r1 (by omega)) (fun k k1 k2 c3 => ?_) _ _ (Nat.le_refl _) (by omega)
        have eh : high = hi := (a10 (by omega)).1
        have heE : e = plm v a (v 141 a).toNat (high + 1) := by rw [he]; unfold ansE; rw [if_neg (by omega), eh]
        rw [r2 (by omega)]
        refine fnd_gat (tb_all hB b hb3) ?_ ?_
        · have p3 := (plm_sp (v := v) (t := a) (n := (v 141 a).toNat) (x := low)).2.2
          rw [hF] at p3
          have p3 := p3 (by omega)
          by_cases ek : k = f
          · subst ek; exact p3
          · have mo := tab_mono tA (f + 1) (k + 1) (by omega) (by omega)
            have b1 := (tA.2.2.2.2.2.2.2.1 f (by omega)).1
            have b2 := (tA.2.2.2.2.2.2.2.1 k (by omega)).1
            rw [b1, b2] at mo
            omega
        · have p2 := (plm_sp (v := v) (t := a) (n := (v 141 a).toNat) (x := high + 1)).2.1 k (by omega)
          omega)
      simp only [q_push_I, q_push_L, q_push_P, q_push_U]
      exact nx)
    by_cases c2 : w = 2
    · have q9 := a9 c2
      have e5' : v1 p 5 = hi := by rw [e5]; exact q9.1
      have eE : ansE v w a low hi = min (f + hi.toNat) (v 141 a).toNat := by unfold ansE; rw [if_pos c2, hF]
      have key := key (ansE v w a low hi) (.inl ((plm v a (v 141 a).toNat (high + 1) + 1 : Nat))) rfl
      have eM : (if ((v 141 a).toNat : Int) + 2 - 1 < ((f + 1 : Nat) : Int) + hi then ((v 141 a).toNat : Int) + 2 - 1 else ((f + 1 : Nat) : Int) + hi) = ((ansE v w a low hi + 1 : Nat) : Int) := by
        rw [eE]
        split <;> omega
      have ers : ∀ (d' : Nat) (Q' : q_V → q_H → q_Gr → Prop), q_call (d' + 1) 82 [.inr (.inr (.inl (some (110 + 9 * a + 1))))] v1 G Q' = Q' (.inl (((v 141 a).toNat : Int) + 2)) v1 G := fun d' Q' => by rw [c_rsize gl, els]
      simp (disch := first | assumption | omega) only [e_73, e_73_0, e_73_1, e_73_2, e_73_5, e_73_6, e_73_7, e_73_8, e_73_9, e_73_12, e_73_13, e_73_15, e_73_16, e_73_17, e_73_20, e_73_23, e_73_25, e_73_26, e_73_27, e_73_30, e_73_31, e_73_32, e_73_35, e_73_37, e_73_38, e_73_40, e_73_41, e_73_44, e_73_47, e_73_48, e_73_51, e_73_54, e_73_55, e_73_58, e_73_59, e_73_62, e_73_63, e_73_64, e_73_67, e_73_69, e_73_71, e_73_74, e_73_76, e_73_79, e_73_80, e_73_83, e_73_84, e_73_87, e_73_88, e_73_91, e_73_92, e_73_95, e_73_97, e_73_99, e_73_100, e_73_103, e_73_104, e_73_105, e_73_108, e_73_111, e_73_112, e_73_113, e_73_116, e_73_119, SHC hG, hp', pa, pb, ga0, gb0, hlo, hhi, k1, k2, ecl, ecm, hv1, w0, c_tleaves, e5', ers, eM, Int.toNat_natCast, q_push_I, q_push_L, q_push_P, q_push_U, ↓if_neg, ↓if_pos]
      repeat' first | (refine And.intro ?_ ?_) | exact True.intro | omega | assumption | rfl
    · have eh : high = hi := (a10 c2).1
      have eE : plm v a (v 141 a).toNat (high + 1) = ansE v w a low hi := by unfold ansE; rw [if_neg c2, eh]
      have key := key (ansE v w a low hi) (.inl ((ansE v w a low hi + 1 : Nat))) rfl
      rw [eE] at k2
      simp (disch := first | assumption | omega) only [e_73, e_73_0, e_73_1, e_73_2, e_73_5, e_73_6, e_73_7, e_73_8, e_73_9, e_73_12, e_73_13, e_73_15, e_73_16, e_73_17, e_73_20, e_73_23, e_73_25, e_73_26, e_73_27, e_73_30, e_73_31, e_73_32, e_73_35, e_73_37, e_73_38, e_73_40, e_73_41, e_73_44, e_73_47, e_73_48, e_73_51, e_73_54, e_73_55, e_73_58, e_73_59, e_73_79, e_73_80, e_73_83, e_73_84, e_73_122, e_73_123, e_73_126, e_73_127, e_73_130, e_73_132, e_73_134, SHC hG, hp', pa, pb, ga0, gb0, hlo, hhi, k1, k2, ecl, ecm, hv1, w0, c_tleaves, Int.toNat_natCast, q_push_I, q_push_L, q_push_P, q_push_U, ↓if_neg, ↓if_pos]
      repeat' first | (refine And.intro ?_ ?_) | exact True.intro | omega | assumption | rfl
/-! ===== the reference ===== -/
theorem c_say {x : Int} (hG : gok G) (h0 : 0 ≤ v 137 37) (h6 : v 137 37 < 64) : q_call (d + 1) 197 [.inr (.inr (.inl (some 137))), .inl x] v G Q = Q (.inr (.inr (.inr ()))) (q_app v 137 37 159 x) G := by
  refine q_call_eq ?_ Q
  unfold q_app
  simp (disch := omega) only [E197, SHM hG, u_n]
  repeat' first | (refine And.intro ?_ ?_) | rfl | exact True.intro | assumption | omega
theorem s_msum_loop {a f e : Nat} {z1 z2 z4 : q_V} (hG : gok G) (ha : a < 3) (he : e ≤ 14) : ∀ (r i : Nat) (sm : Int), i + r = e → q_wp d 198 143 [.inr (.inr (.inl (some 137))), z1, z2, .inl a, z4, .inl ((14 * a + f : Nat)), .inl ((14 * a + e : Nat)), .inl (sm + sumV v a r i), .inl ((14 * a + e : Nat))] [] v G Q → q_wp d 198 118 [.inr (.inr (.inl (some 137))), z1, z2, .inl a, z4, .inl ((14 * a + f : Nat)), .inl ((14 * a + e : Nat)), .inl sm, .inl ((14 * a + i : Nat))] [] v G Q := by
  intro r
  induction r with
  | zero =>
    intro i sm h hC
    have e1 : i = e := by omega
    subst e1
    unfold sumV at hC
    rw [Int.add_zero] at hC
    rw [e_198_118]
    simp (disch := omega) only [e_198_120, e_198_122, ↓if_pos]
    repeat' first | (refine And.intro ?_ ?_) | exact True.intro | omega | assumption | rfl
  | succ r ih =>
    intro i sm h hC
    have es : sm + v 143 (14 * a + i) + sumV v a r (i + 1) = sm + sumV v a (r + 1) i := by
      conv => rhs; unfold sumV
      omega
    have nx := ih (i + 1) (sm + v 143 (14 * a + i)) (by omega) (by rw [es]; exact hC)
    rw [e_198_118]
    simp (disch := omega) only [e_198_120, e_198_122, e_198_125, e_198_127, e_198_128, e_198_131, e_198_133, e_198_134, e_198_135, e_198_137, e_198_140, SHM hG, ↓if_neg, Int.toNat_natCast, show ((14 * a + i : Nat) : Int) + 1 = ((14 * a + (i + 1) : Nat) : Int) by omega]
    repeat' first | (refine And.intro ?_ ?_) | exact True.intro | omega | assumption | rfl
theorem s_mans_loop {a b e : Nat} {w : Int} {v0 : q_H} {z1 z5 : q_V} (hG : gok G) (hB : tbI v0) (ha : a < 3) (hb : b < 3) (he : e ≤ (v0 141 a).toNat) (hw0 : 0 ≤ w) (hw6 : w ≤ 6) : ∀ (r i : Nat) (v : q_H) (L : List Int) (z8 : q_V), i + r = e → (∀ b, b ≠ 137 → b ≠ 159 → v b = v0 b) → (∀ j, j ≠ 37 → v 137 j = v0 137 j) → hasL v 137 37 159 L → L.length + 3 * r ≤ 64 → (∀ v', (∀ b, b ≠ 137 → b ≠ 159 → v' b = v0 b) → (∀ j, j ≠ 37 → v' 137 j = v0 137 j) → hasL v' 137 37 159 (L ++ ansM v0 w a b r i) → Q (.inr (.inr (.inr ()))) v' G) → q_wp (d + 2) 198 176 [.inr (.inr (.inl (some 137))), z1, .inl w, .inl a, .inl b, z5, .inl ((14 * a + e : Nat)), .inl ((14 * a + i : Nat)), z8] [] v G Q := by
  have tA := tb_all hB a ha
  have tB := tb_all hB b hb
  have hA14 := tA.1
  have hB14 := tB.1
  intro r
  induction r with
  | zero =>
    intro i v L z8 h hf hj hL hl hC
    have fin := hC v hf hj (by show hasL v 137 37 159 (L ++ []); rw [List.append_nil]; exact hL)
    rw [e_198_176]
    simp (disch := omega) only [e_198_178, e_198_180, e_198_287, ↓if_pos]
    repeat' first | exact fin | (refine And.intro ?_ ?_) | exact True.intro | omega | rfl
  | succ r ih =>
    intro i v L z8 h hf hj hL hl hC
    have hL1 := hL.1
    have e141 : v 141 = v0 141 := hf _ (by omega) (by omega)
    have e142 : v 142 = v0 142 := hf _ (by omega) (by omega)
    have e143 : v 143 = v0 143 := hf _ (by omega) (by omega)
    obtain ⟨k1, k2, k3, k4, k5, k6⟩ := tA.2.2.2.2.2.2.2.1 i (by omega)
    have ek : v 142 (14 * a + i) = v0 142 (14 * a + i) := by rw [e142]
    have ex : v 143 (14 * a + i) = v0 143 (14 * a + i) := by rw [e143]
    have kr : 0 ≤ v0 142 (14 * a + i) ∧ v0 142 (14 * a + i) ≤ 999 := by rw [← k1]; omega
    have step : ∀ (xs : List Int) (z8 : q_V), xs.length ≤ 3 → arow v0 w a b i = xs → q_wp (d + 2) 198 176 [.inr (.inr (.inl (some 137))), z1, .inl w, .inl a, .inl b, z5, .inl ((14 * a + e : Nat)), .inl ((14 * a + (i + 1) : Nat)), z8] [] (q_apl v 137 37 159 xs) G Q := fun xs z8 hx hr => ih (i + 1) (q_apl v 137 37 159 xs) (L ++ xs) z8 (by omega) (fun b b1 b2 => by rw [apl_r b1 b2, hf b b1 b2]) (fun j j1 => by rw [apl_n _ _ (by omega) (by omega), hj j j1]) (hasL_apl (by decide) hL) (by rw [List.length_append]; omega) (fun v' h1 h2 h3 => hC v' h1 h2 (by
        have : ansM v0 w a b (r + 1) i = xs ++ ansM v0 w a b r (i + 1) := by rw [← hr]; rfl
        rw [this, ← List.append_assoc]
        exact h3))
    clear hC ih
    generalize hk : v0 142 (14 * a + i) = k at *
    generalize hx : v0 143 (14 * a + i) = x at *
    have ar : arow v0 w a b i = if w ≤ 3 then [k, x] else if hasK v0 b k then (if w = 6 then [] else [k, x, valK v0 b k]) else (if w = 6 then [k, x] else []) := by
      unfold arow
      rw [hk, hx]
    rw [e_198_176]
    by_cases c3 : w ≤ 3
    · rw [if_pos c3] at ar
      have nx := step [k, x] (.inl 0) (by simp) ar
      simp only [q_apl] at nx
      have ey : ∀ x', q_app v 137 37 159 x' 143 (14 * a + i) = x := fun x' => by rw [app_r (by omega) (by omega), ex]
      simp (disch := first | assumption | omega | ((try simp (disch := omega) only [app_r, app_c]); first | assumption | omega)) only [e_198_178, e_198_180, e_198_183, e_198_184, e_198_185, e_198_208, e_198_209, e_198_211, e_198_212, e_198_213, e_198_232, e_198_233, e_198_234, e_198_237, e_198_239, e_198_240, e_198_243, e_198_244, e_198_245, e_198_248, e_198_250, e_198_251, e_198_254, e_198_256, e_198_281, e_198_284, SHM hG, ek, ey, c_say, ↓if_neg, ↓if_pos, q_push_I, q_push_L, q_push_P, q_push_U, Int.toNat_natCast, show ((14 * a + i : Nat) : Int) + 1 = ((14 * a + (i + 1) : Nat) : Int) by omega]
      repeat' first | (refine And.intro ?_ ?_) | exact True.intro | omega | assumption | rfl
    · rw [if_neg c3] at ar
      have hnb : v 141 b = ((v0 141 b).toNat : Int) := by rw [e141]; have := tB.2.1; omega
      have hkb : ∀ k, k < (v0 141 b).toNat → -2147483648 ≤ v 142 (14 * b + k) ∧ v 142 (14 * b + k) ≤ 2147483647 := fun k hk => by
        obtain ⟨j1, j2, j3, j4, j5, j6⟩ := tB.2.2.2.2.2.2.2.1 k hk
        rw [e142, ← j1]
        omega
      have eh : ∀ (d' : Nat) (Q' : q_V → q_H → q_Gr → Prop), q_call (d' + 2) 162 [.inr (.inr (.inl (some 137))), .inl b, .inl k] v G Q' = Q' (.inl (if hasK v0 b k then 1 else 0)) v G := fun d' Q' => by rw [c_mhas hG hb hnb hB14 hkb (by omega) (by omega), plm_cg e142, e142]
      by_cases ch : hasK v0 b k
      · rw [if_pos ch] at ar eh
        by_cases c6 : w = 6
        · rw [if_pos c6] at ar
          have nx := step [] (.inl 1) (by decide) ar
          simp only [q_apl] at nx
          simp (disch := first | assumption | omega | ((try simp (disch := omega) only [app_r, app_c]); first | assumption | omega)) only [e_198_178, e_198_180, e_198_183, e_198_184, e_198_185, e_198_188, e_198_189, e_198_191, e_198_192, e_198_195, e_198_197, e_198_198, e_198_201, e_198_204, e_198_205, e_198_209, e_198_211, e_198_212, e_198_213, e_198_216, e_198_218, e_198_219, e_198_221, e_198_224, e_198_225, e_198_229, e_198_281, e_198_284, SHM hG, ek, eh, ↓if_neg, ↓if_pos, q_push_I, q_push_L, q_push_P, q_push_U, Int.toNat_natCast, show ((14 * a + i : Nat) : Int) + 1 = ((14 * a + (i + 1) : Nat) : Int) by omega]
          repeat' first | (refine And.intro ?_ ?_) | exact True.intro | omega | assumption | rfl
        · rw [if_neg c6] at ar
          have nx := step [k, x, valK v0 b k] (.inl 1) (by simp) ar
          simp only [q_apl] at nx
          have ey : ∀ x', q_app v 137 37 159 x' 143 (14 * a + i) = x := fun x' => by rw [app_r (by omega) (by omega), ex]
          have ez : ∀ x' y', q_app (q_app v 137 37 159 x') 137 37 159 y' 142 (14 * a + i) = k := fun x' y' => by rw [app_r (by omega) (by omega), app_r (by omega) (by omega), ek]
          have ew : ∀ x' y', q_app (q_app v 137 37 159 x') 137 37 159 y' 143 (14 * b + plm v0 b (v0 141 b).toNat k) = valK v0 b k := fun x' y' => by rw [app_r (by omega) (by omega), app_r (by omega) (by omega), e143]
          have epl : ∀ (x' y' : Int) (d' : Nat) (Q' : q_V → q_H → q_Gr → Prop), q_call (d' + 1) 161 [.inr (.inr (.inl (some 137))), .inl b, .inl k] (q_app (q_app v 137 37 159 x') 137 37 159 y') G Q' = Q' (.inl ((14 * b + plm v0 b (v0 141 b).toNat k : Nat))) (q_app (q_app v 137 37 159 x') 137 37 159 y') G := fun x' y' d' Q' => by
            have f1 : q_app (q_app v 137 37 159 x') 137 37 159 y' 141 = v 141 := by rw [app_r (by omega) (by omega), app_r (by omega) (by omega)]
            have f2 : q_app (q_app v 137 37 159 x') 137 37 159 y' 142 = v 142 := by rw [app_r (by omega) (by omega), app_r (by omega) (by omega)]
            rw [c_mplace hG hb (by rw [f1]; exact hnb) hB14 (by rw [f2]; exact hkb) (by omega) (by omega), plm_cg f2, plm_cg e142]
          have hlt := ch.1
          simp (disch := first | assumption | omega | ((try simp (disch := omega) only [app_r, app_c]); first | assumption | omega)) only [e_198_178, e_198_180, e_198_183, e_198_184, e_198_185, e_198_188, e_198_189, e_198_191, e_198_192, e_198_195, e_198_197, e_198_198, e_198_201, e_198_204, e_198_205, e_198_209, e_198_211, e_198_212, e_198_213, e_198_216, e_198_218, e_198_219, e_198_221, e_198_228, e_198_229, e_198_232, e_198_233, e_198_234, e_198_237, e_198_239, e_198_240, e_198_243, e_198_244, e_198_245, e_198_248, e_198_250, e_198_251, e_198_254, e_198_256, e_198_259, e_198_260, e_198_261, e_198_264, e_198_265, e_198_267, e_198_268, e_198_271, e_198_273, e_198_274, e_198_277, e_198_278, e_198_281, e_198_284, SHM hG, ek, eh, ey, ez, ew, epl, c_say, ↓if_neg, ↓if_pos, q_push_I, q_push_L, q_push_P, q_push_U, Int.toNat_natCast, show ((14 * a + i : Nat) : Int) + 1 = ((14 * a + (i + 1) : Nat) : Int) by omega]
          repeat' first | (refine And.intro ?_ ?_) | exact True.intro | omega | assumption | rfl
      · rw [if_neg ch] at ar eh
        by_cases c6 : w = 6
        · rw [if_pos c6] at ar
          have nx := step [k, x] (.inl 0) (by simp) ar
          simp only [q_apl] at nx
          have ey : ∀ x', q_app v 137 37 159 x' 143 (14 * a + i) = x := fun x' => by rw [app_r (by omega) (by omega), ex]
          simp (disch := first | assumption | omega | ((try simp (disch := omega) only [app_r, app_c]); first | assumption | omega)) only [e_198_178, e_198_180, e_198_183, e_198_184, e_198_185, e_198_188, e_198_189, e_198_191, e_198_192, e_198_195, e_198_197, e_198_198, e_198_201, e_198_208, e_198_209, e_198_211, e_198_212, e_198_213, e_198_216, e_198_218, e_198_219, e_198_221, e_198_224, e_198_225, e_198_229, e_198_232, e_198_233, e_198_234, e_198_237, e_198_239, e_198_240, e_198_243, e_198_244, e_198_245, e_198_248, e_198_250, e_198_251, e_198_254, e_198_256, e_198_281, e_198_284, SHM hG, ek, eh, ey, c_say, ↓if_neg, ↓if_pos, q_push_I, q_push_L, q_push_P, q_push_U, Int.toNat_natCast, show ((14 * a + i : Nat) : Int) + 1 = ((14 * a + (i + 1) : Nat) : Int) by omega]
          repeat' first | (refine And.intro ?_ ?_) | exact True.intro | omega | assumption | rfl
        · rw [if_neg c6] at ar
          have nx := step [] (.inl 0) (by decide) ar
          simp only [q_apl] at nx
          simp (disch := first | assumption | omega | ((try simp (disch := omega) only [app_r, app_c]); first | assumption | omega)) only [e_198_178, e_198_180, e_198_183, e_198_184, e_198_185, e_198_188, e_198_189, e_198_191, e_198_192, e_198_195, e_198_197, e_198_198, e_198_201, e_198_208, e_198_209, e_198_211, e_198_212, e_198_213, e_198_216, e_198_218, e_198_219, e_198_221, e_198_228, e_198_229, e_198_281, e_198_284, SHM hG, ek, eh, ↓if_neg, ↓if_pos, q_push_I, q_push_L, q_push_P, q_push_U, Int.toNat_natCast, show ((14 * a + i : Nat) : Int) + 1 = ((14 * a + (i + 1) : Nat) : Int) by omega]
          repeat' first | (refine And.intro ?_ ?_) | exact True.intro | omega | assumption | rfl
theorem m_ans {p n a b : Nat} (hG : gok G) (hB : tbI v) (hn : n < 12) (h : actI v p n) (ha : v 150 n = (a : Int)) (hb : v 151 n = (b : Int)) (hQ : ∀ v', (∀ b, b ≠ 137 → b ≠ 159 → v' b = v b) → (∀ j, j ≠ 37 → v' 137 j = v 137 j) → hasL v' 137 37 159 (ansV v (v 149 n) a b (v 152 n) (v 153 n)) → Q (.inr (.inr (.inr ()))) v' G) : q_call (d + 4) 198 [.inr (.inr (.inl (some 137))), .inl n] v G Q := by
  obtain ⟨a1, a2, a3, a4, a5, a6, a7, a8, a9, a10, a11⟩ := h
  have ha3 : a < 3 := by omega
  have hb3 : b < 3 := by omega
  have tA := tb_all hB a ha3
  have h14 := tA.1
  have h141 : v 141 a = ((v 141 a).toNat : Int) := by have := tA.2.1; omega
  have w0 : 0 ≤ v 149 n ∧ v 149 n ≤ 6 := by omega
  have l0 : 0 ≤ v 152 n ∧ v 152 n ≤ 999 := by omega
  have h0 : 0 ≤ v 153 n ∧ v 153 n ≤ 999 := by
    by_cases c : v p 0 = 2
    · have := a9 c; omega
    · have := a10 c; omega
  have hge := ansE_ge (v := v) (w := v 149 n) (a := a) (low := v 152 n) (high := v 153 n) (fun c => by have := a10 (by omega); omega)
  have hle := ansE_le (v := v) (w := v 149 n) (a := a) (low := v 152 n) (high := v 153 n)
  have p1 := (plm_sp (v := v) (t := a) (n := (v 141 a).toNat) (x := v 152 n)).1
  clear a1 a2 a3 a4 a5 a6 a7 a8 a9 a10 a11
  generalize hw : v 149 n = w at *
  generalize hlo : v 152 n = low at *
  generalize hhi : v 153 n = high at *
  generalize hv1 : q_up v 137 37 0 = v1
  have f1 : ∀ b, b ≠ 137 → v1 b = v b := fun b hb => by rw [← hv1, u_r hb]
  have f37 : ∀ j, j ≠ 37 → v1 137 j = v 137 j := fun j hj => by rw [← hv1, u_n (by omega)]
  have hL0 : hasL v1 137 37 159 [] := hasL_0 (by rw [← hv1, u_s rfl rfl])
  have e141 : v1 141 = v 141 := f1 _ (by omega)
  have e142 : v1 142 = v 142 := f1 _ (by omega)
  have e143 : v1 143 = v 143 := f1 _ (by omega)
  have x149 : v1 149 n = w := by rw [f1 _ (by omega), hw]
  have x150 : v1 150 n = (a : Int) := by rw [f1 _ (by omega), ha]
  have x151 : v1 151 n = (b : Int) := by rw [f1 _ (by omega), hb]
  have x152 : v1 152 n = low := by rw [f1 _ (by omega), hlo]
  have x153 : v1 153 n = high := by rw [f1 _ (by omega), hhi]
  have x141 : v1 141 a = ((v 141 a).toNat : Int) := by rw [e141]; exact h141
  have hkb : ∀ k, k < (v 141 a).toNat → -2147483648 ≤ v1 142 (14 * a + k) ∧ v1 142 (14 * a + k) ≤ 2147483647 := fun k hk => by
    obtain ⟨j1, j2, j3, j4, j5, j6⟩ := tA.2.2.2.2.2.2.2.1 k hk
    rw [e142, ← j1]
    omega
  have k1 : ∀ (d' : Nat) (Q' : q_V → q_H → q_Gr → Prop), q_call (d' + 1) 161 [.inr (.inr (.inl (some 137))), .inl a, .inl low] v1 G Q' = Q' (.inl ((14 * a + plm v a (v 141 a).toNat low : Nat))) v1 G := fun d' Q' => by rw [c_mplace hG ha3 x141 h14 hkb (by omega) (by omega), plm_cg e142]
  have k2 : ∀ (d' : Nat) (Q' : q_V → q_H → q_Gr → Prop), q_call (d' + 1) 161 [.inr (.inr (.inl (some 137))), .inl a, .inl (high + 1)] v1 G Q' = Q' (.inl ((14 * a + plm v a (v 141 a).toNat (high + 1) : Nat))) v1 G := fun d' Q' => by rw [c_mplace hG ha3 x141 h14 hkb (by omega) (by omega), plm_cg e142]
  have hv' : ansV v w a b low high = ansV v1 w a b low high := by
    have hs : ∀ r i, sumV v1 a r i = sumV v a r i := fun r => by
      induction r with
      | zero => intro i; rfl
      | succ r ih => intro i; unfold sumV; rw [e143, ih]
    have hm : ∀ r i, ansM v1 w a b r i = ansM v w a b r i := fun r => by
      induction r with
      | zero => intro i; rfl
      | succ r ih => intro i; unfold ansM arow hasK valK; rw [e141, e142, e143, ih, plm_cg e142]
    unfold ansV ansE
    rw [e141, plm_cg e142, plm_cg e142, hs, hm]
  generalize hF : plm v a (v 141 a).toNat low = f at *
  generalize hE : ansE v w a low high = e at *
  have rest : q_wp (d + 3) 198 106 [.inr (.inr (.inl (some 137))), .inl n, .inl w, .inl a, .inl b, .inl ((14 * a + f : Nat)), .inl ((14 * a + e : Nat)), .inr (.inr (.inr ())), .inr (.inr (.inr ()))] [] v1 G Q := by
    by_cases c1 : w = 1
    · have hT : ansV v w a b low high = [((min 2 (e - f) : Nat) : Int), sumV v a (e - f) f] := by unfold ansV; rw [if_pos c1, hE, hF]
      rw [hT] at hQ
      have hs : ∀ r i, sumV v1 a r i = sumV v a r i := fun r => by
        induction r with
        | zero => intro i; rfl
        | succ r ih => intro i; unfold sumV; rw [e143, ih]
      have hL01 : v1 137 37 = 0 := hL0.1
      have fin := hQ (q_apl v1 137 37 159 [((min 2 (e - f) : Nat) : Int), sumV v a (e - f) f]) (fun b b1 b2 => by rw [apl_r b1 b2, f1 b b1]) (fun j hj => by rw [apl_n _ _ (by omega) (by omega), f37 j hj]) (by
        have := hasL_apl (q := 137) (f := 37) (i := 159) (ys := [((min 2 (e - f) : Nat) : Int), sumV v a (e - f) f]) (by decide) hL0
        exact this)
      simp only [q_apl] at fin
      have lp := s_msum_loop (d := d + 3) (v := v1) (G := G) (Q := Q) (f := f) (e := e) (z1 := .inl n) (z2 := .inl w) (z4 := .inl b) hG ha3 (by omega) (e - f) f 0 (by omega) (by
        rw [hs, Int.zero_add]
        by_cases c2 : e - f ≤ 2
        · rw [show min 2 (e - f) = e - f by omega] at fin
          simp (disch := first | assumption | omega | ((try simp (disch := omega) only [app_r, app_c]); first | assumption | omega)) only [e_198_143, e_198_144, e_198_146, e_198_148, e_198_149, e_198_150, e_198_157, e_198_159, e_198_161, e_198_162, e_198_165, e_198_166, e_198_168, e_198_171, c_say, ↓if_neg, ↓if_pos, q_push_I, q_push_L, q_push_P, q_push_U, show ((14 * a + e : Nat) : Int) - ((14 * a + f : Nat) : Int) = ((e - f : Nat) : Int) by omega]
          repeat' first | exact fin | (refine And.intro ?_ ?_) | exact True.intro | omega | rfl
        · rw [show min 2 (e - f) = 2 by omega] at fin
          simp (disch := first | assumption | omega | ((try simp (disch := omega) only [app_r, app_c]); first | assumption | omega)) only [e_198_143, e_198_144, e_198_146, e_198_148, e_198_149, e_198_150, e_198_153, e_198_154, e_198_162, e_198_165, e_198_166, e_198_168, e_198_171, c_say, ↓if_neg, ↓if_pos, q_push_I, q_push_L, q_push_P, q_push_U, show ((14 * a + e : Nat) : Int) - ((14 * a + f : Nat) : Int) = ((e - f : Nat) : Int) by omega]
          repeat' first | exact fin | (refine And.intro ?_ ?_) | exact True.intro | omega | rfl)
      simp (disch := omega) only [e_198_106, e_198_107, e_198_108, e_198_111, e_198_112, e_198_114, e_198_116, ↓if_neg]
      repeat' first | (refine And.intro ?_ ?_) | exact True.intro | omega | assumption | rfl
    · have hT : ansV v w a b low high = ansM v1 w a b (e - f) f := by
        rw [hv']
        have e1 : ansE v1 w a low high = e := by
          rw [← hE]
          unfold ansE
          rw [e141, plm_cg e142, plm_cg e142]
        unfold ansV
        rw [if_neg c1, e1, e141, plm_cg e142, hF]
      rw [hT] at hQ
      have lp := s_mans_loop (d := d + 1) (v0 := v1) (Q := Q) (w := w) (z1 := .inl n) (z5 := .inl ((14 * a + f : Nat))) hG (tbI_cg (fun b hb => f1 b (by omega)) hB) ha3 hb3 (by rw [e141]; exact hle) w0.1 w0.2 (e - f) f v1 [] (.inr (.inr (.inr ()))) (by omega) (fun _ _ _ => rfl) (fun _ _ => rfl) hL0 (by show 0 + 3 * (e - f) ≤ 64; omega) (fun v' h1 h2 h3 => hQ v' (fun b b1 b2 => by rw [h1 b b1 b2, f1 b b1]) (fun j hj => by rw [h2 j hj, f37 j hj]) h3)
      simp (disch := omega) only [e_198_106, e_198_107, e_198_108, e_198_172, e_198_174, ↓if_pos]
      repeat' first | (refine And.intro ?_ ?_) | exact True.intro | omega | assumption | rfl
  clear hQ
  by_cases c2 : w = 2
  · have eE : e = min (f + high.toNat) (v 141 a).toNat := by rw [← hE]; unfold ansE; rw [if_pos c2, hF]
    by_cases cm : (14 * a + f : Nat) + high > 14 * (a : Int) + ((v 141 a).toNat : Int)
    · have eN : (14 : Int) * (a : Int) + ((v 141 a).toNat : Int) = ((14 * a + e : Nat) : Int) := by omega
      simp (disch := omega) only [e_198, e_198_0, e_198_1, e_198_2, e_198_5, e_198_6, e_198_9, e_198_10, e_198_11, e_198_12, e_198_13, e_198_16, e_198_17, e_198_18, e_198_19, e_198_20, e_198_23, e_198_24, e_198_25, e_198_27, e_198_28, e_198_29, e_198_30, e_198_33, e_198_34, e_198_35, e_198_38, e_198_40, e_198_41, e_198_42, e_198_45, e_198_47, e_198_48, e_198_51, e_198_52, e_198_53, e_198_54, e_198_70, e_198_72, e_198_74, e_198_76, e_198_77, e_198_78, e_198_79, e_198_82, e_198_83, e_198_84, e_198_85, e_198_88, e_198_90, e_198_91, e_198_92, e_198_93, e_198_96, e_198_97, e_198_98, e_198_99, e_198_104, SHM hG, hv1, x149, x150, x151, x152, x153, x141, k1, eN, ↓if_neg, ↓if_pos, q_push_I, q_push_L, q_push_P, q_push_U, Int.toNat_natCast]
      repeat' first | (refine And.intro ?_ ?_) | exact True.intro | omega | assumption | rfl
    · have eN : ((14 * a + f : Nat) : Int) + high = ((14 * a + e : Nat) : Int) := by omega
      simp (disch := omega) only [e_198, e_198_0, e_198_1, e_198_2, e_198_5, e_198_6, e_198_9, e_198_10, e_198_11, e_198_12, e_198_13, e_198_16, e_198_17, e_198_18, e_198_19, e_198_20, e_198_23, e_198_24, e_198_25, e_198_27, e_198_28, e_198_29, e_198_30, e_198_33, e_198_34, e_198_35, e_198_38, e_198_40, e_198_41, e_198_42, e_198_45, e_198_47, e_198_48, e_198_51, e_198_52, e_198_53, e_198_54, e_198_70, e_198_72, e_198_74, e_198_76, e_198_77, e_198_78, e_198_79, e_198_82, e_198_83, e_198_84, e_198_85, e_198_102, e_198_104, SHM hG, hv1, x149, x150, x151, x152, x153, x141, k1, eN, ↓if_neg, ↓if_pos, q_push_I, q_push_L, q_push_P, q_push_U, Int.toNat_natCast]
      repeat' first | (refine And.intro ?_ ?_) | exact True.intro | omega | assumption | rfl
  · have eE : plm v a (v 141 a).toNat (high + 1) = e := by rw [← hE]; unfold ansE; rw [if_neg c2]
    rw [eE] at k2
    simp (disch := omega) only [e_198, e_198_0, e_198_1, e_198_2, e_198_5, e_198_6, e_198_9, e_198_10, e_198_11, e_198_12, e_198_13, e_198_16, e_198_17, e_198_18, e_198_19, e_198_20, e_198_23, e_198_24, e_198_25, e_198_27, e_198_28, e_198_29, e_198_30, e_198_33, e_198_34, e_198_35, e_198_38, e_198_40, e_198_41, e_198_42, e_198_57, e_198_58, e_198_59, e_198_60, e_198_63, e_198_64, e_198_65, e_198_66, e_198_67, e_198_70, e_198_72, e_198_74, e_198_76, e_198_77, e_198_78, e_198_79, e_198_82, e_198_83, e_198_84, e_198_85, e_198_102, e_198_104, SHM hG, hv1, x149, x150, x151, x152, x153, x141, k1, k2, ↓if_neg, ↓if_pos, q_push_I, q_push_L, q_push_P, q_push_U, Int.toNat_natCast]
    repeat' first | (refine And.intro ?_ ?_) | exact True.intro | omega | assumption | rfl
theorem op_answer {a b : Int} (hI : Inv v G) (hC : csI v) (ha : -2147483648 ≤ a ∧ a ≤ 2147483647) (hb : -2147483648 ≤ b ∧ b ≤ 2147483647) : twin (d + 8) 131 199 [.inl a, .inl b] v G Inv := by
  have hG := hI.1
  have hA := hI.2.2.2.2.2.1
  have hB := hI.2.2.2.2.2.2.2.2
  obtain ⟨a1, a2, a3, a4⟩ := hA
  by_cases c : 0 ≤ a ∧ a < v 36 3
  · obtain ⟨n, rfl⟩ : ∃ n : Nat, a = (n : Int) := ⟨a.toNat, by omega⟩
    obtain ⟨p, p1, p2, p3, p4, p5⟩ := a4 n c.2
    by_cases cb : b < -1
    · refine twin_mk (z := -1000001) (v1 := v) (v2 := q_up v 137 0 0) ?_ ?_ (by decide) (Inv_c hI (fun b j h1 => by rw [u_n (by omega)]))
      · simp (disch := first | assumption | omega) only [E131, SHC hG, c_act_y hG a3 c.2 p1, ↓if_neg, ↓if_pos, q_push_I, q_push_L, q_push_P, q_push_U]
        repeat' first | (refine And.intro ?_ ?_) | rfl | exact True.intro | assumption | omega
      · simp (disch := first | assumption | omega | ((try simp (disch := omega) only [u_n, u_s]); omega)) only [E199, SHM hG, c_isAct, ↓if_neg, ↓if_pos, u_n, ← a1, q_push_I, q_push_L, q_push_P, q_push_U]
        repeat' first | (refine And.intro ?_ ?_) | rfl | exact True.intro | assumption | omega
    · have p5' := p5
      obtain ⟨r1, r2, r3, r4, r5, r6, r7, r8, r9, r10, r11⟩ := p5'
      obtain ⟨A, hA⟩ : ∃ A : Nat, v 150 n = (A : Int) := ⟨(v 150 n).toNat, by omega⟩
      obtain ⟨B, hB'⟩ : ∃ B : Nat, v 151 n = (B : Int) := ⟨(v 151 n).toNat, by omega⟩
      have ok := ansV_ok (w := v 149 n) (low := v 152 n) (high := v 153 n) (tb_all hB A (by omega)) (tb_all hB B (by omega))
      generalize hT : ansV v (v 149 n) A B (v 152 n) (v 153 n) = T at ok
      clear r1 r2 r3 r4 r5 r6 r7 r8 r9 r10 r11
      apply twin_of
      have k1 : q_call (d + 7) 73 [.inr (.inr (.inl (some 40))), .inr (.inr (.inl (some p))), .inr (.inr (.inl (some 34)))] v G (fun r v' G' => q_wp (d + 7) 131 33 [.inr (.inr (.inl (some 32))), .inl n, .inl b, .inr (.inr (.inl (some p)))] (q_push r []) v' G' (fun r v1 G1 => ∃ z : Int, r = .inl z ∧ G1 = G ∧ -2147483648 ≤ z ∧ z ≤ 2147483647 ∧ q_call (d + 8) 199 [.inr (.inr (.inl (some 137))), .inl n, .inl b] v1 G (fun r2 v2 G2 => r2 = .inl z ∧ G2 = G ∧ (∀ b, b < 32 → v2 b = v b) ∧ Inv v2 G))) := k_ans (a := A) (b := B) hG hC hB p4 p2 p5 hA hB' (fun v1 f1 l1 => by
        rw [hT] at l1
        have hN := g_num44 hG
        have l11 := l1.1
        have e45 : 44 + 1 = 45 := rfl
        have en : ∀ (d' : Nat) (Q' : q_V → q_H → q_Gr → Prop), q_call (d' + 3) 42 [.inr (.inr (.inl (some 44))), .inl b] v1 G Q' = Q' (.inl (nos T b)) v1 G := fun d' Q' => by rw [c_nos hN hb.1 hb.2 (by omega) (by omega) (by decide), e45, nos_k l1]
        have w1 : v1 137 = v 137 := f1 137 (by omega)
        have m1 : q_call (d + 8) 199 [.inr (.inr (.inl (some 137))), .inl n, .inl b] v1 G (fun r2 v2 G2 => r2 = .inl (nos T b) ∧ G2 = G ∧ (∀ b, b < 32 → v2 b = v b) ∧ Inv v2 G) := by
          have yv : ∀ b, b ≠ 137 → b < 44 ∨ 51 < b → q_up v1 137 0 0 b = v b := fun b b0 b1 => by rw [u_r b0, f1 b b1]
          have eT : ansV (q_up v1 137 0 0) (q_up v1 137 0 0 149 n) A B (q_up v1 137 0 0 152 n) (q_up v1 137 0 0 153 n) = T := by
            rw [yv 149 (by omega) (by omega), yv 152 (by omega) (by omega), yv 153 (by omega) (by omega), ← hT]
            have e141 := yv 141 (by omega) (by omega)
            have e142 := yv 142 (by omega) (by omega)
            have e143 := yv 143 (by omega) (by omega)
            generalize q_up v1 137 0 0 = y at *
            have hs : ∀ r i, sumV y A r i = sumV v A r i := fun r => by
              induction r with
              | zero => intro i; rfl
              | succ r ih => intro i; unfold sumV; rw [e143, ih]
            have hm : ∀ r i, ansM y (v 149 n) A B r i = ansM v (v 149 n) A B r i := fun r => by
              induction r with
              | zero => intro i; rfl
              | succ r ih => intro i; unfold ansM arow hasK valK; rw [e141, e142, e143, ih, plm_cg e142]
            unfold ansV ansE
            rw [e141, plm_cg e142, plm_cg e142, hs, hm]
          have m2 : q_call (d + 7) 198 [.inr (.inr (.inl (some 137))), .inl n] (q_up v1 137 0 0) G (fun r v' G' => q_wp (d + 7) 199 26 [.inr (.inr (.inl (some 137))), .inl n, .inl b] (q_push r []) v' G' (fun r2 v2 G2 => r2 = .inl (nos T b) ∧ G2 = G ∧ (∀ b, b < 32 → v2 b = v b) ∧ Inv v2 G)) := m_ans (d := d + 3) (p := p) (a := A) (b := B) hG (tbI_cg (fun b hb => yv b (by omega) (by omega)) hB) (by omega) (actI_cg (yv p (by omega) (by omega)) (fun b b1 b2 => yv b (by omega) (by omega)) p5) (by rw [yv 150 (by omega) (by omega), hA]) (by rw [yv 151 (by omega) (by omega), hB']) (fun v2 f2 f2' l2 => by
            rw [eT] at l2
            have l21 := l2.1
            have fin : (∀ b, b < 32 → v2 b = v b) ∧ Inv v2 G := ⟨fun b hb => by rw [f2 b (by omega) (by omega), yv b (by omega) (by omega)], Inv_c hI (fun b j h1 => by
              by_cases e : b = 137
              · subst e
                rw [f2' j (by omega), u_n (by omega), w1]
              · rw [f2 b e (by omega), yv b e (by omega)])⟩
            unfold nos
            by_cases c1 : b = -1
            · subst c1
              simp (disch := omega) only [E199, SHM hG, l21, ↓if_neg, ↓if_pos, q_push_I, q_push_L, q_push_P, q_push_U]
              repeat' first | exact fin | (refine And.intro ?_ ?_) | exact True.intro | omega | rfl
            · by_cases c2 : b < T.length
              · have hat := hasL_at l2 (show b.toNat < T.length by omega)
                simp (disch := omega) only [E199, SHM hG, l21, hat, ↓if_neg, ↓if_pos, q_push_I, q_push_L, q_push_P, q_push_U]
                repeat' first | exact fin | (refine And.intro ?_ ?_) | exact True.intro | omega | rfl
              · simp (disch := omega) only [E199, SHM hG, l21, ↓if_neg, ↓if_pos, q_push_I, q_push_L, q_push_P, q_push_U]
                repeat' first | exact fin | (refine And.intro ?_ ?_) | exact True.intro | omega | rfl)
          simp (disch := first | assumption | omega | (rw [u_n (by omega), w1]; omega)) only [e_199, e_199_0, e_199_1, e_199_2, e_199_5, e_199_6, e_199_7, e_199_10, e_199_13, e_199_14, e_199_15, e_199_21, e_199_22, e_199_23, SHM hG, c_isAct, u_n, w1, ← a1, ↓if_neg, ↓if_pos, q_push_I, q_push_L, q_push_P, q_push_U]
          repeat' first | (refine And.intro ?_ ?_) | rfl | exact True.intro | assumption | omega
        have nr := nos_rng (L := T) (i := b) (fun x hx => by have := ok.2 x hx; omega) (by omega)
        simp (disch := omega) only [E131, en, q_push_I, q_push_L, q_push_P, q_push_U]
        exact ⟨_, rfl, by trivial, nr.1, nr.2, m1⟩)
      simp (disch := first | assumption | omega) only [e_131, e_131_0, e_131_1, e_131_4, e_131_5, e_131_8, e_131_9, e_131_10, e_131_10b, e_131_13, e_131_14, e_131_15, e_131_21, e_131_22, e_131_25, e_131_26, e_131_27, e_131_30, SHC hG, c_act_y hG a3 c.2 p1, ↓if_neg, ↓if_pos, q_push_I, q_push_L, q_push_P, q_push_U]
      repeat' first | (refine And.intro ?_ ?_) | rfl | exact True.intro | assumption | omega
  · refine twin_mk (z := -1000001) (v1 := v) (v2 := q_up v 137 0 0) ?_ ?_ (by omega) (Inv_c hI (fun b j h1 => by rw [u_n (by omega)]))
    · simp (disch := first | assumption | omega) only [E131, n_131_10, SHC hG, c_act_n, q_push_I, q_push_L, q_push_P, q_push_U]
      repeat' first | (refine And.intro ?_ ?_) | rfl | exact True.intro | assumption | omega
    · simp (disch := first | assumption | omega | ((try simp (disch := omega) only [u_n, u_s]); omega)) only [E199, SHM hG, c_isAct, ↓if_neg, ↓if_pos, u_n, ← a1, q_push_I, q_push_L, q_push_P, q_push_U]
      repeat' first | (refine And.intro ?_ ?_) | rfl | exact True.intro | assumption | omega
end
