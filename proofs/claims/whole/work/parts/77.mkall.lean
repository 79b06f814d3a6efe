section
variable {d q : Nat} {v : q_H} {G : q_Gr} {Q : q_V → q_H → q_Gr → Prop}
/-- isTaken -/
theorem m_taken {L : List Int} {n rd a b : Nat} {w low high sa sb : Int} (hG : gok G) (hl : lok L) (hn : n < 12) (hrd : rd < 20) (ha : a < 3) (hb : b < 3) (x149 : v 149 n = w) (hw : 0 ≤ w ∧ w ≤ 6) (x150 : v 150 n = (a : Int)) (x151 : v 151 n = (b : Int)) (x152 : v 152 n = low) (x153 : v 153 n = high) (hlo : 0 ≤ low ∧ low ≤ 999) (hk : w = 2 → 1 ≤ high ∧ high ≤ 14) (hh : w ≠ 2 → low ≤ high ∧ high ≤ 999) (hsa : v 148 (4 * rd + a) = sa) (hsb : v 148 (4 * rd + b) = sb) (sar : 0 ≤ sa ∧ sa ≤ 65520) (sbr : 0 ≤ sb ∧ sb ≤ 65520) (hL : hasL v 137 39 160 L) (hb5 : bl5 v)
  (hE : ∀ v' (e : Nat) (y : Int), tk L w sa sb low high = .inl (e, y) → mtf v' v → v' 137 42 = (e : Int) → v' 137 43 = y → 1 ≤ y → y ≤ 3 → Q (.inl 0) v' G)
  (hY : ∀ v' (T : List Int), tk L w sa sb low high = .inr T → mtf v' v → v' 137 43 = 0 → hasL v' 137 37 159 T → Q (.inl 1) v' G) : q_call (d + 6) 209 [.inr (.inr (.inl (some 137))), .inl n, .inl rd] v G Q := by
  have hll := hl.1
  generalize hv0 : q_up (q_up (q_up (q_up v 137 41 0) 137 43 0) 137 37 0) 137 58 0 = v0
  have f0 : ∀ b, b ≠ 137 → v0 b = v b := fun b hb => by rw [← hv0, u_r hb, u_r hb, u_r hb, u_r hb]
  have f0q : ∀ j, j ≠ 41 → j ≠ 43 → j ≠ 37 → j ≠ 58 → v0 137 j = v 137 j := fun j j1 j2 j3 j4 => by rw [← hv0, u_n (by omega), u_n (by omega), u_n (by omega), u_n (by omega)]
  have w41 : v0 137 41 = ((0 : Nat) : Int) := by rw [← hv0]; simp (disch := omega) only [u_n, u_s]; rfl
  have w43 : v0 137 43 = 0 := by rw [← hv0]; simp (disch := omega) only [u_n, u_s]
  have w37 : v0 137 37 = 0 := by rw [← hv0]; simp (disch := omega) only [u_n, u_s]
  have w58 : v0 137 58 = 0 := by rw [← hv0]; simp (disch := omega) only [u_s]
  have hL0 : hasL v0 137 39 160 L := ⟨by rw [f0q 39 (by omega) (by omega) (by omega) (by omega)]; exact hL.1, fun k hk => by rw [f0 160 (by omega)]; exact hL.2 k hk⟩
  have hb50 : bl5 v0 := by
    unfold bl5
    rw [f0q 56 (by omega) (by omega) (by omega) (by omega), f0q 57 (by omega) (by omega) (by omega) (by omega)]
    exact hb5
  have m0 : mtf v0 v := ⟨fun b b1 _ _ => f0 b b1, fun j j1 j2 j3 => f0q j (by omega) (by omega) j1 (by omega), hb50⟩
  have y149 : v0 149 n = w := by rw [f0 149 (by omega), x149]
  have y150 : v0 150 n = (a : Int) := by rw [f0 150 (by omega), x150]
  have y152 : v0 152 n = low := by rw [f0 152 (by omega), x152]
  have y153 : v0 153 n = high := by rw [f0 153 (by omega), x153]
  have hwr : 0 ≤ wh w ∧ wh w ≤ 2 := by unfold wh; split <;> omega
  have hk' : wh w = 2 → 1 ≤ high ∧ high ≤ 14 := fun c => by
    have : w = 2 := by unfold wh at c; split at c <;> omega
    exact hk this
  have hh' : wh w ≠ 2 → low ≤ high ∧ high ≤ 999 := fun c => by
    have : w ≠ 2 := fun e => c (by rw [e]; decide)
    exact hh this
  -- the end
  have goodE : ∀ v' (pos : Nat) (T : List Int) (z4 z5 : q_V), tk L w sa sb low high = fin1 L pos T → mtf v' v0 → v' 137 41 = (pos : Int) → v' 137 43 = 0 → pos ≤ L.length → hasL v' 137 37 159 T → hasL v' 137 39 160 L → q_wp (d + 5) 209 341 [.inr (.inr (.inl (some 137))), .inl n, .inl rd, .inl w, z4, z5] [] v' G Q := fun v' pos T z4 z5 ht hm e1 e2 e3 hT hL' => by
    refine s_mend (d := d + 4) hG hl hL' e1 e2 e3 (fun c => ?_) (fun c => ?_)
    · unfold fin1 at ht
      rw [if_pos c] at ht
      exact hE _ pos 1 ht (mtf_tr m0 (mtf_tr hm ⟨fun b b1 _ _ => by rw [u_r b1, u_r b1], fun j _ j2 _ => by rw [u_n (by omega), u_n (by omega)], by
        unfold bl5
        simp (disch := omega) only [u_n]
        exact hm.2.2⟩)) (by rw [u_n (by omega), u_s rfl rfl]) (u_s rfl rfl) (by decide) (by decide)
    · unfold fin1 at ht
      rw [if_neg c] at ht
      exact hY v' T ht (mtf_tr m0 hm) e2 hT
  have key : q_call (d + 5) 206 [.inr (.inr (.inl (some 137))), .inl (wh w), .inl a, .inl low, .inl high, .inl rd] v0 G (fun r v' G' => q_wp (d + 5) 209 60 [.inr (.inr (.inl (some 137))), .inl n, .inl rd, .inl w, .inr (.inr (.inr ())), .inr (.inr (.inr ()))] (q_push r []) v' G' Q) := by
    refine m_rproof hG hl hL0 w41 w43 (Nat.zero_le _) hb50 hwr ha hrd (by rw [f0 148 (by omega), hsa]) sar hlo hk' hh' (fun v' e y hr hm e1 e2 y1 y2 => ?_) (fun v1 z hr hm p1 p2 hs p3 p4 => ?_)
    · have fin := s_m71 (d := d + 5) (v := v') (z1 := .inl n) (z2 := .inl rd) (w := w) (z4 := .inl 0) hG hw hm.2.2 (by rw [hm.2.1 58 (by omega) (by omega), w58]; decide) e2 y1 y2 (hE v' e y (by unfold tk; rw [hr]) (mtf_tr m0 (mtf_p hm)) e1 e2 y1 y2)
      simp (disch := omega) only [e_209_60, e_209_61, e_209_63, e_209_64, e_209_67, e_209_68, e_209_69, SHM hG, q_push_I, q_push_L, q_push_P, q_push_U]
      repeat' first | exact fin | (refine And.intro ?_ ?_) | exact True.intro | omega | rfl
    · obtain ⟨q1, q2, q3, q4, q5, q6⟩ := rdP_inr hr
      have eo := enw_ok q2.1 q3 (by omega) (fun c => (hk' c).1) (fun c => (hh' c).1) q4
      have ok := rwP_ok (by omega) (fun c => (hk' c).1) (fun c => (hh' c).1) hr
      have htk : tk L w sa sb low high = if w = 5 then (match rdP L z.1.1 sb 0 low high with
          | .inl e => .inl e
          | .inr z2 => fin1 L z2.1.1 (ansL w (rwP z) (rwP z2) 0))
        else if w = 4 ∨ w = 6 then (match prbs L sb (rwP z) z.1.1 [] with
          | .inl e => .inl e
          | .inr q => fin1 L q.1 (ansL w (rwP z) q.2 0))
        else fin1 L z.1.1 (ansL w (rwP z) [] (smP z)) := by
        unfold tk
        rw [hr]
        rfl
      have hL1 : hasL v1 137 39 160 L := ⟨by rw [hm.2.1 39 (by omega) (by omega)]; exact hL0.1, fun k hk => by rw [hm.1 160 (by omega) (by omega)]; exact hL0.2 k hk⟩
      have nx := s_mtot (d := d + 5) (G := G) (Q := Q) (z1 := .inl n) (z2 := .inl rd) (z3 := .inl w) (v0 := v1) hG hs (by omega) p4 (z.2.2.2 - z.2.1 - 1) (z.2.1 + 1) v1 [] 0 (by omega) (fun _ _ _ _ => rfl) (fun _ _ => rfl) ⟨by rw [hm.2.1 58 (by omega) (by omega), w58]; rfl, fun k hk => absurd hk (Nat.not_lt_zero _)⟩ (by show 0 + _ ≤ 16; omega) (fun v2 f2 f2q hR => by
        rw [List.nil_append] at hR
        have hR : hadR v2 (rwP z) := hR
        have hR1 := hR.1
        have m2 : mtf v2 v0 := mtf_tr (mtf_p hm) ⟨fun b b1 _ b3 => f2 b b1 (by omega) (by omega), fun j _ _ j3 => f2q j (by omega), by
          unfold bl5
          rw [f2q 56 (by omega), f2q 57 (by omega)]
          exact hm.2.2⟩
        have s41 : v2 137 41 = (z.1.1 : Int) := by rw [f2q 41 (by omega), p1]
        have s43 : v2 137 43 = 0 := by rw [f2q 43 (by omega), p2]
        have s37 : v2 137 37 = 0 := by rw [f2q 37 (by omega), hm.2.1 37 (by omega) (by omega), w37]
        have hT2 : hasL v2 137 37 159 [] := hasL_0 s37
        have hL2 : hasL v2 137 39 160 L := ⟨by rw [f2q 39 (by omega)]; exact hL1.1, fun k hk => by rw [f2 160 (by omega) (by omega) (by omega)]; exact hL1.2 k hk⟩
        have t151 : v2 151 n = (b : Int) := by rw [m2.1 151 (by omega) (by omega) (by omega), f0 151 (by omega), x151]
        have t152 : v2 152 n = low := by rw [m2.1 152 (by omega) (by omega) (by omega), y152]
        have t153 : v2 153 n = high := by rw [m2.1 153 (by omega) (by omega) (by omega), y153]
        have t148 : v2 148 (4 * rd + b) = sb := by rw [m2.1 148 (by omega) (by omega) (by omega), f0 148 (by omega), hsb]
        generalize htot : (0 : Int) + sumA z.1.2.2.2.2 (z.2.2.2 - z.2.1 - 1) (z.2.1 + 1) = tot
        by_cases c5 : w = 5
        · rw [if_pos c5] at htk
          have hh5 := hh (by omega)
          have k2 : q_call (d + 5) 206 [.inr (.inr (.inl (some 137))), .inl 0, .inl b, .inl low, .inl high, .inl rd] v2 G (fun r v' G' => q_wp (d + 5) 209 213 [.inr (.inr (.inl (some 137))), .inl n, .inl rd, .inl w, .inl tot, .inl ((z.2.2.2 : Nat))] (q_push r []) v' G' Q) := by
            refine m_rproof hG hl hL2 s41 s43 q6 m2.2.2 (by decide) hb hrd t148 sbr hlo (fun c => absurd c (by decide)) (fun _ => hh5) (fun v' e y hr2 hm2 e1 e2 y1 y2 => ?_) (fun v3 z2 hr2 hm2 r1 r2 hs2 r3 r4 => ?_)
            · rw [hr2] at htk
              have fin := s_m213 (d := d + 5) (z1 := .inl n) (z2 := .inl rd) (w := w) (z4 := .inl tot) (z5 := .inl ((z.2.2.2 : Nat))) hG hw (by rw [hm2.2.1 58 (by omega) (by omega), hR1]; omega) e2 y1 y2 (hE v' e y htk (mtf_tr m0 (mtf_tr m2 (mtf_p hm2))) e1 e2 y1 y2)
              simp only [q_push_I, q_push_L, q_push_P, q_push_U]
              exact fin
            · simp only [hr2] at htk
              obtain ⟨u1, u2, u3, u4, u5, u6⟩ := rdP_inr hr2
              have eo2 := enw_ok u2.1 u3 (by omega) (fun c => absurd c (by decide)) (fun _ => hh5.1) u4
              have ok2 := rwP_ok (by omega) (fun c => absurd c (by decide)) (fun _ => hh5.1) hr2
              have eA : ansL w (rwP z) (rwP z2) 0 = mat (rwP z2) (rwP z) := by unfold ansL; rw [if_neg (by omega), if_pos (Or.inr c5)]
              rw [eA] at htk
              have hR3 : hadR v3 (rwP z) := ⟨by rw [hm2.2.1 58 (by omega) (by omega)]; exact hR1, fun k hk => by rw [hm2.1 170 (by omega) (by omega), hm2.1 171 (by omega) (by omega)]; exact hR.2 k hk⟩
              have hT3 : hasL v3 137 37 159 [] := hasL_0 (by rw [hm2.2.1 37 (by omega) (by omega), s37])
              have lp := s_mrows (d := d + 2) (Q := Q) (z1 := .inl n) (z2 := .inl rd) (z4 := .inl tot) (s := z2.1) (N := nL L z.1.1) (x := z2.2.1) (y := z2.2.2.2) (RB := rwP z2) (v0 := v3) hG (show w = 0 ∨ w = 2 ∨ w = 3 ∨ w = 5 by omega) r2 hR3 ok.1 ok.2.2.1 (fun _ => ⟨hs2, u3, by omega, eo2.1, r3, r4, rfl, ok2.2.2.1⟩) (rwP z).length 0 v3 [] (by omega) (fun _ _ _ => rfl) (fun _ _ => rfl) hT3 (by show 0 + _ ≤ 64; have := ok.1; omega) (fun v4 z5 f4 f4q hT4 => by
                rw [List.nil_append, List.drop_zero, if_pos c5] at hT4
                exact goodE v4 z2.1.1 _ _ _ htk (mtf_tr m2 (mtf_tr (mtf_p hm2) ⟨fun b b1 b2 _ => f4 b b1 b2, fun j j1 _ _ => f4q j j1, by
                  unfold bl5
                  rw [f4q 56 (by omega), f4q 57 (by omega)]
                  exact hm2.2.2⟩)) (by rw [f4q 41 (by omega), r1]) (by rw [f4q 43 (by omega), r2]) u6 hT4 ⟨by rw [f4q 39 (by omega), hm2.2.1 39 (by omega) (by omega)]; exact hL2.1, fun k hk => by rw [f4 160 (by omega) (by omega), hm2.1 160 (by omega) (by omega)]; exact hL2.2 k hk⟩)
              have lp : q_wp (d + 5) 209 242 [.inr (.inr (.inl (some 137))), .inl n, .inl rd, .inl w, .inl tot, .inl 0] [] v3 G Q := lp
              simp (disch := omega) only [e_209_213, e_209_214, e_209_215, e_209_239, e_209_240, ↓if_neg, ↓if_pos, q_push_I, q_push_L, q_push_P, q_push_U]
              repeat' first | (refine And.intro ?_ ?_) | exact True.intro | omega | assumption | rfl
          simp (disch := omega) only [e_209_177, e_209_178, e_209_179, e_209_182, e_209_183, e_209_186, e_209_189, e_209_190, e_209_191, e_209_192, e_209_195, e_209_196, e_209_197, e_209_198, e_209_201, e_209_202, e_209_203, e_209_204, e_209_207, e_209_208, e_209_209, e_209_210, SHM hG, s43, t151, t152, t153, Int.toNat_natCast, ↓if_neg, ↓if_pos]
          repeat' first | (refine And.intro ?_ ?_) | exact True.intro | omega | assumption | rfl
        · rw [if_neg c5] at htk
          by_cases c4 : w = 4 ∨ w = 6
          · rw [if_pos c4] at htk
            have em := mprb_eq (L := L) (sb := sb) (w := w) (rwP z) z.1.1 [] [] (fun r hr => (ok.2.2.1 r hr).1) ok.2.1 (fun _ _ => rfl)
            have lp := s_mprobes (d := d) (Q := Q) (z4 := .inl tot) (v0 := v2) hG hl hn hrd hb t151 t148 sbr c4 ok.1 ok.2.2.1 (rwP z).length 0 z.1.1 v2 [] (by omega) ⟨fun _ _ _ _ => rfl, fun _ _ _ _ => rfl, m2.2.2⟩ hR hL2 s41 s43 q6 hT2 (by show 0 + _ ≤ 64; have := ok.1; omega) (fun v' e y hq hm' e1 e2 y1 y2 => by
              rw [List.drop_zero, em] at hq
              cases hp : prbs L sb (rwP z) z.1.1 [] with
              | inl x =>
                rw [hp] at hq htk
                have ex : x = (e, y) := Sum.inl.inj hq
                rw [ex] at htk
                exact hE v' e y htk (mtf_tr m0 (mtf_tr m2 hm')) e1 e2 y1 y2
              | inr x =>
                rw [hp] at hq
                cases hq) (fun v' x z5 hq hm' e1 e2 e3 hT' hL' => by
              rw [List.drop_zero, em] at hq
              cases hp : prbs L sb (rwP z) z.1.1 [] with
              | inl y =>
                rw [hp] at hq
                cases hq
              | inr y =>
                rw [hp] at hq
                simp only [hp] at htk
                have ex : (y.1, [] ++ (if w = 6 then mis y.2 (rwP z) else mat y.2 (rwP z))) = x := Sum.inr.inj hq
                have ex1 : y.1 = x.1 := congrArg Prod.fst ex
                have ex2 : (if w = 6 then mis y.2 (rwP z) else mat y.2 (rwP z)) = x.2 := congrArg Prod.snd ex
                have eA : ansL w (rwP z) y.2 0 = x.2 := by
                  rw [← ex2]
                  unfold ansL
                  rw [if_neg (by omega)]
                  by_cases c6 : w = 6
                  · rw [if_neg (by omega), if_pos c6]
                  · rw [if_pos (by omega), if_neg c6]
                rw [ex1, eA] at htk
                exact goodE v' x.1 x.2 _ _ htk (mtf_tr m2 hm') e1 e2 e3 hT' hL')
            have lp : q_wp (d + 5) 209 242 [.inr (.inr (.inl (some 137))), .inl n, .inl rd, .inl w, .inl tot, .inl 0] [] v2 G Q := lp
            simp (disch := omega) only [e_209_177, e_209_178, e_209_179, e_209_213, e_209_214, e_209_215, e_209_239, e_209_240, ↓if_neg, ↓if_pos]
            repeat' first | (refine And.intro ?_ ?_) | exact True.intro | omega | assumption | rfl
          · rw [if_neg c4] at htk
            by_cases c1 : w = 1
            · have wh1 : wh w = 1 := by rw [c1]; decide
              have eT : ansL w (rwP z) [] (smP z) = [((rwP z).length : Int), tot] := by
                unfold ansL
                rw [if_pos c1, ← htot, Int.zero_add]
                have e2 : z.2.2.1 = z.2.2.2 := (eo.2.2.2.2.1 (by rw [wh1]; decide)).1
                unfold smP
                rw [e2]
              rw [eT] at htk
              have t1 := hT2.1
              have t1 : v2 137 37 = 0 := t1
              generalize hv3 : q_apl v2 137 37 159 [((rwP z).length : Int), tot] = v3
              have f3q : ∀ j, j ≠ 37 → v3 137 j = v2 137 j := fun j hj => by rw [← hv3]; exact apl_n _ _ (by omega) (by omega)
              have f3 : ∀ b, b ≠ 137 → b ≠ 159 → v3 b = v2 b := fun b b1 b2 => by rw [← hv3, apl_r b1 b2]
              have hT3 : hasL v3 137 37 159 [((rwP z).length : Int), tot] := by
                have := hasL_apl (q := 137) (f := 37) (i := 159) (ys := [((rwP z).length : Int), tot]) (by decide) hT2
                rw [hv3] at this
                exact this
              have z43 : v3 137 43 = 0 := by rw [f3q 43 (by omega), s43]
              have z58 : v3 137 58 = ((rwP z).length : Int) := by rw [f3q 58 (by omega), hR1]
              have gd := goodE v3 z.1.1 _ (.inl tot) (.inl 0) htk (mtf_tr m2 ⟨fun b b1 b2 _ => f3 b b1 b2, fun j j1 _ _ => f3q j j1, by
                unfold bl5
                rw [f3q 56 (by omega), f3q 57 (by omega)]
                exact m2.2.2⟩) (by rw [f3q 41 (by omega), s41]) z43 q6 hT3 ⟨by rw [f3q 39 (by omega)]; exact hL2.1, fun k hk => by rw [f3 160 (by omega) (by omega)]; exact hL2.2 k hk⟩
              have lp : q_wp (d + 5) 209 242 [.inr (.inr (.inl (some 137))), .inl n, .inl rd, .inl w, .inl tot, .inl 0] [] v3 G Q := by
                have l14 := ok.1
                rw [e_209_242]
                by_cases c0 : (rwP z).length = 0
                · simp (disch := omega) only [e_209_244, e_209_245, e_209_248, e_209_251, e_209_252, e_209_255, e_209_258, e_209_259, e_209_260, SHM hG, z58, ↓if_neg, ↓if_pos]
                  repeat' first | (refine And.intro ?_ ?_) | exact True.intro | omega | assumption | rfl
                · simp (disch := omega) only [e_209_244, e_209_245, e_209_248, e_209_251, e_209_252, e_209_255, e_209_258, e_209_259, e_209_260, SHM hG, z58, z43, ↓if_neg, ↓if_pos]
                  repeat' first | (refine And.intro ?_ ?_) | exact True.intro | omega | assumption | rfl
              simp only [q_apl] at hv3
              simp (disch := first | assumption | omega | ((try simp (disch := omega) only [app_r, app_c]); first | assumption | omega)) only [e_209_177, e_209_178, e_209_179, e_209_213, e_209_214, e_209_215, e_209_218, e_209_219, e_209_222, e_209_225, e_209_226, e_209_227, e_209_230, e_209_233, e_209_234, e_209_236, e_209_239, e_209_240, SHM hG, s43, hR1, c_say, hv3, ↓if_neg, ↓if_pos, q_push_I, q_push_L, q_push_P, q_push_U]
              repeat' first | (refine And.intro ?_ ?_) | exact True.intro | omega | assumption | rfl
            · have eA : ansL w (rwP z) [] (smP z) = mis [] (rwP z) := by unfold ansL; rw [if_neg c1, if_neg (by omega)]
              rw [eA] at htk
              have lp := s_mrows (d := d + 2) (Q := Q) (z1 := .inl n) (z2 := .inl rd) (z4 := .inl tot) (s := z.1) (N := 0) (x := 0) (y := 0) (RB := []) (v0 := v2) hG (show w = 0 ∨ w = 2 ∨ w = 3 ∨ w = 5 by omega) s43 hR ok.1 ok.2.2.1 (fun c => absurd c c5) (rwP z).length 0 v2 [] (by omega) (fun _ _ _ => rfl) (fun _ _ => rfl) hT2 (by show 0 + _ ≤ 64; have := ok.1; omega) (fun v4 z5 f4 f4q hT4 => by
                rw [List.nil_append, List.drop_zero, if_neg c5] at hT4
                exact goodE v4 z.1.1 _ _ _ htk (mtf_tr m2 ⟨fun b b1 b2 _ => f4 b b1 b2, fun j j1 _ _ => f4q j j1, by
                  unfold bl5
                  rw [f4q 56 (by omega), f4q 57 (by omega)]
                  exact m2.2.2⟩) (by rw [f4q 41 (by omega), s41]) (by rw [f4q 43 (by omega), s43]) q6 hT4 ⟨by rw [f4q 39 (by omega)]; exact hL2.1, fun k hk => by rw [f4 160 (by omega) (by omega)]; exact hL2.2 k hk⟩)
              have lp : q_wp (d + 5) 209 242 [.inr (.inr (.inl (some 137))), .inl n, .inl rd, .inl w, .inl tot, .inl 0] [] v2 G Q := lp
              simp (disch := omega) only [e_209_177, e_209_178, e_209_179, e_209_213, e_209_214, e_209_215, e_209_239, e_209_240, ↓if_neg, ↓if_pos]
              repeat' first | (refine And.intro ?_ ?_) | exact True.intro | omega | assumption | rfl)
      simp (disch := omega) only [e_209_60, e_209_61, e_209_63, e_209_64, e_209_67, e_209_68, e_209_69, SHM hG, p3, q_push_I, q_push_L, q_push_P, q_push_U, show ((z.2.1 : Nat) : Int) + 1 = ((z.2.1 + 1 : Nat) : Int) by omega]
      repeat' first | (refine And.intro ?_ ?_) | exact True.intro | omega | assumption | rfl
  by_cases c3 : w < 3
  · have e3 : wh w = w := by unfold wh; rw [if_pos c3]
    rw [e3] at key
    simp (disch := omega) only [e_209, e_209_0, e_209_1, e_209_4, e_209_5, e_209_6, e_209_7, e_209_8, e_209_9, e_209_12, e_209_13, e_209_14, e_209_17, e_209_18, e_209_19, e_209_22, e_209_23, e_209_24, e_209_27, e_209_28, e_209_29, e_209_30, e_209_33, e_209_34, e_209_37, e_209_38, e_209_39, e_209_42, e_209_43, e_209_44, e_209_45, e_209_48, e_209_49, e_209_50, e_209_51, e_209_54, e_209_55, e_209_56, e_209_57, SHM hG, x149, y149, hv0, y150, y152, y153, Int.toNat_natCast, ↓if_neg, ↓if_pos]
    repeat' first | (refine And.intro ?_ ?_) | exact True.intro | omega | assumption | rfl
  · have e3 : wh w = 0 := by unfold wh; rw [if_neg c3]
    rw [e3] at key
    simp (disch := omega) only [e_209, e_209_0, e_209_1, e_209_4, e_209_5, e_209_6, e_209_7, e_209_8, e_209_9, e_209_12, e_209_13, e_209_14, e_209_17, e_209_18, e_209_19, e_209_22, e_209_23, e_209_24, e_209_27, e_209_28, e_209_29, e_209_30, e_209_33, e_209_34, e_209_37, e_209_38, e_209_39, e_209_42, e_209_43, e_209_44, e_209_45, e_209_48, e_209_49, e_209_50, e_209_51, e_209_54, e_209_55, e_209_56, e_209_57, SHM hG, x149, y149, hv0, y150, y152, y153, Int.toNat_natCast, ↓if_neg, ↓if_pos]
    repeat' first | (refine And.intro ?_ ?_) | exact True.intro | omega | assumption | rfl
end
