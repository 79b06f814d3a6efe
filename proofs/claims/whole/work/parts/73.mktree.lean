theorem half_i (n : Nat) : ((n : Int) + 1).tdiv 2 = (((n + 1) / 2 : Nat) : Int) := by
  rw [Int.tdiv_eq_ediv_of_nonneg (by omega)]
  omega
section
variable {d q : Nat} {v : q_H} {G : q_Gr} {Q : q_V → q_H → q_Gr → Prop}
theorem s_mout {m : Nat} {z2 z3 z4 z5 z6 z7 z8 : q_V} (hG : gok G) (hm : m < 100) (hw : v 137 43 = 1) (hQ : Q (.inr (.inr (.inr ()))) v G) : q_wp d 203 28 [.inr (.inr (.inl (some 137))), .inl m, z2, z3, z4, z5, z6, z7, z8] [] v G Q := by
  rw [e_203_28]
  by_cases c : m = 0
  · simp (disch := omega) only [e_203_29, e_203_32, e_203_33, e_203_36, e_203_347, ↓if_neg, ↓if_pos]
    repeat' first | (refine And.intro ?_ ?_) | exact True.intro | omega | assumption | rfl
  · simp (disch := omega) only [e_203_29, e_203_32, e_203_33, e_203_36, e_203_347, SHM hG, hw, ↓if_neg, ↓if_pos]
    repeat' first | (refine And.intro ?_ ?_) | exact True.intro | omega | assumption | rfl
theorem s_mpre {p k n : Nat} {last : Int} {z3 z4 z5 z6 z7 z8 : q_V} (hG : gok G) (hp : p < 40) (hk : k < 100) (hn : n < 100) (hw : v 137 43 = 0) (h5 : v 165 p = (k : Int)) (h6 : v 166 p = (n : Int)) (hC : q_wp d 203 70 [.inr (.inr (.inl (some 137))), .inl ((p + 1 : Nat)), .inl last, .inl p, .inl k, .inl n, .inl (((n + 1) / 2 : Nat)), .inl 1, z8] [] v G Q) : q_wp d 203 28 [.inr (.inr (.inl (some 137))), .inl ((p + 1 : Nat)), .inl last, z3, z4, z5, z6, z7, z8] [] v G Q := by
  rw [e_203_28]
  simp (disch := omega) only [e_203_29, e_203_32, e_203_33, e_203_36, e_203_39, e_203_40, e_203_41, e_203_42, e_203_43, e_203_44, e_203_47, e_203_48, e_203_49, e_203_51, e_203_52, e_203_55, e_203_56, e_203_57, e_203_59, e_203_61, e_203_62, e_203_63, e_203_64, e_203_65, e_203_67, e_203_68, SHM hG, hw, h5, h6, half_i, ↓if_neg, ↓if_pos, Int.toNat_natCast, show ((p + 1 : Nat) : Int) - 1 = (p : Int) by omega]
  repeat' first | (refine And.intro ?_ ?_) | exact True.intro | omega | assumption | rfl
theorem s_mtree {L : List Int} {N : Nat} (hG : gok G) (hl : lok L) (hN2 : 2 ≤ N) (hN : N ≤ 16) : ∀ (f k n p : Nat) (s : RS) (v : q_H) (z3 z4 z5 z6 z7 z8 : q_V), n ≤ f → 1 ≤ n → k + n ≤ N → p + n ≤ 38 → v 165 p = (k : Int) → v 166 p = (n : Int) → v 167 p = 0 → hasL v 137 39 160 L → v 137 44 = (N : Int) → mS v s → rdInv N k s → s.1 ≤ L.length →
    (∀ v' (e : Nat), rdT L N f k n s = .inl e → mrf v' v → v' 137 42 = (e : Int) → v' 137 43 = 1 → Q (.inr (.inr (.inr ()))) v' G) →
    (∀ v' (r : RS × Int × Int) (z3 z4 z5 z6 z7 z8 : q_V), rdT L N f k n s = .inr r → mrf v' v → mS v' r.1 → v' 137 54 = r.2.1 → v' 137 55 = r.2.2 → (∀ b j, 165 ≤ b → b ≤ 169 → j < p → v' b j = v b j) → q_wp (d + 3) 203 28 [.inr (.inr (.inl (some 137))), .inl p, .inl r.1.2.1, z3, z4, z5, z6, z7, z8] [] v' G Q) →
    q_wp (d + 3) 203 28 [.inr (.inr (.inl (some 137))), .inl ((p + 1 : Nat)), .inl s.2.1, z3, z4, z5, z6, z7, z8] [] v G Q := by
  intro f
  induction f with
  | zero => intro k n p s v z3 z4 z5 z6 z7 z8 h1 h2; omega
  | succ f ih =>
    intro k n p s v z3 z4 z5 z6 z7 z8 h1 h2 h3 hp h5 h6 h7 hL h8 hs hI hpos hF hC
    have hs' := hs
    obtain ⟨s1, s2, s3, s4, s5⟩ := hs'
    have hll := hl.1
    refine s_mpre hG (by omega) (by omega) (by omega) s2 h5 h6 ?_
    by_cases c : okN L s.1 0 1
    · have n0 : ∀ (d' : Nat) (Q' : q_V → q_H → q_Gr → Prop), q_call (d' + 2) 201 [.inr (.inr (.inl (some 137))), .inl 0, .inl 1] v G Q' = Q' (.inl (L.getD s.1 0)) (q_up v 137 41 ((s.1 : Int) + 1)) G := fun d' Q' => m_next_y hG hL hl s1 s2 (by decide) (by decide) c
      generalize hv1 : q_up v 137 41 ((s.1 : Int) + 1) = v1 at n0
      have f1 : ∀ b, b ≠ 137 → v1 b = v b := fun b hb => by rw [← hv1, u_r hb]
      have f1q : ∀ j, j ≠ 41 → v1 137 j = v 137 j := fun j hj => by rw [← hv1, u_n (by omega)]
      have w41 : v1 137 41 = ((s.1 + 1 : Nat) : Int) := by
        rw [← hv1, u_s rfl rfl]
        omega
      have w43 : v1 137 43 = 0 := by rw [f1q 43 (by omega), s2]
      have m1 : mrf v1 v := ⟨fun b b1 _ => f1 b b1, fun j j1 _ _ _ _ => f1q j j1⟩
      have hL1 := hasL_mrf m1 hL
      by_cases c0 : L.getD s.1 0 = 0
      · rw [c0] at n0
        by_cases c1 : okN L (s.1 + 1) 0 65520
        · have n1 : ∀ (d' : Nat) (Q' : q_V → q_H → q_Gr → Prop), q_call (d' + 2) 201 [.inr (.inr (.inl (some 137))), .inl 0, .inl 65520] v1 G Q' = Q' (.inl (L.getD (s.1 + 1) 0)) (q_up v1 137 41 (((s.1 + 1 : Nat) : Int) + 1)) G := fun d' Q' => m_next_y hG hL1 hl w41 w43 (by decide) (by decide) c1
          generalize hv2 : q_up (q_up v1 137 41 (((s.1 + 1 : Nat) : Int) + 1)) 137 54 (L.getD (s.1 + 1) 0) = v2
          have m2 : mrf v2 v := mrf_tr m1 ⟨fun b b1 _ => by rw [← hv2, u_r b1, u_r b1], fun j j1 j2 j3 j4 j5 => by rw [← hv2, u_n (by omega), u_n (by omega)]⟩
          have x41 : v2 137 41 = ((s.1 + 2 : Nat) : Int) := by
            rw [← hv2, u_n (by omega), u_s rfl rfl]
            omega
          have x43 : v2 137 43 = 0 := by rw [← hv2, u_n (by omega), u_n (by omega), w43]
          have x54 : v2 137 54 = L.getD (s.1 + 1) 0 := by rw [← hv2, u_s rfl rfl]
          have hL2 := hasL_mrf m2 hL
          have g2 : ∀ b, b ≠ 137 → v2 b = v b := fun b hb => by rw [← hv2, u_r hb, u_r hb, f1 b hb]
          by_cases c2 : okN L (s.1 + 2) 0 14000
          · have n2 : ∀ (d' : Nat) (Q' : q_V → q_H → q_Gr → Prop), q_call (d' + 2) 201 [.inr (.inr (.inl (some 137))), .inl 0, .inl 14000] v2 G Q' = Q' (.inl (L.getD (s.1 + 2) 0)) (q_up v2 137 41 (((s.1 + 2 : Nat) : Int) + 1)) G := fun d' Q' => m_next_y hG hL2 hl x41 x43 (by decide) (by decide) c2
            have fin := fun z3 z4 z5 z6 z7 z8 => hC (q_up (q_up (q_up v2 137 41 (((s.1 + 2 : Nat) : Int) + 1)) 137 55 (L.getD (s.1 + 2) 0)) 164 k (L.getD (s.1 + 2) 0)) _ z3 z4 z5 z6 z7 z8 (rdT_hy c c0 c1 c2) (mrf_tr m2 ⟨fun b b1 b2 => by rw [u_r (by omega), u_r b1, u_r b1], fun j j1 j2 j3 j4 j5 => by rw [u_n (by omega), u_n (by omega), u_n (by omega)]⟩) (by
              unfold hidS
              refine ⟨?_, ?_, fun j hj => ?_, fun j hj hS => ?_, fun j hj hS => ?_⟩
              · simp (disch := omega) only [u_n, u_s]
                omega
              · simp (disch := omega) only [u_n]
                exact x43
              · simp (disch := omega) only [u_n]
                rw [g2 161 (by omega)]
                exact s3 j hj
              · have jk := hI.1 j hS
                unfold upF
                simp (disch := omega) only [u_n, if_neg (show j ≠ k by omega)]
                rw [g2 162 (by omega), g2 163 (by omega)]
                exact s4 j hj hS
              · unfold upF
                by_cases e : j = k
                · simp only [if_pos e]
                  rw [u_s rfl e]
                · simp only [if_neg e]
                  simp (disch := omega) only [u_n]
                  rw [g2 164 (by omega)]
                  exact s5 j hj hS) (by simp (disch := omega) only [u_n]; exact x54) (by simp (disch := omega) only [u_n, u_s]) (fun b j b1 b2 _ => by
              rw [u_n (by omega), u_n (by omega), u_n (by omega), g2 b (by omega)])
            have fin := fin (.inl p) (.inl k) (.inl n) (.inl (((n + 1) / 2 : Nat))) (.inl 1) (.inl 0)
            unfold hidS at fin
            simp only at fin
            have o2 := c2.2
            simp (disch := first | assumption | omega | ((try simp (disch := omega) only [u_n, u_s]); first | assumption | omega)) only [e_203_70, e_203_71, e_203_74, e_203_75, e_203_76, e_203_79, e_203_80, e_203_81, e_203_82, e_203_85, e_203_87, e_203_88, e_203_91, e_203_94, e_203_96, e_203_99, e_203_100, e_203_101, e_203_102, e_203_105, e_203_108, e_203_111, e_203_112, e_203_113, e_203_114, e_203_117, e_203_120, e_203_123, e_203_124, e_203_127, e_203_129, e_203_130, e_203_133, e_203_134, e_203_211, e_203_331, e_203_332, e_203_334, e_203_337, e_203_338, e_203_341, e_203_342, e_203_343, e_203_344, SHM hG, h7, n0, w43, n1, hv2, n2, u_s, u_n, ↓if_neg, ↓if_pos, q_push_I, q_push_L, q_push_P, q_push_U, Int.toNat_natCast, show ((p + 1 : Nat) : Int) - 1 = (p : Int) by omega]
            repeat' first | exact fin | (refine And.intro ?_ ?_) | exact True.intro | omega | rfl
          · have n2 : ∀ (d' : Nat) (Q' : q_V → q_H → q_Gr → Prop), q_call (d' + 2) 201 [.inr (.inr (.inl (some 137))), .inl 0, .inl 14000] v2 G Q' = Q' (.inl 0) (q_up (q_up v2 137 42 ((s.1 + 2 : Nat) : Int)) 137 43 1) G := fun d' Q' => m_next_n hG hL2 hl x41 (by have := c1.1; omega) x43 (by decide) (by decide) c2
            have fin := s_mout (d := d + 3) (m := p) (z2 := .inl s.2.1) (z3 := .inl p) (z4 := .inl k) (z5 := .inl n) (z6 := .inl (((n + 1) / 2 : Nat))) (z7 := .inl 1) (z8 := .inl 0) hG (by omega) (v := q_up (q_up (q_up (q_up v2 137 42 ((s.1 + 2 : Nat) : Int)) 137 43 1) 137 55 0) 164 k 0) (by simp (disch := omega) only [u_n, u_s]) (hF _ (s.1 + 2) (rdT_h2 c c0 c1 c2) (mrf_tr m2 ⟨fun b b1 b2 => by rw [u_r (by omega), u_r b1, u_r b1, u_r b1], fun j j1 j2 j3 j4 j5 => by rw [u_n (by omega), u_n (by omega), u_n (by omega), u_n (by omega)]⟩) (by simp (disch := omega) only [u_n, u_s]) (by simp (disch := omega) only [u_n, u_s]))
            simp (disch := first | assumption | omega | ((try simp (disch := omega) only [u_n, u_s]); first | assumption | omega)) only [e_203_70, e_203_71, e_203_74, e_203_75, e_203_76, e_203_79, e_203_80, e_203_81, e_203_82, e_203_85, e_203_87, e_203_88, e_203_91, e_203_94, e_203_96, e_203_99, e_203_100, e_203_101, e_203_102, e_203_105, e_203_108, e_203_111, e_203_112, e_203_113, e_203_114, e_203_117, e_203_120, e_203_123, e_203_124, e_203_127, e_203_129, e_203_130, e_203_133, e_203_134, e_203_211, e_203_331, e_203_332, e_203_334, e_203_337, e_203_338, e_203_341, e_203_342, e_203_343, e_203_344, SHM hG, h7, n0, w43, n1, hv2, n2, u_s, u_n, ↓if_neg, ↓if_pos, q_push_I, q_push_L, q_push_P, q_push_U, Int.toNat_natCast, show ((p + 1 : Nat) : Int) - 1 = (p : Int) by omega]
            repeat' first | exact fin | (refine And.intro ?_ ?_) | exact True.intro | omega | rfl
        · have n1 : ∀ (d' : Nat) (Q' : q_V → q_H → q_Gr → Prop), q_call (d' + 2) 201 [.inr (.inr (.inl (some 137))), .inl 0, .inl 65520] v1 G Q' = Q' (.inl 0) (q_up (q_up v1 137 42 ((s.1 + 1 : Nat) : Int)) 137 43 1) G := fun d' Q' => m_next_n hG hL1 hl w41 (by have := c.1; omega) w43 (by decide) (by decide) c1
          generalize hv2 : q_up (q_up (q_up v1 137 42 ((s.1 + 1 : Nat) : Int)) 137 43 1) 137 54 0 = v2
          have m2 : mrf v2 v := mrf_tr m1 ⟨fun b b1 _ => by rw [← hv2, u_r b1, u_r b1, u_r b1], fun j j1 j2 j3 j4 j5 => by rw [← hv2, u_n (by omega), u_n (by omega), u_n (by omega)]⟩
          have x43 : v2 137 43 = 1 := by rw [← hv2, u_n (by omega), u_s rfl rfl]
          have x42 : v2 137 42 = ((s.1 + 1 : Nat) : Int) := by rw [← hv2, u_n (by omega), u_n (by omega), u_s rfl rfl]
          have n2 : ∀ (d' : Nat) (Q' : q_V → q_H → q_Gr → Prop), q_call (d' + 2) 201 [.inr (.inr (.inl (some 137))), .inl 0, .inl 14000] v2 G Q' = Q' (.inl 0) v2 G := fun d' Q' => m_next_w hG x43 (by decide) (by decide)
          have fin := s_mout (d := d + 3) (m := p) (z2 := .inl s.2.1) (z3 := .inl p) (z4 := .inl k) (z5 := .inl n) (z6 := .inl (((n + 1) / 2 : Nat))) (z7 := .inl 1) (z8 := .inl 0) hG (by omega) (v := q_up (q_up v2 137 55 0) 164 k 0) (by rw [u_n (by omega), u_n (by omega), x43]) (hF _ (s.1 + 1) (rdT_h1 c c0 c1) (mrf_tr m2 ⟨fun b b1 b2 => by rw [u_r (by omega), u_r b1], fun j j1 j2 j3 j4 j5 => by rw [u_n (by omega), u_n (by omega)]⟩) (by rw [u_n (by omega), u_n (by omega), x42]) (by rw [u_n (by omega), u_n (by omega), x43]))
          simp (disch := first | assumption | omega | ((try simp (disch := omega) only [u_n, u_s]); first | assumption | omega)) only [e_203_70, e_203_71, e_203_74, e_203_75, e_203_76, e_203_79, e_203_80, e_203_81, e_203_82, e_203_85, e_203_87, e_203_88, e_203_91, e_203_94, e_203_96, e_203_99, e_203_100, e_203_101, e_203_102, e_203_105, e_203_108, e_203_111, e_203_112, e_203_113, e_203_114, e_203_117, e_203_120, e_203_123, e_203_124, e_203_127, e_203_129, e_203_130, e_203_133, e_203_134, e_203_211, e_203_331, e_203_332, e_203_334, e_203_337, e_203_338, e_203_341, e_203_342, e_203_343, e_203_344, SHM hG, h7, n0, w43, n1, hv2, n2, u_s, u_n, ↓if_neg, ↓if_pos, q_push_I, q_push_L, q_push_P, q_push_U, Int.toNat_natCast, show ((p + 1 : Nat) : Int) - 1 = (p : Int) by omega]
          repeat' first | exact fin | (refine And.intro ?_ ?_) | exact True.intro | omega | rfl
      · have e1 : L.getD s.1 0 = 1 := by have := c.2; omega
        rw [e1] at n0
        have hs1 : mS v1 (s.1 + 1, s.2) := ⟨w41, w43, fun j hj => by rw [f1 161 (by omega)]; exact s3 j hj, fun j hj hS => by rw [f1 162 (by omega), f1 163 (by omega)]; exact s4 j hj hS, fun j hj hS => by rw [f1 164 (by omega)]; exact s5 j hj hS⟩
        have w44 : v1 137 44 = (N : Int) := by rw [f1q 44 (by omega), h8]
        by_cases cn : n ≤ 1
        · have en : n = 1 := by omega
          subst en
          have key : q_call (d + 3) 202 [.inr (.inr (.inl (some 137))), .inl k, .inl s.2.1] v1 G (fun r v' G' => q_wp (d + 3) 203 157 [.inr (.inr (.inl (some 137))), .inl ((p + 1 : Nat)), .inl s.2.1, .inl p, .inl k, .inl (((1 : Nat) : Int)), .inl (((1 + 1) / 2 : Nat)), .inl 1, .inl 1] (q_push r []) v' G' Q) := by
            refine m_leaf (s := (s.1 + 1, s.2)) hG hL1 hl hN2 hN w44 (by omega) hs1 hI (by have := c.1; show s.1 + 1 ≤ _; omega) (fun v' e he hm e1' e2' => ?_) (fun v' r hr hm hs' r1 r2 r3 r4 => ?_)
            · have fin := s_mout (d := d + 3) (m := p) (z2 := .inl (v' 162 k)) (z3 := .inl p) (z4 := .inl k) (z5 := .inl (((1 : Nat) : Int))) (z6 := .inl (((1 + 1) / 2 : Nat))) (z7 := .inl 1) (z8 := .inl 1) hG (by omega) e2' (hF v' e (he f 1 (Nat.le_refl _) s.1 rfl c c0) (mrf_tr m1 hm) e1' e2')
              simp (disch := omega) only [e_203_157, e_203_158, e_203_161, e_203_163, e_203_164, e_203_165, e_203_211, e_203_331, e_203_332, e_203_334, e_203_337, e_203_338, e_203_341, e_203_342, e_203_343, e_203_344, SHM hG, ↓if_neg, ↓if_pos, q_push_I, q_push_L, q_push_P, q_push_U, Int.toNat_natCast, show ((p + 1 : Nat) : Int) - 1 = (p : Int) by omega]
              repeat' first | exact fin | (refine And.intro ?_ ?_) | exact True.intro | omega | rfl
            · have fin := hC v' r (.inl p) (.inl k) (.inl (((1 : Nat) : Int))) (.inl (((1 + 1) / 2 : Nat))) (.inl 1) (.inl 1) (hr f 1 (Nat.le_refl _) s.1 rfl c c0) (mrf_tr m1 hm) hs' r1 r2 (fun b j b1 b2 _ => by rw [r4 b j b1 b2, f1 b (by omega)])
              simp (disch := omega) only [e_203_157, e_203_158, e_203_161, e_203_163, e_203_164, e_203_165, e_203_211, e_203_331, e_203_332, e_203_334, e_203_337, e_203_338, e_203_341, e_203_342, e_203_343, e_203_344, SHM hG, r3, ↓if_neg, ↓if_pos, q_push_I, q_push_L, q_push_P, q_push_U, Int.toNat_natCast, show ((p + 1 : Nat) : Int) - 1 = (p : Int) by omega]
              repeat' first | exact fin | (refine And.intro ?_ ?_) | exact True.intro | omega | rfl
          simp (disch := first | assumption | omega | ((try simp (disch := omega) only [u_n, u_s]); first | assumption | omega)) only [e_203_70, e_203_71, e_203_74, e_203_75, e_203_76, e_203_79, e_203_80, e_203_81, e_203_82, e_203_85, e_203_87, e_203_88, e_203_91, e_203_94, e_203_96, e_203_137, e_203_138, e_203_141, e_203_144, e_203_146, e_203_147, e_203_150, e_203_151, e_203_153, e_203_154, SHM hG, h7, n0, w43, ↓if_neg, ↓if_pos, q_push_I, q_push_L, q_push_P, q_push_U, Int.toNat_natCast]
          repeat' first | (refine And.intro ?_ ?_) | exact True.intro | omega | assumption | rfl
        · -- a fork: its left part
          generalize hv2 : q_up (q_up (q_up (q_up v1 167 p 1) 165 (p + 1) k) 166 (p + 1) (((n + 1) / 2 : Nat) : Int)) 167 (p + 1) 0 = v2
          have g2 : ∀ b, b ≠ 165 → b ≠ 166 → b ≠ 167 → v2 b = v1 b := fun b b1 b2 b3 => by rw [← hv2, u_r b3, u_r b2, u_r b1, u_r b3]
          have m2 : mrf v2 v1 := ⟨fun b b1 b2 => g2 b (by omega) (by omega) (by omega), fun j _ _ _ _ _ => by rw [g2 137 (by omega) (by omega) (by omega)]⟩
          have hs2 : mS v2 (s.1 + 1, s.2) := by
            obtain ⟨x1, x2, x3, x4, x5⟩ := hs1
            exact ⟨by rw [g2 137 (by omega) (by omega) (by omega)]; exact x1, by rw [g2 137 (by omega) (by omega) (by omega)]; exact x2, fun j hj => by rw [g2 161 (by omega) (by omega) (by omega)]; exact x3 j hj, fun j hj hS => by rw [g2 162 (by omega) (by omega) (by omega), g2 163 (by omega) (by omega) (by omega)]; exact x4 j hj hS, fun j hj hS => by rw [g2 164 (by omega) (by omega) (by omega)]; exact x5 j hj hS⟩
          have t5 : v2 165 (p + 1) = (k : Int) := by rw [← hv2]; simp (disch := omega) only [u_n, u_s]
          have t6 : v2 166 (p + 1) = (((n + 1) / 2 : Nat) : Int) := by rw [← hv2]; simp (disch := omega) only [u_n, u_s]
          have t7 : v2 167 (p + 1) = 0 := by rw [← hv2]; simp (disch := omega) only [u_s]
          have y5 : v2 165 p = (k : Int) := by rw [← hv2]; simp (disch := omega) only [u_n]; rw [f1 165 (by omega)]; exact h5
          have y6 : v2 166 p = (n : Int) := by rw [← hv2]; simp (disch := omega) only [u_n]; rw [f1 166 (by omega)]; exact h6
          have y7 : v2 167 p = 1 := by rw [← hv2]; simp (disch := omega) only [u_n, u_s]
          have yl : ∀ b j, 165 ≤ b → b ≤ 169 → j < p → v2 b j = v b j := fun b j b1 b2 hj => by rw [← hv2]; simp (disch := omega) only [u_n]; rw [f1 b (by omega)]
          have m02 := mrf_tr m1 m2
          have nx := ih k ((n + 1) / 2) (p + 1) (s.1 + 1, s.2) v2 (.inl p) (.inl k) (.inl n) (.inl (((n + 1) / 2 : Nat))) (.inl 0) (.inl 1) (by omega) (by omega) (by omega) (by omega) t5 t6 t7 (hasL_mrf m02 hL) (by rw [m02.2 44 (by omega) (by omega) (by omega) (by omega) (by omega), h8]) hs2 hI (by have := c.1; show s.1 + 1 ≤ _; omega) (fun v' e hr hm e1' e2' => hF v' e (rdT_k1 c c0 cn hr) (mrf_tr m02 hm) e1' e2') (fun v3 r1 z3 z4 z5 z6 z7 z8 hr1 hm3 hs3 a3 x3 k3 => by
            have ok1 := rd_ok hN2 f k ((n + 1) / 2) (s.1 + 1, s.2) (by omega) (by omega) (by omega) hI r1 hr1
            have y5' : v3 165 p = (k : Int) := by rw [k3 165 p (by omega) (by omega) (by omega), y5]
            have y6' : v3 166 p = (n : Int) := by rw [k3 166 p (by omega) (by omega) (by omega), y6]
            have y7' : v3 167 p = 1 := by rw [k3 167 p (by omega) (by omega) (by omega), y7]
            have w3 := hs3.2.1
            refine s_mpre hG (by omega) (by omega) (by omega) w3 y5' y6' ?_
            generalize hv4 : q_up (q_up (q_up (q_up (q_up (q_up v3 168 p r1.2.1) 169 p r1.2.2) 167 p 2) 165 (p + 1) ((k + (n + 1) / 2 : Nat) : Int)) 166 (p + 1) ((n - (n + 1) / 2 : Nat) : Int)) 167 (p + 1) 0 = v4
            have g4 : ∀ b, ¬ (165 ≤ b ∧ b ≤ 169) → v4 b = v3 b := fun b hb => by rw [← hv4, u_r (by omega), u_r (by omega), u_r (by omega), u_r (by omega), u_r (by omega), u_r (by omega)]
            have m4 : mrf v4 v3 := ⟨fun b b1 b2 => g4 b (by omega), fun j _ _ _ _ _ => by rw [g4 137 (by omega)]⟩
            have m04 := mrf_tr m02 (mrf_tr hm3 m4)
            have hs4 : mS v4 r1.1 := by
              obtain ⟨x1, x2, x3, x4, x5⟩ := hs3
              exact ⟨by rw [g4 137 (by omega)]; exact x1, by rw [g4 137 (by omega)]; exact x2, fun j hj => by rw [g4 161 (by omega)]; exact x3 j hj, fun j hj hS => by rw [g4 162 (by omega), g4 163 (by omega)]; exact x4 j hj hS, fun j hj hS => by rw [g4 164 (by omega)]; exact x5 j hj hS⟩
            have t5 : v4 165 (p + 1) = ((k + (n + 1) / 2 : Nat) : Int) := by rw [← hv4]; simp (disch := omega) only [u_n, u_s]
            have t6 : v4 166 (p + 1) = ((n - (n + 1) / 2 : Nat) : Int) := by rw [← hv4]; simp (disch := omega) only [u_n, u_s]
            have t7 : v4 167 (p + 1) = 0 := by rw [← hv4]; simp (disch := omega) only [u_s]
            have y5 : v4 165 p = (k : Int) := by rw [← hv4]; simp (disch := omega) only [u_n]; exact y5'
            have y6 : v4 166 p = (n : Int) := by rw [← hv4]; simp (disch := omega) only [u_n]; exact y6'
            have y7 : v4 167 p = 2 := by rw [← hv4]; simp (disch := omega) only [u_n, u_s]
            have y8 : v4 168 p = r1.2.1 := by rw [← hv4]; simp (disch := omega) only [u_n, u_s]
            have y9 : v4 169 p = r1.2.2 := by rw [← hv4]; simp (disch := omega) only [u_n, u_s]
            have yl4 : ∀ b j, 165 ≤ b → b ≤ 169 → j < p → v4 b j = v b j := fun b j b1 b2 hj => by rw [← hv4]; simp (disch := omega) only [u_n]; rw [k3 b j b1 b2 (by omega), yl b j b1 b2 hj]
            have nx := ih (k + (n + 1) / 2) (n - (n + 1) / 2) (p + 1) r1.1 v4 (.inl p) (.inl k) (.inl n) (.inl (((n + 1) / 2 : Nat))) (.inl 0) z8 (by omega) (by omega) (by omega) (by omega) t5 t6 t7 (hasL_mrf m04 hL) (by rw [m04.2 44 (by omega) (by omega) (by omega) (by omega) (by omega), h8]) hs4 ok1.1 ok1.2.2.2.2 (fun v' e hr hm e1' e2' => hF v' e (rdT_k2 c c0 cn hr1 hr) (mrf_tr m04 hm) e1' e2') (fun v5 r2 z3 z4 z5 z6 z7 z8 hr2 hm5 hs5 a5 x5 k5 => by
              have ok2 := rd_ok hN2 f (k + (n + 1) / 2) (n - (n + 1) / 2) r1.1 (by omega) (by omega) (by omega) ok1.1 r2 hr2
              have u5 : v5 165 p = (k : Int) := by rw [k5 165 p (by omega) (by omega) (by omega), y5]
              have u6 : v5 166 p = (n : Int) := by rw [k5 166 p (by omega) (by omega) (by omega), y6]
              have u7 : v5 167 p = 2 := by rw [k5 167 p (by omega) (by omega) (by omega), y7]
              have u8 : v5 168 p = r1.2.1 := by rw [k5 168 p (by omega) (by omega) (by omega), y8]
              have u9 : v5 169 p = r1.2.2 := by rw [k5 169 p (by omega) (by omega) (by omega), y9]
              refine s_mpre hG (by omega) (by omega) (by omega) hs5.2.1 u5 u6 ?_
              have efk : ∀ (d' : Nat) (Q' : q_V → q_H → q_Gr → Prop), q_call (d' + 2) 166 [.inl r1.2.1, .inl r2.2.1, .inl r1.2.2, .inl r2.2.2] v5 G Q' = Q' (.inl (J (J r1.2.1 r2.2.1) (J r1.2.2 r2.2.2))) v5 G := fun d' Q' => c_mfork (by omega) (by omega) (by omega) (by omega) (by omega) (by omega) (by omega) (by omega)
              have fin := hC (q_up (q_up v5 137 54 (J (J r1.2.1 r2.2.1) (J r1.2.2 r2.2.2))) 137 55 (r2.2.2 + r1.2.2)) _ (.inl p) (.inl k) (.inl n) (.inl (((n + 1) / 2 : Nat))) (.inl 1) z8 (rdT_ky c c0 cn hr1 hr2) (mrf_tr m04 (mrf_tr hm5 ⟨fun b b1 _ => by rw [u_r b1, u_r b1], fun j j1 j2 j3 j4 j5 => by rw [u_n (by omega), u_n (by omega)]⟩)) (by
                obtain ⟨x1, x2, x3, x4, x5⟩ := hs5
                exact ⟨by rw [u_n (by omega), u_n (by omega)]; exact x1, by rw [u_n (by omega), u_n (by omega)]; exact x2, fun j hj => by rw [u_n (by omega), u_n (by omega)]; exact x3 j hj, fun j hj hS => by rw [u_n (by omega), u_n (by omega), u_n (by omega), u_n (by omega)]; exact x4 j hj hS, fun j hj hS => by rw [u_n (by omega), u_n (by omega)]; exact x5 j hj hS⟩) (by rw [u_n (by omega), u_s rfl rfl]) (by rw [u_s rfl rfl]; show r2.2.2 + r1.2.2 = r1.2.2 + r2.2.2; omega) (fun b j b1 b2 hj => by rw [u_n (by omega), u_n (by omega), k5 b j b1 b2 (by omega), yl4 b j b1 b2 hj])
              simp (disch := first | assumption | omega | ((try simp (disch := omega) only [u_n, u_s]); first | assumption | omega)) only [e_203_70, e_203_71, e_203_74, e_203_75, e_203_76, e_203_214, e_203_215, e_203_218, e_203_219, e_203_220, e_203_221, e_203_289, e_203_290, e_203_291, e_203_294, e_203_295, e_203_296, e_203_297, e_203_300, e_203_301, e_203_304, e_203_305, e_203_306, e_203_307, e_203_310, e_203_313, e_203_316, e_203_317, e_203_318, e_203_321, e_203_322, e_203_325, e_203_326, e_203_327, e_203_328, e_203_331, e_203_332, e_203_334, e_203_337, e_203_338, e_203_341, e_203_342, e_203_343, e_203_344, SHM hG, u7, u8, u9, a5, x5, efk, u_n, u_s, ↓if_neg, ↓if_pos, q_push_I, q_push_L, q_push_P, q_push_U, Int.toNat_natCast, show ((p + 1 : Nat) : Int) - 1 = (p : Int) by omega]
              repeat' first | exact fin | (refine And.intro ?_ ?_) | exact True.intro | omega | rfl)
            have nx : q_wp (d + 3) 203 28 [.inr (.inr (.inl (some 137))), .inl ((p + 1 + 1 : Nat)), .inl r1.1.2.1, .inl p, .inl k, .inl n, .inl (((n + 1) / 2 : Nat)), .inl 0, z8] [] v4 G Q := nx
            simp (disch := first | assumption | omega | ((try simp (disch := omega) only [u_n, u_s]); first | assumption | omega)) only [e_203_70, e_203_71, e_203_74, e_203_75, e_203_76, e_203_214, e_203_215, e_203_218, e_203_219, e_203_220, e_203_221, e_203_224, e_203_225, e_203_227, e_203_228, e_203_231, e_203_232, e_203_233, e_203_236, e_203_237, e_203_238, e_203_241, e_203_242, e_203_243, e_203_246, e_203_247, e_203_248, e_203_251, e_203_252, e_203_253, e_203_254, e_203_255, e_203_258, e_203_259, e_203_261, e_203_263, e_203_264, e_203_265, e_203_266, e_203_269, e_203_270, e_203_272, e_203_274, e_203_275, e_203_276, e_203_277, e_203_280, e_203_281, e_203_282, e_203_283, e_203_286, e_203_331, e_203_332, e_203_334, e_203_337, e_203_338, e_203_341, e_203_342, e_203_343, e_203_344, SHM hG, y7', a3, x3, u_n, u_s, ↓if_neg, ↓if_pos, Int.toNat_natCast, show ((p + 1 : Nat) : Int) + 1 - 0 = ((p + 1 + 1 : Nat) : Int) by omega, show (k : Int) + (((n + 1) / 2 : Nat) : Int) = ((k + (n + 1) / 2 : Nat) : Int) by omega, show (n : Int) - (((n + 1) / 2 : Nat) : Int) = ((n - (n + 1) / 2 : Nat) : Int) by omega, hv4]
            repeat' first | (refine And.intro ?_ ?_) | exact True.intro | omega | assumption | rfl)
          have nx : q_wp (d + 3) 203 28 [.inr (.inr (.inl (some 137))), .inl ((p + 1 + 1 : Nat)), .inl s.2.1, .inl p, .inl k, .inl n, .inl (((n + 1) / 2 : Nat)), .inl 0, .inl 1] [] v2 G Q := nx
          simp (disch := first | assumption | omega | ((try simp (disch := omega) only [u_n, u_s]); first | assumption | omega)) only [e_203_70, e_203_71, e_203_74, e_203_75, e_203_76, e_203_79, e_203_80, e_203_81, e_203_82, e_203_85, e_203_87, e_203_88, e_203_91, e_203_94, e_203_96, e_203_137, e_203_138, e_203_141, e_203_144, e_203_146, e_203_147, e_203_168, e_203_169, e_203_172, e_203_175, e_203_176, e_203_178, e_203_179, e_203_182, e_203_183, e_203_184, e_203_185, e_203_186, e_203_189, e_203_190, e_203_192, e_203_193, e_203_194, e_203_197, e_203_198, e_203_200, e_203_201, e_203_202, e_203_205, e_203_206, e_203_207, e_203_208, e_203_211, e_203_331, e_203_332, e_203_334, e_203_337, e_203_338, e_203_341, e_203_342, e_203_343, e_203_344, SHM hG, h7, n0, w43, u_n, u_s, hv2, ↓if_neg, ↓if_pos, q_push_I, q_push_L, q_push_P, q_push_U, Int.toNat_natCast, show ((p + 1 : Nat) : Int) + 1 - 0 = ((p + 1 + 1 : Nat) : Int) by omega]
          repeat' first | (refine And.intro ?_ ?_) | exact True.intro | omega | assumption | rfl
    · have n0 : ∀ (d' : Nat) (Q' : q_V → q_H → q_Gr → Prop), q_call (d' + 2) 201 [.inr (.inr (.inl (some 137))), .inl 0, .inl 1] v G Q' = Q' (.inl 0) (q_up (q_up v 137 42 (s.1 : Int)) 137 43 1) G := fun d' Q' => m_next_n hG hL hl s1 hpos s2 (by decide) (by decide) c
      have fin := s_mout (d := d + 3) (m := p) (z2 := .inl s.2.1) (z3 := .inl p) (z4 := .inl k) (z5 := .inl n) (z6 := .inl (((n + 1) / 2 : Nat))) (z7 := .inl 1) (z8 := .inl 0) hG (by omega) (v := q_up (q_up v 137 42 (s.1 : Int)) 137 43 1) (u_s rfl rfl) (hF _ s.1 (rdT_1 c) ⟨fun b b1 b2 => by rw [u_r b1, u_r b1], fun j j1 j2 j3 j4 j5 => by rw [u_n (by omega), u_n (by omega)]⟩ (by rw [u_n (by omega), u_s rfl rfl]) (u_s rfl rfl))
      simp (disch := first | assumption | omega | ((try simp (disch := omega) only [u_n, u_s]); first | assumption | omega)) only [e_203_70, e_203_71, e_203_74, e_203_75, e_203_76, e_203_79, e_203_80, e_203_81, e_203_82, e_203_85, e_203_87, e_203_88, e_203_91, e_203_94, e_203_137, e_203_138, e_203_141, e_203_168, e_203_169, e_203_172, e_203_211, e_203_331, e_203_332, e_203_334, e_203_337, e_203_338, e_203_341, e_203_342, e_203_343, e_203_344, SHM hG, h7, n0, u_s, u_n, ↓if_neg, ↓if_pos, q_push_I, q_push_L, q_push_P, q_push_U, Int.toNat_natCast, show ((p + 1 : Nat) : Int) - 1 = (p : Int) by omega]
      repeat' first | exact fin | (refine And.intro ?_ ?_) | exact True.intro | omega | rfl
end
