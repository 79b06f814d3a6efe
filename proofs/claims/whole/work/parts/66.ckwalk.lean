/-! ===== trees by their numbers ===== -/
def ancB (t u : Nat) : Bool := u == t || u / 2 == t || u / 4 == t || u / 8 == t || u / 16 == t
abbrev anc (t u : Nat) : Prop := ancB t u = true
theorem anc_rf (t : Nat) : anc t t := by
  unfold anc ancB
  simp
theorem anc_up : ∀ t, t < 16 → 1 ≤ t → ∀ u, u < 32 → anc (2 * t) u ∨ anc (2 * t + 1) u → anc t u := by decide +kernel
theorem anc_dj : ∀ t, t < 16 → 1 ≤ t → ∀ u, u < 32 → anc (2 * t) u → ¬ anc (2 * t + 1) u := by decide +kernel
theorem anc_ne : ∀ t, t < 16 → 1 ≤ t → ¬ anc (2 * t) t ∧ ¬ anc (2 * t + 1) t := by decide +kernel
theorem anc_sp : ∀ t, t < 16 → 1 ≤ t → ∀ u, u < 32 → anc t u → u = t ∨ anc (2 * t) u ∨ anc (2 * t + 1) u := by decide +kernel
theorem anc_ch : ∀ t, t < 32 → 1 ≤ t → ∀ u, u < 16 → anc t u → anc t (2 * u) ∧ anc t (2 * u + 1) := by decide +kernel
theorem anc_hi : ∀ t, t < 32 → 16 ≤ t → ∀ u, u < 32 → anc t u → u = t := by decide +kernel
theorem anc_1 : ∀ u, u < 32 → 1 ≤ u → anc 1 u := by decide +kernel
def evT (o se su : Nat → Int) (t : Nat) : Int × Int := if h : o t = 1 ∧ 1 ≤ t ∧ t < 16 then (J (J (evT o se su (2 * t)).1 (evT o se su (2 * t + 1)).1) (J (evT o se su (2 * t)).2 (evT o se su (2 * t + 1)).2), (evT o se su (2 * t)).2 + (evT o se su (2 * t + 1)).2) else (se t, su t)
termination_by 32 - t
decreasing_by all_goals omega
theorem evT_k {o se su : Nat → Int} {t : Nat} (h : o t = 1) (h1 : 1 ≤ t) (h2 : t < 16) : evT o se su t = (J (J (evT o se su (2 * t)).1 (evT o se su (2 * t + 1)).1) (J (evT o se su (2 * t)).2 (evT o se su (2 * t + 1)).2), (evT o se su (2 * t)).2 + (evT o se su (2 * t + 1)).2) := by rw [evT, dif_pos ⟨h, h1, h2⟩]
theorem evT_l {o se su : Nat → Int} {t : Nat} (h : ¬ (o t = 1 ∧ 1 ≤ t ∧ t < 16)) : evT o se su t = (se t, su t) := by rw [evT, dif_neg h]
theorem evT_cg {o se su o' se' su' : Nat → Int} : ∀ (m t : Nat), 32 - t ≤ m → 1 ≤ t → t < 32 → (∀ u, u < 32 → anc t u → o' u = o u ∧ se' u = se u ∧ su' u = su u) → evT o' se' su' t = evT o se su t := by
  intro m
  induction m with
  | zero => intro t h1 h2 h3; omega
  | succ m ih =>
    intro t h1 h2 h3 h
    have ht := h t h3 (anc_rf t)
    by_cases c : o t = 1 ∧ 1 ≤ t ∧ t < 16
    · rw [evT_k (by rw [ht.1]; exact c.1) c.2.1 c.2.2, evT_k c.1 c.2.1 c.2.2, ih (2 * t) (by omega) (by omega) (by omega) (fun u hu ha => h u hu (anc_up t c.2.2 h2 u hu (Or.inl ha))), ih (2 * t + 1) (by omega) (by omega) (by omega) (fun u hu ha => h u hu (anc_up t c.2.2 h2 u hu (Or.inr ha)))]
    · rw [evT_l (by rw [ht.1]; exact c), evT_l c, ht.2.1, ht.2.2]
def gdT (o se su : Nat → Int) (u : Nat) : Prop := (o u = 1 ∧ u < 16) ∨ (o u = 0 ∧ (0 ≤ se u ∧ se u ≤ 65520) ∧ 0 ≤ su u ∧ su u ≤ 14000)
theorem gdT_cg {o se su o' se' su' : Nat → Int} {u : Nat} (h : o' u = o u ∧ se' u = se u ∧ su' u = su u) (hg : gdT o se su u) : gdT o' se' su' u := by
  unfold gdT
  rw [h.1, h.2.1, h.2.2]
  exact hg
def wdT (u : Nat) : Int := if u < 2 then 16 else if u < 4 then 8 else if u < 8 then 4 else if u < 16 then 2 else 1
theorem wdT_2 : ∀ u, u < 16 → 1 ≤ u → wdT (2 * u) + wdT (2 * u + 1) = wdT u ∧ 1 ≤ wdT u ∧ wdT (2 * u) ≤ 8 ∧ wdT (2 * u + 1) ≤ 8 := by decide +kernel
theorem wdT_1 (u : Nat) : 1 ≤ wdT u ∧ wdT u ≤ 16 := by
  unfold wdT
  repeat' split
  all_goals omega
theorem evT_rng {o se su : Nat → Int} (H : ∀ u, 1 ≤ u → u < 16 → o u = 1 → gdT o se su (2 * u) ∧ gdT o se su (2 * u + 1)) : ∀ (m u : Nat), 32 - u ≤ m → 1 ≤ u → u < 32 → gdT o se su u → (0 ≤ (evT o se su u).1 ∧ (evT o se su u).1 ≤ 65520) ∧ 0 ≤ (evT o se su u).2 ∧ (evT o se su u).2 ≤ 14000 * wdT u := by
  intro m
  induction m with
  | zero => intro u h1 h2 h3; omega
  | succ m ih =>
    intro u h1 h2 h3 hg
    by_cases c : o u = 1 ∧ u < 16
    · have hc := H u h2 c.2 c.1
      have a := ih (2 * u) (by omega) (by omega) (by omega) hc.1
      have b := ih (2 * u + 1) (by omega) (by omega) (by omega) hc.2
      have hw := wdT_2 u c.2 h2
      rw [evT_k c.1 h2 c.2]
      refine ⟨J_rng _ _, ?_, ?_⟩
      · show 0 ≤ (evT o se su (2 * u)).2 + (evT o se su (2 * u + 1)).2
        omega
      · show (evT o se su (2 * u)).2 + (evT o se su (2 * u + 1)).2 ≤ _
        omega
    · rcases hg with hg | hg
      · exact absurd hg c
      · have hw := wdT_1 u
        rw [evT_l (fun q => c ⟨q.1, q.2.2⟩)]
        refine ⟨hg.2.1, hg.2.2.1, ?_⟩
        show su u ≤ _
        have := hg.2.2.2
        omega
section
variable {d q : Nat} {v : q_H} {G : q_Gr} {Q : q_V → q_H → q_Gr → Prop}
/-- readTree: one node -/
theorem c_rt {L : List Int} {N f k w t : Nat} {s : RS} (g : gChk G q) (hL : hasL v (q + 1) 1 (q + 1 + 1) L) (hl : lok L) (hN2 : 2 ≤ N) (hN : N ≤ 16) (h8 : v q 8 = (N : Int)) (ht1 : 1 ≤ t) (ht : t < 32) (hk : v (q + 3 + 1) t = (k : Int)) (hw : v (q + 3 + 2) t = (w : Int)) (hw1 : 1 ≤ w) (hkw : k + w ≤ N) (hs : cS v q s) (hI : rdInv N k s) (hpos : s.1 ≤ 600)
  (hF : ∀ v' (e t' : Nat), rdT L N (f + 1) k w s = .inl e → cfr q v' v → v' q 1 = (e : Int) → v' q 2 = 1 → t' < 32 → Q (.inl (t')) v' G)
  (hD : ∀ v' (r : RS × Int × Int), rdT L N (f + 1) k w s = .inr r → cfr q v' v → cS v' q r.1 → v' (q + 3 + 3) t = r.2.1 → v' (q + 3 + 4) t = r.2.2 → (∀ u, u ≠ t → v' (q + 3 + 3) u = v (q + 3 + 3) u ∧ v' (q + 3 + 4) u = v (q + 3 + 4) u) → v' (q + 9) = v (q + 9) → r.2.2 ≤ 14000 → Q (.inl ((bh t : Nat))) v' G)
  (hK : okN L s.1 0 1 → L.getD s.1 0 ≠ 0 → ¬ w ≤ 1 → Q (.inl ((2 * t : Nat))) (q_up (q_up v q 1 ((s.1 : Int) + 1)) (q + 9) t 1) G) : q_call (d + 5) 26 [.inr (.inr (.inl (some q))), .inl t] v G Q := by
  have g' := g
  obtain ⟨g0, ⟨g1, g2, g3, g4, g5, g6, g7, g8, g9⟩, gN, gT, k1, k2, k3, k4, gA, gB, gR, q1, q2⟩ := g'
  obtain ⟨s1, s2, s3, s4, s5, s6⟩ := hs
  have hb := bh_lt t ht
  by_cases c : okN L s.1 0 1
  · generalize hv1 : q_up v q 1 ((s.1 : Int) + 1) = v1 at hK
    have hL1 : hasL v1 (q + 1) 1 (q + 1 + 1) L := by rw [← hv1]; exact hasL_fr (u_r (by omega)) (u_r (by omega)) hL
    have w1 : v1 q 1 = ((s.1 + 1 : Nat) : Int) := by rw [← hv1, u_s rfl rfl]; omega
    have w2 : v1 q 2 = 0 := by rw [← hv1, u_n (by omega), s2]
    have w8 : v1 q 8 = (N : Int) := by rw [← hv1, u_n (by omega), h8]
    have w9 : v1 q 9 = s.2.1 := by rw [← hv1, u_n (by omega), s3]
    have wr : ∀ b, b ≠ q → v1 b = v b := fun b hb => by rw [← hv1, u_r hb]
    have wq : ∀ j, j ≠ 1 → v1 q j = v q j := fun j hj => by rw [← hv1, u_n (by omega)]
    have wk : v1 (q + 3 + 1) t = (k : Int) := by rw [wr _ (by omega), hk]
    have ww : v1 (q + 3 + 2) t = (w : Int) := by rw [wr _ (by omega), hw]
    have n0 : ∀ (d' : Nat) (Q' : q_V → q_H → q_Gr → Prop), q_call (d' + 3) 23 [.inr (.inr (.inl (some q))), .inl 0, .inl 1] v G Q' = Q' (.inl (L.getD s.1 0)) v1 G := fun d' Q' => by rw [c_next_y g hL hl s1 (by decide) (by decide) c, hv1]
    have cf1 : cfr q v1 v := ⟨fun b b1 _ => wr b b1, fun j j1 _ _ => wq j j1⟩
    by_cases c0 : L.getD s.1 0 = 0
    · rw [c0] at n0
      by_cases c1 : okN L (s.1 + 1) 0 65520
      · by_cases c2 : okN L (s.1 + 2) 0 14000
        · have r1 := fun (d' : Nat) (Q' : q_V → q_H → q_Gr → Prop) => c_rhy (d := d') (Q := Q') g hL1 hl w1 (by omega) w2 ht wk (by omega) c1 c2
          generalize hv2 : q_up (q_up (q_up (q_up (q_up v1 q 1 (((s.1 + 1 : Nat) : Int) + 1)) q 1 (((s.1 + 1 + 1 : Nat) : Int) + 1)) (q + 3 + 3) t (L.getD (s.1 + 1) 0)) (q + 3 + 4) t (L.getD (s.1 + 1 + 1) 0)) (q + 11) k (L.getD (s.1 + 1 + 1) 0) = v2 at r1
          have fin := hD v2 _ (rdT_hy c c0 c1 c2) (cfr_tr cf1 ⟨fun b b1 b2 => by rw [← hv2, u_r (by omega), u_r (by omega), u_r (by omega), u_r (by omega), u_r (by omega)], fun j j1 j2 j3 => by rw [← hv2]; simp (disch := omega) only [u_n]⟩) (by
            unfold hidS
            refine ⟨?_, ?_, ?_, fun j hj => ?_, fun j hj hS => ?_, fun j hj => ?_⟩
            · rw [← hv2]
              simp (disch := omega) only [u_n, u_s]
              omega
            · rw [← hv2]
              simp (disch := omega) only [u_n]
              exact w2
            · rw [← hv2]
              simp (disch := omega) only [u_n]
              exact w9
            · rw [← hv2]
              simp (disch := omega) only [u_n]
              rw [wr _ (by omega)]
              exact s4 j hj
            · rw [← hv2]
              simp (disch := omega) only [u_n]
              rw [wr _ (by omega)]
              exact s5 j hj hS
            · unfold upF
              simp only
              rw [← hv2]
              by_cases e : j = k
              · rw [u_s rfl e, if_pos e]
              · rw [if_neg e]
                simp (disch := omega) only [u_n]
                rw [wr _ (by omega)]
                exact s6 j hj) (by rw [← hv2]; simp (disch := omega) only [u_n, u_s]) (by rw [← hv2]; simp (disch := omega) only [u_n, u_s]) (fun u hu => by
            rw [← hv2]
            simp (disch := omega) only [u_n]
            rw [wr _ (by omega), wr _ (by omega)]
            exact ⟨rfl, rfl⟩) (by rw [← hv2, u_r (by omega), u_r (by omega), u_r (by omega), u_r (by omega), u_r (by omega), wr _ (by omega)]) c2.2.2
          simp (disch := first | assumption | omega | ((try simp (disch := omega) only [u_n, u_s]); first | assumption | omega)) only [E26, g0, n0, w2, r1, c_within, c_bh ht, ↓if_neg, ↓if_pos, q_push_I, q_push_L, q_push_P, q_push_U]
          repeat' first | exact fin | (refine And.intro ?_ ?_) | exact True.intro | omega | rfl
        · have r1 := fun (d' : Nat) (Q' : q_V → q_H → q_Gr → Prop) => c_rh2 (d := d') (Q := Q') g hL1 hl w1 (by omega) w2 ht wk (by omega) c1 c2
          have fin := hF (q_up (q_up v1 q 1 (((s.1 + 1 : Nat) : Int) + 1)) q 2 1) (s.1 + 2) (bh t) (rdT_h2 c c0 c1 c2) (cfr_tr cf1 ⟨fun b b1 _ => by rw [u_r b1, u_r b1], fun j j1 j2 _ => by rw [u_n (by omega), u_n (by omega)]⟩) (by rw [u_n (by omega), u_s rfl rfl]; omega) (u_s rfl rfl) hb
          simp (disch := first | assumption | omega | ((try simp (disch := omega) only [u_n, u_s]); first | assumption | omega)) only [E26, g0, n0, w2, r1, c_within, c_bh ht, ↓if_neg, ↓if_pos, q_push_I, q_push_L, q_push_P, q_push_U]
          repeat' first | exact fin | (refine And.intro ?_ ?_) | exact True.intro | omega | rfl
      · have r1 := fun (d' : Nat) (Q' : q_V → q_H → q_Gr → Prop) => c_rh1 (d := d') (Q := Q') g hL1 hl w1 (by omega) w2 ht wk (by omega) c1
        have fin := hF (q_up v1 q 2 1) (s.1 + 1) (bh t) (rdT_h1 c c0 c1) (cfr_tr cf1 ⟨fun b b1 _ => by rw [u_r b1], fun j j1 j2 _ => by rw [u_n (by omega)]⟩) (by rw [u_n (by omega), w1]) (u_s rfl rfl) hb
        simp (disch := first | assumption | omega | ((try simp (disch := omega) only [u_n, u_s]); first | assumption | omega)) only [E26, g0, n0, w2, r1, c_within, c_bh ht, ↓if_neg, ↓if_pos, q_push_I, q_push_L, q_push_P, q_push_U]
        repeat' first | exact fin | (refine And.intro ?_ ?_) | exact True.intro | omega | rfl
    · have e1 : L.getD s.1 0 = 1 := by have := c.2; omega
      rw [e1] at n0
      by_cases cw : w ≤ 1
      · have ew : w = 1 := by omega
        subst ew
        have la := hI.2.2.2.2.1
        have fk : ∀ (d' : Nat) (Q' : q_V → q_H → q_Gr → Prop), q_call (d' + 2) 107 [.inr (.inr (.inl (some (q + 3)))), .inl t] v1 G Q' = Q' (.inl 0) v1 G := fun d' Q' => by rw [c_tfork gT ht (by omega) (by omega), if_neg (by omega)]
        by_cases c1 : okN L (s.1 + 1) (klo N k s.2.1) (khi N k)
        · by_cases c2 : okN L (s.1 + 2) 0 (vhi N k)
          · have lv := (rdInv_leaf hN2 hkw hI c1 c2).2
            have r1 := fun (d' : Nat) (Q' : q_V → q_H → q_Gr → Prop) => c_rly (d := d') (Q := Q') g hL1 hl w1 (by omega) w2 ht wk hkw hN2 hN w8 w9 la c1 c2 lv.1 lv.2
            generalize hv2 : q_up (q_up (q_up (q_up (q_up (q_up (q_up (q_up v1 q 1 (((s.1 + 1 : Nat) : Int) + 1)) q 1 (((s.1 + 1 + 1 : Nat) : Int) + 1)) (q + 3 + 3) t (J (J (L.getD (s.1 + 1) 0 + 1) (L.getD (s.1 + 1 + 1) 0)) 7)) (q + 3 + 4) t (L.getD (s.1 + 1 + 1) 0)) (q + 8) k 1) (q + 10) k (L.getD (s.1 + 1) 0)) (q + 11) k (L.getD (s.1 + 1 + 1) 0)) q 9 (L.getD (s.1 + 1) 0) = v2 at r1
            have fin := hD v2 _ (rdT_ly c c0 cw c1 c2) (cfr_tr cf1 ⟨fun b b1 b2 => by rw [← hv2, u_r (by omega), u_r (by omega), u_r (by omega), u_r (by omega), u_r (by omega), u_r (by omega), u_r (by omega), u_r (by omega)], fun j j1 j2 j3 => by rw [← hv2]; simp (disch := omega) only [u_n]⟩) (by
              unfold leafS
              refine ⟨?_, ?_, ?_, fun j hj => ?_, fun j hj hS => ?_, fun j hj => ?_⟩
              · rw [← hv2]
                simp (disch := omega) only [u_n, u_s]
                omega
              · rw [← hv2]
                simp (disch := omega) only [u_n]
                exact w2
              · rw [← hv2]
                simp (disch := omega) only [u_s]
              · unfold upB
                simp only
                rw [← hv2]
                by_cases e : j = k
                · simp only [if_pos e]
                  simp (disch := omega) only [u_n, u_s]
                  rfl
                · simp only [if_neg e]
                  simp (disch := omega) only [u_n]
                  rw [wr _ (by omega)]
                  exact s4 j hj
              · unfold upB at hS
                unfold upF
                simp only at hS ⊢
                rw [← hv2]
                by_cases e : j = k
                · rw [if_pos e]
                  simp (disch := omega) only [u_n, u_s]
                · rw [if_neg e] at hS ⊢
                  simp (disch := omega) only [u_n]
                  rw [wr _ (by omega)]
                  exact s5 j hj hS
              · unfold upF
                simp only
                rw [← hv2]
                by_cases e : j = k
                · rw [if_pos e]
                  simp (disch := omega) only [u_n, u_s]
                · rw [if_neg e]
                  simp (disch := omega) only [u_n]
                  rw [wr _ (by omega)]
                  exact s6 j hj) (by rw [← hv2]; simp (disch := omega) only [u_n, u_s]) (by rw [← hv2]; simp (disch := omega) only [u_n, u_s]) (fun u hu => by
              rw [← hv2]
              simp (disch := omega) only [u_n]
              rw [wr _ (by omega), wr _ (by omega)]
              exact ⟨rfl, rfl⟩) (by rw [← hv2, u_r (by omega), u_r (by omega), u_r (by omega), u_r (by omega), u_r (by omega), u_r (by omega), u_r (by omega), u_r (by omega), wr _ (by omega)]) (by show L.getD (s.1 + 2) 0 ≤ 14000; have := lv.2.2; omega)
            simp (disch := first | assumption | omega | ((try simp (disch := omega) only [u_n, u_s]); first | assumption | omega)) only [E26, g0, g2, n0, w2, r1, fk, c_within, c_bh ht, ↓if_neg, ↓if_pos, q_push_I, q_push_L, q_push_P, q_push_U]
            repeat' first | exact fin | (refine And.intro ?_ ?_) | exact True.intro | omega | rfl
          · have r1 := fun (d' : Nat) (Q' : q_V → q_H → q_Gr → Prop) => c_rl2 (d := d') (Q := Q') g hL1 hl w1 (by omega) w2 ht wk hkw hN2 hN w8 w9 la c1 c2
            have fin := hF (q_up (q_up v1 q 1 (((s.1 + 1 : Nat) : Int) + 1)) q 2 1) (s.1 + 2) (bh t) (rdT_l2 c c0 cw c1 c2) (cfr_tr cf1 ⟨fun b b1 _ => by rw [u_r b1, u_r b1], fun j j1 j2 _ => by rw [u_n (by omega), u_n (by omega)]⟩) (by rw [u_n (by omega), u_s rfl rfl]; omega) (u_s rfl rfl) hb
            simp (disch := first | assumption | omega | ((try simp (disch := omega) only [u_n, u_s]); first | assumption | omega)) only [E26, g0, g2, n0, w2, r1, fk, c_within, c_bh ht, ↓if_neg, ↓if_pos, q_push_I, q_push_L, q_push_P, q_push_U]
            repeat' first | exact fin | (refine And.intro ?_ ?_) | exact True.intro | omega | rfl
        · have r1 := fun (d' : Nat) (Q' : q_V → q_H → q_Gr → Prop) => c_rl1 (d := d') (Q := Q') g hL1 hl w1 (by omega) w2 ht wk hkw hN2 hN w8 w9 la c1
          have fin := hF (q_up v1 q 2 1) (s.1 + 1) (bh t) (rdT_l1 c c0 cw c1) (cfr_tr cf1 ⟨fun b b1 _ => by rw [u_r b1], fun j j1 j2 _ => by rw [u_n (by omega)]⟩) (by rw [u_n (by omega), w1]) (u_s rfl rfl) hb
          simp (disch := first | assumption | omega | ((try simp (disch := omega) only [u_n, u_s]); first | assumption | omega)) only [E26, g0, g2, n0, w2, r1, fk, c_within, c_bh ht, ↓if_neg, ↓if_pos, q_push_I, q_push_L, q_push_P, q_push_U]
          repeat' first | exact fin | (refine And.intro ?_ ?_) | exact True.intro | omega | rfl
      · have fin := hK c c0 cw
        have fk : ∀ (d' : Nat) (Q' : q_V → q_H → q_Gr → Prop), q_call (d' + 2) 107 [.inr (.inr (.inl (some (q + 3)))), .inl t] v1 G Q' = Q' (.inl 1) v1 G := fun d' Q' => by rw [c_tfork gT ht (by omega) (by omega), if_pos (by omega)]
        simp (disch := first | assumption | omega | ((try simp (disch := omega) only [u_n, u_s]); first | assumption | omega)) only [E26, g0, g2, g4, k2, n0, w2, fk, c_within, ↓if_neg, ↓if_pos, q_push_I, q_push_L, q_push_P, q_push_U, Int.toNat_natCast, show (2 : Int) * (t : Int) = ((2 * t : Nat) : Int) by omega]
        repeat' first | exact fin | (refine And.intro ?_ ?_) | exact True.intro | omega | rfl
  · have n0 : ∀ (d' : Nat) (Q' : q_V → q_H → q_Gr → Prop), q_call (d' + 3) 23 [.inr (.inr (.inl (some q))), .inl 0, .inl 1] v G Q' = Q' (.inl 0) (q_up v q 2 1) G := fun d' Q' => c_next_n g hL hl s1 (by omega) (by decide) (by decide) c
    have fin := hF (q_up v q 2 1) s.1 0 (rdT_1 c) ⟨fun b b1 _ => by rw [u_r b1], fun j j1 j2 _ => by rw [u_n (by omega)]⟩ (by rw [u_n (by omega), s1]) (u_s rfl rfl) (by decide)
    have fin : Q (.inl 0) (q_up v q 2 1) G := fin
    simp (disch := first | assumption | omega | ((try simp (disch := omega) only [u_n, u_s]); first | assumption | omega)) only [E26, g0, n0, u_s, ↓if_neg, ↓if_pos, q_push_I, q_push_L, q_push_P, q_push_U]
    repeat' first | exact fin | (refine And.intro ?_ ?_) | exact True.intro | omega | rfl
end
