section
variable {d q : Nat} {v : q_H} {G : q_Gr} {Q : q_V → q_H → q_Gr → Prop}
/-- the shape of the tree that is read -/
def cTS (v : q_H) (q N : Nat) : Prop := ∀ u, 1 ≤ u → u < 32 → v (q + 3 + 1) u = ((sh N u).1 : Int) ∧ v (q + 3 + 2) u = ((sh N u).2 : Int)
theorem cTS_fr {v' : q_H} {N : Nat} (h : cfr q v' v) (ht : cTS v q N) : cTS v' q N := fun u u1 u2 => by
  rw [h.1 (q + 3 + 1) (by omega) (by omega), h.1 (q + 3 + 2) (by omega) (by omega)]
  exact ht u u1 u2
theorem hasL_cfr {v' : q_H} {L : List Int} (h : cfr q v' v) (hL : hasL v (q + 1) 1 (q + 1 + 1) L) : hasL v' (q + 1) 1 (q + 1 + 1) L := hasL_fr (h.1 _ (by omega) (by omega)) (h.1 _ (by omega) (by omega)) hL
abbrev eqN (q : Nat) (v' v : q_H) (u : Nat) : Prop := v' (q + 9) u = v (q + 9) u ∧ v' (q + 3 + 3) u = v (q + 3 + 3) u ∧ v' (q + 3 + 4) u = v (q + 3 + 4) u
theorem s_cwalk {L : List Int} {N : Nat} {z1 : q_V} (g : gChk G q) (hl : lok L) (hN2 : 2 ≤ N) (hN : N ≤ 16) : ∀ (f t : Nat) (s : RS) (stp : Nat) (v : q_H), 1 ≤ t → t < 32 → (sh N t).2 ≤ f → 1 ≤ (sh N t).2 → stp + 2 * (sh N t).2 ≤ 33 → cTS v q N → hasL v (q + 1) 1 (q + 1 + 1) L → v q 8 = (N : Int) → cS v q s → rdInv N (sh N t).1 s → s.1 ≤ L.length → (∀ u, u < 32 → anc t u → v (q + 9) u = 0) →
    (∀ v' (e : Nat) (z2 z3 : q_V), rdT L N f (sh N t).1 (sh N t).2 s = .inl e → cfr q v' v → v' q 1 = (e : Int) → v' q 2 = 1 → q_wp (d + 5) 24 56 [.inr (.inr (.inl (some q))), z1, z2, z3] [] v' G Q) →
    (∀ v' (r : RS × Int × Int) (stp' : Nat), rdT L N f (sh N t).1 (sh N t).2 s = .inr r → cfr q v' v → cS v' q r.1 → stp' + 1 ≤ stp + 2 * (sh N t).2 → evT (v' (q + 9)) (v' (q + 3 + 3)) (v' (q + 3 + 4)) t = r.2 → (∀ u, u < 32 → ¬ anc t u → eqN q v' v u) → gdT (v' (q + 9)) (v' (q + 3 + 3)) (v' (q + 3 + 4)) t → (∀ u, 1 ≤ u → u < 32 → anc t u → v' (q + 9) u = 0 ∨ (v' (q + 9) u = 1 ∧ u < 16 ∧ gdT (v' (q + 9)) (v' (q + 3 + 3)) (v' (q + 3 + 4)) (2 * u) ∧ gdT (v' (q + 9)) (v' (q + 3 + 3)) (v' (q + 3 + 4)) (2 * u + 1))) → q_wp (d + 5) 24 27 [.inr (.inr (.inl (some q))), z1, .inl ((bh t : Nat)), .inl (stp')] [] v' G Q) →
    q_wp (d + 5) 24 27 [.inr (.inr (.inl (some q))), z1, .inl t, .inl stp] [] v G Q := by
  have g' := g
  obtain ⟨g0, ⟨g1, g2, g3, g4, g5, g6, g7, g8, g9⟩, gN, gT, k1, k2, k3, k4, gA, gB, gR, q1, q2⟩ := g'
  intro f
  induction f with
  | zero => intro t s stp v h1 h2 h3 h4; omega
  | succ f ih =>
    intro t s stp v h1 h2 h3 h4 h5 hT hL h8 hs hI hp hO hF hC
    have hbd := sh_bd N (by omega) t h2 h1
    have t1 := hT t h1 h2
    have hll := hl.1
    have s2 := hs.2.1
    generalize hk : (sh N t).1 = k at *
    generalize hw : (sh N t).2 = w at *
    have key : q_call (d + 5) 26 [.inr (.inr (.inl (some q))), .inl t] v G (fun r v' G' => q_wp (d + 5) 24 49 [.inr (.inr (.inl (some q))), z1, .inl t, .inl stp] (q_push r []) v' G' Q) := by
      refine c_rt (f := f) g hL hl hN2 hN h8 h1 h2 t1.1 t1.2 h4 (by omega) hs hI (by omega) (fun v' e t' hr hc e1 e2 ht' => ?_) (fun v' r hr hc hs' a1 a2 a3 a4 a5 => ?_) (fun c c0 cw => ?_)
      · have nx := fun z3 => hF v' e (.inl (t')) z3 hr hc e1 e2
        have fin := nx (.inl ((stp : Int) + 1))
        simp only [e_24_49, e_24_50, e_24_53, q_push_I, q_push_L, q_push_P, q_push_U]
        rw [e_24_27]
        by_cases c1 : stp + 1 < 32
        · by_cases c2 : 0 < t'
          · simp (disch := omega) only [e_24_28, e_24_30, e_24_33, e_24_34, e_24_37, e_24_38, e_24_41, g0, e2, ↓if_neg, ↓if_pos]
            repeat' first | exact fin | (refine And.intro ?_ ?_) | exact True.intro | omega | rfl
          · simp (disch := omega) only [e_24_28, e_24_30, e_24_33, e_24_34, e_24_37, e_24_38, e_24_41, ↓if_neg, ↓if_pos]
            repeat' first | exact fin | (refine And.intro ?_ ?_) | exact True.intro | omega | rfl
        · simp (disch := omega) only [e_24_28, e_24_30, e_24_33, e_24_34, e_24_37, e_24_38, e_24_41, ↓if_neg, ↓if_pos]
          repeat' first | exact fin | (refine And.intro ?_ ?_) | exact True.intro | omega | rfl
      · have ok := rd_ok hN2 (f + 1) k w s (by omega) h4 (by omega) hI r hr
        have o0 : v' (q + 9) t = 0 := by rw [a4]; exact hO t h2 (anc_rf t)
        have fin := hC v' r (stp + 1) hr hc hs' (by omega) (by rw [evT_l (by rw [o0]; omega), a1, a2]) (fun u hu hn => ⟨by rw [a4], a3 u (fun e => hn (by rw [e]; exact anc_rf t))⟩) (Or.inr ⟨o0, by rw [a1]; exact ok.2.1, by rw [a2]; exact ⟨ok.2.2.1.1, a5⟩⟩) (fun u u1 u2 hu => Or.inl (by rw [a4]; exact hO u u2 hu))
        simp only [e_24_49, e_24_50, e_24_53, q_push_I, q_push_L, q_push_P, q_push_U]
        exact fin
      · have ht16 : t < 16 := by
          have := hbd.2
          omega
        have sa := sh_all N (by omega) t ht16 h1
        rw [hk, hw, if_pos (by omega), if_pos (by omega)] at sa
        have ba := bh_all t ht16 h1
        have sa1 : (sh N (2 * t)).1 = k ∧ (sh N (2 * t)).2 = (w + 1) / 2 := by rw [sa.1]; exact ⟨rfl, rfl⟩
        have sa2 : (sh N (2 * t + 1)).1 = k + (w + 1) / 2 ∧ (sh N (2 * t + 1)).2 = w - (w + 1) / 2 := by rw [sa.2]; exact ⟨rfl, rfl⟩
        have an := anc_ne t ht16 h1
        generalize hv1 : q_up (q_up v q 1 ((s.1 : Int) + 1)) (q + 9) t 1 = v1
        have cf1 : cfr q v1 v := ⟨fun b b1 b2 => by rw [← hv1, u_r (by omega), u_r (by omega)], fun j j1 j2 j3 => by rw [← hv1, u_n (by omega), u_n (by omega)]⟩
        have o1 : v1 (q + 9) t = 1 := by rw [← hv1, u_s rfl rfl]
        have on : ∀ u, u ≠ t → v1 (q + 9) u = v (q + 9) u := fun u hu => by rw [← hv1, u_n (by omega), u_n (by omega)]
        have e6 : v1 (q + 3 + 3) = v (q + 3 + 3) := by rw [← hv1, u_r (by omega), u_r (by omega)]
        have e7 : v1 (q + 3 + 4) = v (q + 3 + 4) := by rw [← hv1, u_r (by omega), u_r (by omega)]
        have hs1 : cS v1 q (s.1 + 1, s.2) := by
          obtain ⟨x1, x2, x3, x4, x5, x6⟩ := hs
          refine ⟨?_, ?_, ?_, fun j hj => ?_, fun j hj hS => ?_, fun j hj => ?_⟩
          · rw [← hv1]
            simp (disch := omega) only [u_n, u_s]
            omega
          · rw [← hv1]
            simp (disch := omega) only [u_n]
            exact x2
          · rw [← hv1]
            simp (disch := omega) only [u_n]
            exact x3
          · rw [← hv1]
            simp (disch := omega) only [u_n]
            exact x4 j hj
          · rw [← hv1]
            simp (disch := omega) only [u_n]
            exact x5 j hj hS
          · rw [← hv1]
            simp (disch := omega) only [u_n]
            exact x6 j hj
        have nx : q_wp (d + 5) 24 27 [.inr (.inr (.inl (some q))), z1, .inl ((2 * t : Nat)), .inl ((stp + 1 : Nat))] [] v1 G Q := by
          refine ih (2 * t) (s.1 + 1, s.2) (stp + 1) v1 (by omega) (by omega) (by omega) (by omega) (by omega) (cTS_fr cf1 hT) (hasL_cfr cf1 hL) (by rw [cf1.2 8 (by omega) (by omega) (by omega), h8]) hs1 (by rw [sa1.1]; exact hI) (by have := c.1; show s.1 + 1 ≤ _; omega) (fun u hu ha => ?_) (fun v' e z2 z3 hr hc e1 e2 => ?_) (fun v2 r1 stp2 hr1 hc1 hs2 hst1 ev1 eq1 gd1 ch1 => ?_)
          · rw [on u (fun e => an.1 (by rw [e] at ha; exact ha))]
            exact hO u hu (anc_up t ht16 h1 u hu (Or.inl ha))
          · rw [sa1.1, sa1.2] at hr
            exact hF v' e z2 z3 (rdT_k1 c c0 cw hr) (cfr_tr cf1 hc) e1 e2
          · rw [ba.1]
            rw [sa1.1, sa1.2] at hr1
            rw [sa1.2] at hst1
            have ok1 := rd_ok hN2 f k ((w + 1) / 2) (s.1 + 1, s.2) (by omega) (by omega) (by omega) hI r1 hr1
            refine ih (2 * t + 1) r1.1 stp2 v2 (by omega) (by omega) (by omega) (by omega) (by omega) (cTS_fr (cfr_tr cf1 hc1) hT) (hasL_cfr (cfr_tr cf1 hc1) hL) (by rw [(cfr_tr cf1 hc1).2 8 (by omega) (by omega) (by omega), h8]) hs2 (by rw [sa2.1]; exact ok1.1) ok1.2.2.2.2 (fun u hu ha => ?_) (fun v' e z2 z3 hr hc e1 e2 => ?_) (fun v3 r2 stp3 hr2 hc2 hs3 hst2 ev2 eq2 gd2 ch2 => ?_)
            · have nd : ¬ anc (2 * t) u := fun hx => anc_dj t ht16 h1 u hu hx ha
              rw [(eq1 u hu nd).1, on u (fun e => an.2 (by rw [e] at ha; exact ha))]
              exact hO u hu (anc_up t ht16 h1 u hu (Or.inr ha))
            · rw [sa2.1, sa2.2] at hr
              exact hF v' e z2 z3 (rdT_k2 c c0 cw hr1 hr) (cfr_tr (cfr_tr cf1 hc1) hc) e1 e2
            · rw [ba.2]
              rw [sa2.1, sa2.2] at hr2
              rw [sa2.2] at hst2
              have tr : ∀ u, u < 32 → anc (2 * t) u → eqN q v3 v2 u := fun u hu ha => eq2 u hu (anc_dj t ht16 h1 u hu ha)
              have o3 : v3 (q + 9) t = 1 := by rw [(eq2 t h2 an.2).1, (eq1 t h2 an.1).1, o1]
              have gl : gdT (v3 (q + 9)) (v3 (q + 3 + 3)) (v3 (q + 3 + 4)) (2 * t) := gdT_cg (tr (2 * t) (by omega) (anc_rf _)) gd1
              refine hC v3 _ stp3 (rdT_ky c c0 cw hr1 hr2) (cfr_tr (cfr_tr cf1 hc1) hc2) hs3 (by omega) ?_ (fun u hu hn => ?_) (Or.inl ⟨o3, ht16⟩) (fun u u1 u2 hu => ?_)
              · rw [evT_k o3 h1 ht16, ev2, evT_cg (o := v2 (q + 9)) (se := v2 (q + 3 + 3)) (su := v2 (q + 3 + 4)) 32 (2 * t) (by omega) (by omega) (by omega) (fun u hu ha => tr u hu ha), ev1]
              · have n1 : ¬ anc (2 * t) u := fun hx => hn (anc_up t ht16 h1 u hu (Or.inl hx))
                have n2 : ¬ anc (2 * t + 1) u := fun hx => hn (anc_up t ht16 h1 u hu (Or.inr hx))
                have b2 := eq2 u hu n2
                have b1 := eq1 u hu n1
                have ne : u ≠ t := fun e => hn (by rw [e]; exact anc_rf t)
                exact ⟨by rw [b2.1, b1.1, on u ne], by rw [b2.2.1, b1.2.1, e6], by rw [b2.2.2, b1.2.2, e7]⟩
              · rcases anc_sp t ht16 h1 u u2 hu with e | ha | ha
                · subst e
                  exact Or.inr ⟨o3, ht16, gl, gd2⟩
                · rcases ch1 u u1 u2 ha with h0 | ⟨p1, p2, p3, p4⟩
                  · exact Or.inl (by rw [(tr u u2 ha).1]; exact h0)
                  · have ac := anc_ch (2 * t) (by omega) (by omega) u p2 ha
                    exact Or.inr ⟨by rw [(tr u u2 ha).1]; exact p1, p2, gdT_cg (tr _ (by omega) ac.1) p3, gdT_cg (tr _ (by omega) ac.2) p4⟩
                · exact ch2 u u1 u2 ha
        simp only [e_24_49, e_24_50, e_24_53, q_push_I, q_push_L, q_push_P, q_push_U, show (stp : Int) + 1 = ((stp + 1 : Nat) : Int) by omega]
        exact nx
    rw [e_24_27]
    simp (disch := omega) only [e_24_28, e_24_30, e_24_33, e_24_34, e_24_37, e_24_38, e_24_41, e_24_44, e_24_45, e_24_46, g0, s2, ↓if_neg, ↓if_pos]
    repeat' first | (refine And.intro ?_ ?_) | exact True.intro | omega | assumption | rfl
/-- forks, from below -/
theorem s_forks {v0 : q_H} {z1 z2 : q_V} (g : gChk G q) (H : ∀ u, 1 ≤ u → u < 32 → v0 (q + 9) u = 0 ∨ (v0 (q + 9) u = 1 ∧ u < 16 ∧ gdT (v0 (q + 9)) (v0 (q + 3 + 3)) (v0 (q + 3 + 4)) (2 * u) ∧ gdT (v0 (q + 9)) (v0 (q + 3 + 3)) (v0 (q + 3 + 4)) (2 * u + 1)))
  (hC : ∀ v', (∀ b, b ≠ q + 6 → b ≠ q + 7 → v' b = v0 b) → (gdT (v0 (q + 9)) (v0 (q + 3 + 3)) (v0 (q + 3 + 4)) 1 → v' (q + 3 + 3) 1 = (evT (v0 (q + 9)) (v0 (q + 3 + 3)) (v0 (q + 3 + 4)) 1).1 ∧ v' (q + 3 + 4) 1 = (evT (v0 (q + 9)) (v0 (q + 3 + 3)) (v0 (q + 3 + 4)) 1).2) → q_wp (d + 5) 24 95 [.inr (.inr (.inl (some q))), z1, z2, .inl 0] [] v' G Q) : ∀ (i : Nat) (v : q_H), i < 16 → (∀ b, b ≠ q + 6 → b ≠ q + 7 → v b = v0 b) → (∀ u, u ≤ i → v (q + 3 + 3) u = v0 (q + 3 + 3) u ∧ v (q + 3 + 4) u = v0 (q + 3 + 4) u) → (∀ u, i < u → u < 32 → gdT (v0 (q + 9)) (v0 (q + 3 + 3)) (v0 (q + 3 + 4)) u → v (q + 3 + 3) u = (evT (v0 (q + 9)) (v0 (q + 3 + 3)) (v0 (q + 3 + 4)) u).1 ∧ v (q + 3 + 4) u = (evT (v0 (q + 9)) (v0 (q + 3 + 3)) (v0 (q + 3 + 4)) u).2) → q_wp (d + 5) 24 67 [.inr (.inr (.inl (some q))), z1, z2, .inl i] [] v G Q := by
  have g' := g
  obtain ⟨g0, ⟨g1, g2, g3, g4, g5, g6, g7, g8, g9⟩, gN, gT, k1, k2, k3, k4, gA, gB, gR, q1, q2⟩ := g'
  have H' : ∀ u, 1 ≤ u → u < 16 → v0 (q + 9) u = 1 → gdT (v0 (q + 9)) (v0 (q + 3 + 3)) (v0 (q + 3 + 4)) (2 * u) ∧ gdT (v0 (q + 9)) (v0 (q + 3 + 3)) (v0 (q + 3 + 4)) (2 * u + 1) := fun u u1 u2 ho => by
    rcases H u u1 (by omega) with h0 | h0
    · omega
    · exact h0.2.2
  intro i
  induction i with
  | zero =>
    intro v h16 hf hlo hhi
    have fin := hC v hf (fun h => hhi 1 (by omega) (by omega) h)
    have fin : q_wp (d + 5) 24 95 [.inr (.inr (.inl (some q))), z1, z2, .inl (((0 : Nat) : Int))] [] v G Q := fin
    rw [e_24_67]
    simp (disch := omega) only [e_24_68, e_24_69, ↓if_neg, ↓if_pos]
    repeat' first | exact fin | (refine And.intro ?_ ?_) | exact True.intro | omega | rfl
  | succ i ih =>
    intro v h16 hf hlo hhi
    have ho : v (q + 9) (i + 1) = v0 (q + 9) (i + 1) := by rw [hf _ (by omega) (by omega)]
    rw [e_24_67]
    rcases H (i + 1) (by omega) (by omega) with h0 | ⟨h0, h0', ga, gb⟩
    · have nx := ih v (by omega) hf (fun u hu => hlo u (by omega)) (fun u u1 u2 hg => by
        by_cases e : u = i + 1
        · subst e
          rw [evT_l (by rw [h0]; omega)]
          exact hlo (i + 1) (Nat.le_refl _)
        · exact hhi u (by omega) u2 hg)
      rw [h0] at ho
      simp (disch := omega) only [e_24_68, e_24_69, e_24_72, e_24_73, e_24_76, e_24_77, e_24_78, e_24_81, e_24_82, e_24_85, e_24_86, e_24_89, e_24_92, g0, g4, k2, ho, ↓if_neg, ↓if_pos, Int.toNat_natCast, show ((i + 1 : Nat) : Int) + -1 = (i : Int) by omega]
      repeat' first | (refine And.intro ?_ ?_) | exact True.intro | omega | assumption | rfl
    · have ra := evT_rng H' 32 (2 * (i + 1)) (by omega) (by omega) (by omega) ga
      have rb := evT_rng H' 32 (2 * (i + 1) + 1) (by omega) (by omega) (by omega) gb
      have wd := wdT_2 (i + 1) (by omega) (by omega)
      have va := hhi (2 * (i + 1)) (by omega) (by omega) ga
      have vb := hhi (2 * (i + 1) + 1) (by omega) (by omega) gb
      have ek := evT_k (o := v0 (q + 9)) (se := v0 (q + 3 + 3)) (su := v0 (q + 3 + 4)) h0 (show 1 ≤ i + 1 by omega) (by omega)
      have fk : ∀ (d' : Nat) (Q' : q_V → q_H → q_Gr → Prop), q_call (d' + 3) 114 [.inr (.inr (.inl (some (q + 3)))), .inl ((i + 1 : Nat))] v G Q' = Q' (.inr (.inr (.inr ()))) (q_up (q_up v (q + 3 + 3) (i + 1) (evT (v0 (q + 9)) (v0 (q + 3 + 3)) (v0 (q + 3 + 4)) (i + 1)).1) (q + 3 + 4) (i + 1) (evT (v0 (q + 9)) (v0 (q + 3 + 3)) (v0 (q + 3 + 4)) (i + 1)).2) G := fun d' Q' => by
        rw [c_tbfork gT (by omega) (by omega) (by omega) (by omega) (by omega) (by omega) (by omega) (by omega) (by omega), ek, va.1, va.2, vb.1, vb.2]
      generalize hv1 : q_up (q_up v (q + 3 + 3) (i + 1) (evT (v0 (q + 9)) (v0 (q + 3 + 3)) (v0 (q + 3 + 4)) (i + 1)).1) (q + 3 + 4) (i + 1) (evT (v0 (q + 9)) (v0 (q + 3 + 3)) (v0 (q + 3 + 4)) (i + 1)).2 = v1 at fk
      have nx := ih v1 (by omega) (fun b b1 b2 => by rw [← hv1, u_r (by omega), u_r (by omega), hf b b1 b2]) (fun u hu => by
        rw [← hv1]
        simp (disch := omega) only [u_n]
        exact hlo u (by omega)) (fun u u1 u2 hg => by
        rw [← hv1]
        by_cases e : u = i + 1
        · subst e
          simp (disch := omega) only [u_n, u_s]
          exact ⟨True.intro, True.intro⟩
        · simp (disch := omega) only [u_n]
          exact hhi u (by omega) u2 hg)
      rw [h0] at ho
      simp (disch := omega) only [e_24_68, e_24_69, e_24_72, e_24_73, e_24_76, e_24_77, e_24_78, e_24_81, e_24_82, e_24_85, e_24_86, e_24_89, e_24_92, g0, g2, g4, k2, ho, fk, q_push_I, q_push_L, q_push_P, q_push_U, ↓if_neg, ↓if_pos, Int.toNat_natCast, show ((i + 1 : Nat) : Int) + -1 = (i : Int) by omega]
      repeat' first | (refine And.intro ?_ ?_) | exact True.intro | omega | assumption | rfl
/-- beginTree -/
theorem s_begin1 {v0 : q_H} (g : gChk G q) (hC : ∀ v', (∀ b, b ≠ q + 8 → b ≠ q + 11 → v' b = v0 b) → (∀ j, j < 16 → v' (q + 8) j = 0 ∧ v' (q + 11) j = 0) → q_wp d 25 44 [.inr (.inr (.inl (some q))), .inl 16] [] v' G Q) : ∀ (r i : Nat) (v : q_H), i + r = 16 → (∀ b, b ≠ q + 8 → b ≠ q + 11 → v b = v0 b) → (∀ j, j < i → v (q + 8) j = 0 ∧ v (q + 11) j = 0) → q_wp d 25 18 [.inr (.inr (.inl (some q))), .inl i] [] v G Q := by
  obtain ⟨g0, ⟨g1, g2, g3, g4, g5, g6, g7, g8, g9⟩, gN, gT, k1, k2, k3, k4, gA, gB, gR, q1, q2⟩ := g
  intro r
  induction r with
  | zero =>
    intro i v h hf hz
    have e : i = 16 := by omega
    subst e
    have fin := hC v hf hz
    have fin : q_wp d 25 44 [.inr (.inr (.inl (some q))), .inl (((16 : Nat) : Int))] [] v G Q := fin
    rw [e_25_18]
    simp (disch := omega) only [e_25_19, e_25_21, ↓if_pos]
    repeat' first | exact fin | (refine And.intro ?_ ?_) | exact True.intro | omega | rfl
  | succ r ih =>
    intro i v h hf hz
    have nx := ih (i + 1) (q_up (q_up v (q + 8) i 0) (q + 11) i 0) (by omega) (fun b b1 b2 => by rw [u_r b2, u_r b1, hf b b1 b2]) (fun j hj => by
      by_cases e : j = i
      · subst e
        simp (disch := omega) only [u_n, u_s]
        exact ⟨True.intro, True.intro⟩
      · simp (disch := omega) only [u_n]
        exact hz j (by omega))
    rw [e_25_18]
    simp (disch := omega) only [e_25_19, e_25_21, e_25_24, e_25_25, e_25_28, e_25_29, e_25_30, e_25_31, e_25_32, e_25_35, e_25_36, e_25_37, e_25_38, e_25_41, g0, g3, g6, k1, k4, ↓if_neg, Int.toNat_natCast, show (i : Int) + 1 = ((i + 1 : Nat) : Int) by omega]
    repeat' first | (refine And.intro ?_ ?_) | exact True.intro | omega | assumption | rfl
theorem s_begin2 {v0 : q_H} (g : gChk G q) (hC : ∀ v', (∀ b, b ≠ q + 9 → v' b = v0 b) → (∀ j, j < 32 → v' (q + 9) j = 0) → Q (.inr (.inr (.inr ()))) v' G) : ∀ (r i : Nat) (v : q_H), i + r = 32 → (∀ b, b ≠ q + 9 → v b = v0 b) → (∀ j, j < i → v (q + 9) j = 0) → q_wp d 25 46 [.inr (.inr (.inl (some q))), .inl i] [] v G Q := by
  obtain ⟨g0, ⟨g1, g2, g3, g4, g5, g6, g7, g8, g9⟩, gN, gT, k1, k2, k3, k4, gA, gB, gR, q1, q2⟩ := g
  intro r
  induction r with
  | zero =>
    intro i v h hf hz
    have e : i = 32 := by omega
    subst e
    have fin := hC v hf hz
    rw [e_25_46]
    simp (disch := omega) only [e_25_47, e_25_49, e_25_65, ↓if_pos]
    repeat' first | exact fin | (refine And.intro ?_ ?_) | exact True.intro | omega | rfl
  | succ r ih =>
    intro i v h hf hz
    have nx := ih (i + 1) (q_up v (q + 9) i 0) (by omega) (fun b b1 => by rw [u_r b1, hf b b1]) (fun j hj => by
      by_cases e : j = i
      · subst e
        simp (disch := omega) only [u_s]
      · simp (disch := omega) only [u_n]
        exact hz j (by omega))
    rw [e_25_46]
    simp (disch := omega) only [e_25_47, e_25_49, e_25_52, e_25_53, e_25_56, e_25_57, e_25_58, e_25_59, e_25_62, g0, g4, k2, ↓if_neg, Int.toNat_natCast, show (i : Int) + 1 = ((i + 1 : Nat) : Int) by omega]
    repeat' first | (refine And.intro ?_ ?_) | exact True.intro | omega | assumption | rfl
theorem c_begin {N : Nat} (g : gChk G q) (hN : N ≤ 16) (h8 : v q 8 = (N : Int)) (hQ : ∀ v', (∀ b, b ≠ q → ¬ (q + 4 ≤ b ∧ b ≤ q + 11) → v' b = v b) → (∀ j, j ≠ 9 → v' q j = v q j) → v' q 9 = -1 → cTS v' q N → (∀ j, j < 16 → v' (q + 8) j = 0 ∧ v' (q + 11) j = 0) → (∀ j, j < 32 → v' (q + 9) j = 0) → Q (.inr (.inr (.inr ()))) v' G) : q_call (d + 2) 25 [.inr (.inr (.inl (some q)))] v G Q := by
  have g' := g
  obtain ⟨g0, ⟨g1, g2, g3, g4, g5, g6, g7, g8, g9⟩, gN, gT, k1, k2, k3, k4, gA, gB, gR, q1, q2⟩ := g'
  have key : q_call (d + 1) 105 [.inr (.inr (.inl (some (q + 3)))), .inl N] v G (fun r v' G' => q_wp (d + 1) 25 11 [.inr (.inr (.inl (some q))), .inr (.inr (.inr ()))] (q_push r []) v' G' Q) := c_shape gT hN (fun v1 s1 f1 => by
    have nx := s_begin1 (d := d + 1) (Q := Q) (v0 := q_up v1 q 9 (-1)) g (fun v2 f2 z2 => by
      have nx := s_begin2 (d := d + 1) (Q := Q) (v0 := v2) g (fun v3 f3 z3 => hQ v3 (fun b b1 b2 => by rw [f3 b (by omega), f2 b (by omega) (by omega), u_r b1, f1 b (by omega) (by omega)]) (fun j hj => by rw [f3 q (by omega), f2 q (by omega) (by omega), u_n (by omega), f1 q (by omega) (by omega)]) (by rw [f3 q (by omega), f2 q (by omega) (by omega), u_s rfl rfl]) (fun u u1 u2 => by
        rw [f3 _ (by omega), f3 _ (by omega), f2 _ (by omega) (by omega), f2 _ (by omega) (by omega), u_r (by omega), u_r (by omega)]
        exact s1 u u1 u2) (fun j hj => by rw [f3 _ (by omega), f3 _ (by omega)]; exact z2 j hj) z3) 32 0 v2 (by omega) (fun _ _ => rfl) (fun j hj => by omega)
      simp only [e_25_44, e_25_45]
      exact nx) 16 0 (q_up v1 q 9 (-1)) (by omega) (fun _ _ _ => rfl) (fun j hj => by omega)
    simp (disch := omega) only [e_25_11, e_25_12, e_25_13, e_25_16, e_25_17, g0, q_push_I, q_push_L, q_push_P, q_push_U]
    repeat' first | (refine And.intro ?_ ?_) | exact True.intro | omega | assumption | rfl)
  simp (disch := omega) only [e_25, e_25_0, e_25_1, e_25_4, e_25_5, e_25_8, g0, g2, h8]
  repeat' first | (refine And.intro ?_ ?_) | exact True.intro | omega | assumption | rfl
end
