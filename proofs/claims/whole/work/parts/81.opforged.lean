section
variable {d q : Nat} {v : q_H} {G : q_Gr} {Q : q_V → q_H → q_Gr → Prop}
theorem c_become {L : List Int} (hG : gok G) (h0 : hasL v 42 1 43 L) (h6 : L.length ≤ 600) (hQ : ∀ v', (∀ b, b ≠ 73 → b ≠ 74 → v' b = v b) → hasL v' 73 1 74 L → Q (.inr (.inr (.inr ()))) v' G) : q_call (d + 3) 39 [.inr (.inr (.inl (some 73))), .inr (.inr (.inl (some 42)))] v G Q := by
  have nx := s_become (d := d) (Q := Q) (v0 := q_up v 73 1 0) hG (hasL_fr (u_r (by omega)) (u_r (by omega)) h0) h6 (fun v' h1 h2 => hQ v' (fun b b1 b2 => by rw [h1 b b1 b2, u_r b1]) h2) L.length 0 (q_up v 73 1 0) (by omega) (fun _ _ _ => rfl) (hasL_0 (u_s rfl rfl))
  have nx : q_wp (d + 2) 39 6 [.inr (.inr (.inl (some 73))), .inr (.inr (.inl (some 42))), .inl 0] [] (q_up v 73 1 0) G Q := nx
  have ec : ∀ (d' : Nat) (Q' : q_V → q_H → q_Gr → Prop), q_call (d' + 1) 36 [.inr (.inr (.inl (some 73)))] v G Q' = Q' (.inr (.inr (.inr ()))) (q_up v 73 1 0) G := fun d' Q' => c_nclear (g_num73 hG)
  simp (disch := omega) only [e_39, e_39_0, e_39_1, e_39_4, e_39_5, SHC hG, ec, q_push_I, q_push_L, q_push_P, q_push_U]
  repeat' first | (refine And.intro ?_ ?_) | exact True.intro | omega | assumption | rfl
/-- the reference's forged, behind its telling -/
theorem m_forged {L : List Int} {n rd a b : Nat} {dd w low high sa sb z : Int} {u : q_H} (hG : gok G) (h6 : L.length ≤ 600) (hr : ∀ x, x ∈ L → -1 ≤ x ∧ x ≤ 65520) (hd : 1 ≤ dd ∧ dd ≤ 65520) (hn : n < 12) (hrd : rd < 20) (ha : a < 3) (hb : b < 3) (h13 : u 137 13 = (rd : Int) + 1) (hL : hasL u 137 32 155 L) (hA : actM u n rd a b w low high sa sb) (hb5 : bl5 u) (hz1 : ∀ e y, tk L w sa sb low high = .inl (e, y) → z = -1000002) (hz2 : ∀ T, tk L w sa sb low high = .inr T → z = 0 + fcnt L dd w sa sb low high L.length 0)
  (hC : ∀ x, (∀ b, b ≠ 137 → ¬ (159 ≤ b ∧ b ≤ 171) → x b = u b) → (∀ j, j ≠ 37 → j ≠ 39 → ¬ (41 ≤ j ∧ j ≤ 44) → ¬ (54 ≤ j ∧ j ≤ 58) → x 137 j = u 137 j) → bl5 x → Q (.inl z) x G) : q_wp (d + 6) 213 43 [.inr (.inr (.inl (some 137))), .inl n, .inl dd, .inr (.inr (.inr ())), .inr (.inr (.inr ()))] [] u G Q := by
  have w32 := hL.1
  have hlok : lok L := ⟨h6, fun x hx => by have := hr x hx; omega⟩
  generalize hu1 : q_up u 137 39 (L.length : Int) = u1
  have f1 : ∀ b, b ≠ 137 → u1 b = u b := fun b hb => by rw [← hu1, u_r hb]
  have f1q : ∀ j, j ≠ 39 → u1 137 j = u 137 j := fun j hj => by rw [← hu1, u_n (by omega)]
  have u39 : u1 137 39 = (L.length : Int) := by rw [← hu1, u_s rfl rfl]
  have hL1 : hasL u1 137 32 155 L := ⟨by rw [f1q 32 (by omega)]; exact hL.1, fun k hk => by rw [f1 155 (by omega)]; exact hL.2 k hk⟩
  have lp := s_mfcopy (d := d + 6) (Q := Q) (z1 := .inl n) (z2 := .inl dd) (z4 := .inr (.inr (.inr ()))) (v0 := u1) hG hL1 h6 (fun u2 z3 f2 g2 => by
    have c2 : ∀ b, b ≠ 137 → b ≠ 160 → u2 b = u b := fun b b1 b2 => by rw [f2 b b2, f1 b b1]
    have c2q : ∀ j, j ≠ 39 → u2 137 j = u 137 j := fun j hj => by rw [f2 137 (by omega), f1q j hj]
    have hL2 : hasL u2 137 39 160 L := ⟨by rw [f2 137 (by omega), u39], g2⟩
    have hb2 : bl5 u2 := by
      unfold bl5
      rw [c2q 56 (by omega), c2q 57 (by omega)]
      exact hb5
    have A2 := actM_fr (v' := u2) (fun b b1 b2 => c2 b (by omega) (by omega)) hA
    obtain ⟨y149, yw, y150, y151, y152, y153, ylo, yk, yh, ya, yb, yar, ybr⟩ := A2
    have w13 : u2 137 13 = (rd : Int) + 1 := by rw [c2q 13 (by omega), h13]
    have key : q_call (d + 6) 209 [.inr (.inr (.inl (some 137))), .inl n, .inl rd] u2 G (fun r v' G' => q_wp (d + 6) 213 90 [.inr (.inr (.inl (some 137))), .inl n, .inl dd, z3, .inr (.inr (.inr ()))] (q_push r []) v' G' Q) := by
      refine m_taken (L := L) (w := w) (low := low) (high := high) (sa := sa) (sb := sb) (a := a) (b := b) hG hlok hn hrd ha hb y149 yw y150 y151 y152 y153 ylo yk yh ya yb yar ybr hL2 hb2 (fun x e y ht hm _ _ _ _ => ?_) (fun x T ht hm _ _ => ?_)
      · have fin := hC x (fun b b1 b2 => by rw [hm.1 b b1 (by omega) (by omega), c2 b b1 (by omega)]) (fun j j1 j2 j3 j4 => by rw [hm.2.1 j j1 j3 j4, c2q j j2]) hm.2.2
        rw [hz1 e y ht] at fin
        simp (disch := omega) only [e_213_90, e_213_93, e_213_95, ↓if_neg, ↓if_pos, q_push_I, q_push_L, q_push_P, q_push_U]
        repeat' first | exact fin | (refine And.intro ?_ ?_) | exact True.intro | omega | rfl
      · have lp := s_mforge (d := d) (Q := Q) (v0 := x) (a := a) (b := b) (rd := rd) (n := n) (dd := dd) (w := w) (low := low) (high := high) (sa := sa) (sb := sb) hG h6 hr hd hn hrd ha hb (by rw [hm.2.1 13 (by omega) (by omega) (by omega), w13]) (by rw [hm.2.1 32 (by omega) (by omega) (by omega), c2q 32 (by omega), w32]) (actM_fr (v := u) (fun b b1 b2 => by rw [hm.1 b (by omega) (by omega) (by omega), c2 b (by omega) (by omega)]) hA) L.length 0 x 0 (by omega) (by decide) (by decide) (fun _ _ _ => rfl) (fun _ _ _ _ => rfl) hm.2.2 ⟨by rw [hm.2.1 39 (by omega) (by omega) (by omega)]; exact hL2.1, fun k hk => by rw [hm.1 160 (by omega) (by omega) (by omega)]; exact hL2.2 k hk⟩ (fun x' h1 h2 h3 => by
          rw [← hz2 T ht]
          exact hC x' (fun b b1 b2 => by rw [h1 b b1 b2, hm.1 b b1 (by omega) (by omega), c2 b b1 (by omega)]) (fun j j1 j2 j3 j4 => by rw [h2 j j1 j3 j4, hm.2.1 j j1 j3 j4, c2q j j2]) h3)
        have lp : q_wp (d + 6) 213 101 [.inr (.inr (.inl (some 137))), .inl n, .inl dd, .inl 0, .inl 0] [] x G Q := lp
        simp (disch := omega) only [e_213_90, e_213_93, e_213_95, e_213_96, e_213_97, e_213_98, e_213_99, ↓if_neg, ↓if_pos, q_push_I, q_push_L, q_push_P, q_push_U]
        repeat' first | (refine And.intro ?_ ?_) | exact True.intro | omega | assumption | rfl
    simp (disch := omega) only [e_213_79, e_213_80, e_213_81, e_213_82, e_213_85, e_213_86, e_213_87, SHM hG, w13, show (rd : Int) + 1 - 1 = (rd : Int) by omega]
    repeat' first | (refine And.intro ?_ ?_) | exact True.intro | omega | assumption | rfl) L.length 0 u1 (by omega) (fun _ _ => rfl) (fun j _ hj => absurd hj (Nat.not_lt_zero _))
  have lp : q_wp (d + 6) 213 53 [.inr (.inr (.inl (some 137))), .inl n, .inl dd, .inl 0, .inr (.inr (.inr ()))] [] u1 G Q := lp
  simp (disch := omega) only [e_213_43, e_213_44, e_213_45, e_213_48, e_213_51, e_213_52, SHM hG, w32, hu1]
  repeat' first | (refine And.intro ?_ ?_) | exact True.intro | omega | assumption | rfl
theorem op_forged {a dd : Int} (hI : Inv v G) (ha : -2147483648 ≤ a ∧ a ≤ 2147483647) (hd : -2147483648 ≤ dd ∧ dd ≤ 2147483647) : twin (d + 16) 137 213 [.inl a, .inl dd] v G Inv := by
  have hG := hI.1
  have hR := hI.2.2.2.1
  have hA := hI.2.2.2.2.2.1
  have hK := hI.2.2.2.2.2.2.1
  have hB := hI.2.2.2.2.2.2.2.2
  obtain ⟨a1, a2, a3, a4⟩ := hA
  obtain ⟨r1, r2, r3, r4⟩ := hR
  by_cases c0 : (0 ≤ a ∧ a < v 36 3) ∧ (1 ≤ dd ∧ dd ≤ 65520)
  · obtain ⟨A, rfl⟩ : ∃ A : Nat, a = (A : Int) := ⟨a.toNat, by omega⟩
    obtain ⟨p, p1, p2, p3, p4, p5⟩ := a4 A c0.1.2
    by_cases cr : v 32 3 = 0
    · refine twin_mk (z := -1000002) (v1 := v) (v2 := q_up v 137 0 0) ?_ ?_ (by decide) (Inv_c hI (fun b j h1 => by rw [u_n (by omega)]))
      · simp (disch := first | assumption | omega) only [e_137, e_137_0, e_137_1, e_137_4, e_137_5, e_137_8, e_137_9, e_137_10, e_137_10b, e_137_13, e_137_14, e_137_15, e_137_18, e_137_19, e_137_21, e_137_24, e_137_26, e_137_27, e_137_28, e_137_31, e_137_34, e_137_36, SHC hG, c_act_y hG a3 c0.1.2 p1, cr, ↓if_neg, ↓if_pos, q_push_I, q_push_L, q_push_P, q_push_U]
        repeat' first | (refine And.intro ?_ ?_) | rfl | exact True.intro | assumption | omega
      · rw [cr] at r1
        simp (disch := first | assumption | omega | ((try simp (disch := omega) only [u_n, u_s]); omega)) only [e_213, e_213_0, e_213_1, e_213_2, e_213_5, e_213_6, e_213_7, e_213_10, e_213_13, e_213_14, e_213_15, e_213_16, e_213_19, e_213_22, e_213_25, e_213_27, e_213_28, e_213_29, e_213_32, e_213_35, e_213_37, SHM hG, c_isAct, c_in, ↓if_neg, ↓if_pos, u_n, ← a1, ← r1, q_push_I, q_push_L, q_push_P, q_push_U]
        repeat' first | (refine And.intro ?_ ?_) | rfl | exact True.intro | assumption | omega
    · obtain ⟨rd, hrd⟩ : ∃ rd : Nat, v 32 3 = (rd : Int) + 1 := ⟨(v 32 3 - 1).toNat, by omega⟩
      have hrd20 : rd < 20 := by omega
      have al := actP_len hB p5
      have ar := actP_rng hB p5
      have p5' := p5
      obtain ⟨t1, t2, t3, t4, t5, t6, t7, t8, t9, t10, t11⟩ := p5'
      obtain ⟨ta, hta⟩ : ∃ ta : Nat, v 150 A = (ta : Int) := ⟨(v 150 A).toNat, by omega⟩
      obtain ⟨tb, htb⟩ : ∃ tb : Nat, v 151 A = (tb : Int) := ⟨(v 151 A).toNat, by omega⟩
      have hta3 : ta < 3 := by omega
      have htb3 : tb < 3 := by omega
      have pa : v p 1 = (ta : Int) := by omega
      have pb : v p 2 = (tb : Int) := by omega
      have aQ := actI_Q p5
      have sA := r4 (4 * rd + ta) (by omega)
      have sB := r4 (4 * rd + tb) (by omega)
      have aM : actM v A rd ta tb (v 149 A) (v 152 A) (v 153 A) (v 35 (4 * rd + ta)) (v 35 (4 * rd + tb)) := ⟨rfl, aQ.2.1, hta, htb, rfl, rfl, aQ.2.2.2.1, fun e => (aQ.2.2.2.2.1 e).2, fun e => (aQ.2.2.2.2.2 e).2, sA.1.symm, sB.1.symm, sA.2, sB.2⟩
      clear t1 t2 t3 t4 t5 t6 t7 t8 t9 t10 t11
      have hp' : (G.2.1 p).1 = 0 := by rw [p4]
      generalize hLL : actP v A = L at *
      have hlok : lok L := ⟨al, fun x hx => by have := ar x hx; omega⟩
      apply twin_of
      generalize hQt : (fun (r : q_V) (v1 : q_H) (G1 : q_Gr) => ∃ z : Int, r = .inl z ∧ G1 = G ∧ -2147483648 ≤ z ∧ z ≤ 2147483647 ∧ q_call (d + 16) 213 (.inr (.inr (.inl (some 137))) :: [.inl A, .inl dd]) v1 G (fun r2 v2 G2 => r2 = .inl z ∧ G2 = G ∧ (∀ b, b < 32 → v2 b = v b) ∧ Inv v2 G)) = Qt
      have ref : ∀ (u : q_H) (z : Int), (∀ b, ¬ (41 ≤ b ∧ b ≤ 43) → ¬ (72 ≤ b ∧ b ≤ 91) → u b = v b) → (∀ e y, tk L (v 149 A) (v 35 (4 * rd + ta)) (v 35 (4 * rd + tb)) (v 152 A) (v 153 A) = .inl (e, y) → z = -1000002) → (∀ T, tk L (v 149 A) (v 35 (4 * rd + ta)) (v 35 (4 * rd + tb)) (v 152 A) (v 153 A) = .inr T → z = 0 + fcnt L dd (v 149 A) (v 35 (4 * rd + ta)) (v 35 (4 * rd + tb)) (v 152 A) (v 153 A) L.length 0) → q_call (d + 16) 213 [.inr (.inr (.inl (some 137))), .inl A, .inl dd] u G (fun r2 v2 G2 => r2 = .inl z ∧ G2 = G ∧ (∀ b, b < 32 → v2 b = v b) ∧ Inv v2 G) := fun u z fu z1 z2 => by
        have u137 : u 137 = v 137 := fu _ (by omega) (by omega)
        have m2 : q_call (d + 15) 193 [.inr (.inr (.inl (some 137))), .inl A] (q_up u 137 0 0) G (fun r v' G' => q_wp (d + 15) 213 43 [.inr (.inr (.inl (some 137))), .inl A, .inl dd, .inr (.inr (.inr ())), .inr (.inr (.inr ()))] (q_push r []) v' G' (fun r2 v2 G2 => r2 = .inl z ∧ G2 = G ∧ (∀ b, b < 32 → v2 b = v b) ∧ Inv v2 G)) := m_act2 (d := d + 9) (p := p) hG hB p2 (by omega) p5 (fun b hb => by rw [u_r (by omega), fu b (by omega) (by omega)]) (fun v2 f2 hl2 => by
          rw [hLL] at hl2
          have c2 : ∀ b, b ≠ 137 → ¬ (41 ≤ b ∧ b ≤ 43) → ¬ (72 ≤ b ∧ b ≤ 91) → ¬ (144 ≤ b ∧ b ≤ 147) → ¬ (155 ≤ b ∧ b ≤ 158) → v2 b = v b := fun b b1 b2 b3 b4 b5 => by rw [mfr_r f2 b (by omega), u_r b1, fu b b2 b3]
          have c2q : ∀ j, j ≠ 0 → j ≠ 8 → j ≠ 32 → v2 137 j = v 137 j := fun j j1 j2 j3 => by rw [f2.2 j j2 j3, u_n (by omega), u137]
          have nx := m_forged (d := d + 9) (Q := (fun r2 v2 G2 => r2 = .inl z ∧ G2 = G ∧ (∀ b, b < 32 → v2 b = v b) ∧ Inv v2 G)) (u := v2) (n := A) (rd := rd) (a := ta) (b := tb) (dd := dd) (z := z) hG al ar c0.2 (by omega) hrd20 hta3 htb3 (by rw [c2q 13 (by omega) (by omega) (by omega), ← r1, hrd]) hl2 (actM_fr (fun b b1 b2 => c2 b (by omega) (by omega) (by omega) (by omega) (by omega)) aM) (by
            unfold bl5
            rw [c2q 56 (by omega) (by omega) (by omega), c2q 57 (by omega) (by omega) (by omega)]
            exact ⟨hK.2.2.2.2.2.2.1, hK.2.2.2.2.2.2.2.1⟩) z1 z2 (fun x fx fxq bx => by
            have fin := fg_inv (x := x) hI (fun b b1 b2 b3 b4 b5 => by rw [fx b b1 (by omega), c2 b b1 b2 b3 b4 (by omega)]) (fun j j1 j2 j3 j4 j5 j6 j7 => by rw [fxq j j4 j5 j6 j7, c2q j j1 j2 j3]) bx
            exact ⟨rfl, rfl, fin.1, fin.2⟩)
          simp only [q_push_I, q_push_L, q_push_P, q_push_U]
          exact nx)
        have w13 : q_up u 137 0 0 137 13 = (rd : Int) + 1 := by rw [u_n (by omega), u137, ← r1, hrd]
        simp (disch := first | assumption | omega | (rw [u_n (by omega), u137]; omega)) only [e_213, e_213_0, e_213_1, e_213_2, e_213_5, e_213_6, e_213_7, e_213_10, e_213_13, e_213_14, e_213_15, e_213_16, e_213_19, e_213_22, e_213_25, e_213_27, e_213_28, e_213_29, e_213_32, e_213_35, e_213_37, e_213_38, e_213_39, e_213_40, SHM hG, c_isAct, c_in, w13, u_n, u137, ← a1, ↓if_neg, ↓if_pos, q_push_I, q_push_L, q_push_P, q_push_U]
        repeat' first | (refine And.intro ?_ ?_) | exact True.intro | omega | assumption | rfl
      have k1 : q_call (d + 15) 66 [.inr (.inr (.inl (some 40))), .inr (.inr (.inl (some p))), .inr (.inr (.inl (some 34)))] v G (fun r v' G' => q_wp (d + 15) 137 92 [.inr (.inr (.inl (some 32))), .inl A, .inl dd, .inr (.inr (.inl (some p))), .inl (v 35 (4 * rd + ta)), .inl (v 35 (4 * rd + tb)), .inr (.inr (.inl (some 73))), .inr (.inr (.inr ())), .inr (.inr (.inr ())), .inr (.inr (.inr ()))] (q_push r [.inr (.inr (.inl (some 73)))]) v' G' Qt) := k_act (d := d + 9) hG hB p4 p2 p5 (fun v1 f1 hl1 => by
        rw [hLL] at hl1
        have k2 : q_call (d + 15) 39 [.inr (.inr (.inl (some 73))), .inr (.inr (.inl (some 42)))] v1 G (fun r v' G' => q_wp (d + 15) 137 95 [.inr (.inr (.inl (some 32))), .inl A, .inl dd, .inr (.inr (.inl (some p))), .inl (v 35 (4 * rd + ta)), .inl (v 35 (4 * rd + tb)), .inr (.inr (.inl (some 73))), .inr (.inr (.inr ())), .inr (.inr (.inr ())), .inr (.inr (.inr ()))] (q_push r []) v' G' Qt) := c_become (d := d + 12) hG hl1 al (fun v2 f2 hL2 => by
          have g2 : ∀ b, ¬ (41 ≤ b ∧ b ≤ 43) → ¬ (72 ≤ b ∧ b ≤ 91) → v2 b = v b := fun b b1 b2 => by rw [f2 b (by omega) (by omega), f1 b (by omega) (by omega) (by omega)]
          have aQ2 : actQ v2 p (v 149 A) (v 152 A) (v 153 A) := by
            unfold actQ
            rw [g2 p (by omega) (by omega)]
            exact aQ
          have key : q_call (d + 15) 21 [.inr (.inr (.inl (some 72))), .inr (.inr (.inl (some p))), .inl (v 35 (4 * rd + ta)), .inl (v 35 (4 * rd + tb))] v2 G (fun r v' G' => q_wp (d + 15) 137 107 [.inr (.inr (.inl (some 32))), .inl A, .inl dd, .inr (.inr (.inl (some p))), .inl (v 35 (4 * rd + ta)), .inl (v 35 (4 * rd + tb)), .inr (.inr (.inl (some 73))), .inr (.inr (.inr ())), .inr (.inr (.inr ())), .inr (.inr (.inr ()))] (q_push r []) v' G' Qt) := by
            refine c_takes (d := d + 7) (L := L) (q := 72) (w := v 149 A) (low := v 152 A) (hi := v 153 A) (g_chk72 hG) hlok p4 p2 aQ2 hL2 (by omega) (by omega) (fun v3 e y ht f3 _ _ _ _ _ _ => ?_) (fun v3 T ht f3 _ _ _ _ => ?_)
            · have fin : Qt (.inl (-1000002)) v3 G := by
                rw [← hQt]
                exact ⟨_, rfl, rfl, by decide, by decide, ref v3 _ (fun b b1 b2 => by rw [f3 b (by omega), g2 b b1 b2]) (fun _ _ _ => rfl) (fun T ht' => by rw [ht] at ht'; cases ht')⟩
              simp (disch := omega) only [e_137_107, e_137_110, e_137_112, ↓if_neg, ↓if_pos, q_push_I, q_push_L, q_push_P, q_push_U]
              repeat' first | exact fin | (refine And.intro ?_ ?_) | exact True.intro | omega | rfl
            · have lp := s_forge (d := d + 7) (Q := Qt) (L := L) (p := p) (dd := dd) (w := v 149 A) (low := v 152 A) (hi := v 153 A) (sa := v 35 (4 * rd + ta)) (sb := v 35 (4 * rd + tb)) (v0 := v3) (z1 := .inl A) hG al ar c0.2 p4 p2 (by
                unfold actQ
                rw [f3 p (by omega), g2 p (by omega) (by omega)]
                exact aQ) (by omega) (by omega) L.length 0 v3 0 (.inr (.inr (.inr ()))) (by omega) (fun _ _ => rfl) (hasL_fr (f3 73 (by omega)) (f3 74 (by omega)) hL2) (fun v4 f4 => by
                have fr := fcnt_rng L dd (v 149 A) (v 35 (4 * rd + ta)) (v 35 (4 * rd + tb)) (v 152 A) (v 153 A) L.length 0
                rw [← hQt]
                exact ⟨_, rfl, rfl, by omega, by omega, ref v4 _ (fun b b1 b2 => by rw [f4 b (by omega), f3 b (by omega), g2 b b1 b2]) (fun e y ht' => by rw [ht] at ht'; cases ht') (fun _ _ => rfl)⟩)
              have lp : q_wp (d + 15) 137 119 [.inr (.inr (.inl (some 32))), .inl A, .inl dd, .inr (.inr (.inl (some p))), .inl (v 35 (4 * rd + ta)), .inl (v 35 (4 * rd + tb)), .inr (.inr (.inl (some 73))), .inl 0, .inl 0, .inr (.inr (.inr ()))] [] v3 G Qt := lp
              simp (disch := omega) only [e_137_107, e_137_110, e_137_112, e_137_113, e_137_114, e_137_116, e_137_117, ↓if_neg, ↓if_pos, q_push_I, q_push_L, q_push_P, q_push_U]
              repeat' first | (refine And.intro ?_ ?_) | exact True.intro | omega | assumption | rfl
          clear hQt ref
          simp (disch := omega) only [e_137_95, e_137_96, e_137_99, e_137_100, e_137_102, e_137_104, SHC hG, q_push_I, q_push_L, q_push_P, q_push_U]
          repeat' first | (refine And.intro ?_ ?_) | exact True.intro | omega | assumption | rfl)
        clear hQt ref
        simp (disch := omega) only [e_137_92, q_push_I, q_push_L, q_push_P, q_push_U]
        repeat' first | (refine And.intro ?_ ?_) | exact True.intro | omega | assumption | rfl)
      clear hQt ref
      have en1 : ∀ (d' : Nat) (Q' : q_V → q_H → q_Gr → Prop), q_call (d' + 2) 148 [.inr (.inr (.inl (some 32))), .inl rd, .inl ta] v G Q' = Q' (.inl (v 35 (4 * rd + ta))) v G := fun d' Q' => c_rnum hG hrd20 (by omega)
      have en2 : ∀ (d' : Nat) (Q' : q_V → q_H → q_Gr → Prop), q_call (d' + 2) 148 [.inr (.inr (.inl (some 32))), .inl rd, .inl tb] v G Q' = Q' (.inl (v 35 (4 * rd + tb))) v G := fun d' Q' => c_rnum hG hrd20 (by omega)
      simp (disch := first | assumption | omega) only [e_137, e_137_0, e_137_1, e_137_4, e_137_5, e_137_8, e_137_9, e_137_10, e_137_10b, e_137_13, e_137_14, e_137_15, e_137_18, e_137_19, e_137_21, e_137_24, e_137_26, e_137_27, e_137_28, e_137_31, e_137_34, e_137_36, e_137_37, e_137_38, e_137_39, e_137_42, e_137_43, e_137_44, e_137_45, e_137_48, e_137_51, e_137_53, e_137_54, e_137_55, e_137_58, e_137_59, e_137_60, e_137_61, e_137_64, e_137_67, e_137_69, e_137_70, e_137_73, e_137_76, e_137_78, e_137_80, e_137_81, e_137_84, e_137_85, e_137_86, e_137_89, E17, SHC hG, c_act_y hG a3 c0.1.2 p1, hrd, hp', pa, pb, en1, en2, show (rd : Int) + 1 - 1 = (rd : Int) by omega, ↓if_neg, ↓if_pos, q_push_I, q_push_L, q_push_P, q_push_U]
      repeat' first | (refine And.intro ?_ ?_) | exact True.intro | omega | assumption | rfl
  · refine twin_mk (z := -1000001) (v1 := v) (v2 := q_up v 137 0 0) ?_ ?_ (by omega) (Inv_c hI (fun b j h1 => by rw [u_n (by omega)]))
    · by_cases c1 : 0 ≤ a ∧ a < v 36 3
      · obtain ⟨A, rfl⟩ : ∃ A : Nat, a = (A : Int) := ⟨a.toNat, by omega⟩
        obtain ⟨p, p1, p2, p3, p4, p5⟩ := a4 A c1.2
        simp (disch := first | assumption | omega) only [e_137, e_137_0, e_137_1, e_137_4, e_137_5, e_137_8, e_137_9, e_137_10, e_137_10b, e_137_13, e_137_14, e_137_15, e_137_18, e_137_19, e_137_21, e_137_24, e_137_26, SHC hG, c_act_y hG a3 c1.2 p1, ↓if_neg, ↓if_pos, q_push_I, q_push_L, q_push_P, q_push_U]
        repeat' first | (refine And.intro ?_ ?_) | rfl | exact True.intro | omega | split
      · simp (disch := first | assumption | omega) only [e_137, e_137_0, e_137_1, e_137_4, e_137_5, e_137_8, e_137_9, e_137_10, e_137_10b, e_137_13, e_137_14, e_137_15, e_137_18, e_137_19, e_137_21, e_137_24, e_137_26, n_137_10, SHC hG, c_act_n, q_push_I, q_push_L, q_push_P, q_push_U]
        repeat' first | (refine And.intro ?_ ?_) | rfl | exact True.intro | assumption | omega
    · simp (disch := first | assumption | omega | ((try simp (disch := omega) only [u_n, u_s]); omega)) only [e_213, e_213_0, e_213_1, e_213_2, e_213_5, e_213_6, e_213_7, e_213_10, e_213_13, e_213_14, e_213_15, e_213_16, e_213_19, e_213_22, e_213_25, e_213_27, SHM hG, c_isAct, c_in, u_n, ← a1, q_push_I, q_push_L, q_push_P, q_push_U]
      repeat' first | (refine And.intro ?_ ?_) | rfl | exact True.intro | omega | split
end
