section
variable {d q : Nat} {v : q_H} {G : q_Gr} {Q : q_V → q_H → q_Gr → Prop}
theorem mkL_ok {k : Int} (h : 1 ≤ k) (h6 : k ≤ 6) : (mkL k).length ≤ 16 ∧ ∀ x, x ∈ mkL k → 0 ≤ x ∧ x ≤ 100 := by
  rcases (show k = 1 ∨ k = 2 ∨ k = 3 ∨ k = 4 ∨ k = 5 ∨ k = 6 by omega) with c | c | c | c | c | c <;> subst c <;> exact ⟨by decide, by decide⟩
theorem szL_ok {k : Int} (h : 1 ≤ k) (h6 : k ≤ 6) : (szL k).length ≤ 16 ∧ ∀ x, x ∈ szL k → 0 ≤ x ∧ x ≤ 100 := by
  rcases (show k = 1 ∨ k = 2 ∨ k = 3 ∨ k = 4 ∨ k = 5 ∨ k = 6 by omega) with c | c | c | c | c | c <;> subst c <;> exact ⟨by decide, by decide⟩
theorem asI_of {L : List Int} (h1 : hasL v 92 1 93 L) (h2 : hasL v 137 65 173 L) (hl : L.length ≤ 16 ∧ ∀ x, x ∈ L → 0 ≤ x ∧ x ≤ 100) : asI v := by
  refine ⟨by rw [h1.1, h2.1], by rw [h1.1]; omega, by rw [h1.1]; omega, fun k hk => ?_⟩
  rw [h1.1] at hk
  have hlt : k < L.length := by omega
  rw [h1.2 k hlt, h2.2 k hlt]
  exact ⟨rfl, hl.2 _ (List.getElem_mem hlt)⟩
theorem op_ask {a b : Int} (hI : Inv v G) (hC : csI v) (ha : -2147483648 ≤ a ∧ a ≤ 2147483647) (hb : -2147483648 ≤ b ∧ b ≤ 2147483647) : twin (d + 8) 140 221 [.inl a, .inl b] v G Inv := by
  have hG := hI.1
  have hA := hI.2.2.2.2.2.1
  have hB := hI.2.2.2.2.2.2.2.2
  have h32 : (G.2.1 32).1 = 10 := by rw [sh_32 hG]
  obtain ⟨a1, a2, a3, a4⟩ := hA
  by_cases c : (0 ≤ a ∧ a < v 36 3) ∧ (0 ≤ b ∧ b < 2)
  · obtain ⟨n, rfl⟩ : ∃ n : Nat, a = (n : Int) := ⟨a.toNat, by omega⟩
    obtain ⟨p, p1, p2, p3, p4, p5⟩ := a4 n c.1.2
    have al := actP_len hB p5
    have p5' := p5
    obtain ⟨r1, r2, r3, r4, r5, r6, r7, r8, r9, r10, r11⟩ := p5'
    obtain ⟨A, hA⟩ : ∃ A : Nat, v 150 n = (A : Int) := ⟨(v 150 n).toNat, by omega⟩
    obtain ⟨B, hB'⟩ : ∃ B : Nat, v 151 n = (B : Int) := ⟨(v 151 n).toNat, by omega⟩
    have hA3 : A < 3 := by omega
    have hB3 : B < 3 := by omega
    obtain ⟨ga0, ga⟩ := g_table hG A hA3
    obtain ⟨gb0, gb⟩ := g_table hG B hB3
    have tA := tb_all hB A hA3
    have tB := tb_all hB B hB3
    have ra : v (110 + 9 * A + 1) 2 - 2 = v 141 A := by have := tA.2.1; have := tA.2.2.1; omega
    have rb : v (110 + 9 * B + 1) 2 - 2 = v 141 B := by have := tB.2.1; have := tB.2.2.1; omega
    have ra14 : 0 ≤ v 141 A ∧ v 141 A ≤ 14 := by have := tA.1; have := tA.2.1; omega
    have rb14 : 0 ≤ v 141 B ∧ v 141 B ≤ 14 := by have := tB.1; have := tB.2.1; omega
    have kr := kd_rng (v p 0)
    have ek0 : kd (v 149 n) = kd (v p 0) := by rw [r1]
    generalize hk : kd (v p 0) = k at *
    have pA : v p 1 = (A : Int) := by omega
    have pB : v p 2 = (B : Int) := by omega
    apply twin_of
    have k1 : q_call (d + 7) 66 [.inr (.inr (.inl (some 40))), .inr (.inr (.inl (some p))), .inr (.inr (.inl (some 34)))] v G (fun r v' G' => q_wp (d + 7) 140 45 [.inr (.inr (.inl (some 32))), .inl n, .inl b, .inr (.inr (.inl (some p)))] (q_push r [.inl k, .inl n, .inr (.inr (.inl (some 92)))]) v' G' (fun r v1 G1 => ∃ z : Int, r = .inl z ∧ G1 = G ∧ -2147483648 ≤ z ∧ z ≤ 2147483647 ∧ q_call (d + 8) 221 [.inr (.inr (.inl (some 137))), .inl n, .inl b] v1 G (fun r2 v2 G2 => r2 = .inl z ∧ G2 = G ∧ (∀ b, b < 32 → v2 b = v b) ∧ Inv v2 G))) := k_act hG hB p4 p2 p5 (fun v1 f1 l1 => by
      have hN := g_num42 hG
      have l11 := l1.1
      generalize hW : q_up (q_up (q_up (q_up v1 92 1 0) 92 2 n) 92 3 k) 92 4 (actP v n).length = W at *
      have wr : ∀ b, b ≠ 92 → b ≠ 41 → b ≠ 42 → b ≠ 43 → W b = v b := fun b b1 b2 b3 b4 => by rw [← hW, u_r b1, u_r b1, u_r b1, u_r b1, f1 b b2 b3 b4]
      have w1 : W 92 1 = 0 := by rw [← hW]; simp (disch := omega) only [u_n, u_s]
      have w2 : W 92 2 = n := by rw [← hW]; simp (disch := omega) only [u_n, u_s]
      have w3 : W 92 3 = k := by rw [← hW]; simp (disch := omega) only [u_n, u_s]
      have w4 : W 92 4 = (actP v n).length := by rw [← hW]; simp (disch := omega) only [u_n, u_s]
      have eb : ∀ (d' : Nat) (Q' : q_V → q_H → q_Gr → Prop), q_call (d' + 2) 9 [.inr (.inr (.inl (some 92))), .inl n, .inl k, .inl ((actP v n).length)] v1 G Q' = Q' (.inr (.inr (.inr ()))) W G := fun d' Q' => by
        refine q_call_eq ?_ Q'
        rw [← hW]
        simp (disch := omega) only [E9, SHC hG, c_within, q_push_I, q_push_L, q_push_P, q_push_U, ↓if_neg, ↓if_pos]
        repeat' first | (refine And.intro ?_ ?_) | rfl | exact True.intro | assumption | omega
      have wp := wr p (by omega) (by omega) (by omega) (by omega)
      have eta : ∀ (d' : Nat) (Q' : q_V → q_H → q_Gr → Prop), q_call (d' + 2) 100 [.inr (.inr (.inl (some (110 + 9 * A))))] W G Q' = Q' (.inl (v 141 A)) W G := fun d' Q' => by rw [c_trows ga, wr _ (by omega) (by omega) (by omega) (by omega), ra]
      have etb : ∀ (d' : Nat) (Q' : q_V → q_H → q_Gr → Prop), q_call (d' + 2) 100 [.inr (.inr (.inl (some (110 + 9 * B))))] W G Q' = Q' (.inl (v 141 B)) W G := fun d' Q' => by rw [c_trows gb, wr _ (by omega) (by omega) (by omega) (by omega), rb]
      have fC : csI (q_up (q_up W 92 5 (v 141 A)) 92 6 (v 141 B)) := csI_cg (v := v) (fun b hb => by rw [u_r (by omega), u_r (by omega), wr b (by omega) (by omega) (by omega) (by omega)]) hC
      -- the reference, behind the class
      have ref : ∀ (L : List Int) (z : Int), (b = 0 → L = szL k ∧ z = szV k n (v 141 A) (v 141 B) (actP v n).length) → (b = 1 → L = mkL k ∧ z = mkV k n (v 141 A)) → q_call (d + 8) 221 [.inr (.inr (.inl (some 137))), .inl n, .inl b] (q_apl (q_up (q_up W 92 5 (v 141 A)) 92 6 (v 141 B)) 92 1 93 L) G (fun r2 v2 G2 => r2 = .inl z ∧ G2 = G ∧ (∀ b, b < 32 → v2 b = v b) ∧ Inv v2 G) := fun L z hz0 hz1 => by
        generalize hU : q_apl (q_up (q_up W 92 5 (v 141 A)) 92 6 (v 141 B)) 92 1 93 L = U
        have ur : ∀ b, b ≠ 92 → b ≠ 93 → b ≠ 41 → b ≠ 42 → b ≠ 43 → U b = v b := fun b b0 b1 b2 b3 b4 => by rw [← hU, apl_r b0 b1, u_r b0, u_r b0, wr b b0 b2 b3 b4]
        have uL : hasL U 92 1 93 L := by
          have := hasL_apl (q := 92) (f := 1) (i := 93) (xs := []) (ys := L) (v := q_up (q_up W 92 5 (v 141 A)) 92 6 (v 141 B)) (by decide) (hasL_0 (by rw [u_n (by omega), u_n (by omega), w1]))
          rw [hU] at this
          exact this
        have u137 : U 137 = v 137 := ur _ (by omega) (by omega) (by omega) (by omega) (by omega)
        have hOK : L.length ≤ 16 ∧ ∀ x, x ∈ L → 0 ≤ x ∧ x ≤ 100 := by
          by_cases c0 : b = 0
          · rw [(hz0 c0).1]
            exact szL_ok kr.1 kr.2
          · rw [(hz1 (by omega)).1]
            exact mkL_ok kr.1 kr.2
        have done : ∀ v2, (∀ b, b < 137 ∨ (137 < b ∧ b < 144) ∨ (147 < b ∧ b < 155) ∨ (158 < b ∧ b ≠ 173) → v2 b = U b) → (∀ j, j ≠ 0 → j ≠ 8 → j ≠ 32 → j ≠ 65 → v2 137 j = U 137 j) → hasL v2 137 65 173 L → (∀ b, b < 32 → v2 b = v b) ∧ Inv v2 G := fun v2 g1 g2 g3 => ⟨fun b hb => by rw [g1 b (by omega), ur b (by omega) (by omega) (by omega) (by omega) (by omega)], Inv_cas hI (fun b j h1 h2 => by
          by_cases e : b = 137
          · subst e
            rw [g2 j (by omega) (by omega) (by omega) (by omega), u137]
          · rw [g1 b (by omega)]
            by_cases e2 : b = 92
            · omega
            · rw [ur b (by omega) (by omega) (by omega) (by omega) (by omega)]) (asI_of (hasL_fr (g1 92 (by omega)) (g1 93 (by omega)) uL) g3 hOK)⟩
        generalize hY : q_up (q_up U 137 0 0) 137 65 0 = Y
        have yr : ∀ b, b ≠ 137 → Y b = U b := fun b b1 => by rw [← hY, u_r b1, u_r b1]
        have y137 : ∀ j, j ≠ 0 → j ≠ 65 → Y 137 j = U 137 j := fun j j1 j2 => by rw [← hY, u_n (by omega), u_n (by omega)]
        have y65 : Y 137 65 = 0 := by rw [← hY, u_s rfl rfl]
        have yv : ∀ b, b ≠ 137 → b ≠ 92 → b ≠ 93 → b ≠ 41 → b ≠ 42 → b ≠ 43 → Y b = v b := fun b b0 b1 b2 b3 b4 b5 => by rw [yr b b0, ur b b1 b2 b3 b4 b5]
        have yB : tbI Y := tbI_cg (fun b hb => yv b (by omega) (by omega) (by omega) (by omega) (by omega) (by omega)) hB
        have yA : actI Y p n := actI_cg (yv p (by omega) (by omega) (by omega) (by omega) (by omega) (by omega)) (fun b b1 b2 => yv b (by omega) (by omega) (by omega) (by omega) (by omega) (by omega)) p5
        have y149 := yv 149 (by omega) (by omega) (by omega) (by omega) (by omega) (by omega)
        have y150 := yv 150 (by omega) (by omega) (by omega) (by omega) (by omega) (by omega)
        have y151 := yv 151 (by omega) (by omega) (by omega) (by omega) (by omega) (by omega)
        have y141 := yv 141 (by omega) (by omega) (by omega) (by omega) (by omega) (by omega)
        have yP : actP Y n = actP v n := actP_cg p5 (fun b b1 b2 => yv b (by omega) (by omega) (by omega) (by omega) (by omega) (by omega)) y141 (yv 142 (by omega) (by omega) (by omega) (by omega) (by omega) (by omega)) (fun b b1 b2 => yv b (by omega) (by omega) (by omega) (by omega) (by omega) (by omega))
        by_cases c0 : b = 0
        · obtain ⟨hL, hz⟩ := hz0 c0
          have ms : q_call (d + 7) 220 [.inr (.inr (.inl (some 137))), .inl n] Y G (fun r v' G' => q_wp (d + 7) 221 40 [.inr (.inr (.inl (some 137))), .inl n, .inl b] (q_push r []) v' G' (fun r2 v2 G2 => r2 = .inl z ∧ G2 = G ∧ (∀ b, b < 32 → v2 b = v b) ∧ Inv v2 G)) := c_msize (A := A) (B := B) (p := p) (k := k) hG yB p2 yA (by omega) hA3 (by rw [y150, hA]) hB3 (by rw [y151, hB']) (by rw [y149, ek0]) y65 (fun v2 g1 g2 g3 => by
            rw [y141, yP, ← hz]
            have fin := done v2 (fun b hb => by rw [g1 b hb, yr b (by omega)]) (fun j j0 j1 j2 j3 => by rw [g2 j j1 j2 j3, y137 j j0 j3]) (by rw [hL]; exact g3)
            simp only [e_221_40, e_221_48, q_push_I, q_push_L, q_push_P, q_push_U]
            repeat' first | exact fin | (refine And.intro ?_ ?_) | exact True.intro | omega | rfl)
          simp (disch := first | assumption | omega | (rw [u_n (by omega), u137]; omega)) only [e_221, e_221_0, e_221_1, e_221_2, e_221_5, e_221_6, e_221_7, e_221_10, e_221_13, e_221_14, e_221_15, e_221_16, e_221_17, e_221_20, e_221_26, e_221_27, e_221_28, e_221_31, e_221_32, e_221_35, e_221_36, e_221_37, SHM hG, c_isAct, c_in, u_n, u137, ← a1, hY, ↓if_neg, ↓if_pos, q_push_I, q_push_L, q_push_P, q_push_U]
          repeat' first | (refine And.intro ?_ ?_) | exact True.intro | omega | assumption | rfl
        · obtain ⟨hL, hz⟩ := hz1 (by omega)
          have mm : ∀ (d' : Nat) (Q' : q_V → q_H → q_Gr → Prop), q_call (d' + 3) 219 [.inr (.inr (.inl (some 137))), .inl n] Y G Q' = Q' (.inl z) (q_apl Y 137 65 173 L) G := fun d' Q' => by
            rw [c_mmark (A := A) (k := k) hG (by omega) hA3 (by rw [y150, hA]) (by rw [y149]; omega) (by rw [y149]; omega) (by rw [y149, ek0]) (by omega) (by omega), y141, hz, hL]
          have fin := done (q_apl Y 137 65 173 L) (fun b hb => by rw [apl_r (by omega) (by omega), yr b (by omega)]) (fun j j0 j1 j2 j3 => by rw [apl_n _ _ (by omega) (by omega), y137 j j0 j3]) (by
            have := hasL_apl (q := 137) (f := 65) (i := 173) (xs := []) (ys := L) (v := Y) (by decide) (hasL_0 y65)
            exact this)
          simp (disch := first | assumption | omega | (rw [u_n (by omega), u137]; omega)) only [E221, SHM hG, c_isAct, c_in, u_n, u137, ← a1, hY, mm, ↓if_neg, ↓if_pos, q_push_I, q_push_L, q_push_P, q_push_U]
          repeat' first | exact fin | (refine And.intro ?_ ?_) | exact True.intro | omega | rfl
      by_cases c0 : b = 0
      · have rf := ref (szL k) _ (fun _ => ⟨rfl, rfl⟩) (fun h => by omega)
        have es : ∀ (d' : Nat) (Q' : q_V → q_H → q_Gr → Prop), q_call (d' + 7) 11 [.inr (.inr (.inl (some 92)))] (q_up (q_up W 92 5 (v 141 A)) 92 6 (v 141 B)) G Q' = Q' (.inl (szV k n (v 141 A) (v 141 B) (actP v n).length)) (q_apl (q_up (q_up W 92 5 (v 141 A)) 92 6 (v 141 B)) 92 1 93 (szL k)) G := fun d' Q' => by
          have x1 : q_up (q_up W 92 5 (v 141 A)) 92 6 (v 141 B) 92 1 = 0 := by rw [u_n (by omega), u_n (by omega), w1]
          have x2 : q_up (q_up W 92 5 (v 141 A)) 92 6 (v 141 B) 92 2 = n := by rw [u_n (by omega), u_n (by omega), w2]
          have x3 : q_up (q_up W 92 5 (v 141 A)) 92 6 (v 141 B) 92 3 = k := by rw [u_n (by omega), u_n (by omega), w3]
          have x4 : q_up (q_up W 92 5 (v 141 A)) 92 6 (v 141 B) 92 4 = (actP v n).length := by rw [u_n (by omega), u_n (by omega), w4]
          have x5 : q_up (q_up W 92 5 (v 141 A)) 92 6 (v 141 B) 92 5 = v 141 A := by rw [u_n (by omega), u_s rfl rfl]
          have x6 : q_up (q_up W 92 5 (v 141 A)) 92 6 (v 141 B) 92 6 = v 141 B := by rw [u_s rfl rfl]
          rw [c_ksize hG fC x1 (by rw [x3]; exact kr.1) (by rw [x3]; exact kr.2), x2, x3, x4, x5, x6]
        have fin : ∃ z : Int, (.inl (szV k n (v 141 A) (v 141 B) (actP v n).length) : q_V) = .inl z ∧ True ∧ -2147483648 ≤ z ∧ z ≤ 2147483647 ∧ q_call (d + 8) 221 [.inr (.inr (.inl (some 137))), .inl n, .inl b] (q_apl (q_up (q_up W 92 5 (v 141 A)) 92 6 (v 141 B)) 92 1 93 (szL k)) G (fun r2 v2 G2 => r2 = .inl z ∧ G2 = G ∧ (∀ b, b < 32 → v2 b = v b) ∧ Inv v2 G) := ⟨_, rfl, True.intro, by unfold szV mkV; split <;> (repeat' split) <;> omega, by unfold szV mkV; split <;> (repeat' split) <;> omega, rf⟩
        simp (disch := first | assumption | omega) only [E140, E10, SHC hG, c_nsize hN, l11, eb, wp, pA, pB, p4, ga0, gb0, eta, etb, es, Int.toNat_natCast, ↓if_neg, ↓if_pos, q_push_I, q_push_L, q_push_P, q_push_U]
        repeat' first | exact fin | (refine And.intro ?_ ?_) | exact True.intro | omega | rfl
      · have rf := ref (mkL k) _ (fun h => by omega) (fun _ => ⟨rfl, rfl⟩)
        have es : ∀ (d' : Nat) (Q' : q_V → q_H → q_Gr → Prop), q_call (d' + 7) 12 [.inr (.inr (.inl (some 92)))] (q_up (q_up W 92 5 (v 141 A)) 92 6 (v 141 B)) G Q' = Q' (.inl (mkV k n (v 141 A))) (q_apl (q_up (q_up W 92 5 (v 141 A)) 92 6 (v 141 B)) 92 1 93 (mkL k)) G := fun d' Q' => by
          have x1 : q_up (q_up W 92 5 (v 141 A)) 92 6 (v 141 B) 92 1 = 0 := by rw [u_n (by omega), u_n (by omega), w1]
          have x2 : q_up (q_up W 92 5 (v 141 A)) 92 6 (v 141 B) 92 2 = n := by rw [u_n (by omega), u_n (by omega), w2]
          have x3 : q_up (q_up W 92 5 (v 141 A)) 92 6 (v 141 B) 92 3 = k := by rw [u_n (by omega), u_n (by omega), w3]
          have x5 : q_up (q_up W 92 5 (v 141 A)) 92 6 (v 141 B) 92 5 = v 141 A := by rw [u_n (by omega), u_s rfl rfl]
          rw [c_kmark hG fC x1 (by rw [x3]; exact kr.1) (by rw [x3]; exact kr.2), x2, x3, x5]
        have fin : ∃ z : Int, (.inl (mkV k n (v 141 A)) : q_V) = .inl z ∧ True ∧ -2147483648 ≤ z ∧ z ≤ 2147483647 ∧ q_call (d + 8) 221 [.inr (.inr (.inl (some 137))), .inl n, .inl b] (q_apl (q_up (q_up W 92 5 (v 141 A)) 92 6 (v 141 B)) 92 1 93 (mkL k)) G (fun r2 v2 G2 => r2 = .inl z ∧ G2 = G ∧ (∀ b, b < 32 → v2 b = v b) ∧ Inv v2 G) := ⟨_, rfl, True.intro, by unfold mkV; split <;> (repeat' split) <;> omega, by unfold mkV; split <;> (repeat' split) <;> omega, rf⟩
        simp (disch := first | assumption | omega) only [E140, E10, SHC hG, c_nsize hN, l11, eb, wp, pA, pB, p4, ga0, gb0, eta, etb, es, Int.toNat_natCast, ↓if_neg, ↓if_pos, q_push_I, q_push_L, q_push_P, q_push_U]
        repeat' first | exact fin | (refine And.intro ?_ ?_) | exact True.intro | omega | rfl)
    have eo : ∀ (d' : Nat) (Q' : q_V → q_H → q_Gr → Prop), q_call (d' + 2) 1 [.inr (.inr (.inl (some p)))] v G Q' = Q' (.inl k) v G := fun d' Q' => by rw [c_own hG hC p4 r5.1 r5.2, hk]
    simp (disch := first | assumption | omega) only [e_140, e_140_0, e_140_1, e_140_4, e_140_5, e_140_8, e_140_9, e_140_10b, e_140_13, e_140_14, e_140_15, e_140_18, e_140_24, e_140_25, e_140_28, e_140_29, e_140_30, e_140_33, e_140_34, e_140_37, e_140_38, e_140_39, e_140_42, SHC hG, c_act_y hG a3 c.1.2 p1, c_within, eo, Int.toNat_natCast, ↓if_neg, ↓if_pos, q_push_I, q_push_L, q_push_P, q_push_U]
    repeat' first | (refine And.intro ?_ ?_) | exact True.intro | omega | assumption | rfl
  · refine twin_mk (z := -1000001) (v1 := v) (v2 := q_up v 137 0 0) ?_ ?_ (by omega) (Inv_c hI (fun b j h1 => by rw [u_n (by omega)]))
    · by_cases c1 : 0 ≤ a ∧ a < v 36 3
      · obtain ⟨n, rfl⟩ : ∃ n : Nat, a = (n : Int) := ⟨a.toNat, by omega⟩
        obtain ⟨p, p1, p2, p3, p4, p5⟩ := a4 n c1.2
        simp (disch := first | assumption | omega) only [E140, SHC hG, c_act_y hG a3 c1.2 p1, c_within, ↓if_neg, ↓if_pos, q_push_I, q_push_L, q_push_P, q_push_U]
        repeat' first | (refine And.intro ?_ ?_) | rfl | exact True.intro | assumption | omega
      · simp (disch := first | assumption | omega) only [E140, n_140_10, SHC hG, c_act_n, q_push_I, q_push_L, q_push_P, q_push_U]
        repeat' first | (refine And.intro ?_ ?_) | rfl | exact True.intro | assumption | omega
    · simp (disch := first | assumption | omega | ((try simp (disch := omega) only [app_c, app_n, u_n, u_s]); omega)) only [E221, SHM hG, c_isAct, c_in, u_n, ← a1, q_push_I, q_push_L, q_push_P, q_push_U]
      repeat' first | (refine And.intro ?_ ?_) | rfl | exact True.intro | omega | split
end
