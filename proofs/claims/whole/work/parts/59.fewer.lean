section
variable {d q : Nat} {v : q_H} {G : q_Gr} {Q : q_V → q_H → q_Gr → Prop}
/-! ===== new acts ===== -/
theorem mk_1 {kd n a : Nat} (h : a ≠ 32 + G.2.2.1) : (q_mk G kd n).1 a = G.1 a := by
  funext k
  show (if a = 32 + G.2.2.1 then none else G.1 a k) = _
  rw [if_neg h]
theorem mk_2 {kd n a : Nat} (h : a ≠ 32 + G.2.2.1) : (q_mk G kd n).2.1 a = G.2.1 a := by
  show (if a = 32 + G.2.2.1 then _ else G.2.1 a) = _
  rw [if_neg h]
theorem mk_2n {kd n : Nat} : (q_mk G kd n).2.1 (32 + G.2.2.1) = (kd, n) := by
  show (if 32 + G.2.2.1 = 32 + G.2.2.1 then (kd, n) else _) = _
  rw [if_pos rfl]
theorem mk_3 {kd n : Nat} : (q_mk G kd n).2.2.1 = G.2.2.1 + 1 := rfl
theorem mk_4 {kd n : Nat} : (q_mk G kd n).2.2.2 = G.2.2.2 + n := rfl
theorem gok_mk {kd n : Nat} (h : gok G) : gok (q_mk G kd n) := by
  obtain ⟨h1, h2, h3, h4, h5⟩ := h
  refine ⟨fun a a1 a2 => ?_, fun a k a1 a2 a3 => ?_, fun a a1 a2 => ?_, fun a a1 a2 => ?_, ?_⟩
  · rw [mk_2 (by omega), h1 a a1 a2]
  · rw [mk_1 (by omega), h2 a k a1 a2 a3]
  · rw [mk_2 (by omega), h3 a a1 a2]
  · rw [mk_2 (by omega), h4 a a1 a2]
  · rw [mk_3]
    omega
/-- the object grows by cells that nobody counts on yet -/
theorem Inv_grow {v' : q_H} {G' : q_Gr} (hi : Inv v G) (hG : gok G') (h : ∀ b j, cr b j → b < 32 + G.2.2.1 → v' b j = v b j) (h1 : G'.1 38 = G.1 38) (h2 : ∀ p, p < 32 + G.2.2.1 → G'.2.1 p = G.2.1 p) (h3 : G.2.2.1 ≤ G'.2.2.1) : Inv v' G' := by
  obtain ⟨i1, i2, i3, i4, i5, i6, i7, i8, i9⟩ := hi
  have h142 := i1.2.2.2.2
  refine ⟨hG, shI_c (fun b j hb => h b j (Or.inl hb) (by omega)) i2, stI_c (fun b j hb => h b j (Or.inr (Or.inl hb)) (by omega)) i3, rdI_c (fun b j hb => h b j (Or.inr (Or.inr (Or.inl hb))) (by omega)) i4, tpI_c (fun b j hb => h b j (Or.inr (Or.inr (Or.inr (Or.inl hb)))) (by omega)) i5, ?_, ckI_c (fun b j hb => h b j (Or.inr (Or.inr (Or.inr (Or.inr (Or.inr (Or.inl hb)))))) (by omega)) i7, asI_c (fun b j hb => h b j (Or.inr (Or.inr (Or.inr (Or.inr (Or.inr (Or.inr (Or.inl hb))))))) (by omega)) i8, tbI_c (fun b j hb => h b j (Or.inr (Or.inr (Or.inr (Or.inr (Or.inr (Or.inr (Or.inr hb))))))) (by omega)) i9⟩
  obtain ⟨a1, a2, a3, a4⟩ := i6
  have ha : ∀ b j, acC b j → b < 32 + G.2.2.1 → v' b j = v b j := fun b j hb => h b j (Or.inr (Or.inr (Or.inr (Or.inr (Or.inl hb)))))
  have e36 : v' 36 3 = v 36 3 := ha _ _ (by omega) (by omega)
  refine ⟨by rw [e36, ha 137 15 (by omega) (by omega)]; exact a1, by rw [e36]; exact a2, by rw [e36]; exact a3, fun a hlt => ?_⟩
  rw [e36] at hlt
  obtain ⟨p, p1, p2, p3, p4, p5⟩ := a4 a hlt
  exact ⟨p, by rw [h1]; exact p1, p2, by omega, by rw [h2 p p3]; exact p4, actI_cg (by funext j; exact ha p j (by omega) p3) (fun b b1 b2 => by funext j; exact ha b j (by omega) (by omega)) p5⟩
/-- an act's cell, filled -/
def actW (v : q_H) (p : Nat) (w a b lo hi k : Int) : q_H := q_up (q_up (q_up (q_up (q_up (q_up v p 0 w) p 1 a) p 2 b) p 3 lo) p 4 hi) p 5 k
theorem actW_r {p b : Nat} {w a b' lo hi k : Int} (h : b ≠ p) : actW v p w a b' lo hi k b = v b := by
  unfold actW
  rw [u_r h, u_r h, u_r h, u_r h, u_r h, u_r h]
theorem actW_f {p : Nat} {w a b lo hi k : Int} : actW v p w a b lo hi k p 0 = w ∧ actW v p w a b lo hi k p 1 = a ∧ actW v p w a b lo hi k p 2 = b ∧ actW v p w a b lo hi k p 3 = lo ∧ actW v p w a b lo hi k p 4 = hi ∧ actW v p w a b lo hi k p 5 = k := by
  unfold actW
  refine ⟨?_, ?_, ?_, ?_, ?_, ?_⟩ <;> simp (disch := omega) only [u_n, u_s]
theorem c_actnew {p : Nat} {w a b lo hi k : Int} (h : (G.2.1 p).1 = 0) : q_call (d + 1) 0 [.inr (.inr (.inl (some p))), .inl w, .inl a, .inl b, .inl lo, .inl hi, .inl k] v G Q = Q (.inr (.inr (.inr ()))) (actW v p w a b lo hi k) G := by
  refine q_call_eq ?_ Q
  unfold actW
  simp (disch := omega) only [E0, h]
  repeat' first | (refine And.intro ?_ ?_) | rfl | exact True.intro | assumption | omega
theorem zr_r {a b : Nat} (h : b ≠ a) : q_zr v a b = v b := by
  funext j
  show (if b = a then 0 else v b j) = v b j
  rw [if_neg h]
theorem zr_n {a b j : Nat} (h : b ≠ a) : q_zr v a b j = v b j := by rw [zr_r h]
theorem op_fewer {a b lo hi : Int} (hI : Inv v G) (hr : G.2.2.1 + 12 ≤ 600000 ∧ G.2.2.2 + 72 ≤ 7302250) (ha : -2147483648 ≤ a ∧ a ≤ 2147483647) (hb : -2147483648 ≤ b ∧ b ≤ 2147483647) (hlo : -2147483648 ≤ lo ∧ lo ≤ 2147483647) (hhi : -2147483648 ≤ hi ∧ hi ≤ 2147483647) : twin (d + 8) 136 196 [.inl a, .inl b, .inl lo, .inl hi] v G Inv := by
  have hG := hI.1
  have hB := hI.2.2.2.2.2.2.2.2
  have h142 := hG.2.2.2.2
  by_cases c : (0 ≤ a ∧ a < 3) ∧ (0 ≤ b ∧ b < 3) ∧ 0 ≤ lo ∧ lo ≤ hi ∧ hi ≤ 999
  · obtain ⟨A, rfl⟩ : ∃ A : Nat, a = (A : Int) := ⟨a.toNat, by omega⟩
    obtain ⟨B, rfl⟩ : ∃ B : Nat, b = (B : Int) := ⟨b.toNat, by omega⟩
    have hA : A < 3 := by omega
    have hB3 : B < 3 := by omega
    unfold twin
    generalize hQt : (fun (r : q_V) (v1 : q_H) (G1 : q_Gr) => q_call (d + 8) 196 (.inr (.inr (.inl (some 137))) :: [.inl A, .inl B, .inl lo, .inl hi]) v1 G1 (fun r2 v2 G2 => ∃ z : Int, r = .inl z ∧ r2 = .inl z ∧ -2147483648 ≤ z ∧ z ≤ 2147483647 ∧ Inv v2 G2 ∧ G2.2.2.1 ≤ G.2.2.1 + 12 ∧ G2.2.2.2 ≤ G.2.2.2 + 72 ∧ (∀ b, b < 32 → v2 b = v b) ∧ G2.2.1 0 = G.2.1 0)) = Qt
    generalize hp : 32 + G.2.2.1 = p
    have hG1 : gok (q_mk G 0 6) := gok_mk hG
    have hp1 : 32 + (q_mk G 0 6).2.2.1 = p + 1 := by rw [mk_3]; omega
    have hG2 : gok (q_mk (q_mk G 0 6) 0 6) := gok_mk hG1
    have g1 : (q_mk G 0 6).2.1 p = (0, 6) := by rw [← hp]; exact mk_2n
    have g2 : (q_mk (q_mk G 0 6) 0 6).2.1 (p + 1) = (0, 6) := by rw [← hp1]; exact mk_2n
    have r1 : q_room G 6 := ⟨by omega, by omega⟩
    have r2 : q_room (q_mk G 0 6) 6 := ⟨by rw [mk_3]; omega, by rw [mk_4]; omega⟩
    generalize hv1 : actW (q_zr v p) p 4 A B lo hi 0 = v1
    have f1 : ∀ b, b ≠ p → v1 b = v b := fun b hb => by rw [← hv1, actW_r hb, zr_r hb]
    have w1 := actW_f (v := q_zr v p) (p := p) (w := 4) (a := A) (b := B) (lo := lo) (hi := hi) (k := 0)
    rw [hv1] at w1
    have hB1 : tbI v1 := tbI_cg (fun b hb => f1 b (by omega)) hB
    have eA : ∀ w, allP v1 w A B lo hi = allP v w A B lo hi := fun w => allP_cg (f1 _ (by omega)) (f1 _ (by omega)) (fun b b1 b2 => f1 b (by omega)) hA hB3
    have key : q_call (d + 7) 66 [.inr (.inr (.inl (some 40))), .inr (.inr (.inl (some p))), .inr (.inr (.inl (some 34)))] v1 (q_mk G 0 6) (fun r v' G' => q_wp (d + 7) 136 65 [.inr (.inr (.inl (some 32))), .inl A, .inl B, .inl lo, .inl hi, .inr (.inr (.inr ())), .inr (.inr (.inr ()))] (q_push r []) v' G' Qt) := by
      refine c_proofs (w := 4) (a := A) (b := B) (low := lo) (high := hi) (hi := hi) hG1 hB1 g1 (by omega) w1.1 (by decide) (by decide) w1.2.1 w1.2.2.1 hA hB3 w1.2.2.2.1 (by omega) (by omega) w1.2.2.2.2.1 (fun c => by omega) (fun _ => ⟨rfl, by omega, by omega⟩) (fun v2 f2 l2 => ?_)
      rw [eA] at l2
      have hN1 := g_num42 hG1
      have l21 := l2.1
      generalize hv3 : actW (q_zr v2 (p + 1)) (p + 1) 5 A B lo hi 0 = v3
      have f3 : ∀ b, b ≠ p → b ≠ p + 1 → b ≠ 41 → b ≠ 42 → b ≠ 43 → v3 b = v b := fun b b1 b2 b3 b4 b5 => by rw [← hv3, actW_r b2, zr_r b2, f2 b b3 b4 b5, f1 b b1]
      have w3 := actW_f (v := q_zr v2 (p + 1)) (p := p + 1) (w := 5) (a := A) (b := B) (lo := lo) (hi := hi) (k := 0)
      rw [hv3] at w3
      have hB3' : tbI v3 := tbI_cg (fun b hb => f3 b (by omega) (by omega) (by omega) (by omega) (by omega)) hB
      have eA3 : ∀ w, allP v3 w A B lo hi = allP v w A B lo hi := fun w => allP_cg (f3 _ (by omega) (by omega) (by omega) (by omega) (by omega)) (f3 _ (by omega) (by omega) (by omega) (by omega) (by omega)) (fun b b1 b2 => f3 b (by omega) (by omega) (by omega) (by omega) (by omega)) hA hB3
      have key2 : q_call (d + 7) 66 [.inr (.inr (.inl (some 40))), .inr (.inr (.inl (some (p + 1)))), .inr (.inr (.inl (some 34)))] v3 (q_mk (q_mk G 0 6) 0 6) (fun r v' G' => q_wp (d + 7) 136 95 [.inr (.inr (.inl (some 32))), .inl A, .inl B, .inl lo, .inl hi, .inl ((allP v 4 A B lo hi).length), .inr (.inr (.inr ()))] (q_push r []) v' G' Qt) := by
        refine c_proofs (w := 5) (a := A) (b := B) (low := lo) (high := hi) (hi := hi) hG2 hB3' g2 (by omega) w3.1 (by decide) (by decide) w3.2.1 w3.2.2.1 hA hB3 w3.2.2.2.1 (by omega) (by omega) w3.2.2.2.2.1 (fun c => by omega) (fun _ => ⟨rfl, by omega, by omega⟩) (fun v4 f4 l4 => ?_)
        rw [eA3] at l4
        have l41 := l4.1
        have hN2 := g_num42 hG2
        have t1 := tb_all hB A hA
        have t2 := tb_all hB B hB3
        have n4 := allP_len (w := 4) (low := lo) (high := hi) t1 t2
        have n5 := allP_len (w := 5) (low := lo) (high := hi) t1 t2
        have f4' : ∀ b, b ≠ p → b ≠ p + 1 → b ≠ 41 → b ≠ 42 → b ≠ 43 → v4 b = v b := fun b b1 b2 b3 b4 b5 => by rw [f4 b b3 b4 b5, f3 b b1 b2 b3 b4 b5]
        have f5 : ∀ b, b ≠ 137 → b ≠ p → b ≠ p + 1 → b ≠ 41 → b ≠ 42 → b ≠ 43 → q_up v4 137 0 0 b = v b := fun b b0 b1 b2 b3 b4 b5 => by rw [u_r b0, f4' b b1 b2 b3 b4 b5]
        have fin : ∀ z : Int, (z = 4 ∨ z = 5) → ((allP v 5 A B lo hi).length < (allP v 4 A B lo hi).length → z = 5) → (¬ (allP v 5 A B lo hi).length < (allP v 4 A B lo hi).length → z = 4) → Qt (.inl z) v4 (q_mk (q_mk G 0 6) 0 6) := fun z hz z5 z4 => by
          rw [← hQt]
          show q_call (d + 8) 196 [.inr (.inr (.inl (some 137))), .inl A, .inl B, .inl lo, .inl hi] v4 (q_mk (q_mk G 0 6) 0 6) (fun r2 v2 G2 => ∃ z' : Int, (.inl z : q_V) = .inl (z') ∧ r2 = .inl (z') ∧ -2147483648 ≤ z' ∧ z' ≤ 2147483647 ∧ Inv v2 G2 ∧ G2.2.2.1 ≤ G.2.2.1 + 12 ∧ G2.2.2.2 ≤ G.2.2.2 + 72 ∧ (∀ b, b < 32 → v2 b = v b) ∧ G2.2.1 0 = G.2.1 0)
          generalize hQm : (fun (r2 : q_V) (v2 : q_H) (G2 : q_Gr) => ∃ z' : Int, (.inl z : q_V) = .inl (z') ∧ r2 = .inl (z') ∧ -2147483648 ≤ z' ∧ z' ≤ 2147483647 ∧ Inv v2 G2 ∧ G2.2.2.1 ≤ G.2.2.1 + 12 ∧ G2.2.2.2 ≤ G.2.2.2 + 72 ∧ (∀ b, b < 32 → v2 b = v b) ∧ G2.2.1 0 = G.2.1 0) = Qm
          have hB5 : tbI (q_up v4 137 0 0) := tbI_cg (fun b hb => f5 b (by omega) (by omega) (by omega) (by omega) (by omega) (by omega)) hB
          have eA5 : ∀ w, allP (q_up v4 137 0 0) w A B lo hi = allP v w A B lo hi := fun w => allP_cg (f5 _ (by omega) (by omega) (by omega) (by omega) (by omega) (by omega)) (f5 _ (by omega) (by omega) (by omega) (by omega) (by omega) (by omega)) (fun b b1 b2 => f5 b (by omega) (by omega) (by omega) (by omega) (by omega) (by omega)) hA hB3
          have m1 : q_call (d + 7) 192 [.inr (.inr (.inl (some 137))), .inl 4, .inl A, .inl B, .inl lo, .inl hi] (q_up v4 137 0 0) (q_mk (q_mk G 0 6) 0 6) (fun r v' G' => q_wp (d + 7) 196 53 [.inr (.inr (.inl (some 137))), .inl A, .inl B, .inl lo, .inl hi, .inr (.inr (.inr ()))] (q_push r []) v' G' Qm) := by
            refine c_mall hG2 hB5 (by decide) (by decide) hA hB3 (by omega) (by omega) (fun c => by omega) (fun _ => by omega) (fun v6 f6 l6 => ?_)
            rw [eA5] at l6
            have l61 := l6.1
            have f6' : ∀ b, (b < 137 ∨ (137 < b ∧ b < 144) ∨ (147 < b ∧ b < 155) ∨ 158 < b) → b ≠ p → b ≠ p + 1 → b ≠ 41 → b ≠ 42 → b ≠ 43 → v6 b = v b := fun b b0 b1 b2 b3 b4 b5 => by rw [mfr_r f6 b b0, f5 b (by omega) b1 b2 b3 b4 b5]
            have hB6 : tbI v6 := tbI_cg (fun b hb => f6' b (by omega) (by omega) (by omega) (by omega) (by omega) (by omega)) hB
            have eA6 : ∀ w, allP v6 w A B lo hi = allP v w A B lo hi := fun w => allP_cg (f6' _ (by omega) (by omega) (by omega) (by omega) (by omega) (by omega)) (f6' _ (by omega) (by omega) (by omega) (by omega) (by omega) (by omega)) (fun b b1 b2 => f6' b (by omega) (by omega) (by omega) (by omega) (by omega) (by omega)) hA hB3
            have m2 : q_call (d + 7) 192 [.inr (.inr (.inl (some 137))), .inl 5, .inl A, .inl B, .inl lo, .inl hi] v6 (q_mk (q_mk G 0 6) 0 6) (fun r v' G' => q_wp (d + 7) 196 69 [.inr (.inr (.inl (some 137))), .inl A, .inl B, .inl lo, .inl hi, .inl ((allP v 4 A B lo hi).length)] (q_push r []) v' G' Qm) := by
              refine c_mall hG2 hB6 (by decide) (by decide) hA hB3 (by omega) (by omega) (fun c => by omega) (fun _ => by omega) (fun v7 f7 l7 => ?_)
              rw [eA6] at l7
              have l71 := l7.1
              have ok : Qm (.inl z) v7 (q_mk (q_mk G 0 6) 0 6) := by
                rw [← hQm]
                refine ⟨z, rfl, rfl, by omega, by omega, Inv_grow hI hG2 (fun b j hb hlt => ?_) ?_ (fun p' hp' => ?_) ?_, ?_, ?_, fun b hb => ?_, ?_⟩
                · by_cases e : b = 137
                  · subst e
                    rw [f7.2 j (by omega) (by omega), f6.2 j (by omega) (by omega), u_n (by omega), f4' 137 (by omega) (by omega) (by omega) (by omega) (by omega)]
                  · rw [mfr_r f7 b (by omega), f6' b (by omega) (by omega) (by omega) (by omega) (by omega) (by omega)]
                · rw [mk_1 (by omega), mk_1 (by omega)]
                · rw [mk_2 (by omega), mk_2 (by omega)]
                · rw [mk_3, mk_3]
                  omega
                · rw [mk_3, mk_3]
                  omega
                · rw [mk_4, mk_4]
                  omega
                · rw [mfr_r f7 b (by omega), f6' b (by omega) (by omega) (by omega) (by omega) (by omega) (by omega)]
                · rw [mk_2 (by omega), mk_2 (by omega)]
              clear hQm hQt
              by_cases cz : (allP v 5 A B lo hi).length < (allP v 4 A B lo hi).length
              · rw [z5 cz] at ok
                simp (disch := omega) only [E196, SHM hG2, l71, ↓if_pos, ↓if_neg, q_push_I, q_push_L, q_push_P, q_push_U]
                repeat' first | (refine And.intro ?_ ?_) | exact True.intro | omega | assumption | rfl
              · rw [z4 cz] at ok
                simp (disch := omega) only [E196, SHM hG2, l71, ↓if_pos, ↓if_neg, q_push_I, q_push_L, q_push_P, q_push_U]
                repeat' first | (refine And.intro ?_ ?_) | exact True.intro | omega | assumption | rfl
            clear hQm hQt
            simp (disch := omega) only [e_196_53, e_196_54, e_196_57, e_196_59, e_196_60, e_196_61, e_196_62, e_196_63, e_196_64, e_196_66, SHM hG2, l61, q_push_I, q_push_L, q_push_P, q_push_U]
            repeat' first | (refine And.intro ?_ ?_) | exact True.intro | omega | assumption | rfl
          clear hQm hQt
          simp (disch := omega) only [e_196, e_196_0, e_196_1, e_196_2, e_196_5, e_196_6, e_196_9, e_196_12, e_196_13, e_196_16, e_196_19, e_196_20, e_196_23, e_196_26, e_196_28, e_196_29, e_196_30, e_196_31, e_196_34, e_196_37, e_196_40, e_196_42, e_196_43, e_196_44, e_196_45, e_196_46, e_196_47, e_196_48, e_196_50, SHM hG2, c_isTable, c_isKey, c_in, ↓if_pos, ↓if_neg, q_push_I, q_push_L, q_push_P, q_push_U]
          repeat' first | (refine And.intro ?_ ?_) | exact True.intro | omega | assumption | rfl
        clear hQt
        by_cases cz : (allP v 5 A B lo hi).length < (allP v 4 A B lo hi).length
        · have fin := fin 5 (by omega) (fun _ => rfl) (fun h => absurd cz h)
          simp (disch := omega) only [E136, SHC hG2, c_nsize hN2, l41, ↓if_pos, ↓if_neg, q_push_I, q_push_L, q_push_P, q_push_U]
          repeat' first | exact fin | (refine And.intro ?_ ?_) | exact True.intro | omega | rfl
        · have fin := fin 4 (by omega) (fun h => absurd h cz) (fun _ => rfl)
          simp (disch := omega) only [E136, SHC hG2, c_nsize hN2, l41, ↓if_pos, ↓if_neg, q_push_I, q_push_L, q_push_P, q_push_U]
          repeat' first | exact fin | (refine And.intro ?_ ?_) | exact True.intro | omega | rfl
      clear hQt
      have hp2 : (q_mk G 0 6).2.2.1 = G.2.2.1 + 1 := mk_3
      have ea : ∀ (d' : Nat) (Q' : q_V → q_H → q_Gr → Prop), q_call (d' + 1) 0 [.inr (.inr (.inl (some (p + 1)))), .inl 5, .inl A, .inl B, .inl lo, .inl hi, .inl 0] (q_zr v2 (p + 1)) (q_mk (q_mk G 0 6) 0 6) Q' = Q' (.inr (.inr (.inr ()))) v3 (q_mk (q_mk G 0 6) 0 6) := fun d' Q' => by rw [c_actnew (by rw [g2]), hv3]
      simp (disch := first | assumption | omega) only [E136, SHC hG1, SHC hG2, c_nsize hN1, l21, ea, hp1, ↓if_pos, ↓if_neg, q_push_I, q_push_L, q_push_P, q_push_U]
      repeat' first | (refine And.intro ?_ ?_) | exact True.intro | omega | assumption | rfl
    clear hQt
    have ea : ∀ (d' : Nat) (Q' : q_V → q_H → q_Gr → Prop), q_call (d' + 1) 0 [.inr (.inr (.inl (some p))), .inl 4, .inl A, .inl B, .inl lo, .inl hi, .inl 0] (q_zr v p) (q_mk G 0 6) Q' = Q' (.inr (.inr (.inr ()))) v1 (q_mk G 0 6) := fun d' Q' => by rw [c_actnew (by rw [g1]), hv1]
    simp (disch := first | assumption | omega) only [E136, SHC hG, SHC hG1, c_within, ea, hp, ↓if_pos, ↓if_neg, q_push_I, q_push_L, q_push_P, q_push_U]
    repeat' first | (refine And.intro ?_ ?_) | exact True.intro | omega | assumption | rfl
  · refine twin_mk (z := -1000001) (v1 := v) (v2 := q_up v 137 0 0) ?_ ?_ (by decide) (Inv_c hI (fun b j h1 => by rw [u_n (by omega)]))
    · simp (disch := omega) only [E136, SHC hG, c_within, q_push_I, q_push_L, q_push_P, q_push_U]
      repeat' first | (refine And.intro ?_ ?_) | rfl | exact True.intro | omega | split
    · simp (disch := omega) only [E196, SHM hG, c_isTable, c_isKey, c_in, q_push_I, q_push_L, q_push_P, q_push_U]
      repeat' first | (refine And.intro ?_ ?_) | rfl | exact True.intro | omega | split
end
