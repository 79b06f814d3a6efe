section
variable {d q : Nat} {v : q_H} {G : q_Gr} {Q : q_V → q_H → q_Gr → Prop}
theorem hasL_fr {v v' : q_H} {q f i : Nat} {L : List Int} (h1 : v' q = v q) (h2 : v' i = v i) (h : hasL v q f i L) : hasL v' q f i L := by
  unfold hasL
  rw [h1, h2]
  exact h
theorem hasL_0 {v : q_H} {q f i : Nat} (h : v q f = 0) : hasL v q f i [] := ⟨h, fun k hk => absurd hk (Nat.not_lt_zero _)⟩
/-- the class's probes -/
theorem s_prob_loop {p a b : Nat} {v0 : q_H} {z2 z5 : q_V} {n e : Nat} (hG : gok G) (hp : G.2.1 p = (0, 6)) (hp2 : 174 ≤ p) (hpr : v0 p 0 = 4 ∨ v0 p 0 = 6) (ha : a < 3) (hb : b < 3) (hB : tbI v0) (hn : (v0 141 a).toNat = n) (hE : e ≤ n) : ∀ (r i : Nat) (v : q_H) (L : List Int), i + r = e → (∀ b, b ≠ 41 → b ≠ 42 → b ≠ 43 → v b = v0 b) → hasL v 42 1 43 L → L.length + 38 * r ≤ 600 → (∀ v', (∀ b, b ≠ 41 → b ≠ 42 → b ≠ 43 → v' b = v0 b) → hasL v' 42 1 43 (L ++ prb v0 a b r i) → Q (.inr (.inr (.inl (some 42)))) v' G) → q_wp (d + 5) 66 172 [.inr (.inr (.inl (some 40))), .inr (.inr (.inl (some p))), z2, .inr (.inr (.inl (some (110 + 9 * a)))), .inr (.inr (.inl (some (110 + 9 * b)))), z5, .inl ((e + 1 : Nat)), .inl ((i + 1 : Nat))] [] v G Q := by
  have hIa := tb_all hB a ha
  rw [hn] at hIa
  have h14 := hIa.1
  obtain ⟨g0, g⟩ := g_table hG a ha
  have gr := g.2.2.2.1
  intro r
  induction r with
  | zero =>
    intro i v L hi hf hL h6 hC
    have hi : i = e := by omega
    subst hi
    have := hC v hf (by unfold prb; rw [List.append_nil]; exact hL)
    rw [e_66_172]
    simp (disch := omega) only [E66, SHC hG, ↓if_pos]
    repeat' first | (refine And.intro ?_ ?_) | rfl | exact True.intro | assumption | omega
  | succ r ih =>
    intro i v L hi hf hL h6 hC
    have ep : v p = v0 p := hf p (by omega) (by omega) (by omega)
    have e8 := hIa.2.2.2.2.2.2.2.1 i (by omega)
    have k1 : v (110 + 9 * a + 1) 2 = ((n + 2 : Nat) : Int) := by rw [hf _ (by omega) (by omega) (by omega), hIa.2.2.1]; omega
    have k2 : v (110 + 9 * a + 2) (i + 1) = v0 142 (14 * a + i) := by rw [hf _ (by omega) (by omega) (by omega), e8.1]
    have hBv : tbI v := tbI_cg (fun b hb => hf b (by omega) (by omega) (by omega)) hB
    have hIb := tb_all hBv b hb
    have eW : pfW v 0 b (v0 142 (14 * a + i)) (v0 142 (14 * a + i)) = pfW v0 0 b (v0 142 (14 * a + i)) (v0 142 (14 * a + i)) := pfW_cg (hf _ (by omega) (by omega) (by omega)) (hf _ (by omega) (by omega) (by omega)) (hf _ (by omega) (by omega) (by omega)) (hf _ (by omega) (by omega) (by omega))
    have pl := pfW_plen (z := v0 142 (14 * a + i)) hIb
    have hL1 := hL.1
    have ekey : ∀ (d' : Nat) (Q' : q_V → q_H → q_Gr → Prop), q_call (d' + 2) 83 [.inr (.inr (.inl (some (110 + 9 * a + 1)))), .inl ((i + 1 : Nat))] v G Q' = Q' (.inl (v0 142 (14 * a + i))) v G := fun d' Q' => by
      rw [c_rkey gr (by omega) (by omega) (by omega) (by omega), if_pos (by omega), Int.toNat_natCast]
      show Q' (.inl (v (110 + 9 * a + 2) (i + 1))) v G = _
      rw [k2]
    have epr : ∀ (d' : Nat) (Q' : q_V → q_H → q_Gr → Prop), q_call (d' + 1) 3 [.inr (.inr (.inl (some p)))] v G Q' = Q' (.inl 1) v G := fun d' Q' => by
      rw [c_prob hp (by rw [ep]; omega) (by rw [ep]; omega), if_pos (by rw [ep]; exact hpr)]
    rw [e_66_172]
    simp (disch := first | assumption | omega) only [E66, SHC hG, g.1, hp, epr, c_tleaves, ekey, q_push_I, q_push_L, q_push_P, q_push_U, ↓if_neg, ↓if_pos]
    have nx : q_call (d + 5) 67 [.inr (.inr (.inl (some 40))), .inr (.inr (.inl (some (110 + 9 * b)))), .inl (v0 142 (14 * a + i)), .inl (v0 142 (14 * a + i))] v G (fun r v' G' => r = .inr (.inr (.inr ())) ∧ G' = G ∧ (∀ b, b ≠ 41 → b ≠ 42 → b ≠ 43 → v' b = v b) ∧ hasL v' 42 1 43 (L ++ pfW v 0 b (v0 142 (14 * a + i)) (v0 142 (14 * a + i)))) := by
      have := e8.2.2.1
      have := e8.2.2.2.1
      have := e8.1
      exact c_trange hG hb hIb (by omega) (by omega) (by omega) (by omega) (by omega) (fun v' h1 h2 => ⟨rfl, rfl, h1, h2 L hL⟩)
    have nx2 : q_call (d + 5) 67 [.inr (.inr (.inl (some 40))), .inr (.inr (.inl (some (110 + 9 * b)))), .inl (v0 142 (14 * a + i)), .inl (v0 142 (14 * a + i))] v G (fun r v' G' => q_wp (d + 5) 66 210 [.inr (.inr (.inl (some 40))), .inr (.inr (.inl (some p))), z2, .inr (.inr (.inl (some (110 + 9 * a)))), .inr (.inr (.inl (some (110 + 9 * b)))), z5, .inl ((e + 1 : Nat)), .inl ((i + 1 : Nat))] (q_push r []) v' G' Q) := by
      refine q_call_mono nx ?_
      rintro r' v' G' ⟨rfl, e, h1, h2⟩
      subst e
      rw [eW] at h2
      have nx3 := ih (i + 1) v' _ (by omega) (fun b b1 b2 b3 => by rw [h1 b b1 b2 b3, hf b b1 b2 b3]) h2 (by rw [List.length_append, ← eW]; omega) (fun v'' g1 g2 => hC v'' g1 (by unfold prb; rw [← List.append_assoc]; exact g2))
      simp only [E66, q_push_I, q_push_L, q_push_P, q_push_U, show ((i + 1 : Nat) : Int) + 1 = ((i + 1 + 1 : Nat) : Int) by omega]
      exact nx3
    simp only [E66, q_push_I, q_push_L, q_push_P, q_push_U] at nx2
    repeat' first | (refine And.intro ?_ ?_) | rfl | exact True.intro | assumption | omega
end
