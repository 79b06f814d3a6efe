section
variable {d q : Nat} {v : q_H} {G : q_Gr} {Q : q_V → q_H → q_Gr → Prop}
theorem s_write_loop {s i : Nat} {L : List Int} {v0 : q_H} {z1 z4 : q_V} (hG : gok G) (hs : s < 8) (h0 : hasL v0 42 1 43 L) (hl : L.length ≤ 600) (hsz : v0 (94 + 2 * s) 2 ≤ 600) (hi : (i : Int) + L.length ≤ v0 (94 + 2 * s) 2) (hln : v0 (94 + 2 * s) 1 = 2) (hC : ∀ v', (∀ b, b ≠ 95 + 2 * s → b ≠ 32 → v' b = v0 b) → (∀ j, j ≠ 9 → v' 32 j = v0 32 j) → v' 32 9 = 0 → (∀ j, v' (95 + 2 * s) j = if i ≤ j ∧ j < i + L.length then L.getD (j - i) 0 else v0 (95 + 2 * s) j) → Q (.inl L.length) v' G) : ∀ (r k : Nat) (v : q_H), k + r = L.length → (∀ b, b ≠ 95 + 2 * s → v b = v0 b) → (∀ j, v (95 + 2 * s) j = if i ≤ j ∧ j < i + k then L.getD (j - i) 0 else v0 (95 + 2 * s) j) → q_wp (d + 3) 132 106 [.inr (.inr (.inl (some 32))), z1, .inl s, .inl i, z4, .inr (.inr (.inl (some 42))), .inl k] [] v G Q := by
  have hN := g_num42 hG
  obtain ⟨gs1, gs2⟩ := g_sheet hG s hs
  have h32 : (G.2.1 32).1 = 10 := by rw [sh_32 hG]
  intro r
  induction r with
  | zero =>
    intro k v hk hf hv
    have hk : k = L.length := by omega
    subst hk
    have e1 : v 42 1 = L.length := by rw [hf 42 (by omega), h0.1]
    have fin := hC (q_up v 32 9 0) (fun b b1 b2 => by rw [u_r b2, hf b b1]) (fun j hj => by rw [u_n (by omega), hf 32 (by omega)]) (by rw [u_s rfl rfl]) (fun j => by rw [u_n (by omega), hv j])
    rw [e_132_106]
    simp (disch := first | assumption | omega) only [E132, SHC hG, c_nsize hN, e1, c_fine, ↓if_pos, q_push_I, q_push_L, q_push_P, q_push_U]
    repeat' first | exact fin | (refine And.intro ?_ ?_) | exact True.intro | omega | rfl
  | succ r ih =>
    intro k v hk hf hv
    have e1 : v 42 1 = L.length := by rw [hf 42 (by omega), h0.1]
    have e2 : v (94 + 2 * s) 1 = 2 := by rw [hf _ (by omega), hln]
    have e3 : v (94 + 2 * s) 2 = v0 (94 + 2 * s) 2 := by rw [hf _ (by omega)]
    have hat : v 43 k = L.getD k 0 := by rw [hf 43 (by omega)]; exact hasL_at h0 (by omega)
    have en : ∀ (d' : Nat) (Q' : q_V → q_H → q_Gr → Prop), q_call (d' + 2) 41 [.inr (.inr (.inl (some 42))), .inl k] v G Q' = Q' (.inl (L.getD k 0)) v G := fun d' Q' => by
      rw [c_nat hN (by omega) (by omega) (by omega) (by omega) (by decide), if_pos (by omega), Int.toNat_natCast]
      show Q' (.inl (v 43 k)) v G = _
      rw [hat]
    have es : ∀ (d' : Nat) (Q' : q_V → q_H → q_Gr → Prop), q_call (d' + 2) 94 [.inr (.inr (.inl (some (94 + 2 * s)))), .inl ((i : Int) + (k : Int)), .inl (L.getD k 0)] v G Q' = Q' (.inl (L.getD k 0)) (q_up v (95 + 2 * s) (i + k) (L.getD k 0)) G := fun d' Q' => by
      rw [c_sstore gs2 (by omega) (by omega) (by omega) (by omega) (by omega), e2, show bl 2 (L.getD k 0) = L.getD k 0 from rfl, show ((i : Int) + (k : Int)).toNat = i + k by omega, show 94 + 2 * s + 1 = 95 + 2 * s by omega]
    have nx := ih (k + 1) (q_up v (95 + 2 * s) (i + k) (L.getD k 0)) (by omega) (fun b hb => by rw [u_r hb, hf b hb]) (fun j => by
      by_cases e : j = i + k
      · subst e
        rw [u_s rfl rfl, if_pos (by omega), show i + k - i = k by omega]
      · rw [u_n (by omega), hv j]
        by_cases c : i ≤ j ∧ j < i + k
        · rw [if_pos c, if_pos (by omega)]
        · rw [if_neg c, if_neg (by omega)])
    rw [e_132_106]
    simp (disch := first | assumption | omega) only [E132, SHC hG, c_nsize hN, e1, gs1, en, es, ↓if_neg, q_push_I, q_push_L, q_push_P, q_push_U, Int.toNat_natCast, show (k : Int) + 1 = ((k + 1 : Nat) : Int) by omega]
    repeat' first | (refine And.intro ?_ ?_) | exact True.intro | omega | assumption | rfl
theorem s_mwrite_loop {s i : Nat} {L : List Int} {v0 : q_H} {z1 : q_V} (hG : gok G) (hs : s < 8) (h0 : hasL v0 137 32 155 L) (hl : L.length ≤ 600) (hi : i + L.length ≤ 600) (hC : ∀ v', (∀ b, b ≠ 140 → v' b = v0 b) → (∀ j, v' 140 j = if 600 * s + i ≤ j ∧ j < 600 * s + i + L.length then L.getD (j - (600 * s + i)) 0 else v0 140 j) → Q (.inl L.length) v' G) : ∀ (r k : Nat) (v : q_H), k + r = L.length → (∀ b, b ≠ 140 → v b = v0 b) → (∀ j, v 140 j = if 600 * s + i ≤ j ∧ j < 600 * s + i + k then L.getD (j - (600 * s + i)) 0 else v0 140 j) → q_wp d 195 96 [.inr (.inr (.inl (some 137))), z1, .inl s, .inl i, .inl k] [] v G Q := by
  intro r
  induction r with
  | zero =>
    intro k v hk hf hv
    have hk : k = L.length := by omega
    subst hk
    have e1 : v 137 32 = L.length := by rw [hf 137 (by omega), h0.1]
    have fin := hC v hf hv
    rw [e_195_96]
    simp (disch := first | assumption | omega) only [E195, SHM hG, e1, ↓if_pos, q_push_I, q_push_L, q_push_P, q_push_U]
    repeat' first | exact fin | (refine And.intro ?_ ?_) | exact True.intro | omega | rfl
  | succ r ih =>
    intro k v hk hf hv
    have e1 : v 137 32 = L.length := by rw [hf 137 (by omega), h0.1]
    have hat : v 155 k = L.getD k 0 := by rw [hf 155 (by omega)]; exact hasL_at h0 (by omega)
    have nx := ih (k + 1) (q_up v 140 (600 * s + i + k) (L.getD k 0)) (by omega) (fun b hb => by rw [u_r hb, hf b hb]) (fun j => by
      by_cases e : j = 600 * s + i + k
      · subst e
        rw [u_s rfl rfl, if_pos (by omega), show 600 * s + i + k - (600 * s + i) = k by omega]
      · rw [u_n (by omega), hv j]
        by_cases c : 600 * s + i ≤ j ∧ j < 600 * s + i + k
        · rw [if_pos c, if_pos (by omega)]
        · rw [if_neg c, if_neg (by omega)])
    rw [e_195_96]
    simp (disch := first | assumption | omega) only [E195, SHM hG, e1, hat, ↓if_neg, q_push_I, q_push_L, q_push_P, q_push_U, Int.toNat_natCast, show ((600 : Int) * (s : Int) + (i : Int) + (k : Int)).toNat = 600 * s + i + k by omega, show (k : Int) + 1 = ((k + 1 : Nat) : Int) by omega]
    repeat' first | (refine And.intro ?_ ?_) | exact True.intro | omega | assumption | rfl
/-- after the class has told an act's proofs: its own cells, and the reference's telling in that state -/
theorem m_act2 {p n : Nat} {v v1 : q_H} (hG : gok G) (hB : tbI v) (hp2 : 174 ≤ p) (hn : n < 12) (h : actI v p n) (f1 : ∀ b, b = p ∨ (110 ≤ b ∧ b < 137) ∨ (138 ≤ b ∧ b < 144) ∨ (149 ≤ b ∧ b < 154) → v1 b = v b) (hQ : ∀ v', mfr v' v1 → hasL v' 137 32 155 (actP v n) → Q (.inr (.inr (.inr ()))) v' G) : q_call (d + 6) 193 [.inr (.inr (.inl (some 137))), .inl n] v1 G Q := by
  have eP : actP v1 n = actP v n := actP_cg h (fun b b1 b2 => f1 b (by omega)) (f1 _ (by omega)) (f1 _ (by omega)) (fun b b1 b2 => f1 b (by omega))
  refine m_act (p := p) hG (tbI_cg (fun b hb => f1 b (by omega)) hB) hn (actI_cg (f1 p (by omega)) (fun b b1 b2 => f1 b (by omega)) h) (fun v' h1 h2 => hQ v' h1 ?_)
  rw [← eP]
  exact h2
theorem op_write {a b i : Int} (hI : Inv v G) (ha : -2147483648 ≤ a ∧ a ≤ 2147483647) (hb : -2147483648 ≤ b ∧ b ≤ 2147483647) (hi : -2147483648 ≤ i ∧ i ≤ 2147483647) : twin (d + 8) 132 195 [.inl a, .inl b, .inl i] v G Inv := by
  have hG := hI.1
  have hL := hI.2.1
  have hT := hI.2.2.1
  have hA := hI.2.2.2.2.2.1
  have hB := hI.2.2.2.2.2.2.2.2
  have h32 : (G.2.1 32).1 = 10 := by rw [sh_32 hG]
  have h137 : (G.2.1 137).1 = 11 := by rw [sh_137 hG]
  obtain ⟨a1, a2, a3, a4⟩ := hA
  by_cases c : (0 ≤ a ∧ a < v 36 3) ∧ (0 ≤ b ∧ b ≤ 7)
  · obtain ⟨n, rfl⟩ : ∃ n : Nat, a = (n : Int) := ⟨a.toNat, by omega⟩
    obtain ⟨s, rfl⟩ : ∃ s : Nat, b = (s : Int) := ⟨b.toNat, by omega⟩
    have hs : s < 8 := by omega
    obtain ⟨p, p1, p2, p3, p4, p5⟩ := a4 n c.1.2
    obtain ⟨l1, l2, l3, l4, l5⟩ := hL s hs
    obtain ⟨gs1, gs2⟩ := g_sheet hG s hs
    by_cases hm : v (94 + 2 * s) 1 = -1
    · refine twin_mk (z := -1000011) (v1 := q_up v 32 9 1) (v2 := q_up (q_up (q_up v 32 9 1) 137 0 0) 137 1 1) ?_ ?_ (by decide) ?_
      · simp (disch := first | assumption | omega) only [E132, SHC hG, c_act_y hG a3 c.1.2 p1, c_within, gs1, c_smiss, c_found, Int.toNat_natCast, ↓if_neg, ↓if_pos, q_push_I, q_push_L, q_push_P, q_push_U]
        repeat' first | (refine And.intro ?_ ?_) | rfl | exact True.intro | assumption | omega
      · simp (disch := first | assumption | omega | ((try simp (disch := omega) only [u_n, u_s]); omega)) only [E195, SHM hG, c_isAct, c_isSheet, c_finding, ↓if_neg, ↓if_pos, u_n, ← a1, Int.toNat_natCast, q_push_I, q_push_L, q_push_P, q_push_U]
        repeat' first | (refine And.intro ?_ ?_) | rfl | exact True.intro | assumption | omega
      · exact Inv_cst hI (fun b j h1 h2 => by simp (disch := omega) only [u_n]) (by unfold stI; simp (disch := omega) only [u_n, u_s]; decide)
    · have l4 := l4 (by omega)
      have al := actP_len hB p5
      have ar := actP_rng hB p5
      apply twin_of
      have k1 : q_call (d + 7) 66 [.inr (.inr (.inl (some 40))), .inr (.inr (.inl (some p))), .inr (.inr (.inl (some 34)))] v G (fun r v' G' => q_wp (d + 7) 132 58 [.inr (.inr (.inl (some 32))), .inl n, .inl s, .inl i, .inr (.inr (.inl (some p))), .inr (.inr (.inr ())), .inr (.inr (.inr ()))] (q_push r []) v' G' (fun r v1 G1 => ∃ z : Int, r = .inl z ∧ G1 = G ∧ -2147483648 ≤ z ∧ z ≤ 2147483647 ∧ q_call (d + 8) 195 [.inr (.inr (.inl (some 137))), .inl n, .inl s, .inl i] v1 G (fun r2 v2 G2 => r2 = .inl z ∧ G2 = G ∧ (∀ b, b < 32 → v2 b = v b) ∧ Inv v2 G))) := k_act hG hB p4 p2 p5 (fun v1 f1 hl1 => by
        have hN := g_num42 hG
        have l11 := hl1.1
        have e94 : v1 (94 + 2 * s) = v (94 + 2 * s) := f1 _ (by omega) (by omega) (by omega)
        have e138 : v1 138 = v 138 := f1 _ (by omega) (by omega) (by omega)
        have e139 : v1 139 = v 139 := f1 _ (by omega) (by omega) (by omega)
        have e137 : v1 137 = v 137 := f1 _ (by omega) (by omega) (by omega)
        have mp : ∀ (u : q_H) (Q2 : q_V → q_H → q_Gr → Prop), (∀ b, b ≠ 32 → b ≠ 41 → b ≠ 42 → b ≠ 43 → b ≠ 95 + 2 * s → u b = v b) → (∀ v2, mfr v2 (q_up u 137 0 0) → hasL v2 137 32 155 (actP v n) → q_wp (d + 7) 195 43 [.inr (.inr (.inl (some 137))), .inl n, .inl s, .inl i, .inr (.inr (.inr ()))] [] v2 G Q2) → q_call (d + 8) 195 [.inr (.inr (.inl (some 137))), .inl n, .inl s, .inl i] u G Q2 := fun u Q2 fu hC => by
          have u137 : u 137 = v 137 := fu _ (by omega) (by omega) (by omega) (by omega) (by omega)
          have u138 : u 138 = v 138 := fu _ (by omega) (by omega) (by omega) (by omega) (by omega)
          have m2 : q_call (d + 7) 193 [.inr (.inr (.inl (some 137))), .inl n] (q_up u 137 0 0) G (fun r v' G' => q_wp (d + 7) 195 43 [.inr (.inr (.inl (some 137))), .inl n, .inl s, .inl i, .inr (.inr (.inr ()))] (q_push r []) v' G' Q2) := m_act2 (p := p) hG hB p2 (by omega) p5 (fun b hb => by rw [u_r (by omega), fu b (by omega) (by omega) (by omega) (by omega) (by omega)]) (fun v2 f2 hl2 => by
            simp only [q_push_I, q_push_L, q_push_P, q_push_U]
            exact hC v2 f2 hl2)
          simp (disch := first | assumption | omega | (rw [u_n (by omega), u137]; omega)) only [e_195, e_195_0, e_195_1, e_195_2, e_195_5, e_195_6, e_195_7, e_195_10, e_195_13, e_195_14, e_195_17, e_195_23, e_195_24, e_195_27, e_195_28, e_195_29, e_195_38, e_195_39, e_195_40, SHM hG, c_isAct, c_isSheet, u_n, u137, u138, ← a1, l1, Int.toNat_natCast, ↓if_neg, ↓if_pos, q_push_I, q_push_L, q_push_P, q_push_U]
          repeat' first | (refine And.intro ?_ ?_) | exact True.intro | omega | assumption | rfl
        by_cases cp : 0 ≤ i ∧ i + (actP v n).length ≤ v (94 + 2 * s) 2
        · obtain ⟨i', rfl⟩ : ∃ i' : Nat, i = (i' : Int) := ⟨i.toNat, by omega⟩
          by_cases cl : v (94 + 2 * s) 1 = 2
          · have key := s_write_loop (d := d + 4) (z1 := .inl n) (z4 := .inr (.inr (.inl (some p)))) (Q := (fun r v1 G1 => ∃ z : Int, r = .inl z ∧ G1 = G ∧ -2147483648 ≤ z ∧ z ≤ 2147483647 ∧ q_call (d + 8) 195 [.inr (.inr (.inl (some 137))), .inl n, .inl s, .inl (i')] v1 G (fun r2 v2 G2 => r2 = .inl z ∧ G2 = G ∧ (∀ b, b < 32 → v2 b = v b) ∧ Inv v2 G))) (s := s) (i := i') (L := actP v n) (v0 := v1) hG hs hl1 al (by rw [e94]; omega) (by rw [e94]; exact cp.2) (by rw [e94]; exact cl) (fun u g1 g2 g3 g4 => ⟨(actP v n).length, rfl, rfl, by omega, by omega, mp u _ (fun b b1 b2 b3 b4 b5 => by rw [g1 b b5 b1, f1 b b2 b3 b4]) (fun v2 f2 hl2 => by
              have hl2' : hasL (q_up v2 137 1 0) 137 32 155 (actP v n) := ⟨by rw [u_n (by omega)]; exact hl2.1, fun k hk => by rw [u_n (by omega)]; exact hl2.2 k hk⟩
              have k2 := s_mwrite_loop (d := d + 7) (z1 := .inl n) (s := s) (i := i') (L := actP v n) (v0 := q_up v2 137 1 0) (Q := (fun r2 v2 G2 => r2 = .inl ((actP v n).length) ∧ G2 = G ∧ (∀ b, b < 32 → v2 b = v b) ∧ Inv v2 G)) hG hs hl2' al (by omega) (fun v3 t1 t2 => by
                have c3 : ∀ b, b ≠ 32 → b ≠ 41 → b ≠ 42 → b ≠ 43 → b ≠ 95 + 2 * s → b ≠ 140 → (b < 137 ∨ (137 < b ∧ b < 144) ∨ (147 < b ∧ b < 155) ∨ 158 < b) → v3 b = v b := fun b b1 b2 b3 b4 b5 b6 b7 => by rw [t1 b b6, u_r (by omega), mfr_r f2 b b7, u_r (by omega), g1 b b5 b1, f1 b b2 b3 b4]
                have c137 : ∀ j, j ≠ 0 → j ≠ 1 → j ≠ 8 → j ≠ 32 → v3 137 j = v 137 j := fun j j1 j2 j3 j4 => by rw [t1 137 (by decide), u_n (by omega), f2.2 j j3 j4, u_n (by omega), g1 137 (by omega) (by omega), e137]
                have c32 : ∀ j, v3 32 j = u 32 j := fun j => by rw [t1 32 (by decide), u_r (by omega), mfr_r f2 32 (by omega), u_r (by omega)]
                have cs : ∀ j, v3 (95 + 2 * s) j = u (95 + 2 * s) j := fun j => by rw [t1 _ (by omega), u_r (by omega), mfr_r f2 _ (by omega), u_r (by omega)]
                have c140 : q_up v2 137 1 0 140 = v 140 := by rw [u_r (by omega), mfr_r f2 _ (by omega), u_r (by omega), g1 140 (by omega) (by omega), f1 140 (by omega) (by omega) (by omega)]
                refine ⟨rfl, rfl, fun b hb => c3 b (by omega) (by omega) (by omega) (by omega) (by omega) (by omega) (by omega), Inv_css hI (fun b j h1 h2 h3 => ?_) ⟨?_, ?_, ?_⟩ (fun t ht => ?_)⟩
                · by_cases e : b = 137
                  · subst e
                    exact c137 j (by omega) (by omega) (by omega) (by omega)
                  · by_cases e2 : b = 32
                    · subst e2
                      rw [c32, g2 j (by omega), f1 32 (by decide) (by decide) (by decide)]
                    · rw [c3 b e2 (by omega) (by omega) (by omega) (by omega) (by omega) (by omega)]
                · rw [c32, g3, t1 137 (by decide), u_s rfl rfl]
                · rw [c32, g3]
                  decide
                · rw [c32, g3]
                  decide
                · obtain ⟨m1, m2, m3, m4, m5⟩ := hL t ht
                  rw [c3 138 (by omega) (by omega) (by omega) (by omega) (by omega) (by omega) (by omega), c3 139 (by omega) (by omega) (by omega) (by omega) (by omega) (by omega) (by omega), c3 (94 + 2 * t) (by omega) (by omega) (by omega) (by omega) (by omega) (by omega) (by omega)]
                  refine ⟨m1, m2, m3, m4, fun k hk => ?_⟩
                  rw [t2, c140]
                  by_cases e : t = s
                  · subst e
                    rw [cs, g4, f1 (95 + 2 * t) (by omega) (by omega) (by omega)]
                    by_cases e2 : i' ≤ k ∧ k < i' + (actP v n).length
                    · have hlt : k - i' < (actP v n).length := by omega
                      rw [if_pos (by omega), if_pos e2, show 600 * t + k - (600 * t + i') = k - i' by omega, getD_lt hlt]
                      have := ar _ (List.getElem_mem hlt)
                      exact ⟨rfl, by omega, by omega⟩
                    · rw [if_neg (by omega), if_neg e2]
                      exact m5 k hk
                  · rw [if_neg (by omega), c3 (95 + 2 * t) (by omega) (by omega) (by omega) (by omega) (by omega) (by omega) (by omega)]
                    exact m5 k hk) (actP v n).length 0 (q_up v2 137 1 0) (by omega) (fun _ _ => rfl) (fun j => by rw [if_neg (by omega)])
              have w32 := hl2.1
              have w139 : v2 139 s = v (94 + 2 * s) 2 := by rw [mfr_r f2 _ (by omega), u_r (by omega), g1 139 (by omega) (by omega), e139, l4]
              have w138 : v2 138 s = 2 := by rw [mfr_r f2 _ (by omega), u_r (by omega), g1 138 (by omega) (by omega), e138, l1, cl]
              simp (disch := omega) only [E195, SHM hG, w32, w138, w139, Int.toNat_natCast, ↓if_neg, ↓if_pos, q_push_I, q_push_L, q_push_P, q_push_U]
              repeat' first | (refine And.intro ?_ ?_) | exact True.intro | omega | assumption | rfl)⟩) (actP v n).length 0 v1 (by omega) (fun _ _ => rfl) (fun j => by rw [if_neg (by omega)])
            have e942 : v1 (94 + 2 * s) 2 = v (94 + 2 * s) 2 := by rw [e94]
            have e941 : v1 (94 + 2 * s) 1 = 2 := by rw [e94, cl]
            simp (disch := first | assumption | omega) only [E132, SHC hG, gs1, c_nsize hN, l11, c_shas, c_slane, e942, e941, Int.toNat_natCast, ↓if_neg, ↓if_pos, q_push_I, q_push_L, q_push_P, q_push_U]
            repeat' first | (refine And.intro ?_ ?_) | exact True.intro | omega | assumption | rfl
          · have e942 : v1 (94 + 2 * s) 2 = v (94 + 2 * s) 2 := by rw [e94]
            have e941 : v1 (94 + 2 * s) 1 = v (94 + 2 * s) 1 := by rw [e94]
            have fin : ∃ z : Int, (.inl (-1000010 - 5) : q_V) = .inl z ∧ True ∧ -2147483648 ≤ z ∧ z ≤ 2147483647 ∧ q_call (d + 8) 195 [.inr (.inr (.inl (some 137))), .inl n, .inl s, .inl (i')] (q_up v1 32 9 5) G (fun r2 v2 G2 => r2 = .inl z ∧ G2 = G ∧ (∀ b, b < 32 → v2 b = v b) ∧ Inv v2 G) := ⟨_, rfl, True.intro, by decide, by decide, mp _ _ (fun b b1 b2 b3 b4 b5 => by rw [u_r b1, f1 b b2 b3 b4]) (fun v2 f2 hl2 => by
              have fin : (∀ b, b < 32 → q_up v2 137 1 5 b = v b) ∧ Inv (q_up v2 137 1 5) G := ⟨fun b hb => by rw [u_r (by omega), mfr_r f2 b (by omega), u_r (by omega), u_r (by omega), f1 b (by omega) (by omega) (by omega)], Inv_cst hI (fun b j h1 h2 => by
                by_cases e : b = 137
                · subst e
                  rw [u_n (by omega), f2.2 j (by omega) (by omega), u_n (by omega), u_n (by omega), e137]
                · rw [u_n (by omega), mfr_r f2 b (by omega), u_r e, u_n (by omega), f1 b (by omega) (by omega) (by omega)]) ⟨by rw [u_n (by omega), mfr_r f2 32 (by omega), u_r (by omega), u_s rfl rfl, u_s rfl rfl], by rw [u_n (by omega), mfr_r f2 32 (by omega), u_r (by omega), u_s rfl rfl]; decide, by rw [u_n (by omega), mfr_r f2 32 (by omega), u_r (by omega), u_s rfl rfl]; decide⟩⟩
              have w32 := hl2.1
              have w139 : v2 139 s = v (94 + 2 * s) 2 := by rw [mfr_r f2 _ (by omega), u_r (by omega), u_r (by omega), e139, l4]
              have w138 : v2 138 s = v (94 + 2 * s) 1 := by rw [mfr_r f2 _ (by omega), u_r (by omega), u_r (by omega), e138, l1]
              simp (disch := first | assumption | omega) only [E195, SHM hG, w32, w138, w139, c_finding, Int.toNat_natCast, ↓if_neg, ↓if_pos, q_push_I, q_push_L, q_push_P, q_push_U]
              repeat' first | exact fin | (refine And.intro ?_ ?_) | exact True.intro | omega | rfl)⟩
            simp (disch := first | assumption | omega) only [E132, SHC hG, gs1, c_nsize hN, l11, c_shas, c_slane, c_found, e942, e941, Int.toNat_natCast, ↓if_neg, ↓if_pos, q_push_I, q_push_L, q_push_P, q_push_U]
            repeat' first | exact fin | (refine And.intro ?_ ?_) | exact True.intro | omega | rfl
        · have e942 : v1 (94 + 2 * s) 2 = v (94 + 2 * s) 2 := by rw [e94]
          have fin : ∃ z : Int, (.inl (-1000010 - 2) : q_V) = .inl z ∧ True ∧ -2147483648 ≤ z ∧ z ≤ 2147483647 ∧ q_call (d + 8) 195 [.inr (.inr (.inl (some 137))), .inl n, .inl s, .inl i] (q_up v1 32 9 2) G (fun r2 v2 G2 => r2 = .inl z ∧ G2 = G ∧ (∀ b, b < 32 → v2 b = v b) ∧ Inv v2 G) := ⟨_, rfl, True.intro, by decide, by decide, mp _ _ (fun b b1 b2 b3 b4 b5 => by rw [u_r b1, f1 b b2 b3 b4]) (fun v2 f2 hl2 => by
            have fin : (∀ b, b < 32 → q_up v2 137 1 2 b = v b) ∧ Inv (q_up v2 137 1 2) G := ⟨fun b hb => by rw [u_r (by omega), mfr_r f2 b (by omega), u_r (by omega), u_r (by omega), f1 b (by omega) (by omega) (by omega)], Inv_cst hI (fun b j h1 h2 => by
              by_cases e : b = 137
              · subst e
                rw [u_n (by omega), f2.2 j (by omega) (by omega), u_n (by omega), u_n (by omega), e137]
              · rw [u_n (by omega), mfr_r f2 b (by omega), u_r e, u_n (by omega), f1 b (by omega) (by omega) (by omega)]) ⟨by rw [u_n (by omega), mfr_r f2 32 (by omega), u_r (by omega), u_s rfl rfl, u_s rfl rfl], by rw [u_n (by omega), mfr_r f2 32 (by omega), u_r (by omega), u_s rfl rfl]; decide, by rw [u_n (by omega), mfr_r f2 32 (by omega), u_r (by omega), u_s rfl rfl]; decide⟩⟩
            have w32 := hl2.1
            have w139 : v2 139 s = v (94 + 2 * s) 2 := by rw [mfr_r f2 _ (by omega), u_r (by omega), u_r (by omega), e139, l4]
            by_cases ci : i < 0
            · simp (disch := first | assumption | omega) only [E195, SHM hG, c_finding, Int.toNat_natCast, ↓if_neg, ↓if_pos, q_push_I, q_push_L, q_push_P, q_push_U]
              repeat' first | exact fin | (refine And.intro ?_ ?_) | exact True.intro | omega | rfl
            · simp (disch := first | assumption | omega) only [E195, SHM hG, w32, w139, c_finding, Int.toNat_natCast, ↓if_neg, ↓if_pos, q_push_I, q_push_L, q_push_P, q_push_U]
              repeat' first | exact fin | (refine And.intro ?_ ?_) | exact True.intro | omega | rfl)⟩
          simp (disch := first | assumption | omega) only [E132, SHC hG, gs1, c_nsize hN, l11, c_shas, c_found, e942, Int.toNat_natCast, ↓if_neg, ↓if_pos, q_push_I, q_push_L, q_push_P, q_push_U]
          repeat' first | exact fin | (refine And.intro ?_ ?_) | exact True.intro | omega | rfl)
      simp (disch := first | assumption | omega) only [e_132, e_132_0, e_132_1, e_132_4, e_132_5, e_132_8, e_132_10, e_132_12, e_132_12b, e_132_15, e_132_16, e_132_18, e_132_21, e_132_27, e_132_28, e_132_31, e_132_32, e_132_33, e_132_36, e_132_45, e_132_46, e_132_49, e_132_51, e_132_52, e_132_55, SHC hG, c_act_y hG a3 c.1.2 p1, c_within, gs1, c_smiss, Int.toNat_natCast, ↓if_neg, ↓if_pos, q_push_I, q_push_L, q_push_P, q_push_U]
      repeat' first | (refine And.intro ?_ ?_) | exact True.intro | omega | assumption | rfl
  · refine twin_mk (z := -1000001) (v1 := v) (v2 := q_up v 137 0 0) ?_ ?_ (by omega) (Inv_c hI (fun b j h1 => by rw [u_n (by omega)]))
    · by_cases c1 : 0 ≤ a ∧ a < v 36 3
      · obtain ⟨n, rfl⟩ : ∃ n : Nat, a = (n : Int) := ⟨a.toNat, by omega⟩
        obtain ⟨p, p1, p2, p3, p4, p5⟩ := a4 n c1.2
        simp (disch := first | assumption | omega) only [E132, SHC hG, c_act_y hG a3 c1.2 p1, c_within, ↓if_neg, ↓if_pos, q_push_I, q_push_L, q_push_P, q_push_U]
        repeat' first | (refine And.intro ?_ ?_) | rfl | exact True.intro | assumption | omega
      · simp (disch := first | assumption | omega) only [E132, n_132_12, SHC hG, c_act_n, q_push_I, q_push_L, q_push_P, q_push_U]
        repeat' first | (refine And.intro ?_ ?_) | rfl | exact True.intro | assumption | omega
    · simp (disch := first | assumption | omega | ((try simp (disch := omega) only [u_n, u_s]); omega)) only [E195, SHM hG, c_isAct, c_isSheet, u_n, ← a1, q_push_I, q_push_L, q_push_P, q_push_U]
      repeat' first | (refine And.intro ?_ ?_) | rfl | exact True.intro | omega | split
end
