/-! ===== what proofs hold: bounds ===== -/
theorem tl_rng {key val : Nat → Int} {S : Nat → Bool} : ∀ (m k n : Nat), n ≤ m → 1 ≤ n → n ≤ 16 → (∀ j, k ≤ j → j < k + n → (-1 ≤ key j ∧ key j ≤ 1000) ∧ 0 ≤ val j ∧ val j ≤ 999) → ∀ x, x ∈ tl key val S k n → -1 ≤ x ∧ x ≤ 65520 := by
  intro m
  induction m with
  | zero => intro k n h1 h2; omega
  | succ m ih =>
    intro k n h1 h2 h3 h x hx
    by_cases hs : anyS S n k = true
    · by_cases hn : n ≤ 1
      · rw [tl_leaf hs hn] at hx
        have := h k (Nat.le_refl _) (by omega)
        simp only [List.mem_cons, List.not_mem_nil, or_false] at hx
        rcases hx with rfl | rfl | rfl <;> omega
      · rw [tl_fork hs (by omega)] at hx
        rcases List.mem_cons.mp hx with e | hx
        · omega
        · rcases List.mem_append.mp hx with hx | hx
          · exact ih k ((n + 1) / 2) (by omega) (by omega) (by omega) (fun j h3 h4 => h j h3 (by omega)) x hx
          · exact ih (k + (n + 1) / 2) (n - (n + 1) / 2) (by omega) (by omega) (by omega) (fun j h3 h4 => h j (by omega) (by omega)) x hx
    · rw [tl_no (by simpa using hs)] at hx
      have r := sl_rng (key := key) (val := val) (M := 999) n k n (Nat.le_refl _) h2 (fun j g1 g2 => (h j g1 g2).2)
      simp only [List.mem_cons, List.not_mem_nil, or_false] at hx
      rcases hx with rfl | rfl | rfl <;> omega
section
variable {d q : Nat} {v : q_H} {G : q_Gr} {Q : q_V → q_H → q_Gr → Prop}
theorem pfW_rng {w low high : Int} {t : Nat} (hI : tabI v (110 + 9 * t) t (v 141 t).toNat) : ∀ x, x ∈ pfW v w t low high → -1 ≤ x ∧ x ≤ 65520 := by
  intro x hx
  have h14 := hI.1
  have hk := tab_key hI
  unfold pfW at hx
  rcases List.mem_cons.mp hx with e | hx
  · omega
  · exact tl_rng _ _ _ (Nat.le_refl _) (by omega) (by omega) (fun j _ h2 => hk j (by omega)) x hx
theorem prb_rng {a b : Nat} (hI : tabI v (110 + 9 * b) b (v 141 b).toNat) : ∀ r i x, x ∈ prb v a b r i → -1 ≤ x ∧ x ≤ 65520
  | 0, i, x, hx => by unfold prb at hx; cases hx
  | r + 1, i, x, hx => by
    unfold prb at hx
    rcases List.mem_append.mp hx with hx | hx
    · exact pfW_rng hI x hx
    · exact prb_rng hI r (i + 1) x hx
theorem allP_rng {w low high : Int} {a b : Nat} (ha : tabI v (110 + 9 * a) a (v 141 a).toNat) (hb : tabI v (110 + 9 * b) b (v 141 b).toNat) : ∀ x, x ∈ allP v w a b low high → -1 ≤ x ∧ x ≤ 65520 := by
  intro x hx
  unfold allP at hx
  rcases List.mem_append.mp hx with hx | hx
  · exact pfW_rng ha x hx
  · split at hx
    · exact pfW_rng hb x hx
    · split at hx
      · exact prb_rng hb _ _ x hx
      · cases hx
/-! ===== an act's proofs, told by both ===== -/
def actP (v : q_H) (n : Nat) : List Int := allP v (v 149 n) (v 150 n).toNat (v 151 n).toNat (v 152 n) (v 153 n)
theorem actP_len {p n : Nat} (hB : tbI v) (h : actI v p n) : (actP v n).length ≤ 600 := by
  obtain ⟨a1, a2, a3, a4, a5, a6, a7, a8, a9, a10, a11⟩ := h
  exact allP_len (tb_all hB _ (by omega)) (tb_all hB _ (by omega))
theorem actP_rng {p n : Nat} (hB : tbI v) (h : actI v p n) : ∀ x, x ∈ actP v n → -1 ≤ x ∧ x ≤ 65520 := by
  obtain ⟨a1, a2, a3, a4, a5, a6, a7, a8, a9, a10, a11⟩ := h
  exact allP_rng (tb_all hB _ (by omega)) (tb_all hB _ (by omega))
theorem actP_cg {v' : q_H} {p n : Nat} (h : actI v p n) (h1 : ∀ b, 149 ≤ b → b < 154 → v' b = v b) (h2 : v' 141 = v 141) (h3 : v' 142 = v 142) (h4 : ∀ b, 110 ≤ b → b < 137 → v' b = v b) : actP v' n = actP v n := by
  obtain ⟨a1, a2, a3, a4, a5, a6, a7, a8, a9, a10, a11⟩ := h
  unfold actP
  rw [h1 149 (by decide) (by decide), h1 150 (by decide) (by decide), h1 151 (by decide) (by decide), h1 152 (by decide) (by decide), h1 153 (by decide) (by decide)]
  exact allP_cg h2 h3 h4 (by omega) (by omega)
theorem k_act {p n : Nat} (hG : gok G) (hB : tbI v) (hp : G.2.1 p = (0, 6)) (hp2 : 174 ≤ p) (h : actI v p n) (hQ : ∀ v', (∀ b, b ≠ 41 → b ≠ 42 → b ≠ 43 → v' b = v b) → hasL v' 42 1 43 (actP v n) → Q (.inr (.inr (.inl (some 42)))) v' G) : q_call (d + 6) 66 [.inr (.inr (.inl (some 40))), .inr (.inr (.inl (some p))), .inr (.inr (.inl (some 34)))] v G Q := by
  obtain ⟨a1, a2, a3, a4, a5, a6, a7, a8, a9, a10, a11⟩ := h
  refine c_proofs (w := v p 0) (a := (v 150 n).toNat) (b := (v 151 n).toNat) (low := v p 3) (high := v p 4) (hi := v 153 n) hG hB hp hp2 rfl a5.1 a5.2 (by omega) (by omega) (by omega) (by omega) rfl a8.1 a8.2 rfl (fun c => by have := a9 c; omega) (fun c => by have := a10 c; omega) (fun v' h1 h2 => hQ v' h1 ?_)
  unfold actP
  rw [← a1, ← a4]
  exact h2
theorem m_act {p n : Nat} (hG : gok G) (hB : tbI v) (hn : n < 12) (h : actI v p n) (hQ : ∀ v', mfr v' v → hasL v' 137 32 155 (actP v n) → Q (.inr (.inr (.inr ()))) v' G) : q_call (d + 6) 193 [.inr (.inr (.inl (some 137))), .inl n] v G Q := by
  obtain ⟨a1, a2, a3, a4, a5, a6, a7, a8, a9, a10, a11⟩ := h
  have key : q_call (d + 5) 192 [.inr (.inr (.inl (some 137))), .inl (v 149 n), .inl (v 150 n), .inl (v 151 n), .inl (v 152 n), .inl (v 153 n)] v G (fun r v' G' => q_wp (d + 5) 193 34 [.inr (.inr (.inl (some 137))), .inl n] (q_push r []) v' G' Q) := by
    rw [show v 150 n = (((v 150 n).toNat : Nat) : Int) by omega, show v 151 n = (((v 151 n).toNat : Nat) : Int) by omega]
    refine c_mall hG hB (by omega) (by omega) (by omega) (by omega) (by omega) (by omega) (fun c => by have := a9 (by omega); omega) (fun c => by have := a10 (by omega); omega) (fun v' h1 h2 => ?_)
    have := hQ v' h1 h2
    simp only [e_193_34, q_push_I, q_push_L, q_push_P, q_push_U]
    exact this
  simp (disch := omega) only [e_193, e_193_0, e_193_1, e_193_2, e_193_5, e_193_6, e_193_7, e_193_8, e_193_11, e_193_12, e_193_13, e_193_14, e_193_17, e_193_18, e_193_19, e_193_20, e_193_23, e_193_24, e_193_25, e_193_26, e_193_29, e_193_30, e_193_31, SHM hG, Int.toNat_natCast]
  repeat' first | (refine And.intro ?_ ?_) | exact True.intro | omega | assumption | rfl
theorem getD_lt {L : List Int} {k : Nat} (h : k < L.length) : L.getD k 0 = L[k] := by
  rw [List.getD_eq_getElem?_getD, List.getElem?_eq_getElem h]
  rfl
/-- number i of a list, or its length -/
def nos (L : List Int) (i : Int) : Int := if i = -1 then (L.length : Int) else if 0 ≤ i ∧ i < L.length then L.getD i.toNat 0 else -1000000
theorem nos_rng {L : List Int} {i : Int} (h : ∀ x, x ∈ L → -2147483648 ≤ x ∧ x ≤ 2147483647) (hl : L.length ≤ 2000) : -2147483648 ≤ nos L i ∧ nos L i ≤ 2147483647 := by
  unfold nos
  split
  · omega
  · split
    · next c =>
      have hlt : i.toNat < L.length := by omega
      rw [getD_lt hlt]
      exact h _ (List.getElem_mem hlt)
    · decide
theorem nos_k {L : List Int} {f i : Nat} {x : Int} (h : hasL v q f i L) : (if x = -1 then v q f else if 0 ≤ x ∧ x < v q f then v i x.toNat else -1000000) = nos L x := by
  unfold nos
  rw [h.1]
  split
  · rfl
  · split
    · next c =>
      have hlt : x.toNat < L.length := by omega
      rw [h.2 _ hlt, getD_lt hlt]
    · rfl
theorem hasL_at {L : List Int} {f i k : Nat} (h : hasL v q f i L) (hk : k < L.length) : v i k = L.getD k 0 := by
  rw [h.2 k hk, getD_lt hk]
theorem actI_cg {v' : q_H} {p n : Nat} (h0 : v' p = v p) (h1 : ∀ b, 149 ≤ b → b < 154 → v' b = v b) (h : actI v p n) : actI v' p n := by
  unfold actI
  rw [h0, h1 149 (by decide) (by decide), h1 150 (by decide) (by decide), h1 151 (by decide) (by decide), h1 152 (by decide) (by decide), h1 153 (by decide) (by decide)]
  exact h
theorem op_proof {a b : Int} (hI : Inv v G) (ha : -2147483648 ≤ a ∧ a ≤ 2147483647) (hb : -2147483648 ≤ b ∧ b ≤ 2147483647) : twin (d + 8) 130 194 [.inl a, .inl b] v G Inv := by
  have hG := hI.1
  have hL := hI.2.1
  have hT := hI.2.2.1
  have hA := hI.2.2.2.2.2.1
  have hB := hI.2.2.2.2.2.2.2.2
  have h32 : (G.2.1 32).1 = 10 := by rw [sh_32 hG]
  have h137 : (G.2.1 137).1 = 11 := by rw [sh_137 hG]
  obtain ⟨a1, a2, a3, a4⟩ := hA
  by_cases c : 0 ≤ a ∧ a < v 36 3
  · obtain ⟨n, rfl⟩ : ∃ n : Nat, a = (n : Int) := ⟨a.toNat, by omega⟩
    obtain ⟨p, p1, p2, p3, p4, p5⟩ := a4 n c.2
    by_cases cb : b < -1
    · refine twin_mk (z := -1000001) (v1 := v) (v2 := q_up v 137 0 0) ?_ ?_ (by decide) (Inv_c hI (fun b j h1 => by rw [u_n (by omega)]))
      · simp (disch := first | assumption | omega) only [E130, SHC hG, c_act_y hG a3 c.2 p1, ↓if_neg, ↓if_pos, q_push_I, q_push_L, q_push_P, q_push_U]
        repeat' first | (refine And.intro ?_ ?_) | rfl | exact True.intro | assumption | omega
      · simp (disch := first | assumption | omega | ((try simp (disch := omega) only [u_n, u_s]); omega)) only [E194, SHM hG, c_isAct, ↓if_neg, ↓if_pos, u_n, ← a1, q_push_I, q_push_L, q_push_P, q_push_U]
        repeat' first | (refine And.intro ?_ ?_) | rfl | exact True.intro | assumption | omega
    · have al := actP_len hB p5
      have ar := actP_rng hB p5
      apply twin_of
      have k1 : q_call (d + 7) 66 [.inr (.inr (.inl (some 40))), .inr (.inr (.inl (some p))), .inr (.inr (.inl (some 34)))] v G (fun r v' G' => q_wp (d + 7) 130 33 [.inr (.inr (.inl (some 32))), .inl n, .inl b, .inr (.inr (.inl (some p)))] (q_push r []) v' G' (fun r v1 G1 => ∃ z : Int, r = .inl z ∧ G1 = G ∧ -2147483648 ≤ z ∧ z ≤ 2147483647 ∧ q_call (d + 8) 194 [.inr (.inr (.inl (some 137))), .inl n, .inl b] v1 G (fun r2 v2 G2 => r2 = .inl z ∧ G2 = G ∧ (∀ b, b < 32 → v2 b = v b) ∧ Inv v2 G))) := k_act hG hB p4 p2 p5 (fun v1 f1 l1 => by
        have hN := g_num42 hG
        have l11 := l1.1
        have hB1 : tbI v1 := tbI_cg (fun b hb => f1 b (by omega) (by omega) (by omega)) hB
        have e43 : 42 + 1 = 43 := rfl
        have en : ∀ (d' : Nat) (Q' : q_V → q_H → q_Gr → Prop), q_call (d' + 3) 42 [.inr (.inr (.inl (some 42))), .inl b] v1 G Q' = Q' (.inl (nos (actP v n) b)) v1 G := fun d' Q' => by rw [c_nos hN hb.1 hb.2 (by omega) (by omega) (by decide), e43, nos_k l1]
        have m1 : q_call (d + 8) 194 [.inr (.inr (.inl (some 137))), .inl n, .inl b] v1 G (fun r2 v2 G2 => r2 = .inl (nos (actP v n) b) ∧ G2 = G ∧ (∀ b, b < 32 → v2 b = v b) ∧ Inv v2 G) := by
          have w1 : v1 137 = v 137 := f1 137 (by decide) (by decide) (by decide)
          have m2 : q_call (d + 7) 193 [.inr (.inr (.inl (some 137))), .inl n] (q_up v1 137 0 0) G (fun r v' G' => q_wp (d + 7) 194 26 [.inr (.inr (.inl (some 137))), .inl n, .inl b] (q_push r []) v' G' (fun r2 v2 G2 => r2 = .inl (nos (actP v n) b) ∧ G2 = G ∧ (∀ b, b < 32 → v2 b = v b) ∧ Inv v2 G)) := m_act (p := p) hG (tbI_cg (fun b hb => u_r (by omega)) hB1) (by omega) (actI_cg (by rw [u_r (by omega), f1 p (by omega) (by omega) (by omega)]) (fun b b1 b2 => by rw [u_r (by omega), f1 b (by omega) (by omega) (by omega)]) p5) (fun v2 f2 l2 => by
            have eP : actP (q_up v1 137 0 0) n = actP v n := actP_cg p5 (fun b b1 b2 => by rw [u_r (by omega), f1 b (by omega) (by omega) (by omega)]) (by rw [u_r (by omega), f1 _ (by omega) (by omega) (by omega)]) (by rw [u_r (by omega), f1 _ (by omega) (by omega) (by omega)]) (fun b b1 b2 => by rw [u_r (by omega), f1 b (by omega) (by omega) (by omega)])
            rw [eP] at l2
            have l21 := l2.1
            have fin : (∀ b, b < 32 → v2 b = v b) ∧ Inv v2 G := ⟨fun b hb => by rw [mfr_r f2 b (by omega), u_r (by omega), f1 b (by omega) (by omega) (by omega)], Inv_c hI (fun b j h1 => by
              by_cases e : b = 137
              · subst e
                rw [f2.2 j (by omega) (by omega), u_n (by omega), w1]
              · rw [mfr_r f2 b (by omega), u_r e, f1 b (by omega) (by omega) (by omega)])⟩
            unfold nos
            by_cases c1 : b = -1
            · subst c1
              simp (disch := omega) only [E194, SHM hG, l21, ↓if_neg, ↓if_pos, q_push_I, q_push_L, q_push_P, q_push_U]
              repeat' first | exact fin | (refine And.intro ?_ ?_) | exact True.intro | omega | rfl
            · by_cases c2 : b < (actP v n).length
              · have hat := hasL_at l2 (show b.toNat < (actP v n).length by omega)
                simp (disch := omega) only [E194, SHM hG, l21, hat, ↓if_neg, ↓if_pos, q_push_I, q_push_L, q_push_P, q_push_U]
                repeat' first | exact fin | (refine And.intro ?_ ?_) | exact True.intro | omega | rfl
              · simp (disch := omega) only [E194, SHM hG, l21, ↓if_neg, ↓if_pos, q_push_I, q_push_L, q_push_P, q_push_U]
                repeat' first | exact fin | (refine And.intro ?_ ?_) | exact True.intro | omega | rfl)
          simp (disch := first | assumption | omega | (rw [u_n (by omega), w1]; omega)) only [e_194, e_194_0, e_194_1, e_194_2, e_194_5, e_194_6, e_194_7, e_194_10, e_194_13, e_194_14, e_194_15, e_194_21, e_194_22, e_194_23, SHM hG, c_isAct, u_n, w1, ← a1, ↓if_neg, ↓if_pos, q_push_I, q_push_L, q_push_P, q_push_U]
          repeat' first | (refine And.intro ?_ ?_) | rfl | exact True.intro | assumption | omega
        have nr := nos_rng (L := actP v n) (i := b) (fun x hx => by have := ar x hx; omega) (by omega)
        simp (disch := omega) only [E130, en, q_push_I, q_push_L, q_push_P, q_push_U]
        exact ⟨_, rfl, by trivial, nr.1, nr.2, m1⟩)
      simp (disch := first | assumption | omega) only [e_130, e_130_0, e_130_1, e_130_4, e_130_5, e_130_8, e_130_9, e_130_10, e_130_10b, e_130_13, e_130_14, e_130_15, e_130_21, e_130_22, e_130_25, e_130_26, e_130_27, e_130_30, SHC hG, c_act_y hG a3 c.2 p1, ↓if_neg, ↓if_pos, q_push_I, q_push_L, q_push_P, q_push_U]
      repeat' first | (refine And.intro ?_ ?_) | rfl | exact True.intro | assumption | omega
  · refine twin_mk (z := -1000001) (v1 := v) (v2 := q_up v 137 0 0) ?_ ?_ (by omega) (Inv_c hI (fun b j h1 => by rw [u_n (by omega)]))
    · simp (disch := first | assumption | omega) only [E130, n_130_10, SHC hG, c_act_n, q_push_I, q_push_L, q_push_P, q_push_U]
      repeat' first | (refine And.intro ?_ ?_) | rfl | exact True.intro | assumption | omega
    · simp (disch := first | assumption | omega | ((try simp (disch := omega) only [u_n, u_s]); omega)) only [E194, SHM hG, c_isAct, ↓if_neg, ↓if_pos, u_n, ← a1, q_push_I, q_push_L, q_push_P, q_push_U]
      repeat' first | (refine And.intro ?_ ?_) | rfl | exact True.intro | assumption | omega
end
