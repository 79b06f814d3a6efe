/-! ===== put and take: both answer alike ===== -/
theorem twin_of {d mc mm : Nat} {as : List q_V} {v : q_H} {G : q_Gr} {P : q_H → q_Gr → Prop} (h : q_call d mc (.inr (.inr (.inl (some 32))) :: as) v G (fun r v1 G1 => ∃ z : Int, r = .inl z ∧ G1 = G ∧ -2147483648 ≤ z ∧ z ≤ 2147483647 ∧ q_call d mm (.inr (.inr (.inl (some 137))) :: as) v1 G (fun r2 v2 G2 => r2 = .inl z ∧ G2 = G ∧ (∀ b, b < 32 → v2 b = v b) ∧ P v2 G))) : twin d mc mm as v G P := by
  unfold twin
  refine q_call_mono h ?_
  rintro r v1 G1 ⟨z, rfl, e, h1, h2, h3⟩
  subst e
  refine q_call_mono h3 ?_
  rintro r2 v2 G2 ⟨rfl, e, h5, h4⟩
  subst e
  exact ⟨z, rfl, rfl, h1, h2, h4, by omega, by omega, h5, rfl⟩
section
variable {d : Nat} {v : q_H} {G : q_Gr}
theorem op_put {a b c : Int} (hI : Inv v G) (ha : -2147483648 ≤ a ∧ a ≤ 2147483647) (hb : -2147483648 ≤ b ∧ b ≤ 2147483647) (hc : -2147483648 ≤ c ∧ c ≤ 2147483647) : twin (d + 8) 122 163 [.inl a, .inl b, .inl c] v G Inv := by
  have hG := hI.1
  by_cases hv : (0 ≤ a ∧ a ≤ 2) ∧ (0 ≤ b ∧ b ≤ 999) ∧ (0 ≤ c ∧ c ≤ 999)
  · obtain ⟨t, rfl⟩ : ∃ t : Nat, a = (t : Int) := ⟨a.toNat, by omega⟩
    have ht : t < 3 := by omega
    have hTB := hI.2.2.2.2.2.2.2.2
    obtain ⟨n, hT⟩ := hTB t ht
    have hn := hT.2.1
    have h14 := hT.1
    have hsz : v (110 + 9 * t + 1) 2 = ((n + 2 : Nat) : Int) := by rw [hT.2.2.1]; omega
    have hp := (plm_sp (v := v) (t := t) (n := n) (x := b)).1
    have hr : ∀ k, k < n → 0 ≤ v 142 (14 * t + k) ∧ v 142 (14 * t + k) ≤ 999 := fun k hk => by
      have := hT.2.2.2.2.2.2.2.1 k hk
      rw [← this.1]
      omega
    apply twin_of
    by_cases hf : plm v t n b < n ∧ v 142 (14 * t + plm v t n b) = b
    · refine k_put_old hG ht hT hv.2.1 hv.2.2 hf (fun v1 a1 a2 a3 => ⟨n, rfl, rfl, by omega, by omega, ?_⟩)
      have e141 := a1 141 (by omega)
      have e142 := a1 142 (by omega)
      have e143 := a1 143 (by omega)
      have ep := plm_cg (v := v) (t := t) (n := n) (x := b) e142
      rw [m_put_old (v := v1) hG ht (by rw [e141]; exact hn) h14 (by rw [e142]; exact hr) hv.2.1 hv.2.2 (by rw [ep, e142]; exact hf), ep]
      refine ⟨rfl, rfl, fun b hb => by rw [u_r (by omega), u_r (by omega), a1 b (by omega)], Inv_ctb hI (fun b j h1 h2 => ?_) (fun s hs => ?_)⟩
      · rw [u_n (by omega), u_n (by omega), a1 b (by omega)]
      · by_cases e : s = t
        · subst e
          refine ⟨n, rep_tab hT hf.1 hv.2.2 ?_ ?_ (fun j => ?_) ?_ ?_ (fun j => ?_) ?_⟩
          · rw [u_r (by omega), u_r (by omega), a1 _ (by omega)]
          · rw [u_r (by omega), u_r (by omega), a1 _ (by omega)]
          · rw [u_n (by omega), u_n (by omega), a2, q_up_eq]
            by_cases c : j = plm v s n b + 1
            · rw [if_pos c, if_pos ⟨rfl, c⟩]
            · rw [if_neg c, if_neg (fun q => c q.2)]
          · rw [u_r (by omega), u_r (by omega), e141]
          · rw [u_r (by omega), u_r (by omega), e142]
          · rw [q_up_eq]
            by_cases c : j = 14 * s + plm v s n b
            · rw [if_pos c, if_pos ⟨rfl, c⟩]
            · rw [if_neg c, if_neg (fun q => c q.2), u_n (by omega), e143]
          · unfold treeI at a3 ⊢
            simp (disch := omega) only [u_r] at a3 ⊢
            exact a3
        · obtain ⟨n', hn'⟩ := hTB s hs
          exact ⟨n', tabI_cg2 (fun b h1 h2 => by rw [u_r (by omega), u_r (by omega), a1 b (by omega)]) (by rw [u_n (by omega), u_n (by omega), e141]) (fun k hk => by rw [u_n (by omega), u_n (by omega), e142]) (fun k hk => by rw [u_n (by omega), u_n (by omega), e143]) hn'⟩
    · by_cases hn14 : n = 14
      · rw [k_put_full hG ht hT hv.2.1 hv.2.2 hf hn14]
        refine ⟨-1000003, rfl, rfl, by decide, by decide, ?_⟩
        rw [m_put_full hG ht hn h14 hr hv.2.1 hv.2.2 hf hn14]
        refine ⟨rfl, rfl, fun b hb => by rw [u_r (by omega)], Inv_c hI (fun b j h1 => ?_)⟩
        rw [u_n (by omega)]
      · refine k_put_new hG ht hT hv.2.1 hv.2.2 hf (by omega) (fun v1 a1 a2 a3 a4 a5 => ⟨(n : Int) + 1, rfl, rfl, by omega, by omega, ?_⟩)
        have e141 := a1 141 (by omega)
        have e142 := a1 142 (by omega)
        have e143 := a1 143 (by omega)
        have ep := plm_cg (v := v) (t := t) (n := n) (x := b) e142
        refine m_put_new (v := v1) hG ht (by rw [e141]; exact hn) h14 (by rw [e142]; exact hr) hv.2.1 hv.2.2 (by rw [ep, e142]; exact hf) (by omega) (fun v2 b1 b2 b3 b4 b5 b6 => ?_)
        rw [ep, e142] at b5
        rw [ep, e143] at b6
        refine ⟨rfl, rfl, fun b hb => by rw [b1 b (by omega) (by omega) (by omega) (by omega), a1 b (by omega)], Inv_ctb hI (fun b j h1 h2 => ?_) (fun s hs => ?_)⟩
        · by_cases e : b = 137
          · subst e
            rw [b2 j (by omega), a1 _ (by omega)]
          · rw [b1 b e (by omega) (by omega) (by omega), a1 b (by omega)]
        · by_cases e : s = t
          · subst e
            have r1 := b1 (110 + 9 * s + 1) (by omega) (by omega) (by omega) (by omega)
            have r2 := b1 (110 + 9 * s + 2) (by omega) (by omega) (by omega) (by omega)
            have r3 := b1 (110 + 9 * s + 3) (by omega) (by omega) (by omega) (by omega)
            refine ⟨n + 1, ins_tab hT rfl hf (by omega) hv.2.1 hv.2.2 ?_ (fun j hj => ?_) (fun j hj => ?_) b4 b5 b6 ?_⟩
            · rw [r1, a2, rins_sz, hsz]
              omega
            · rw [r2, a3]
              exact (rins_rd (a := plm v s n b + 1) (j := j) (k := b) (x := c) hsz (by omega) (by omega)).1
            · rw [r3, a4]
              exact (rins_rd (a := plm v s n b + 1) (j := j) (k := b) (x := c) hsz (by omega) (by omega)).2
            · rw [r2, r3]
              unfold treeI at a5 ⊢
              rw [b1 (110 + 9 * s + 4 + 1) (by omega) (by omega) (by omega) (by omega), b1 (110 + 9 * s + 4 + 2) (by omega) (by omega) (by omega) (by omega), b1 (110 + 9 * s + 4 + 3) (by omega) (by omega) (by omega) (by omega), b1 (110 + 9 * s + 4 + 4) (by omega) (by omega) (by omega) (by omega)]
              exact a5
          · obtain ⟨n', hn'⟩ := hTB s hs
            have hn14' := hn'.1
            exact ⟨n', tabI_cg2 (fun b h1 h2 => by rw [b1 b (by omega) (by omega) (by omega) (by omega), a1 b (by omega)]) (by rw [b3 s e, e141]) (fun k hk => by rw [b5, if_neg (by omega), if_neg (by omega)]) (fun k hk => by rw [b6, if_neg (by omega), if_neg (by omega)]) hn'⟩
  · refine twin_mk (z := -1000001) (v1 := v) (v2 := q_up v 137 0 0) ?_ ?_ (by decide) (Inv_c hI (fun b j h1 => by rw [u_n (by omega)]))
    · simp (disch := omega) only [E122, SHC hG, c_within, q_push_I, q_push_L, q_push_P, q_push_U]
      repeat' first | (refine And.intro ?_ ?_) | rfl | exact True.intro | omega | split
    · simp (disch := omega) only [E163, SHM hG, c_isTable, c_isKey, c_in, q_push_I, q_push_L, q_push_P, q_push_U]
      repeat' first | (refine And.intro ?_ ?_) | rfl | exact True.intro | omega | split
theorem op_take {a b : Int} (hI : Inv v G) (ha : -2147483648 ≤ a ∧ a ≤ 2147483647) (hb : -2147483648 ≤ b ∧ b ≤ 2147483647) : twin (d + 8) 123 164 [.inl a, .inl b] v G Inv := by
  have hG := hI.1
  by_cases hv : (0 ≤ a ∧ a ≤ 2) ∧ (0 ≤ b ∧ b ≤ 999)
  · obtain ⟨t, rfl⟩ : ∃ t : Nat, a = (t : Int) := ⟨a.toNat, by omega⟩
    have ht : t < 3 := by omega
    have hTB := hI.2.2.2.2.2.2.2.2
    obtain ⟨n, hT⟩ := hTB t ht
    have hn := hT.2.1
    have h14 := hT.1
    have hsz : v (110 + 9 * t + 1) 2 = ((n + 2 : Nat) : Int) := by rw [hT.2.2.1]; omega
    have hp := (plm_sp (v := v) (t := t) (n := n) (x := b)).1
    have hr : ∀ k, k < n → 0 ≤ v 142 (14 * t + k) ∧ v 142 (14 * t + k) ≤ 999 := fun k hk => by
      have := hT.2.2.2.2.2.2.2.1 k hk
      rw [← this.1]
      omega
    apply twin_of
    by_cases hf : plm v t n b < n ∧ v 142 (14 * t + plm v t n b) = b
    · have h8 := hT.2.2.2.2.2.2.2.1 _ hf.1
      refine k_take hG ht hT hv.2 hf (fun v1 a1 a2 a3 a4 a5 => ⟨v (110 + 9 * t + 3) (plm v t n b + 1), rfl, rfl, by omega, by omega, ?_⟩)
      have e141 := a1 141 (by omega)
      have e142 := a1 142 (by omega)
      have e143 := a1 143 (by omega)
      have ep := plm_cg (v := v) (t := t) (n := n) (x := b) e142
      refine m_take (v := v1) hG ht (by rw [e141]; exact hn) h14 (by rw [e142]; exact hr) hv.2 (by rw [ep, e142]; exact hf) (fun v2 b1 b2 b3 b4 b5 b6 => ?_)
      rw [ep, e142] at b5
      rw [ep, e143] at b6
      rw [ep, e143, ← h8.2.1]
      refine ⟨rfl, rfl, fun b hb => by rw [b1 b (by omega) (by omega) (by omega) (by omega), a1 b (by omega)], Inv_ctb hI (fun b j h1 h2 => ?_) (fun s hs => ?_)⟩
      · by_cases e : b = 137
        · subst e
          rw [b2 j (by omega), a1 _ (by omega)]
        · rw [b1 b e (by omega) (by omega) (by omega), a1 b (by omega)]
      · by_cases e : s = t
        · subst e
          have r1 := b1 (110 + 9 * s + 1) (by omega) (by omega) (by omega) (by omega)
          have r2 := b1 (110 + 9 * s + 2) (by omega) (by omega) (by omega) (by omega)
          have r3 := b1 (110 + 9 * s + 3) (by omega) (by omega) (by omega) (by omega)
          refine ⟨n - 1, del_tab hT hf.1 ?_ (fun j hj => ?_) (fun j hj => ?_) b4 b5 b6 ?_⟩
          · rw [r1, a2, rdel_sz, hsz]
            omega
          · rw [r2, a3]
            exact (rdel_rd (a := plm v s n b + 1) (j := j) hsz (by omega) (by omega)).1
          · rw [r3, a4]
            exact (rdel_rd (a := plm v s n b + 1) (j := j) hsz (by omega) (by omega)).2
          · rw [r2, r3]
            unfold treeI at a5 ⊢
            rw [b1 (110 + 9 * s + 4 + 1) (by omega) (by omega) (by omega) (by omega), b1 (110 + 9 * s + 4 + 2) (by omega) (by omega) (by omega) (by omega), b1 (110 + 9 * s + 4 + 3) (by omega) (by omega) (by omega) (by omega), b1 (110 + 9 * s + 4 + 4) (by omega) (by omega) (by omega) (by omega)]
            exact a5
        · obtain ⟨n', hn'⟩ := hTB s hs
          have hn14' := hn'.1
          exact ⟨n', tabI_cg2 (fun b h1 h2 => by rw [b1 b (by omega) (by omega) (by omega) (by omega), a1 b (by omega)]) (by rw [b3 s e, e141]) (fun k hk => by rw [b5, if_neg (by omega)]) (fun k hk => by rw [b6, if_neg (by omega)]) hn'⟩
    · rw [k_take_no hG ht hT hv.2 hf]
      refine ⟨-1000002, rfl, rfl, by decide, by decide, ?_⟩
      rw [m_take_no hG ht hn h14 hr hv.2 hf]
      refine ⟨rfl, rfl, fun b hb => by rw [u_r (by omega)], Inv_c hI (fun b j h1 => ?_)⟩
      rw [u_n (by omega)]
  · refine twin_mk (z := -1000001) (v1 := v) (v2 := q_up v 137 0 0) ?_ ?_ (by decide) (Inv_c hI (fun b j h1 => by rw [u_n (by omega)]))
    · simp (disch := omega) only [E123, SHC hG, c_within, q_push_I, q_push_L, q_push_P, q_push_U]
      repeat' first | (refine And.intro ?_ ?_) | rfl | exact True.intro | omega | split
    · simp (disch := omega) only [E164, SHM hG, c_isTable, c_isKey, c_in, q_push_I, q_push_L, q_push_P, q_push_U]
      repeat' first | (refine And.intro ?_ ?_) | rfl | exact True.intro | omega | split
end
