section
variable {d q : Nat} {v : q_H} {G : q_Gr} {Q : q_V → q_H → q_Gr → Prop}
theorem plan_inv {v2 : q_H} {G2 : q_Gr} (hI : Inv v G) (hG : gok G2) (hf : ∀ b, b ≠ 36 → b ≠ 39 → b ≠ 137 → (b < 149 ∨ 153 < b) → b < 32 + G.2.2.1 → v2 b = v b) (hq : ∀ j, j = 1 ∨ j = 13 ∨ j = 56 ∨ j = 57 ∨ j = 61 ∨ j = 62 ∨ j = 65 → v2 137 j = v 137 j) (ht : tpI v2) (ha : acI v2 G2) : Inv v2 G2 := by
  obtain ⟨i1, i2, i3, i4, i5, i6, i7, i8, i9⟩ := hI
  have h142 := i1.2.2.2.2
  have hf' : ∀ b, b ≠ 36 → b ≠ 39 → b ≠ 137 → (b < 149 ∨ 153 < b) → b < 174 → v2 b = v b := fun b b1 b2 b3 b4 b5 => hf b b1 b2 b3 b4 (by omega)
  refine ⟨hG, shI_cg (fun b hb => hf' b (by omega) (by omega) (by omega) (by omega) (by omega)) i2, stI_cg (by rw [hf' 32 (by decide) (by decide) (by decide) (by decide) (by decide)]) (hq 1 (by decide)) i3, rdI_cg (by rw [hf' 32 (by decide) (by decide) (by decide) (by decide) (by decide)]) (hq 13 (by decide)) (hf' 35 (by decide) (by decide) (by decide) (by decide) (by decide)) (hf' 148 (by decide) (by decide) (by decide) (by decide) (by decide)) i4, ht, ha, ckI_cg (by rw [hf' 52 (by decide) (by decide) (by decide) (by decide) (by decide)]) (by rw [hf' 70 (by decide) (by decide) (by decide) (by decide) (by decide)]) (hq 61 (by decide)) (hq 62 (by decide)) (hq 56 (by decide)) (hq 57 (by decide)) (hf' 71 (by decide) (by decide) (by decide) (by decide) (by decide)) (hf' 172 (by decide) (by decide) (by decide) (by decide) (by decide)) i7, asI_cg (by rw [hf' 92 (by decide) (by decide) (by decide) (by decide) (by decide)]) (hq 65 (by decide)) (hf' 93 (by decide) (by decide) (by decide) (by decide) (by decide)) (hf' 173 (by decide) (by decide) (by decide) (by decide) (by decide)) i8, tbI_cg (fun b hb => hf' b (by omega) (by omega) (by omega) (by omega) (by omega)) i9⟩
theorem plan_acI {v' v2 : q_H} {G' : q_Gr} {a0 n : Nat} {l : List (Int × List Int)} (hI : Inv v G) (h3 : v 36 3 = (a0 : Int)) (pI : plI v G v' G' a0 l) (hn : n ≤ l.length) (hl : a0 + n ≤ 12) (e1 : v2 36 3 = ((a0 + n : Nat) : Int)) (e2 : v2 137 15 = ((a0 + n : Nat) : Int)) (hf : ∀ b, 174 ≤ b → v2 b = v' b) (hx : ∀ b j, 149 ≤ b → b ≤ 153 → j < a0 → v2 b j = v b j)
  (hy : ∀ k, k < n → v2 149 (a0 + k) = (l.getD k (0, [])).1 ∧ v2 150 (a0 + k) = acA (l.getD k (0, [])).2 ∧ v2 151 (a0 + k) = acB (l.getD k (0, [])).1 (l.getD k (0, [])).2 ∧ v2 152 (a0 + k) = acL (l.getD k (0, [])).1 (l.getD k (0, [])).2 ∧ v2 153 (a0 + k) = acH (l.getD k (0, [])).1 (l.getD k (0, [])).2) : acI v2 G' := by
  obtain ⟨i1, i2, i3, i4, i5, i6, i7, i8, i9⟩ := hI
  have h142 := i1.2.2.2.2
  obtain ⟨p1, p2, p3, p4, p5, p6, p7, p8⟩ := pI
  refine ⟨by rw [e1, e2], by omega, by omega, fun a hlt => ?_⟩
  rw [e1] at hlt
  by_cases ca : a < a0
  · obtain ⟨p, g1, g2, g3, g4, g5⟩ := i6.2.2.2 a (by omega)
    refine ⟨p, by rw [p6 a ca]; exact g1, g2, by omega, by rw [p7 p g3]; exact g4, ?_⟩
    unfold actI
    rw [hf p g2, p2 p (by omega) (by omega) g3, hx 149 a (by decide) (by decide) ca, hx 150 a (by decide) (by decide) ca, hx 151 a (by decide) (by decide) ca, hx 152 a (by decide) (by decide) ca, hx 153 a (by decide) (by decide) ca]
    exact g5
  · obtain ⟨k, rfl⟩ : ∃ k, a = a0 + k := ⟨a - a0, by omega⟩
    obtain ⟨g1, g2, g3, g4⟩ := p8 k (by omega)
    obtain ⟨y0, y1, y2, y3, y4⟩ := hy k (by omega)
    refine ⟨32 + G.2.2.1 + k, g1, by omega, by omega, g2, ?_⟩
    unfold actI
    rw [hf _ (by omega), y0, y1, y2, y3, y4]
    generalize v' (32 + G.2.2.1 + k) = row at g3 ⊢
    generalize l.getD k (0, []) = x at g3 g4 ⊢
    obtain ⟨r0, r1, r2, r3, r4, r5⟩ := g3
    obtain ⟨o0, o1, o2, o3, o4, o5, o6⟩ := g4
    rw [r0, r1, r2, r3, r4, r5]
    refine ⟨rfl, rfl, rfl, rfl, o0, o1, o2, o3, fun e => ?_, fun e => ?_, o6⟩
    · rw [if_pos e, if_pos e]
      exact ⟨rfl, rfl, (o4 e).1, (o4 e).2⟩
    · rw [if_neg e]
      exact ⟨rfl, (o5 e).1, (o5 e).2⟩
theorem op_plan (hI : Inv v G) (hC : csI v) (hr : G.2.2.1 + 12 ≤ 600000 ∧ G.2.2.2 + 72 ≤ 7302250) : twin (d + 10) 128 183 [] v G Inv := by
  have hG := hI.1
  have h142 := hG.2.2.2.2
  have hT := hI.2.2.2.2.1
  have hA := hI.2.2.2.2.2.1
  obtain ⟨N, hN⟩ : ∃ N : Nat, v 36 1 = (N : Int) := ⟨(v 36 1).toNat, by have := hT.2.1; omega⟩
  obtain ⟨a0, h3⟩ : ∃ a0 : Nat, v 36 3 = (a0 : Int) := ⟨(v 36 3).toNat, by have := hA.2.1; omega⟩
  obtain ⟨t1, t2, t3, t4, t5, t6, t7⟩ := hT
  have ha : a0 ≤ 12 := by have := hA.2.2.1; omega
  have h15 : v 137 15 = (a0 : Int) := by rw [← hA.1, h3]
  have h23 : v 137 23 = (N : Int) := by rw [← t1, hN]
  have hN2 : N ≤ 200 := by omega
  have hTC : tpC' v (v 37) N := ⟨hN2, hN, fun k hk => ⟨rfl, (t4 k (by omega)).2.1, (t4 k (by omega)).2.2⟩⟩
  have hTM : ∀ k, k < N → v 154 k = v 37 k ∧ 0 ≤ v 37 k ∧ v 37 k ≤ 255 := fun k hk => ⟨(t4 k (by omega)).1.symm, (t4 k (by omega)).2.1, (t4 k (by omega)).2.2⟩
  unfold twin
  refine c_plan hG hC hTC h3 ha hr (fun v' G' l' ft pl hrd pI hl g1 g2 => ?_) (fun v' G' l' hrd pI hl => ?_) (fun ft pl hrd => by
    have := rdAll_pl 201 0 a0 [] _ (by omega) hrd
    have : pl ≤ N := this
    omega)
  · generalize hvc : q_up (q_up v' 36 1 0) 36 10 ft = vc
    have fc : ∀ b, b ≠ 36 → vc b = v' b := fun b hb => by rw [← hvc, u_r hb, u_r hb]
    have fv : ∀ b, b ≠ 36 → b ≠ 39 → b < 32 + G.2.2.1 → vc b = v b := fun b b1 b2 b3 => by rw [fc b b1, pI.2.1 b b1 b2 b3]
    have f137 := fv 137 (by decide) (by decide) (by omega)
    have hG' := pI.1
    have hp := rdAll_pl 201 0 a0 [] _ (by omega) hrd
    have hp : pl ≤ N := hp
    refine m_plan (d := d + 4) hG' hN2 (by rw [f137, h23]) (fun k hk => by rw [fv 154 (by decide) (by decide) (by omega)]; exact hTM k hk) (by rw [f137, h15]) ha (fun v2 l2 ft2 pl2 hrd2 m2 g3 g4 => ?_) (fun v2 l2 hrd2 m2 hl2 => ?_)
    · rw [hrd] at hrd2
      cases hrd2
      have pn : ∀ b, b ≠ 137 → plS vc N a0 b = vc b := fun b hb => by
        funext j
        exact plS_n (by omega)
      have f2 : ∀ b, b ≠ 137 → (b < 149 ∨ 153 < b) → q_up v2 137 24 ft b = vc b := fun b b1 b2 => by rw [u_r b1, m2.1 b b1 b2, pn b b1]
      have f2q : ∀ j, j ≠ 24 → j ≠ 21 → ¬ (26 ≤ j ∧ j ≤ 31) → q_up v2 137 24 ft 137 j = plS vc N a0 137 j := fun j j1 j2 j3 => by rw [u_n (by omega), m2.2.1 j j2 j3]
      have f2v : ∀ b, b ≠ 36 → b ≠ 39 → b ≠ 137 → (b < 149 ∨ 153 < b) → b < 32 + G.2.2.1 → q_up v2 137 24 ft b = v b := fun b b1 b2 b3 b4 b5 => by rw [f2 b b3 b4, fv b b1 b2 b5]
      have f36 := f2 36 (by decide) (by decide)
      have pf := plS_f (v := vc) (N := N) (a0 := a0)
      have q4 := pI.2.2.2.1
      have q5 := pI.2.2.2.2.1
      refine ⟨_, rfl, rfl, by omega, by omega, plan_inv hI hG' f2v (fun j hj => by rw [f2q j (by omega) (by omega) (by omega), plS_n (by omega), f137]) ?_ ?_, by omega, by omega, fun b hb => f2v b (by omega) (by omega) (by omega) (by omega) (by omega), pI.2.2.2.2.2.2.1 0 (by omega)⟩
      · unfold tpI
        have w1 : q_up v2 137 24 ft 36 1 = 0 := by rw [f36, ← hvc, u_n (by omega), u_s rfl rfl]
        have w2 : q_up v2 137 24 ft 137 23 = 0 := by rw [f2q 23 (by decide) (by decide) (by decide)]; exact pf.2.1
        have w3 : q_up v2 137 24 ft 36 10 = ft := by rw [f36, ← hvc, u_s rfl rfl]
        have w4 : q_up v2 137 24 ft 137 24 = ft := u_s rfl rfl
        rw [w1, w2, w3, w4]
        exact ⟨rfl, by decide, by decide, fun k hk => by omega, rfl, by omega, g2⟩
      · refine plan_acI (n := 0) hI h3 pI (by omega) (by omega) ?_ ?_ (fun b hb => by rw [f2 b (by omega) (by omega), fc b (by omega)]) (fun b j b1 b2 hj => ?_) (fun k hk => by omega)
        · rw [f36, ← hvc, u_n (by omega), u_n (by omega), pI.2.2.1 3 (by decide) (by decide), h3]
          rfl
        · rw [f2q 15 (by decide) (by decide) (by decide), plS_n (by omega), f137, h15]
          rfl
        · rw [u_r (by omega), m2.2.2.1 b j b1 b2 hj, pn b (by omega), fv b (by omega) (by omega) (by omega)]
    · rw [hrd] at hrd2
      cases hrd2
  · generalize hvc : q_up (q_up v' 36 1 0) 36 3 ((a0 + l'.length : Nat) : Int) = vc
    have fc : ∀ b, b ≠ 36 → vc b = v' b := fun b hb => by rw [← hvc, u_r hb, u_r hb]
    have fv : ∀ b, b ≠ 36 → b ≠ 39 → b < 32 + G.2.2.1 → vc b = v b := fun b b1 b2 b3 => by rw [fc b b1, pI.2.1 b b1 b2 b3]
    have f137 := fv 137 (by decide) (by decide) (by omega)
    have hG' := pI.1
    refine m_plan (d := d + 4) hG' hN2 (by rw [f137, h23]) (fun k hk => by rw [fv 154 (by decide) (by decide) (by omega)]; exact hTM k hk) (by rw [f137, h15]) ha (fun v2 l2 ft2 pl2 hrd2 m2 g3 g4 => ?_) (fun v2 l2 hrd2 m2 hl2 => ?_)
    · rw [hrd] at hrd2
      cases hrd2
    · rw [hrd] at hrd2
      cases hrd2
      have pn : ∀ b, b ≠ 137 → plS vc N a0 b = vc b := fun b hb => by
        funext j
        exact plS_n (by omega)
      generalize hv3 : q_up v2 137 15 ((a0 + l'.length : Nat) : Int) = v3
      have f2 : ∀ b, b ≠ 137 → (b < 149 ∨ 153 < b) → v3 b = vc b := fun b b1 b2 => by rw [← hv3, u_r b1, m2.1 b b1 b2, pn b b1]
      have f2q : ∀ j, j ≠ 15 → j ≠ 21 → ¬ (26 ≤ j ∧ j ≤ 31) → v3 137 j = plS vc N a0 137 j := fun j j1 j2 j3 => by rw [← hv3, u_n (by omega), m2.2.1 j j2 j3]
      have f2v : ∀ b, b ≠ 36 → b ≠ 39 → b ≠ 137 → (b < 149 ∨ 153 < b) → b < 32 + G.2.2.1 → v3 b = v b := fun b b1 b2 b3 b4 b5 => by rw [f2 b b3 b4, fv b b1 b2 b5]
      have f36 := f2 36 (by decide) (by decide)
      have pf := plS_f (v := vc) (N := N) (a0 := a0)
      have q4 := pI.2.2.2.1
      have q5 := pI.2.2.2.2.1
      refine ⟨_, rfl, rfl, by omega, by omega, plan_inv hI hG' f2v (fun j hj => by rw [f2q j (by omega) (by omega) (by omega), plS_n (by omega), f137]) ?_ ?_, by omega, by omega, fun b hb => f2v b (by omega) (by omega) (by omega) (by omega) (by omega), pI.2.2.2.2.2.2.1 0 (by omega)⟩
      · unfold tpI
        have w1 : v3 36 1 = 0 := by rw [f36, ← hvc, u_n (by omega), u_s rfl rfl]
        have w2 : v3 137 23 = 0 := by rw [f2q 23 (by decide) (by decide) (by decide)]; exact pf.2.1
        have w3 : v3 36 10 = v 36 10 := by rw [f36, ← hvc, u_n (by omega), u_n (by omega), pI.2.2.1 10 (by decide) (by decide)]
        have w4 : v3 137 24 = v 137 24 := by rw [f2q 24 (by decide) (by decide) (by decide), plS_n (by omega), f137]
        rw [w1, w2, w3, w4]
        exact ⟨rfl, by decide, by decide, fun k hk => by omega, t5, t6, t7⟩
      · refine plan_acI (n := l'.length) hI h3 pI (by omega) hl ?_ ?_ (fun b hb => by rw [f2 b (by omega) (by omega), fc b (by omega)]) (fun b j b1 b2 hj => ?_) (fun k hk => ?_)
        · rw [f36, ← hvc, u_s rfl rfl]
        · rw [← hv3, u_s rfl rfl]
        · rw [← hv3, u_r (by omega), m2.2.2.1 b j b1 b2 hj, pn b (by omega), fv b (by omega) (by omega) (by omega)]
        · rw [← hv3, u_r (by omega), u_r (by omega), u_r (by omega), u_r (by omega), u_r (by omega)]
          exact m2.2.2.2 k hk
end
