def eqR (a b : List (Option Nat)) : Bool := (List.range 70).all (fun k => decide (a.getD k none = b.getD k none)) && decide (a.length ≤ 70) && decide (b.length ≤ 70)
theorem eqR_ok {a b : List (Option Nat)} (h : eqR a b = true) (k : Nat) : a.getD k none = b.getD k none := by
  unfold eqR at h
  rw [Bool.and_eq_true, Bool.and_eq_true, List.all_eq_true] at h
  obtain ⟨⟨h1, h2⟩, h3⟩ := h
  have h2 := of_decide_eq_true h2
  have h3 := of_decide_eq_true h3
  by_cases c : k < 70
  · exact of_decide_eq_true (h1 k (List.mem_range.mpr c))
  · rw [List.getD_eq_getElem?_getD, List.getD_eq_getElem?_getD, List.getElem?_eq_none (by omega), List.getElem?_eq_none (by omega)]
theorem ck_1 : ∀ j, j < 61 → ((q_L61 1).getD j z0).1 = q_shpL.getD (j + 1) (0, 0) ∧ (j ≠ 0 → j ≠ 1 → eqR ((q_L61 1).getD j z0).2 (q_rfsL.getD (j + 1) []) = true) := by decide +kernel
theorem ck_2 : ∀ j, j < 16 → ((Bf 62 8).getD j z0).1 = q_shpL.getD (j + 62) (0, 0) ∧ eqR ((Bf 62 8).getD j z0).2 (q_rfsL.getD (j + 62) []) = true := by decide +kernel
theorem ck_3 : ∀ j, j < 27 → ((Cf 78 3).getD j z0).1 = q_shpL.getD (j + 78) (0, 0) ∧ eqR ((Cf 78 3).getD j z0).2 (q_rfsL.getD (j + 78) []) = true := by decide +kernel
theorem ck_4 : ∀ j, j < 36 → (q_L36.getD j z0).1 = q_shpL.getD (j + 106) (0, 0) ∧ eqR (q_L36.getD j z0).2 (q_rfsL.getD (j + 106) []) = true := by decide +kernel
theorem ck_5 : eqR (q_R10 1) (q_rfsL.getD 0 []) = true ∧ eqR (Rf 62 2 8 8) (q_rfsL.getD 1 []) = true ∧ eqR (Rf 78 9 3 3) (q_rfsL.getD 2 []) = true ∧ eqR (q_R66 106) (q_rfsL.getD 105 []) = true ∧ q_shpL.getD 0 (0, 0) = (10, 10) ∧ q_shpL.getD 105 (0, 0) = (11, 66) ∧ (q_L61 1).length = 61 ∧ q_L36.length = 36 := by decide +kernel
section
variable {L : Nat} {u vA vB vC vE : q_H} {GA GB GC GE : q_Gr}
theorem st_gok (gA : gx 1 (q_mk (q_Gs L) 10 10) GA 32 (q_L61 1) (q_R10 1)) (gB : gx 62 GA GB 33 (Bf 62 8) (Rf 62 2 8 8)) (gC : gx 78 GB GC 34 (Cf 78 3) (Rf 78 9 3 3)) (gE : gx 106 (q_mk GC 11 66) GE 137 q_L36 (q_R66 106)) : gok GE ∧ (∀ b, b < 32 → GE.2.1 b = q_sh0 L b) := by
  have d1 : GC.2.2.1 = 105 := by rw [gC.2.1, Cf_len]
  obtain ⟨r1, r2, r3, r4, r5, r6, r7, r8⟩ := ck_5
  have e0 : (q_mk GC 11 66).2.1 137 = (11, 66) := by
    have := mk_2n (G := GC) (kd := 11) (n := 66)
    rw [d1] at this
    exact this
  have s1 : ∀ a, a < 137 → GE.2.1 a = GC.2.1 a := fun a ha => by rw [(gE.2.2.2.1 a (by omega)).1, mk_2 (by omega)]
  have s2 : ∀ a, a < 110 → GE.2.1 a = GB.2.1 a := fun a ha => by rw [s1 a (by omega), (gC.2.2.2.1 a (by omega)).1]
  have s3 : ∀ a, a < 94 → GE.2.1 a = GA.2.1 a := fun a ha => by rw [s2 a (by omega), (gB.2.2.2.1 a (by omega)).1]
  have s4 : ∀ a, a < 33 → GE.2.1 a = (q_mk (q_Gs L) 10 10).2.1 a := fun a ha => by rw [s3 a (by omega), (gA.2.2.2.1 a (by omega)).1]
  have t1 : ∀ a, a < 137 → GE.1 a = GC.1 a := fun a ha => by rw [(gE.2.2.2.1 a (by omega)).2 (by omega), mk_1 (by omega)]
  have t2 : ∀ a, a < 110 → a ≠ 34 → GE.1 a = GB.1 a := fun a ha h => by rw [t1 a (by omega), (gC.2.2.2.1 a (by omega)).2 h]
  have t3 : ∀ a, a < 94 → a ≠ 34 → a ≠ 33 → GE.1 a = GA.1 a := fun a ha h h' => by rw [t2 a (by omega) h, (gB.2.2.2.1 a (by omega)).2 h']
  have low : ∀ b, b < 32 → GE.2.1 b = q_sh0 L b := fun b hb => by
    rw [s4 b (by omega), mk_2 (by show b ≠ 32 + 0; omega)]
    rfl
  have both : ∀ a, 32 ≤ a → a < 174 → GE.2.1 a = q_shpL.getD (a - 32) (0, 0) ∧ ∀ k, GE.1 a k = (q_rfsL.getD (a - 32) []).getD k none := fun a a1 a2 => by
    by_cases x0 : a = 32
    · subst x0
      refine ⟨?_, fun k => ?_⟩
      · rw [s4 32 (by decide)]
        exact (mk_2n (G := q_Gs L) (kd := 10) (n := 10)).trans r5.symm
      · rw [t3 32 (by decide) (by decide) (by decide), gA.2.2.2.2.2 k]
        exact eqR_ok r1 k
    · by_cases x1 : a < 94
      · have hj : a - 33 < 61 := by omega
        have f := gA.2.2.2.2.1 (a - 33) (by rw [r7]; exact hj)
        have ck := ck_1 (a - 33) hj
        rw [show 32 + (1 + (a - 33)) = a by omega] at f
        rw [show a - 33 + 1 = a - 32 by omega] at ck
        refine ⟨by rw [s3 a x1, f.1, ck.1], fun k => ?_⟩
        by_cases y1 : a = 33
        · subst y1
          rw [t2 33 (by decide) (by decide), gB.2.2.2.2.2 k]
          exact eqR_ok r2 k
        · by_cases y2 : a = 34
          · subst y2
            rw [t1 34 (by decide), gC.2.2.2.2.2 k]
            exact eqR_ok r3 k
          · rw [t3 a x1 y2 y1, f.2 k]
            exact eqR_ok (ck.2 (by omega) (by omega)) k
      · by_cases x2 : a < 110
        · have hj : a - 94 < 16 := by omega
          have f := gB.2.2.2.2.1 (a - 94) (by rw [Bf_len]; omega)
          have ck := ck_2 (a - 94) hj
          rw [show 32 + (62 + (a - 94)) = a by omega] at f
          rw [show a - 94 + 62 = a - 32 by omega] at ck
          exact ⟨by rw [s2 a x2, f.1, ck.1], fun k => by rw [t2 a x2 (by omega), f.2 k]; exact eqR_ok ck.2 k⟩
        · by_cases x3 : a < 137
          · have hj : a - 110 < 27 := by omega
            have f := gC.2.2.2.2.1 (a - 110) (by rw [Cf_len]; omega)
            have ck := ck_3 (a - 110) hj
            rw [show 32 + (78 + (a - 110)) = a by omega] at f
            rw [show a - 110 + 78 = a - 32 by omega] at ck
            exact ⟨by rw [s1 a x3, f.1, ck.1], fun k => by rw [t1 a x3, f.2 k]; exact eqR_ok ck.2 k⟩
          · by_cases x4 : a = 137
            · subst x4
              refine ⟨?_, fun k => ?_⟩
              · rw [(gE.2.2.2.1 137 (by decide)).1, e0]
                exact r6.symm
              · rw [gE.2.2.2.2.2 k]
                exact eqR_ok r4 k
            · have hj : a - 138 < 36 := by omega
              have f := gE.2.2.2.2.1 (a - 138) (by rw [r8]; exact hj)
              have ck := ck_4 (a - 138) hj
              rw [show 32 + (106 + (a - 138)) = a by omega] at f
              rw [show a - 138 + 106 = a - 32 by omega] at ck
              exact ⟨by rw [f.1, ck.1], fun k => by rw [f.2 k]; exact eqR_ok ck.2 k⟩
  refine ⟨⟨fun a a1 a2 => (both a a1 a2).1, fun a k a1 a2 _ => (both a a1 a2).2 k, fun a a1 a2 => ?_, fun a a1 a2 => ?_, ?_⟩, low⟩
  · rw [low a (by omega)]
    unfold q_sh0
    rw [if_neg (by omega), if_pos a1]
  · rw [low a (by omega)]
    unfold q_sh0
    rw [if_neg (by omega), if_neg (by omega), if_pos a1]
  · rw [gE.2.1, r8]
    decide
end
