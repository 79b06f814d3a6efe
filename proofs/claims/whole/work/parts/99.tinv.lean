section
variable {L : Nat} {u vA vB vC vE : q_H} {GA GB GC GE : q_Gr}
theorem st_inv (hG : gok GE) (zA : vz (q_zr u 32) vA 1 61) (zB : vb vA vB 62 8) (zC : vt vB vC 78 3) (y1 : ∀ b, b < 32 + 106 → vE b = q_zr vC 137 b) (y2 : ∀ k, k < 8 → vE (32 + 106) k = -1) (y3 : ∀ b, 32 + 106 < b → b < 32 + 106 + 36 → ∀ j, vE b j = 0) : Inv vE GE ∧ ∀ b, b < 32 → vE b = u b := by
  have s1 : ∀ b, b < 137 → vE b = vC b := fun b hb => by rw [y1 b (by omega), zr_r (by omega)]
  have s2 : ∀ b, b < 110 → vE b = vB b := fun b hb => by rw [s1 b (by omega), zC.1 b (by omega)]
  have s3 : ∀ b, b < 94 → vE b = vA b := fun b hb => by rw [s2 b (by omega), zB.1 b (by omega)]
  have z32 : ∀ j, vE 32 j = 0 := fun j => by
    rw [s3 32 (by decide), zA.1 32 (by decide)]
    show (if 32 = 32 then (0 : Int) else _) = 0
    rw [if_pos rfl]
  have z137 : ∀ j, vE 137 j = 0 := fun j => by
    rw [y1 137 (by decide)]
    show (if 137 = 137 then (0 : Int) else _) = 0
    rw [if_pos rfl]
  have zz : ∀ b, 33 ≤ b → b < 94 → ∀ j, vE b j = 0 := fun b b1 b2 j => by rw [s3 b b2, zA.2 b (by omega) (by omega)]
  have z3 : ∀ b, 139 ≤ b → b < 174 → ∀ j, vE b j = 0 := fun b b1 b2 j => y3 b (by omega) (by omega) j
  have zs : ∀ s, s < 8 → ∀ j, vE (94 + 2 * s) j = (if j = 1 then -1 else 0) ∧ vE (95 + 2 * s) j = 0 := fun s hs j => by
    have := zB.2 s hs j
    rw [show 32 + (62 + 2 * s) = 94 + 2 * s by omega, show 32 + (62 + 2 * s + 1) = 95 + 2 * s by omega] at this
    rw [s2 _ (by omega), s2 _ (by omega)]
    exact this
  have zt : ∀ t, t < 3 → tab0 vE (110 + 9 * t) := fun t ht => by
    have := zC.2 t ht
    rw [show 32 + (78 + 9 * t) = 110 + 9 * t by omega] at this
    exact tab0_cg (fun b b1 b2 => s1 b (by omega)) this
  refine ⟨⟨hG, ?_, ?_, ?_, ?_, ?_, ?_, ?_, ?_⟩, fun b hb => by rw [s3 b (by omega), zA.1 b (by omega), zr_r (by omega)]⟩
  · intro s hs
    have h1 : vE 138 s = -1 := y2 s hs
    have h2 : vE (94 + 2 * s) 1 = -1 := by rw [(zs s hs 1).1, if_pos rfl]
    have h3 : vE (94 + 2 * s) 2 = 0 := by rw [(zs s hs 2).1, if_neg (by decide)]
    rw [h1, h2, h3]
    refine ⟨rfl, by decide, by decide, fun h => absurd h (by decide), fun k hk => ?_⟩
    rw [z3 140 (by decide) (by decide), (zs s hs k).2]
    decide
  · unfold stI
    rw [z32, z137]
    decide
  · unfold rdI
    rw [z32, z137]
    exact ⟨rfl, by decide, by decide, fun j hj => by omega⟩
  · unfold tpI
    rw [zz 36 (by decide) (by decide), zz 36 (by decide) (by decide), z137, z137]
    exact ⟨rfl, by decide, by decide, fun j hj => by omega, rfl, by decide, by decide⟩
  · unfold acI
    rw [zz 36 (by decide) (by decide), z137]
    exact ⟨rfl, by decide, by decide, fun j hj => by omega⟩
  · unfold ckI
    rw [zz 52 (by decide) (by decide), zz 70 (by decide) (by decide), z137, z137, z137, z137]
    exact ⟨rfl, by decide, by decide, rfl, by decide, by decide, by decide, by decide, fun j hj => by omega⟩
  · unfold asI
    rw [zz 92 (by decide) (by decide), z137]
    exact ⟨rfl, by decide, by decide, fun j hj => by omega⟩
  · intro t ht
    obtain ⟨h1, h2, h3, h4, h5, h6⟩ := zt t ht
    refine ⟨0, by decide, z3 141 (by decide) (by decide) t, h1, h2, h3, h4, h5, fun k hk => by omega, fun k hk => ?_, h6⟩
    have e : k = 0 := by omega
    subst e
    rw [h2, h3]
    decide
theorem q_Pure_all : q_Pure := by
  refine q_pure_of (fun L xs hL Q hQ => ?_)
  refine n_run (fun vA GA vB GB vC GC vE GE gA zA gB zB gC zC gE y1 y2 y3 => ?_)
  obtain ⟨hG, low⟩ := st_gok gA gB gC gE
  obtain ⟨hI, lv⟩ := st_inv hG zA zB zC y1 y2 y3
  obtain ⟨_, _, _, _, _, _, r7, r8⟩ := ck_5
  refine hQ vE GE hI (fun a k a1 a2 => ?_) (fun b hb => ?_) ?_ (fun k => ?_) ?_ ?_
  · rw [lv a (by omega)]
    show (if a = 0 then (xs k).toInt else (q_cst.getD a []).getD k 0) = _
    rw [if_neg (by omega)]
  · rw [low b hb]
    unfold q_sh0
    by_cases c0 : b = 0
    · rw [if_pos c0]
      exact (by decide : 12 ≤ 20)
    · rw [if_neg c0]
      by_cases c1 : b < 5
      · rw [if_pos c1]
        decide
      · rw [if_neg c1]
        by_cases c2 : b < 12
        · rw [if_pos c2]
          exact (by decide : 12 ≤ 50)
        · rw [if_neg c2]
          decide
  · rw [low 0 (by decide)]
    rfl
  · rw [lv 0 (by decide)]
    rfl
  · rw [gE.2.1, r8]
    decide
  · rw [gE.2.2.1, mk_4, gC.2.2.1, Cf_sum, gB.2.2.1, Bf_sum, gA.2.2.1]
    show 10 + _ + _ + _ + 66 + _ ≤ 100000
    decide +kernel
end
