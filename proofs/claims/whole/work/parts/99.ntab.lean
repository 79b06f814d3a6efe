section
variable {d p m : Nat} {v : q_H} {G : q_Gr} {Q : q_V → q_H → q_Gr → Prop}
theorem cp_z {a i b j : Nat} : q_cp v a i b j 0 = v := by
  funext c k
  show (if c = b ∧ j ≤ k ∧ k < j + 0 then _ else v c k) = v c k
  rw [if_neg (by omega)]
theorem rins_e {q n : Nat} {k x : Int} (h : v q 2 = (n : Int)) : q_rins v q n k x = q_up (q_up (q_up v q 2 ((n : Int) + 1)) (q + 1) n k) (q + 2) n x := by
  unfold q_rins
  rw [show (v q 2).toNat - n = 0 by omega, cp_z, cp_z, h]
/-- a sheet -/
theorem k86 (hm : G.2.2.1 = m) (hk : (G.2.1 p).1 = 7) (hp : p < 32 + m) (hn : ∀ k, G.1 p k = none) (hr : m + 1 ≤ 600000 ∧ G.2.2.2 + 600 ≤ 7302250) (hQ : ∀ v1 G', gx m G G' p [((20, 600), [])] [some (32 + (m + 0)), none, none] → vz v v1 m 1 → Q (.inr (.inr (.inr ()))) (q_up v1 p 1 (-1)) G') : q_call (d + 1) 86 [.inr (.inr (.inl (some p)))] v G Q := by
  have g : gx m G G p [] [none, none, none] := gx_0 hm hn (by simp)
  have z : vz v v m 0 := vz_0
  have c1 : G.2.2.1 = m + 0 := g.2.1
  simp (disch := omega) only [e_86, e_86_0, e_86_1, e_86_4, e_86_5, e_86_8, e_86_10, mk_2, c1, hk, show (600 : Int).toNat = 600 from rfl]
  repeat' first | (refine And.intro ?_ ?_) | exact True.intro | omega
  refine w_arr (K := fun v G => q_wp d 86 13 [.inr (.inr (.inl (some p)))] [] v G Q) (kd := 20) (n := 600) (k := 0) hp g z (by simp) (fun v1 G1 g z => ?_)
  have c3 : (G1.2.1 p).1 = 7 := by rw [(g.2.2.2.1 p hp).1, hk]
  have fin := hQ _ _ g z
  clear hQ
  simp only [e_86_13, e_86_14, e_86_15, e_86_18, c3]
  repeat' first | (refine And.intro ?_ ?_) | exact True.intro | omega | assumption | rfl
/-- a table without rows -/
def tab0 (v : q_H) (q : Nat) : Prop := v (q + 1) 2 = 2 ∧ v (q + 2) 0 = -1 ∧ v (q + 2) 1 = 1000 ∧ v (q + 3) 0 = 0 ∧ v (q + 3) 1 = 0 ∧ treeI v (q + 4) 2 (v (q + 2)) (v (q + 3))
/-- a table -/
theorem k96 (hm : G.2.2.1 = m) (hk : (G.2.1 p).1 = 8) (hp1 : p + 1 = 32 + m) (hp32 : 32 ≤ p) (hn : ∀ k, G.1 p k = none) (hr : m + 8 ≤ 600000 ∧ G.2.2.2 + 167 ≤ 7302250) (hQ : ∀ v' G', gx m G G' p [((6, 3), [some (32 + (m + 1)), some (32 + (m + 2)), none]), ((20, 16), []), ((20, 16), []), ((9, 4), [some (32 + (m + 4)), some (32 + (m + 5)), some (32 + (m + 6)), some (32 + (m + 7))]), ((20, 32), []), ((20, 32), []), ((20, 32), []), ((20, 32), [])] [some (32 + (m + 0)), some (32 + (m + 3))] → (∀ b, b < 32 + m → v' b = v b) → tab0 v' p → Q (.inr (.inr (.inr ()))) v' G') : q_call (d + 6) 96 [.inr (.inr (.inl (some p)))] v G Q := by
  have hp : p < 32 + m := by omega
  have g : gx m G G p [] [none, none] := gx_0 hm hn (by simp)
  have z : vz v v m 0 := vz_0
  have c1 : G.2.2.1 = m + 0 := g.2.1
  have c2 : G.2.2.2 = G.2.2.2 + 0 := by
    have h := g.2.2.1
    simp only [List.map_cons, List.map_nil, List.sum_cons, List.sum_nil] at h
    omega
  have c3 : (G.2.1 p).1 = 8 := by rw [(g.2.2.2.1 p hp).1, hk]
  have nw := gx_new (kd := 6) (n := 3) g
  simp (disch := omega) only [e_96, e_96_0, e_96_1, e_96_4, e_96_5, e_96_8, e_96_9, c1]
  repeat' first | (refine And.intro ?_ ?_) | exact True.intro | omega
  refine k76 (m := m + 0 + 1) nw.1 (congrArg Prod.fst nw.2.2) (by show 32 + (m + 0) < _; omega) nw.2.1 ⟨by omega, by rw [mk_4, c2]; omega⟩ (fun v1 H1 h3 z3 => ?_)
  have c4 : (H1.2.1 p).1 = 8 := by rw [(h3.2.2.2.1 p (by omega)).1, mk_2 (by omega), c3]
  have z4 := vz_sub z z3
  simp only [e_96_12, q_push_I, q_push_L, q_push_P, q_push_U, c4]
  repeat' first | (refine And.intro ?_ ?_) | exact True.intro | omega
  refine w_sub (K := fun G => q_wp (d + 5) 96 15 [.inr (.inr (.inl (some p)))] [] v1 G Q) (k := 0) hp g h3 (by simp) (fun G1 g => ?_)
  clear h3 c4 nw z z3
  have z := z4
  clear z4
  clear c1 c2 c3
  have g : gx m G G1 p [((6, 3), [some (32 + (m + 1)), some (32 + (m + 2)), none]), ((20, 16), []), ((20, 16), [])] [some (32 + (m + 0)), none] := g
  have z : vz v v1 m 3 := z
  have c1 : G1.2.2.1 = m + 3 := g.2.1
  have c2 : G1.2.2.2 = G.2.2.2 + 35 := by
    have h := g.2.2.1
    simp only [List.map_cons, List.map_nil, List.sum_cons, List.sum_nil] at h
    omega
  have c3 : (G1.2.1 p).1 = 8 := by rw [(g.2.2.2.1 p hp).1, hk]
  have nw := gx_new (kd := 9) (n := 4) g
  simp (disch := omega) only [e_96_15, e_96_16, e_96_19, e_96_20, c1]
  repeat' first | (refine And.intro ?_ ?_) | exact True.intro | omega
  refine k104 (m := m + 3 + 1) nw.1 (congrArg Prod.fst nw.2.2) (by show 32 + (m + 3) < _; omega) nw.2.1 ⟨by omega, by rw [mk_4, c2]; omega⟩ (fun v2 H2 h3 z3 => ?_)
  have c4 : (H2.2.1 p).1 = 8 := by rw [(h3.2.2.2.1 p (by omega)).1, mk_2 (by omega), c3]
  have z4 := vz_sub z z3
  simp only [e_96_23, q_push_I, q_push_L, q_push_P, q_push_U, c4]
  repeat' first | (refine And.intro ?_ ?_) | exact True.intro | omega
  refine w_sub (K := fun G => q_wp (d + 5) 96 26 [.inr (.inr (.inl (some p)))] [] v2 G Q) (k := 1) hp g h3 (by simp) (fun G2 g => ?_)
  clear h3 c4 nw z z3
  have z := z4
  clear z4
  clear c1 c2 c3
  have g : gx m G G2 p [((6, 3), [some (32 + (m + 1)), some (32 + (m + 2)), none]), ((20, 16), []), ((20, 16), []), ((9, 4), [some (32 + (m + 4)), some (32 + (m + 5)), some (32 + (m + 6)), some (32 + (m + 7))]), ((20, 32), []), ((20, 32), []), ((20, 32), []), ((20, 32), [])] [some (32 + (m + 0)), some (32 + (m + 3))] := g
  have z : vz v v2 m 8 := z
  have f0 : G2.2.1 (p + 1) = (6, 3) ∧ G2.1 (p + 1) 0 = some (p + 2) ∧ G2.1 (p + 1) 1 = some (p + 3) := by
    have f := g.2.2.2.2.1 0 (by simp)
    have f1 := f.2 0
    have f2 := f.2 1
    rw [show 32 + (m + 0) = p + 1 by omega] at f f1 f2
    refine ⟨f.1, f1.trans ?_, f2.trans ?_⟩
    · show some (32 + (m + 1)) = _
      congr 1
      omega
    · show some (32 + (m + 2)) = _
      congr 1
      omega
  have f1 : G2.2.1 (p + 2) = (20, 16) := by
    have f := (g.2.2.2.2.1 1 (by simp)).1
    rw [show 32 + (m + 1) = p + 2 by omega] at f
    exact f
  have f2 : G2.2.1 (p + 3) = (20, 16) := by
    have f := (g.2.2.2.2.1 2 (by simp)).1
    rw [show 32 + (m + 2) = p + 3 by omega] at f
    exact f
  have f3 : G2.2.1 (p + 4) = (9, 4) ∧ G2.1 (p + 4) 0 = some (p + 5) ∧ G2.1 (p + 4) 1 = some (p + 6) ∧ G2.1 (p + 4) 2 = some (p + 7) ∧ G2.1 (p + 4) 3 = some (p + 8) := by
    have f := g.2.2.2.2.1 3 (by simp)
    have f0 := f.2 0
    have f1 := f.2 1
    have f2 := f.2 2
    have f3 := f.2 3
    rw [show 32 + (m + 3) = p + 4 by omega] at f f0 f1 f2 f3
    refine ⟨f.1, f0.trans ?_, f1.trans ?_, f2.trans ?_, f3.trans ?_⟩
    · show some (32 + (m + 4)) = _
      congr 1
      omega
    · show some (32 + (m + 5)) = _
      congr 1
      omega
    · show some (32 + (m + 6)) = _
      congr 1
      omega
    · show some (32 + (m + 7)) = _
      congr 1
      omega
  have f4 : ∀ j, j < 4 → G2.2.1 (p + 5 + j) = (20, 32) := fun j hj => by
    have f := (g.2.2.2.2.1 (4 + j) (by simp; omega)).1
    rw [show 32 + (m + (4 + j)) = p + 5 + j by omega] at f
    rw [f]
    have : j = 0 ∨ j = 1 ∨ j = 2 ∨ j = 3 := by omega
    rcases this with e | e | e | e <;> subst e <;> rfl
  have fp : (G2.2.1 p).1 = 8 ∧ G2.1 p 0 = some (p + 1) ∧ G2.1 p 1 = some (p + 4) := by
    refine ⟨by rw [(g.2.2.2.1 p hp).1, hk], (g.2.2.2.2.2 0).trans ?_, (g.2.2.2.2.2 1).trans ?_⟩
    · show some (32 + (m + 0)) = _
      congr 1
      omega
    · show some (32 + (m + 3)) = _
      congr 1
      omega
  by_cases c31 : 32 ≤ p
  case neg => exact absurd hp32 c31
  have gr : gRow G2 (p + 1) := ⟨by rw [f0.1], f0.2.1, f0.2.2, by rw [f1], by rw [f1], by rw [show p + 1 + 2 = p + 3 from rfl, f2], by rw [show p + 1 + 2 = p + 3 from rfl, f2], by omega⟩
  have gt : gTree G2 (p + 4) := ⟨by rw [f3.1], f3.2.1, f3.2.2.1, f3.2.2.2.1, f3.2.2.2.2, f4 0 (by decide), f4 1 (by decide), f4 2 (by decide), f4 3 (by decide), by omega⟩
  have gT : gTab G2 p := ⟨fp.1, fp.2.1, fp.2.2, gr, gt⟩
  have y0 : v2 (p + 1) 2 = ((0 : Nat) : Int) := z.2 (p + 1) (by omega) (by omega) 2
  have ea : ∀ (d' : Nat) (Q' : q_V → q_H → q_Gr → Prop), q_call (d' + 2) 78 [.inr (.inr (.inl (some (p + 1)))), .inl (-1), .inl 0] v2 G2 Q' = Q' (.inr (.inr (.inr ()))) (q_rins v2 (p + 1) 0 (-1) 0) G2 := fun d' Q' => by
    rw [c_radd gr (by omega) (by omega), y0]
    rfl
  have r1 := rins_e (k := -1) (x := 0) y0
  generalize q_rins v2 (p + 1) 0 (-1) 0 = w1 at ea r1
  have y1 : w1 (p + 1) 2 = ((1 : Nat) : Int) := by
    rw [r1, u_n (by omega), u_n (by omega), u_s rfl rfl]
    rfl
  have eb : ∀ (d' : Nat) (Q' : q_V → q_H → q_Gr → Prop), q_call (d' + 2) 78 [.inr (.inr (.inl (some (p + 1)))), .inl 1000, .inl 0] w1 G2 Q' = Q' (.inr (.inr (.inr ()))) (q_rins w1 (p + 1) 1 1000 0) G2 := fun d' Q' => by
    rw [c_radd gr (by omega) (by omega), y1]
    rfl
  have r2 := rins_e (k := 1000) (x := 0) y1
  generalize q_rins w1 (p + 1) 1 1000 0 = w2 at eb r2
  have x0 : w2 (p + 1) 2 = ((2 : Nat) : Int) := by
    rw [r2, u_n (by omega), u_n (by omega), u_s rfl rfl]
    rfl
  have x1 : w2 (p + 2) 0 = -1 := by rw [r2, r1, u_n (by omega), u_n (by omega), u_n (by omega), u_n (by omega), u_s (by omega) rfl]
  have x2 : w2 (p + 2) 1 = 1000 := by rw [r2, u_n (by omega), u_s (by omega) rfl]
  have x3 : w2 (p + 3) 0 = 0 := by rw [r2, r1, u_n (by omega), u_n (by omega), u_n (by omega), u_s (by omega) rfl]
  have x4 : w2 (p + 3) 1 = 0 := by rw [r2, u_s (by omega) rfl]
  have x5 : ∀ b, b < 32 + m → w2 b = v b := fun b hb => by rw [r2, r1, u_r (by omega), u_r (by omega), u_r (by omega), u_r (by omega), u_r (by omega), u_r (by omega), z.1 b hb]
  have key : q_call (d + 5) 97 [.inr (.inr (.inl (some p)))] w2 G2 (fun r v' G' => q_wp (d + 5) 96 50 [.inr (.inr (.inl (some p)))] (q_push r []) v' G' Q) := by
    refine c_seal gT x0 (by decide) (by decide) (fun k hk => ?_) (fun v' hT hf => ?_)
    · have : k = 0 ∨ k = 1 := by omega
      rcases this with e | e <;> subst e
      · rw [x1, x3]
        decide
      · rw [x2, x4]
        decide
    · have fin := hQ v' G2 g (fun b hb => by rw [hf b (by omega), x5 b hb]) ⟨by rw [hf _ (by omega), x0]; rfl, by rw [hf _ (by omega), x1], by rw [hf _ (by omega), x2], by rw [hf _ (by omega), x3], by rw [hf _ (by omega), x4], by rw [hf (p + 2) (by omega), hf (p + 3) (by omega)]; exact hT⟩
      clear hQ
      simp only [e_96_50, q_push_I, q_push_L, q_push_P, q_push_U]
      repeat' first | (refine And.intro ?_ ?_) | exact True.intro | omega | assumption | rfl
  clear hQ r1 r2
  simp only [e_96_26, e_96_27, e_96_30, e_96_31, e_96_32, e_96_35, e_96_36, e_96_39, e_96_42, e_96_43, e_96_46, e_96_47, fp.1, fp.2.1, ea, eb, q_push_I, q_push_L, q_push_P, q_push_U]
  repeat' first | (refine And.intro ?_ ?_) | exact True.intro | omega | assumption | rfl
end
