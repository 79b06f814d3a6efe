section
variable {d p m : Nat} {v : q_H} {G : q_Gr} {Q : q_V → q_H → q_Gr → Prop}
theorem w_arr2 {K : q_H → q_Gr → Prop} {G1 : q_Gr} {u v1 : q_H} {l : List q_Ce} {r : List (Option Nat)} {kd n k m' n' : Nat} (hp : p < 32 + m) (g : gx m G G1 p l r) (z : vz u v1 m' n') (e : m + l.length = m' + n') (hk : k < r.length) (h : ∀ v' G', gx m G G' p (l ++ [((kd, n), [])]) (r.set k (some (32 + (m + l.length)))) → vz u v' m' (n' + 1) → K v' G') : K (q_zr v1 (32 + (m + l.length))) (q_upr (q_mk G1 kd n).1 p k (some (32 + (m + l.length))), (q_mk G1 kd n).2) := h _ _ (gx_arr hp g hk) (by rw [e]; exact vz_sub z vz_0)
theorem k150 (hm : G.2.2.1 = m) (hk : (G.2.1 p).1 = 11) (hp : p < 32 + m) (hn : ∀ k, G.1 p k = none) (hr : m + 36 ≤ 600000 ∧ G.2.2.2 + 7555 ≤ 7302250) (hQ : ∀ v' G', gx m G G' p [((20, 8), []), ((20, 8), []), ((20, 4800), []), ((20, 3), []), ((20, 42), []), ((20, 42), []), ((20, 16), []), ((20, 16), []), ((20, 272), []), ((20, 272), []), ((20, 80), []), ((20, 12), []), ((20, 12), []), ((20, 12), []), ((20, 12), []), ((20, 12), []), ((20, 200), []), ((20, 600), []), ((21, 16), []), ((20, 40), []), ((20, 40), []), ((20, 64), []), ((20, 600), []), ((21, 16), []), ((20, 16), []), ((20, 16), []), ((20, 16), []), ((20, 40), []), ((20, 40), []), ((20, 40), []), ((20, 40), []), ((20, 40), []), ((20, 16), []), ((20, 16), []), ((20, 64), []), ((20, 16), [])] [none, none, some (32 + (m + 0)), some (32 + (m + 1)), some (32 + (m + 2)), some (32 + (m + 3)), some (32 + (m + 4)), some (32 + (m + 5)), none, some (32 + (m + 6)), some (32 + (m + 7)), some (32 + (m + 8)), some (32 + (m + 9)), none, some (32 + (m + 10)), none, some (32 + (m + 11)), some (32 + (m + 12)), some (32 + (m + 13)), some (32 + (m + 14)), some (32 + (m + 15)), none, some (32 + (m + 16)), none, none, none, none, none, none, none, none, none, none, some (32 + (m + 17)), some (32 + (m + 18)), some (32 + (m + 19)), some (32 + (m + 20)), none, some (32 + (m + 21)), none, some (32 + (m + 22)), none, none, none, none, some (32 + (m + 23)), some (32 + (m + 24)), some (32 + (m + 25)), some (32 + (m + 26)), some (32 + (m + 27)), some (32 + (m + 28)), some (32 + (m + 29)), some (32 + (m + 30)), some (32 + (m + 31)), none, none, none, none, none, some (32 + (m + 32)), some (32 + (m + 33)), none, none, some (32 + (m + 34)), some (32 + (m + 35)), none] → (∀ b, b < 32 + m → v' b = v b) → (∀ k, k < 8 → v' (32 + m) k = -1) → (∀ b, 32 + m < b → b < 32 + m + 36 → ∀ j, v' b j = 0) → Q (.inr (.inr (.inr ()))) v' G') : q_call (d + 1) 150 [.inr (.inr (.inl (some p)))] v G Q := by
  have g : gx m G G p [] [none, none, none, none, none, none, none, none, none, none, none, none, none, none, none, none, none, none, none, none, none, none, none, none, none, none, none, none, none, none, none, none, none, none, none, none, none, none, none, none, none, none, none, none, none, none, none, none, none, none, none, none, none, none, none, none, none, none, none, none, none, none, none, none, none, none] := gx_0 hm hn (by simp)
  have nw : (q_mk G 20 8).2.1 (32 + m) = (20, 8) := (gx_new g).2.2
  generalize hu : q_up (q_up (q_up (q_up (q_up (q_up (q_up (q_up (q_zr v (32 + m)) (32 + m) 0 (-1)) (32 + m) 1 (-1)) (32 + m) 2 (-1)) (32 + m) 3 (-1)) (32 + m) 4 (-1)) (32 + m) 5 (-1)) (32 + m) 6 (-1)) (32 + m) 7 (-1) = u
  have u1 : ∀ b, b < 32 + m → u b = v b := fun b hb => by rw [← hu, u_r (by omega), u_r (by omega), u_r (by omega), u_r (by omega), u_r (by omega), u_r (by omega), u_r (by omega), u_r (by omega), zr_r (by omega)]
  have u2 : ∀ k, k < 8 → u (32 + m) k = -1 := fun k hk => by
    have : k = 0 ∨ k = 1 ∨ k = 2 ∨ k = 3 ∨ k = 4 ∨ k = 5 ∨ k = 6 ∨ k = 7 := by omega
    rw [← hu]
    rcases this with e | e | e | e | e | e | e | e <;> subst e <;> simp (disch := omega) only [u_n, u_s]
  have z : vz u u (m + 1) 0 := vz_0
  simp (disch := omega) only [e_150, e_150_0, e_150_1, e_150_4, e_150_5, e_150_7, e_150_9, e_150_10, e_150_11, e_150_12, e_150_13, e_150_14, e_150_15, e_150_16, e_150_17, e_150_18, e_150_19, e_150_20, e_150_21, e_150_22, e_150_23, e_150_24, e_150_25, e_150_26, e_150_27, e_150_28, e_150_29, e_150_30, e_150_31, e_150_32, e_150_33, e_150_34, e_150_36, e_150_37, e_150_38, e_150_39, e_150_41, e_150_42, e_150_43, mk_2, hm, hk, nw, show (8 : Int).toNat = 8 from rfl, show (0 : Int).toNat = 0 from rfl, show (1 : Int).toNat = 1 from rfl, show (2 : Int).toNat = 2 from rfl, show (3 : Int).toNat = 3 from rfl, show (4 : Int).toNat = 4 from rfl, show (5 : Int).toNat = 5 from rfl, show (6 : Int).toNat = 6 from rfl, show (7 : Int).toNat = 7 from rfl, hu]
  repeat' first | (refine And.intro ?_ ?_) | exact True.intro | omega
  have g1 : gx m G (q_upr (q_mk G 20 8).1 p 2 (some (32 + m)), (q_mk G 20 8).2) p [((20, 8), [])] [none, none, some (32 + (m + 0)), none, none, none, none, none, none, none, none, none, none, none, none, none, none, none, none, none, none, none, none, none, none, none, none, none, none, none, none, none, none, none, none, none, none, none, none, none, none, none, none, none, none, none, none, none, none, none, none, none, none, none, none, none, none, none, none, none, none, none, none, none, none, none] := gx_arr (kd := 20) (n := 8) (k := 2) hp g (by simp)
  generalize (q_upr (q_mk G 20 8).1 p 2 (some (32 + m)), (q_mk G 20 8).2) = G1 at g1 ⊢
  clear g nw hu
  have g := g1
  clear g1
  have c1 : G1.2.2.1 = m + 1 := g.2.1
  have c2 : G1.2.2.2 = G.2.2.2 + 8 := by
    have h := g.2.2.1
    simp only [List.map_cons, List.map_nil, List.sum_cons, List.sum_nil] at h
    omega
  have c3 : (G1.2.1 p).1 = 11 := by rw [(g.2.2.2.1 p hp).1, hk]
  simp (disch := omega) only [e_150_46, e_150_47, e_150_49, e_150_51, mk_2, c1, c3, show (8 : Int).toNat = 8 from rfl]
  repeat' first | (refine And.intro ?_ ?_) | exact True.intro | omega
  refine w_arr2 (K := fun v G => q_wp d 150 54 [.inr (.inr (.inl (some p)))] [] v G Q) (kd := 20) (n := 8) (k := 3) hp g z (by first | (simp; done) | (simp; omega)) (by simp) (fun v2 G2 g z => ?_)
  clear c1 c2 c3
  have g : gx m G G2 p [((20, 8), []), ((20, 8), [])] [none, none, some (32 + (m + 0)), some (32 + (m + 1)), none, none, none, none, none, none, none, none, none, none, none, none, none, none, none, none, none, none, none, none, none, none, none, none, none, none, none, none, none, none, none, none, none, none, none, none, none, none, none, none, none, none, none, none, none, none, none, none, none, none, none, none, none, none, none, none, none, none, none, none, none, none] := g
  have c1 : G2.2.2.1 = m + 2 := g.2.1
  have c2 : G2.2.2.2 = G.2.2.2 + 16 := by
    have h := g.2.2.1
    simp only [List.map_cons, List.map_nil, List.sum_cons, List.sum_nil] at h
    omega
  have c3 : (G2.2.1 p).1 = 11 := by rw [(g.2.2.2.1 p hp).1, hk]
  simp (disch := omega) only [e_150_54, e_150_55, e_150_58, e_150_60, mk_2, c1, c3, show (4800 : Int).toNat = 4800 from rfl]
  repeat' first | (refine And.intro ?_ ?_) | exact True.intro | omega
  refine w_arr2 (K := fun v G => q_wp d 150 63 [.inr (.inr (.inl (some p)))] [] v G Q) (kd := 20) (n := 4800) (k := 4) hp g z (by first | (simp; done) | (simp; omega)) (by simp) (fun v3 G3 g z => ?_)
  clear c1 c2 c3
  have g : gx m G G3 p [((20, 8), []), ((20, 8), []), ((20, 4800), [])] [none, none, some (32 + (m + 0)), some (32 + (m + 1)), some (32 + (m + 2)), none, none, none, none, none, none, none, none, none, none, none, none, none, none, none, none, none, none, none, none, none, none, none, none, none, none, none, none, none, none, none, none, none, none, none, none, none, none, none, none, none, none, none, none, none, none, none, none, none, none, none, none, none, none, none, none, none, none, none, none, none] := g
  have c1 : G3.2.2.1 = m + 3 := g.2.1
  have c2 : G3.2.2.2 = G.2.2.2 + 4816 := by
    have h := g.2.2.1
    simp only [List.map_cons, List.map_nil, List.sum_cons, List.sum_nil] at h
    omega
  have c3 : (G3.2.1 p).1 = 11 := by rw [(g.2.2.2.1 p hp).1, hk]
  simp (disch := omega) only [e_150_63, e_150_64, e_150_65, e_150_67, mk_2, c1, c3, show (3 : Int).toNat = 3 from rfl]
  repeat' first | (refine And.intro ?_ ?_) | exact True.intro | omega
  refine w_arr2 (K := fun v G => q_wp d 150 70 [.inr (.inr (.inl (some p)))] [] v G Q) (kd := 20) (n := 3) (k := 5) hp g z (by first | (simp; done) | (simp; omega)) (by simp) (fun v4 G4 g z => ?_)
  clear c1 c2 c3
  have g : gx m G G4 p [((20, 8), []), ((20, 8), []), ((20, 4800), []), ((20, 3), [])] [none, none, some (32 + (m + 0)), some (32 + (m + 1)), some (32 + (m + 2)), some (32 + (m + 3)), none, none, none, none, none, none, none, none, none, none, none, none, none, none, none, none, none, none, none, none, none, none, none, none, none, none, none, none, none, none, none, none, none, none, none, none, none, none, none, none, none, none, none, none, none, none, none, none, none, none, none, none, none, none, none, none, none, none, none, none] := g
  have c1 : G4.2.2.1 = m + 4 := g.2.1
  have c2 : G4.2.2.2 = G.2.2.2 + 4819 := by
    have h := g.2.2.1
    simp only [List.map_cons, List.map_nil, List.sum_cons, List.sum_nil] at h
    omega
  have c3 : (G4.2.1 p).1 = 11 := by rw [(g.2.2.2.1 p hp).1, hk]
  simp (disch := omega) only [e_150_70, e_150_71, e_150_73, e_150_75, mk_2, c1, c3, show (42 : Int).toNat = 42 from rfl]
  repeat' first | (refine And.intro ?_ ?_) | exact True.intro | omega
  refine w_arr2 (K := fun v G => q_wp d 150 78 [.inr (.inr (.inl (some p)))] [] v G Q) (kd := 20) (n := 42) (k := 6) hp g z (by first | (simp; done) | (simp; omega)) (by simp) (fun v5 G5 g z => ?_)
  clear c1 c2 c3
  have g : gx m G G5 p [((20, 8), []), ((20, 8), []), ((20, 4800), []), ((20, 3), []), ((20, 42), [])] [none, none, some (32 + (m + 0)), some (32 + (m + 1)), some (32 + (m + 2)), some (32 + (m + 3)), some (32 + (m + 4)), none, none, none, none, none, none, none, none, none, none, none, none, none, none, none, none, none, none, none, none, none, none, none, none, none, none, none, none, none, none, none, none, none, none, none, none, none, none, none, none, none, none, none, none, none, none, none, none, none, none, none, none, none, none, none, none, none, none, none] := g
  have c1 : G5.2.2.1 = m + 5 := g.2.1
  have c2 : G5.2.2.2 = G.2.2.2 + 4861 := by
    have h := g.2.2.1
    simp only [List.map_cons, List.map_nil, List.sum_cons, List.sum_nil] at h
    omega
  have c3 : (G5.2.1 p).1 = 11 := by rw [(g.2.2.2.1 p hp).1, hk]
  simp (disch := omega) only [e_150_78, e_150_79, e_150_81, e_150_83, mk_2, c1, c3, show (42 : Int).toNat = 42 from rfl]
  repeat' first | (refine And.intro ?_ ?_) | exact True.intro | omega
  refine w_arr2 (K := fun v G => q_wp d 150 86 [.inr (.inr (.inl (some p)))] [] v G Q) (kd := 20) (n := 42) (k := 7) hp g z (by first | (simp; done) | (simp; omega)) (by simp) (fun v6 G6 g z => ?_)
  clear c1 c2 c3
  have g : gx m G G6 p [((20, 8), []), ((20, 8), []), ((20, 4800), []), ((20, 3), []), ((20, 42), []), ((20, 42), [])] [none, none, some (32 + (m + 0)), some (32 + (m + 1)), some (32 + (m + 2)), some (32 + (m + 3)), some (32 + (m + 4)), some (32 + (m + 5)), none, none, none, none, none, none, none, none, none, none, none, none, none, none, none, none, none, none, none, none, none, none, none, none, none, none, none, none, none, none, none, none, none, none, none, none, none, none, none, none, none, none, none, none, none, none, none, none, none, none, none, none, none, none, none, none, none, none] := g
  have c1 : G6.2.2.1 = m + 6 := g.2.1
  have c2 : G6.2.2.2 = G.2.2.2 + 4903 := by
    have h := g.2.2.1
    simp only [List.map_cons, List.map_nil, List.sum_cons, List.sum_nil] at h
    omega
  have c3 : (G6.2.1 p).1 = 11 := by rw [(g.2.2.2.1 p hp).1, hk]
  simp (disch := omega) only [e_150_86, e_150_87, e_150_89, e_150_91, mk_2, c1, c3, show (16 : Int).toNat = 16 from rfl]
  repeat' first | (refine And.intro ?_ ?_) | exact True.intro | omega
  refine w_arr2 (K := fun v G => q_wp d 150 94 [.inr (.inr (.inl (some p)))] [] v G Q) (kd := 20) (n := 16) (k := 9) hp g z (by first | (simp; done) | (simp; omega)) (by simp) (fun v7 G7 g z => ?_)
  clear c1 c2 c3
  have g : gx m G G7 p [((20, 8), []), ((20, 8), []), ((20, 4800), []), ((20, 3), []), ((20, 42), []), ((20, 42), []), ((20, 16), [])] [none, none, some (32 + (m + 0)), some (32 + (m + 1)), some (32 + (m + 2)), some (32 + (m + 3)), some (32 + (m + 4)), some (32 + (m + 5)), none, some (32 + (m + 6)), none, none, none, none, none, none, none, none, none, none, none, none, none, none, none, none, none, none, none, none, none, none, none, none, none, none, none, none, none, none, none, none, none, none, none, none, none, none, none, none, none, none, none, none, none, none, none, none, none, none, none, none, none, none, none, none] := g
  have c1 : G7.2.2.1 = m + 7 := g.2.1
  have c2 : G7.2.2.2 = G.2.2.2 + 4919 := by
    have h := g.2.2.1
    simp only [List.map_cons, List.map_nil, List.sum_cons, List.sum_nil] at h
    omega
  have c3 : (G7.2.1 p).1 = 11 := by rw [(g.2.2.2.1 p hp).1, hk]
  simp (disch := omega) only [e_150_94, e_150_95, e_150_97, e_150_99, mk_2, c1, c3, show (16 : Int).toNat = 16 from rfl]
  repeat' first | (refine And.intro ?_ ?_) | exact True.intro | omega
  refine w_arr2 (K := fun v G => q_wp d 150 102 [.inr (.inr (.inl (some p)))] [] v G Q) (kd := 20) (n := 16) (k := 10) hp g z (by first | (simp; done) | (simp; omega)) (by simp) (fun v8 G8 g z => ?_)
  clear c1 c2 c3
  have g : gx m G G8 p [((20, 8), []), ((20, 8), []), ((20, 4800), []), ((20, 3), []), ((20, 42), []), ((20, 42), []), ((20, 16), []), ((20, 16), [])] [none, none, some (32 + (m + 0)), some (32 + (m + 1)), some (32 + (m + 2)), some (32 + (m + 3)), some (32 + (m + 4)), some (32 + (m + 5)), none, some (32 + (m + 6)), some (32 + (m + 7)), none, none, none, none, none, none, none, none, none, none, none, none, none, none, none, none, none, none, none, none, none, none, none, none, none, none, none, none, none, none, none, none, none, none, none, none, none, none, none, none, none, none, none, none, none, none, none, none, none, none, none, none, none, none, none] := g
  have c1 : G8.2.2.1 = m + 8 := g.2.1
  have c2 : G8.2.2.2 = G.2.2.2 + 4935 := by
    have h := g.2.2.1
    simp only [List.map_cons, List.map_nil, List.sum_cons, List.sum_nil] at h
    omega
  have c3 : (G8.2.1 p).1 = 11 := by rw [(g.2.2.2.1 p hp).1, hk]
  simp (disch := omega) only [e_150_102, e_150_103, e_150_106, e_150_108, mk_2, c1, c3, show (272 : Int).toNat = 272 from rfl]
  repeat' first | (refine And.intro ?_ ?_) | exact True.intro | omega
  refine w_arr2 (K := fun v G => q_wp d 150 111 [.inr (.inr (.inl (some p)))] [] v G Q) (kd := 20) (n := 272) (k := 11) hp g z (by first | (simp; done) | (simp; omega)) (by simp) (fun v9 G9 g z => ?_)
  clear c1 c2 c3
  have g : gx m G G9 p [((20, 8), []), ((20, 8), []), ((20, 4800), []), ((20, 3), []), ((20, 42), []), ((20, 42), []), ((20, 16), []), ((20, 16), []), ((20, 272), [])] [none, none, some (32 + (m + 0)), some (32 + (m + 1)), some (32 + (m + 2)), some (32 + (m + 3)), some (32 + (m + 4)), some (32 + (m + 5)), none, some (32 + (m + 6)), some (32 + (m + 7)), some (32 + (m + 8)), none, none, none, none, none, none, none, none, none, none, none, none, none, none, none, none, none, none, none, none, none, none, none, none, none, none, none, none, none, none, none, none, none, none, none, none, none, none, none, none, none, none, none, none, none, none, none, none, none, none, none, none, none, none] := g
  have c1 : G9.2.2.1 = m + 9 := g.2.1
  have c2 : G9.2.2.2 = G.2.2.2 + 5207 := by
    have h := g.2.2.1
    simp only [List.map_cons, List.map_nil, List.sum_cons, List.sum_nil] at h
    omega
  have c3 : (G9.2.1 p).1 = 11 := by rw [(g.2.2.2.1 p hp).1, hk]
  simp (disch := omega) only [e_150_111, e_150_112, e_150_115, e_150_117, mk_2, c1, c3, show (272 : Int).toNat = 272 from rfl]
  repeat' first | (refine And.intro ?_ ?_) | exact True.intro | omega
  refine w_arr2 (K := fun v G => q_wp d 150 120 [.inr (.inr (.inl (some p)))] [] v G Q) (kd := 20) (n := 272) (k := 12) hp g z (by first | (simp; done) | (simp; omega)) (by simp) (fun v10 G10 g z => ?_)
  clear c1 c2 c3
  have g : gx m G G10 p [((20, 8), []), ((20, 8), []), ((20, 4800), []), ((20, 3), []), ((20, 42), []), ((20, 42), []), ((20, 16), []), ((20, 16), []), ((20, 272), []), ((20, 272), [])] [none, none, some (32 + (m + 0)), some (32 + (m + 1)), some (32 + (m + 2)), some (32 + (m + 3)), some (32 + (m + 4)), some (32 + (m + 5)), none, some (32 + (m + 6)), some (32 + (m + 7)), some (32 + (m + 8)), some (32 + (m + 9)), none, none, none, none, none, none, none, none, none, none, none, none, none, none, none, none, none, none, none, none, none, none, none, none, none, none, none, none, none, none, none, none, none, none, none, none, none, none, none, none, none, none, none, none, none, none, none, none, none, none, none, none, none] := g
  have c1 : G10.2.2.1 = m + 10 := g.2.1
  have c2 : G10.2.2.2 = G.2.2.2 + 5479 := by
    have h := g.2.2.1
    simp only [List.map_cons, List.map_nil, List.sum_cons, List.sum_nil] at h
    omega
  have c3 : (G10.2.1 p).1 = 11 := by rw [(g.2.2.2.1 p hp).1, hk]
  simp (disch := omega) only [e_150_120, e_150_121, e_150_123, e_150_125, mk_2, c1, c3, show (80 : Int).toNat = 80 from rfl]
  repeat' first | (refine And.intro ?_ ?_) | exact True.intro | omega
  refine w_arr2 (K := fun v G => q_wp d 150 128 [.inr (.inr (.inl (some p)))] [] v G Q) (kd := 20) (n := 80) (k := 14) hp g z (by first | (simp; done) | (simp; omega)) (by simp) (fun v11 G11 g z => ?_)
  clear c1 c2 c3
  have g : gx m G G11 p [((20, 8), []), ((20, 8), []), ((20, 4800), []), ((20, 3), []), ((20, 42), []), ((20, 42), []), ((20, 16), []), ((20, 16), []), ((20, 272), []), ((20, 272), []), ((20, 80), [])] [none, none, some (32 + (m + 0)), some (32 + (m + 1)), some (32 + (m + 2)), some (32 + (m + 3)), some (32 + (m + 4)), some (32 + (m + 5)), none, some (32 + (m + 6)), some (32 + (m + 7)), some (32 + (m + 8)), some (32 + (m + 9)), none, some (32 + (m + 10)), none, none, none, none, none, none, none, none, none, none, none, none, none, none, none, none, none, none, none, none, none, none, none, none, none, none, none, none, none, none, none, none, none, none, none, none, none, none, none, none, none, none, none, none, none, none, none, none, none, none, none] := g
  have c1 : G11.2.2.1 = m + 11 := g.2.1
  have c2 : G11.2.2.2 = G.2.2.2 + 5559 := by
    have h := g.2.2.1
    simp only [List.map_cons, List.map_nil, List.sum_cons, List.sum_nil] at h
    omega
  have c3 : (G11.2.1 p).1 = 11 := by rw [(g.2.2.2.1 p hp).1, hk]
  simp (disch := omega) only [e_150_128, e_150_129, e_150_131, e_150_133, mk_2, c1, c3, show (12 : Int).toNat = 12 from rfl]
  repeat' first | (refine And.intro ?_ ?_) | exact True.intro | omega
  refine w_arr2 (K := fun v G => q_wp d 150 136 [.inr (.inr (.inl (some p)))] [] v G Q) (kd := 20) (n := 12) (k := 16) hp g z (by first | (simp; done) | (simp; omega)) (by simp) (fun v12 G12 g z => ?_)
  clear c1 c2 c3
  have g : gx m G G12 p [((20, 8), []), ((20, 8), []), ((20, 4800), []), ((20, 3), []), ((20, 42), []), ((20, 42), []), ((20, 16), []), ((20, 16), []), ((20, 272), []), ((20, 272), []), ((20, 80), []), ((20, 12), [])] [none, none, some (32 + (m + 0)), some (32 + (m + 1)), some (32 + (m + 2)), some (32 + (m + 3)), some (32 + (m + 4)), some (32 + (m + 5)), none, some (32 + (m + 6)), some (32 + (m + 7)), some (32 + (m + 8)), some (32 + (m + 9)), none, some (32 + (m + 10)), none, some (32 + (m + 11)), none, none, none, none, none, none, none, none, none, none, none, none, none, none, none, none, none, none, none, none, none, none, none, none, none, none, none, none, none, none, none, none, none, none, none, none, none, none, none, none, none, none, none, none, none, none, none, none, none] := g
  have c1 : G12.2.2.1 = m + 12 := g.2.1
  have c2 : G12.2.2.2 = G.2.2.2 + 5571 := by
    have h := g.2.2.1
    simp only [List.map_cons, List.map_nil, List.sum_cons, List.sum_nil] at h
    omega
  have c3 : (G12.2.1 p).1 = 11 := by rw [(g.2.2.2.1 p hp).1, hk]
  simp (disch := omega) only [e_150_136, e_150_137, e_150_139, e_150_141, mk_2, c1, c3, show (12 : Int).toNat = 12 from rfl]
  repeat' first | (refine And.intro ?_ ?_) | exact True.intro | omega
  refine w_arr2 (K := fun v G => q_wp d 150 144 [.inr (.inr (.inl (some p)))] [] v G Q) (kd := 20) (n := 12) (k := 17) hp g z (by first | (simp; done) | (simp; omega)) (by simp) (fun v13 G13 g z => ?_)
  clear c1 c2 c3
  have g : gx m G G13 p [((20, 8), []), ((20, 8), []), ((20, 4800), []), ((20, 3), []), ((20, 42), []), ((20, 42), []), ((20, 16), []), ((20, 16), []), ((20, 272), []), ((20, 272), []), ((20, 80), []), ((20, 12), []), ((20, 12), [])] [none, none, some (32 + (m + 0)), some (32 + (m + 1)), some (32 + (m + 2)), some (32 + (m + 3)), some (32 + (m + 4)), some (32 + (m + 5)), none, some (32 + (m + 6)), some (32 + (m + 7)), some (32 + (m + 8)), some (32 + (m + 9)), none, some (32 + (m + 10)), none, some (32 + (m + 11)), some (32 + (m + 12)), none, none, none, none, none, none, none, none, none, none, none, none, none, none, none, none, none, none, none, none, none, none, none, none, none, none, none, none, none, none, none, none, none, none, none, none, none, none, none, none, none, none, none, none, none, none, none, none] := g
  have c1 : G13.2.2.1 = m + 13 := g.2.1
  have c2 : G13.2.2.2 = G.2.2.2 + 5583 := by
    have h := g.2.2.1
    simp only [List.map_cons, List.map_nil, List.sum_cons, List.sum_nil] at h
    omega
  have c3 : (G13.2.1 p).1 = 11 := by rw [(g.2.2.2.1 p hp).1, hk]
  simp (disch := omega) only [e_150_144, e_150_145, e_150_147, e_150_149, mk_2, c1, c3, show (12 : Int).toNat = 12 from rfl]
  repeat' first | (refine And.intro ?_ ?_) | exact True.intro | omega
  refine w_arr2 (K := fun v G => q_wp d 150 152 [.inr (.inr (.inl (some p)))] [] v G Q) (kd := 20) (n := 12) (k := 18) hp g z (by first | (simp; done) | (simp; omega)) (by simp) (fun v14 G14 g z => ?_)
  clear c1 c2 c3
  have g : gx m G G14 p [((20, 8), []), ((20, 8), []), ((20, 4800), []), ((20, 3), []), ((20, 42), []), ((20, 42), []), ((20, 16), []), ((20, 16), []), ((20, 272), []), ((20, 272), []), ((20, 80), []), ((20, 12), []), ((20, 12), []), ((20, 12), [])] [none, none, some (32 + (m + 0)), some (32 + (m + 1)), some (32 + (m + 2)), some (32 + (m + 3)), some (32 + (m + 4)), some (32 + (m + 5)), none, some (32 + (m + 6)), some (32 + (m + 7)), some (32 + (m + 8)), some (32 + (m + 9)), none, some (32 + (m + 10)), none, some (32 + (m + 11)), some (32 + (m + 12)), some (32 + (m + 13)), none, none, none, none, none, none, none, none, none, none, none, none, none, none, none, none, none, none, none, none, none, none, none, none, none, none, none, none, none, none, none, none, none, none, none, none, none, none, none, none, none, none, none, none, none, none, none] := g
  have c1 : G14.2.2.1 = m + 14 := g.2.1
  have c2 : G14.2.2.2 = G.2.2.2 + 5595 := by
    have h := g.2.2.1
    simp only [List.map_cons, List.map_nil, List.sum_cons, List.sum_nil] at h
    omega
  have c3 : (G14.2.1 p).1 = 11 := by rw [(g.2.2.2.1 p hp).1, hk]
  simp (disch := omega) only [e_150_152, e_150_153, e_150_155, e_150_157, mk_2, c1, c3, show (12 : Int).toNat = 12 from rfl]
  repeat' first | (refine And.intro ?_ ?_) | exact True.intro | omega
  refine w_arr2 (K := fun v G => q_wp d 150 160 [.inr (.inr (.inl (some p)))] [] v G Q) (kd := 20) (n := 12) (k := 19) hp g z (by first | (simp; done) | (simp; omega)) (by simp) (fun v15 G15 g z => ?_)
  clear c1 c2 c3
  have g : gx m G G15 p [((20, 8), []), ((20, 8), []), ((20, 4800), []), ((20, 3), []), ((20, 42), []), ((20, 42), []), ((20, 16), []), ((20, 16), []), ((20, 272), []), ((20, 272), []), ((20, 80), []), ((20, 12), []), ((20, 12), []), ((20, 12), []), ((20, 12), [])] [none, none, some (32 + (m + 0)), some (32 + (m + 1)), some (32 + (m + 2)), some (32 + (m + 3)), some (32 + (m + 4)), some (32 + (m + 5)), none, some (32 + (m + 6)), some (32 + (m + 7)), some (32 + (m + 8)), some (32 + (m + 9)), none, some (32 + (m + 10)), none, some (32 + (m + 11)), some (32 + (m + 12)), some (32 + (m + 13)), some (32 + (m + 14)), none, none, none, none, none, none, none, none, none, none, none, none, none, none, none, none, none, none, none, none, none, none, none, none, none, none, none, none, none, none, none, none, none, none, none, none, none, none, none, none, none, none, none, none, none, none] := g
  have c1 : G15.2.2.1 = m + 15 := g.2.1
  have c2 : G15.2.2.2 = G.2.2.2 + 5607 := by
    have h := g.2.2.1
    simp only [List.map_cons, List.map_nil, List.sum_cons, List.sum_nil] at h
    omega
  have c3 : (G15.2.1 p).1 = 11 := by rw [(g.2.2.2.1 p hp).1, hk]
  simp (disch := omega) only [e_150_160, e_150_161, e_150_163, e_150_165, mk_2, c1, c3, show (12 : Int).toNat = 12 from rfl]
  repeat' first | (refine And.intro ?_ ?_) | exact True.intro | omega
  refine w_arr2 (K := fun v G => q_wp d 150 168 [.inr (.inr (.inl (some p)))] [] v G Q) (kd := 20) (n := 12) (k := 20) hp g z (by first | (simp; done) | (simp; omega)) (by simp) (fun v16 G16 g z => ?_)
  clear c1 c2 c3
  have g : gx m G G16 p [((20, 8), []), ((20, 8), []), ((20, 4800), []), ((20, 3), []), ((20, 42), []), ((20, 42), []), ((20, 16), []), ((20, 16), []), ((20, 272), []), ((20, 272), []), ((20, 80), []), ((20, 12), []), ((20, 12), []), ((20, 12), []), ((20, 12), []), ((20, 12), [])] [none, none, some (32 + (m + 0)), some (32 + (m + 1)), some (32 + (m + 2)), some (32 + (m + 3)), some (32 + (m + 4)), some (32 + (m + 5)), none, some (32 + (m + 6)), some (32 + (m + 7)), some (32 + (m + 8)), some (32 + (m + 9)), none, some (32 + (m + 10)), none, some (32 + (m + 11)), some (32 + (m + 12)), some (32 + (m + 13)), some (32 + (m + 14)), some (32 + (m + 15)), none, none, none, none, none, none, none, none, none, none, none, none, none, none, none, none, none, none, none, none, none, none, none, none, none, none, none, none, none, none, none, none, none, none, none, none, none, none, none, none, none, none, none, none, none] := g
  have c1 : G16.2.2.1 = m + 16 := g.2.1
  have c2 : G16.2.2.2 = G.2.2.2 + 5619 := by
    have h := g.2.2.1
    simp only [List.map_cons, List.map_nil, List.sum_cons, List.sum_nil] at h
    omega
  have c3 : (G16.2.1 p).1 = 11 := by rw [(g.2.2.2.1 p hp).1, hk]
  simp (disch := omega) only [e_150_168, e_150_169, e_150_172, e_150_174, mk_2, c1, c3, show (200 : Int).toNat = 200 from rfl]
  repeat' first | (refine And.intro ?_ ?_) | exact True.intro | omega
  refine w_arr2 (K := fun v G => q_wp d 150 177 [.inr (.inr (.inl (some p)))] [] v G Q) (kd := 20) (n := 200) (k := 22) hp g z (by first | (simp; done) | (simp; omega)) (by simp) (fun v17 G17 g z => ?_)
  clear c1 c2 c3
  have g : gx m G G17 p [((20, 8), []), ((20, 8), []), ((20, 4800), []), ((20, 3), []), ((20, 42), []), ((20, 42), []), ((20, 16), []), ((20, 16), []), ((20, 272), []), ((20, 272), []), ((20, 80), []), ((20, 12), []), ((20, 12), []), ((20, 12), []), ((20, 12), []), ((20, 12), []), ((20, 200), [])] [none, none, some (32 + (m + 0)), some (32 + (m + 1)), some (32 + (m + 2)), some (32 + (m + 3)), some (32 + (m + 4)), some (32 + (m + 5)), none, some (32 + (m + 6)), some (32 + (m + 7)), some (32 + (m + 8)), some (32 + (m + 9)), none, some (32 + (m + 10)), none, some (32 + (m + 11)), some (32 + (m + 12)), some (32 + (m + 13)), some (32 + (m + 14)), some (32 + (m + 15)), none, some (32 + (m + 16)), none, none, none, none, none, none, none, none, none, none, none, none, none, none, none, none, none, none, none, none, none, none, none, none, none, none, none, none, none, none, none, none, none, none, none, none, none, none, none, none, none, none, none] := g
  have c1 : G17.2.2.1 = m + 17 := g.2.1
  have c2 : G17.2.2.2 = G.2.2.2 + 5819 := by
    have h := g.2.2.1
    simp only [List.map_cons, List.map_nil, List.sum_cons, List.sum_nil] at h
    omega
  have c3 : (G17.2.1 p).1 = 11 := by rw [(g.2.2.2.1 p hp).1, hk]
  simp (disch := omega) only [e_150_177, e_150_178, e_150_181, e_150_183, mk_2, c1, c3, show (600 : Int).toNat = 600 from rfl]
  repeat' first | (refine And.intro ?_ ?_) | exact True.intro | omega
  refine w_arr2 (K := fun v G => q_wp d 150 186 [.inr (.inr (.inl (some p)))] [] v G Q) (kd := 20) (n := 600) (k := 33) hp g z (by first | (simp; done) | (simp; omega)) (by simp) (fun v18 G18 g z => ?_)
  clear c1 c2 c3
  have g : gx m G G18 p [((20, 8), []), ((20, 8), []), ((20, 4800), []), ((20, 3), []), ((20, 42), []), ((20, 42), []), ((20, 16), []), ((20, 16), []), ((20, 272), []), ((20, 272), []), ((20, 80), []), ((20, 12), []), ((20, 12), []), ((20, 12), []), ((20, 12), []), ((20, 12), []), ((20, 200), []), ((20, 600), [])] [none, none, some (32 + (m + 0)), some (32 + (m + 1)), some (32 + (m + 2)), some (32 + (m + 3)), some (32 + (m + 4)), some (32 + (m + 5)), none, some (32 + (m + 6)), some (32 + (m + 7)), some (32 + (m + 8)), some (32 + (m + 9)), none, some (32 + (m + 10)), none, some (32 + (m + 11)), some (32 + (m + 12)), some (32 + (m + 13)), some (32 + (m + 14)), some (32 + (m + 15)), none, some (32 + (m + 16)), none, none, none, none, none, none, none, none, none, none, some (32 + (m + 17)), none, none, none, none, none, none, none, none, none, none, none, none, none, none, none, none, none, none, none, none, none, none, none, none, none, none, none, none, none, none, none, none] := g
  have c1 : G18.2.2.1 = m + 18 := g.2.1
  have c2 : G18.2.2.2 = G.2.2.2 + 6419 := by
    have h := g.2.2.1
    simp only [List.map_cons, List.map_nil, List.sum_cons, List.sum_nil] at h
    omega
  have c3 : (G18.2.1 p).1 = 11 := by rw [(g.2.2.2.1 p hp).1, hk]
  simp (disch := omega) only [e_150_186, e_150_187, e_150_189, e_150_191, mk_2, c1, c3, show (16 : Int).toNat = 16 from rfl]
  repeat' first | (refine And.intro ?_ ?_) | exact True.intro | omega
  refine w_arr2 (K := fun v G => q_wp d 150 194 [.inr (.inr (.inl (some p)))] [] v G Q) (kd := 21) (n := 16) (k := 34) hp g z (by first | (simp; done) | (simp; omega)) (by simp) (fun v19 G19 g z => ?_)
  clear c1 c2 c3
  have g : gx m G G19 p [((20, 8), []), ((20, 8), []), ((20, 4800), []), ((20, 3), []), ((20, 42), []), ((20, 42), []), ((20, 16), []), ((20, 16), []), ((20, 272), []), ((20, 272), []), ((20, 80), []), ((20, 12), []), ((20, 12), []), ((20, 12), []), ((20, 12), []), ((20, 12), []), ((20, 200), []), ((20, 600), []), ((21, 16), [])] [none, none, some (32 + (m + 0)), some (32 + (m + 1)), some (32 + (m + 2)), some (32 + (m + 3)), some (32 + (m + 4)), some (32 + (m + 5)), none, some (32 + (m + 6)), some (32 + (m + 7)), some (32 + (m + 8)), some (32 + (m + 9)), none, some (32 + (m + 10)), none, some (32 + (m + 11)), some (32 + (m + 12)), some (32 + (m + 13)), some (32 + (m + 14)), some (32 + (m + 15)), none, some (32 + (m + 16)), none, none, none, none, none, none, none, none, none, none, some (32 + (m + 17)), some (32 + (m + 18)), none, none, none, none, none, none, none, none, none, none, none, none, none, none, none, none, none, none, none, none, none, none, none, none, none, none, none, none, none, none, none] := g
  have c1 : G19.2.2.1 = m + 19 := g.2.1
  have c2 : G19.2.2.2 = G.2.2.2 + 6435 := by
    have h := g.2.2.1
    simp only [List.map_cons, List.map_nil, List.sum_cons, List.sum_nil] at h
    omega
  have c3 : (G19.2.1 p).1 = 11 := by rw [(g.2.2.2.1 p hp).1, hk]
  simp (disch := omega) only [e_150_194, e_150_195, e_150_197, e_150_199, mk_2, c1, c3, show (40 : Int).toNat = 40 from rfl]
  repeat' first | (refine And.intro ?_ ?_) | exact True.intro | omega
  refine w_arr2 (K := fun v G => q_wp d 150 202 [.inr (.inr (.inl (some p)))] [] v G Q) (kd := 20) (n := 40) (k := 35) hp g z (by first | (simp; done) | (simp; omega)) (by simp) (fun v20 G20 g z => ?_)
  clear c1 c2 c3
  have g : gx m G G20 p [((20, 8), []), ((20, 8), []), ((20, 4800), []), ((20, 3), []), ((20, 42), []), ((20, 42), []), ((20, 16), []), ((20, 16), []), ((20, 272), []), ((20, 272), []), ((20, 80), []), ((20, 12), []), ((20, 12), []), ((20, 12), []), ((20, 12), []), ((20, 12), []), ((20, 200), []), ((20, 600), []), ((21, 16), []), ((20, 40), [])] [none, none, some (32 + (m + 0)), some (32 + (m + 1)), some (32 + (m + 2)), some (32 + (m + 3)), some (32 + (m + 4)), some (32 + (m + 5)), none, some (32 + (m + 6)), some (32 + (m + 7)), some (32 + (m + 8)), some (32 + (m + 9)), none, some (32 + (m + 10)), none, some (32 + (m + 11)), some (32 + (m + 12)), some (32 + (m + 13)), some (32 + (m + 14)), some (32 + (m + 15)), none, some (32 + (m + 16)), none, none, none, none, none, none, none, none, none, none, some (32 + (m + 17)), some (32 + (m + 18)), some (32 + (m + 19)), none, none, none, none, none, none, none, none, none, none, none, none, none, none, none, none, none, none, none, none, none, none, none, none, none, none, none, none, none, none] := g
  have c1 : G20.2.2.1 = m + 20 := g.2.1
  have c2 : G20.2.2.2 = G.2.2.2 + 6475 := by
    have h := g.2.2.1
    simp only [List.map_cons, List.map_nil, List.sum_cons, List.sum_nil] at h
    omega
  have c3 : (G20.2.1 p).1 = 11 := by rw [(g.2.2.2.1 p hp).1, hk]
  simp (disch := omega) only [e_150_202, e_150_203, e_150_205, e_150_207, mk_2, c1, c3, show (40 : Int).toNat = 40 from rfl]
  repeat' first | (refine And.intro ?_ ?_) | exact True.intro | omega
  refine w_arr2 (K := fun v G => q_wp d 150 210 [.inr (.inr (.inl (some p)))] [] v G Q) (kd := 20) (n := 40) (k := 36) hp g z (by first | (simp; done) | (simp; omega)) (by simp) (fun v21 G21 g z => ?_)
  clear c1 c2 c3
  have g : gx m G G21 p [((20, 8), []), ((20, 8), []), ((20, 4800), []), ((20, 3), []), ((20, 42), []), ((20, 42), []), ((20, 16), []), ((20, 16), []), ((20, 272), []), ((20, 272), []), ((20, 80), []), ((20, 12), []), ((20, 12), []), ((20, 12), []), ((20, 12), []), ((20, 12), []), ((20, 200), []), ((20, 600), []), ((21, 16), []), ((20, 40), []), ((20, 40), [])] [none, none, some (32 + (m + 0)), some (32 + (m + 1)), some (32 + (m + 2)), some (32 + (m + 3)), some (32 + (m + 4)), some (32 + (m + 5)), none, some (32 + (m + 6)), some (32 + (m + 7)), some (32 + (m + 8)), some (32 + (m + 9)), none, some (32 + (m + 10)), none, some (32 + (m + 11)), some (32 + (m + 12)), some (32 + (m + 13)), some (32 + (m + 14)), some (32 + (m + 15)), none, some (32 + (m + 16)), none, none, none, none, none, none, none, none, none, none, some (32 + (m + 17)), some (32 + (m + 18)), some (32 + (m + 19)), some (32 + (m + 20)), none, none, none, none, none, none, none, none, none, none, none, none, none, none, none, none, none, none, none, none, none, none, none, none, none, none, none, none, none] := g
  have c1 : G21.2.2.1 = m + 21 := g.2.1
  have c2 : G21.2.2.2 = G.2.2.2 + 6515 := by
    have h := g.2.2.1
    simp only [List.map_cons, List.map_nil, List.sum_cons, List.sum_nil] at h
    omega
  have c3 : (G21.2.1 p).1 = 11 := by rw [(g.2.2.2.1 p hp).1, hk]
  simp (disch := omega) only [e_150_210, e_150_211, e_150_213, e_150_215, mk_2, c1, c3, show (64 : Int).toNat = 64 from rfl]
  repeat' first | (refine And.intro ?_ ?_) | exact True.intro | omega
  refine w_arr2 (K := fun v G => q_wp d 150 218 [.inr (.inr (.inl (some p)))] [] v G Q) (kd := 20) (n := 64) (k := 38) hp g z (by first | (simp; done) | (simp; omega)) (by simp) (fun v22 G22 g z => ?_)
  clear c1 c2 c3
  have g : gx m G G22 p [((20, 8), []), ((20, 8), []), ((20, 4800), []), ((20, 3), []), ((20, 42), []), ((20, 42), []), ((20, 16), []), ((20, 16), []), ((20, 272), []), ((20, 272), []), ((20, 80), []), ((20, 12), []), ((20, 12), []), ((20, 12), []), ((20, 12), []), ((20, 12), []), ((20, 200), []), ((20, 600), []), ((21, 16), []), ((20, 40), []), ((20, 40), []), ((20, 64), [])] [none, none, some (32 + (m + 0)), some (32 + (m + 1)), some (32 + (m + 2)), some (32 + (m + 3)), some (32 + (m + 4)), some (32 + (m + 5)), none, some (32 + (m + 6)), some (32 + (m + 7)), some (32 + (m + 8)), some (32 + (m + 9)), none, some (32 + (m + 10)), none, some (32 + (m + 11)), some (32 + (m + 12)), some (32 + (m + 13)), some (32 + (m + 14)), some (32 + (m + 15)), none, some (32 + (m + 16)), none, none, none, none, none, none, none, none, none, none, some (32 + (m + 17)), some (32 + (m + 18)), some (32 + (m + 19)), some (32 + (m + 20)), none, some (32 + (m + 21)), none, none, none, none, none, none, none, none, none, none, none, none, none, none, none, none, none, none, none, none, none, none, none, none, none, none, none] := g
  have c1 : G22.2.2.1 = m + 22 := g.2.1
  have c2 : G22.2.2.2 = G.2.2.2 + 6579 := by
    have h := g.2.2.1
    simp only [List.map_cons, List.map_nil, List.sum_cons, List.sum_nil] at h
    omega
  have c3 : (G22.2.1 p).1 = 11 := by rw [(g.2.2.2.1 p hp).1, hk]
  simp (disch := omega) only [e_150_218, e_150_219, e_150_222, e_150_224, mk_2, c1, c3, show (600 : Int).toNat = 600 from rfl]
  repeat' first | (refine And.intro ?_ ?_) | exact True.intro | omega
  refine w_arr2 (K := fun v G => q_wp d 150 227 [.inr (.inr (.inl (some p)))] [] v G Q) (kd := 20) (n := 600) (k := 40) hp g z (by first | (simp; done) | (simp; omega)) (by simp) (fun v23 G23 g z => ?_)
  clear c1 c2 c3
  have g : gx m G G23 p [((20, 8), []), ((20, 8), []), ((20, 4800), []), ((20, 3), []), ((20, 42), []), ((20, 42), []), ((20, 16), []), ((20, 16), []), ((20, 272), []), ((20, 272), []), ((20, 80), []), ((20, 12), []), ((20, 12), []), ((20, 12), []), ((20, 12), []), ((20, 12), []), ((20, 200), []), ((20, 600), []), ((21, 16), []), ((20, 40), []), ((20, 40), []), ((20, 64), []), ((20, 600), [])] [none, none, some (32 + (m + 0)), some (32 + (m + 1)), some (32 + (m + 2)), some (32 + (m + 3)), some (32 + (m + 4)), some (32 + (m + 5)), none, some (32 + (m + 6)), some (32 + (m + 7)), some (32 + (m + 8)), some (32 + (m + 9)), none, some (32 + (m + 10)), none, some (32 + (m + 11)), some (32 + (m + 12)), some (32 + (m + 13)), some (32 + (m + 14)), some (32 + (m + 15)), none, some (32 + (m + 16)), none, none, none, none, none, none, none, none, none, none, some (32 + (m + 17)), some (32 + (m + 18)), some (32 + (m + 19)), some (32 + (m + 20)), none, some (32 + (m + 21)), none, some (32 + (m + 22)), none, none, none, none, none, none, none, none, none, none, none, none, none, none, none, none, none, none, none, none, none, none, none, none, none] := g
  have c1 : G23.2.2.1 = m + 23 := g.2.1
  have c2 : G23.2.2.2 = G.2.2.2 + 7179 := by
    have h := g.2.2.1
    simp only [List.map_cons, List.map_nil, List.sum_cons, List.sum_nil] at h
    omega
  have c3 : (G23.2.1 p).1 = 11 := by rw [(g.2.2.2.1 p hp).1, hk]
  simp (disch := omega) only [e_150_227, e_150_228, e_150_230, e_150_232, mk_2, c1, c3, show (16 : Int).toNat = 16 from rfl]
  repeat' first | (refine And.intro ?_ ?_) | exact True.intro | omega
  refine w_arr2 (K := fun v G => q_wp d 150 235 [.inr (.inr (.inl (some p)))] [] v G Q) (kd := 21) (n := 16) (k := 45) hp g z (by first | (simp; done) | (simp; omega)) (by simp) (fun v24 G24 g z => ?_)
  clear c1 c2 c3
  have g : gx m G G24 p [((20, 8), []), ((20, 8), []), ((20, 4800), []), ((20, 3), []), ((20, 42), []), ((20, 42), []), ((20, 16), []), ((20, 16), []), ((20, 272), []), ((20, 272), []), ((20, 80), []), ((20, 12), []), ((20, 12), []), ((20, 12), []), ((20, 12), []), ((20, 12), []), ((20, 200), []), ((20, 600), []), ((21, 16), []), ((20, 40), []), ((20, 40), []), ((20, 64), []), ((20, 600), []), ((21, 16), [])] [none, none, some (32 + (m + 0)), some (32 + (m + 1)), some (32 + (m + 2)), some (32 + (m + 3)), some (32 + (m + 4)), some (32 + (m + 5)), none, some (32 + (m + 6)), some (32 + (m + 7)), some (32 + (m + 8)), some (32 + (m + 9)), none, some (32 + (m + 10)), none, some (32 + (m + 11)), some (32 + (m + 12)), some (32 + (m + 13)), some (32 + (m + 14)), some (32 + (m + 15)), none, some (32 + (m + 16)), none, none, none, none, none, none, none, none, none, none, some (32 + (m + 17)), some (32 + (m + 18)), some (32 + (m + 19)), some (32 + (m + 20)), none, some (32 + (m + 21)), none, some (32 + (m + 22)), none, none, none, none, some (32 + (m + 23)), none, none, none, none, none, none, none, none, none, none, none, none, none, none, none, none, none, none, none, none] := g
  have c1 : G24.2.2.1 = m + 24 := g.2.1
  have c2 : G24.2.2.2 = G.2.2.2 + 7195 := by
    have h := g.2.2.1
    simp only [List.map_cons, List.map_nil, List.sum_cons, List.sum_nil] at h
    omega
  have c3 : (G24.2.1 p).1 = 11 := by rw [(g.2.2.2.1 p hp).1, hk]
  simp (disch := omega) only [e_150_235, e_150_236, e_150_238, e_150_240, mk_2, c1, c3, show (16 : Int).toNat = 16 from rfl]
  repeat' first | (refine And.intro ?_ ?_) | exact True.intro | omega
  refine w_arr2 (K := fun v G => q_wp d 150 243 [.inr (.inr (.inl (some p)))] [] v G Q) (kd := 20) (n := 16) (k := 46) hp g z (by first | (simp; done) | (simp; omega)) (by simp) (fun v25 G25 g z => ?_)
  clear c1 c2 c3
  have g : gx m G G25 p [((20, 8), []), ((20, 8), []), ((20, 4800), []), ((20, 3), []), ((20, 42), []), ((20, 42), []), ((20, 16), []), ((20, 16), []), ((20, 272), []), ((20, 272), []), ((20, 80), []), ((20, 12), []), ((20, 12), []), ((20, 12), []), ((20, 12), []), ((20, 12), []), ((20, 200), []), ((20, 600), []), ((21, 16), []), ((20, 40), []), ((20, 40), []), ((20, 64), []), ((20, 600), []), ((21, 16), []), ((20, 16), [])] [none, none, some (32 + (m + 0)), some (32 + (m + 1)), some (32 + (m + 2)), some (32 + (m + 3)), some (32 + (m + 4)), some (32 + (m + 5)), none, some (32 + (m + 6)), some (32 + (m + 7)), some (32 + (m + 8)), some (32 + (m + 9)), none, some (32 + (m + 10)), none, some (32 + (m + 11)), some (32 + (m + 12)), some (32 + (m + 13)), some (32 + (m + 14)), some (32 + (m + 15)), none, some (32 + (m + 16)), none, none, none, none, none, none, none, none, none, none, some (32 + (m + 17)), some (32 + (m + 18)), some (32 + (m + 19)), some (32 + (m + 20)), none, some (32 + (m + 21)), none, some (32 + (m + 22)), none, none, none, none, some (32 + (m + 23)), some (32 + (m + 24)), none, none, none, none, none, none, none, none, none, none, none, none, none, none, none, none, none, none, none] := g
  have c1 : G25.2.2.1 = m + 25 := g.2.1
  have c2 : G25.2.2.2 = G.2.2.2 + 7211 := by
    have h := g.2.2.1
    simp only [List.map_cons, List.map_nil, List.sum_cons, List.sum_nil] at h
    omega
  have c3 : (G25.2.1 p).1 = 11 := by rw [(g.2.2.2.1 p hp).1, hk]
  simp (disch := omega) only [e_150_243, e_150_244, e_150_246, e_150_248, mk_2, c1, c3, show (16 : Int).toNat = 16 from rfl]
  repeat' first | (refine And.intro ?_ ?_) | exact True.intro | omega
  refine w_arr2 (K := fun v G => q_wp d 150 251 [.inr (.inr (.inl (some p)))] [] v G Q) (kd := 20) (n := 16) (k := 47) hp g z (by first | (simp; done) | (simp; omega)) (by simp) (fun v26 G26 g z => ?_)
  clear c1 c2 c3
  have g : gx m G G26 p [((20, 8), []), ((20, 8), []), ((20, 4800), []), ((20, 3), []), ((20, 42), []), ((20, 42), []), ((20, 16), []), ((20, 16), []), ((20, 272), []), ((20, 272), []), ((20, 80), []), ((20, 12), []), ((20, 12), []), ((20, 12), []), ((20, 12), []), ((20, 12), []), ((20, 200), []), ((20, 600), []), ((21, 16), []), ((20, 40), []), ((20, 40), []), ((20, 64), []), ((20, 600), []), ((21, 16), []), ((20, 16), []), ((20, 16), [])] [none, none, some (32 + (m + 0)), some (32 + (m + 1)), some (32 + (m + 2)), some (32 + (m + 3)), some (32 + (m + 4)), some (32 + (m + 5)), none, some (32 + (m + 6)), some (32 + (m + 7)), some (32 + (m + 8)), some (32 + (m + 9)), none, some (32 + (m + 10)), none, some (32 + (m + 11)), some (32 + (m + 12)), some (32 + (m + 13)), some (32 + (m + 14)), some (32 + (m + 15)), none, some (32 + (m + 16)), none, none, none, none, none, none, none, none, none, none, some (32 + (m + 17)), some (32 + (m + 18)), some (32 + (m + 19)), some (32 + (m + 20)), none, some (32 + (m + 21)), none, some (32 + (m + 22)), none, none, none, none, some (32 + (m + 23)), some (32 + (m + 24)), some (32 + (m + 25)), none, none, none, none, none, none, none, none, none, none, none, none, none, none, none, none, none, none] := g
  have c1 : G26.2.2.1 = m + 26 := g.2.1
  have c2 : G26.2.2.2 = G.2.2.2 + 7227 := by
    have h := g.2.2.1
    simp only [List.map_cons, List.map_nil, List.sum_cons, List.sum_nil] at h
    omega
  have c3 : (G26.2.1 p).1 = 11 := by rw [(g.2.2.2.1 p hp).1, hk]
  simp (disch := omega) only [e_150_251, e_150_252, e_150_254, e_150_256, mk_2, c1, c3, show (16 : Int).toNat = 16 from rfl]
  repeat' first | (refine And.intro ?_ ?_) | exact True.intro | omega
  refine w_arr2 (K := fun v G => q_wp d 150 259 [.inr (.inr (.inl (some p)))] [] v G Q) (kd := 20) (n := 16) (k := 48) hp g z (by first | (simp; done) | (simp; omega)) (by simp) (fun v27 G27 g z => ?_)
  clear c1 c2 c3
  have g : gx m G G27 p [((20, 8), []), ((20, 8), []), ((20, 4800), []), ((20, 3), []), ((20, 42), []), ((20, 42), []), ((20, 16), []), ((20, 16), []), ((20, 272), []), ((20, 272), []), ((20, 80), []), ((20, 12), []), ((20, 12), []), ((20, 12), []), ((20, 12), []), ((20, 12), []), ((20, 200), []), ((20, 600), []), ((21, 16), []), ((20, 40), []), ((20, 40), []), ((20, 64), []), ((20, 600), []), ((21, 16), []), ((20, 16), []), ((20, 16), []), ((20, 16), [])] [none, none, some (32 + (m + 0)), some (32 + (m + 1)), some (32 + (m + 2)), some (32 + (m + 3)), some (32 + (m + 4)), some (32 + (m + 5)), none, some (32 + (m + 6)), some (32 + (m + 7)), some (32 + (m + 8)), some (32 + (m + 9)), none, some (32 + (m + 10)), none, some (32 + (m + 11)), some (32 + (m + 12)), some (32 + (m + 13)), some (32 + (m + 14)), some (32 + (m + 15)), none, some (32 + (m + 16)), none, none, none, none, none, none, none, none, none, none, some (32 + (m + 17)), some (32 + (m + 18)), some (32 + (m + 19)), some (32 + (m + 20)), none, some (32 + (m + 21)), none, some (32 + (m + 22)), none, none, none, none, some (32 + (m + 23)), some (32 + (m + 24)), some (32 + (m + 25)), some (32 + (m + 26)), none, none, none, none, none, none, none, none, none, none, none, none, none, none, none, none, none] := g
  have c1 : G27.2.2.1 = m + 27 := g.2.1
  have c2 : G27.2.2.2 = G.2.2.2 + 7243 := by
    have h := g.2.2.1
    simp only [List.map_cons, List.map_nil, List.sum_cons, List.sum_nil] at h
    omega
  have c3 : (G27.2.1 p).1 = 11 := by rw [(g.2.2.2.1 p hp).1, hk]
  simp (disch := omega) only [e_150_259, e_150_260, e_150_262, e_150_264, mk_2, c1, c3, show (40 : Int).toNat = 40 from rfl]
  repeat' first | (refine And.intro ?_ ?_) | exact True.intro | omega
  refine w_arr2 (K := fun v G => q_wp d 150 267 [.inr (.inr (.inl (some p)))] [] v G Q) (kd := 20) (n := 40) (k := 49) hp g z (by first | (simp; done) | (simp; omega)) (by simp) (fun v28 G28 g z => ?_)
  clear c1 c2 c3
  have g : gx m G G28 p [((20, 8), []), ((20, 8), []), ((20, 4800), []), ((20, 3), []), ((20, 42), []), ((20, 42), []), ((20, 16), []), ((20, 16), []), ((20, 272), []), ((20, 272), []), ((20, 80), []), ((20, 12), []), ((20, 12), []), ((20, 12), []), ((20, 12), []), ((20, 12), []), ((20, 200), []), ((20, 600), []), ((21, 16), []), ((20, 40), []), ((20, 40), []), ((20, 64), []), ((20, 600), []), ((21, 16), []), ((20, 16), []), ((20, 16), []), ((20, 16), []), ((20, 40), [])] [none, none, some (32 + (m + 0)), some (32 + (m + 1)), some (32 + (m + 2)), some (32 + (m + 3)), some (32 + (m + 4)), some (32 + (m + 5)), none, some (32 + (m + 6)), some (32 + (m + 7)), some (32 + (m + 8)), some (32 + (m + 9)), none, some (32 + (m + 10)), none, some (32 + (m + 11)), some (32 + (m + 12)), some (32 + (m + 13)), some (32 + (m + 14)), some (32 + (m + 15)), none, some (32 + (m + 16)), none, none, none, none, none, none, none, none, none, none, some (32 + (m + 17)), some (32 + (m + 18)), some (32 + (m + 19)), some (32 + (m + 20)), none, some (32 + (m + 21)), none, some (32 + (m + 22)), none, none, none, none, some (32 + (m + 23)), some (32 + (m + 24)), some (32 + (m + 25)), some (32 + (m + 26)), some (32 + (m + 27)), none, none, none, none, none, none, none, none, none, none, none, none, none, none, none, none] := g
  have c1 : G28.2.2.1 = m + 28 := g.2.1
  have c2 : G28.2.2.2 = G.2.2.2 + 7283 := by
    have h := g.2.2.1
    simp only [List.map_cons, List.map_nil, List.sum_cons, List.sum_nil] at h
    omega
  have c3 : (G28.2.1 p).1 = 11 := by rw [(g.2.2.2.1 p hp).1, hk]
  simp (disch := omega) only [e_150_267, e_150_268, e_150_270, e_150_272, mk_2, c1, c3, show (40 : Int).toNat = 40 from rfl]
  repeat' first | (refine And.intro ?_ ?_) | exact True.intro | omega
  refine w_arr2 (K := fun v G => q_wp d 150 275 [.inr (.inr (.inl (some p)))] [] v G Q) (kd := 20) (n := 40) (k := 50) hp g z (by first | (simp; done) | (simp; omega)) (by simp) (fun v29 G29 g z => ?_)
  clear c1 c2 c3
  have g : gx m G G29 p [((20, 8), []), ((20, 8), []), ((20, 4800), []), ((20, 3), []), ((20, 42), []), ((20, 42), []), ((20, 16), []), ((20, 16), []), ((20, 272), []), ((20, 272), []), ((20, 80), []), ((20, 12), []), ((20, 12), []), ((20, 12), []), ((20, 12), []), ((20, 12), []), ((20, 200), []), ((20, 600), []), ((21, 16), []), ((20, 40), []), ((20, 40), []), ((20, 64), []), ((20, 600), []), ((21, 16), []), ((20, 16), []), ((20, 16), []), ((20, 16), []), ((20, 40), []), ((20, 40), [])] [none, none, some (32 + (m + 0)), some (32 + (m + 1)), some (32 + (m + 2)), some (32 + (m + 3)), some (32 + (m + 4)), some (32 + (m + 5)), none, some (32 + (m + 6)), some (32 + (m + 7)), some (32 + (m + 8)), some (32 + (m + 9)), none, some (32 + (m + 10)), none, some (32 + (m + 11)), some (32 + (m + 12)), some (32 + (m + 13)), some (32 + (m + 14)), some (32 + (m + 15)), none, some (32 + (m + 16)), none, none, none, none, none, none, none, none, none, none, some (32 + (m + 17)), some (32 + (m + 18)), some (32 + (m + 19)), some (32 + (m + 20)), none, some (32 + (m + 21)), none, some (32 + (m + 22)), none, none, none, none, some (32 + (m + 23)), some (32 + (m + 24)), some (32 + (m + 25)), some (32 + (m + 26)), some (32 + (m + 27)), some (32 + (m + 28)), none, none, none, none, none, none, none, none, none, none, none, none, none, none, none] := g
  have c1 : G29.2.2.1 = m + 29 := g.2.1
  have c2 : G29.2.2.2 = G.2.2.2 + 7323 := by
    have h := g.2.2.1
    simp only [List.map_cons, List.map_nil, List.sum_cons, List.sum_nil] at h
    omega
  have c3 : (G29.2.1 p).1 = 11 := by rw [(g.2.2.2.1 p hp).1, hk]
  simp (disch := omega) only [e_150_275, e_150_276, e_150_278, e_150_280, mk_2, c1, c3, show (40 : Int).toNat = 40 from rfl]
  repeat' first | (refine And.intro ?_ ?_) | exact True.intro | omega
  refine w_arr2 (K := fun v G => q_wp d 150 283 [.inr (.inr (.inl (some p)))] [] v G Q) (kd := 20) (n := 40) (k := 51) hp g z (by first | (simp; done) | (simp; omega)) (by simp) (fun v30 G30 g z => ?_)
  clear c1 c2 c3
  have g : gx m G G30 p [((20, 8), []), ((20, 8), []), ((20, 4800), []), ((20, 3), []), ((20, 42), []), ((20, 42), []), ((20, 16), []), ((20, 16), []), ((20, 272), []), ((20, 272), []), ((20, 80), []), ((20, 12), []), ((20, 12), []), ((20, 12), []), ((20, 12), []), ((20, 12), []), ((20, 200), []), ((20, 600), []), ((21, 16), []), ((20, 40), []), ((20, 40), []), ((20, 64), []), ((20, 600), []), ((21, 16), []), ((20, 16), []), ((20, 16), []), ((20, 16), []), ((20, 40), []), ((20, 40), []), ((20, 40), [])] [none, none, some (32 + (m + 0)), some (32 + (m + 1)), some (32 + (m + 2)), some (32 + (m + 3)), some (32 + (m + 4)), some (32 + (m + 5)), none, some (32 + (m + 6)), some (32 + (m + 7)), some (32 + (m + 8)), some (32 + (m + 9)), none, some (32 + (m + 10)), none, some (32 + (m + 11)), some (32 + (m + 12)), some (32 + (m + 13)), some (32 + (m + 14)), some (32 + (m + 15)), none, some (32 + (m + 16)), none, none, none, none, none, none, none, none, none, none, some (32 + (m + 17)), some (32 + (m + 18)), some (32 + (m + 19)), some (32 + (m + 20)), none, some (32 + (m + 21)), none, some (32 + (m + 22)), none, none, none, none, some (32 + (m + 23)), some (32 + (m + 24)), some (32 + (m + 25)), some (32 + (m + 26)), some (32 + (m + 27)), some (32 + (m + 28)), some (32 + (m + 29)), none, none, none, none, none, none, none, none, none, none, none, none, none, none] := g
  have c1 : G30.2.2.1 = m + 30 := g.2.1
  have c2 : G30.2.2.2 = G.2.2.2 + 7363 := by
    have h := g.2.2.1
    simp only [List.map_cons, List.map_nil, List.sum_cons, List.sum_nil] at h
    omega
  have c3 : (G30.2.1 p).1 = 11 := by rw [(g.2.2.2.1 p hp).1, hk]
  simp (disch := omega) only [e_150_283, e_150_284, e_150_286, e_150_288, mk_2, c1, c3, show (40 : Int).toNat = 40 from rfl]
  repeat' first | (refine And.intro ?_ ?_) | exact True.intro | omega
  refine w_arr2 (K := fun v G => q_wp d 150 291 [.inr (.inr (.inl (some p)))] [] v G Q) (kd := 20) (n := 40) (k := 52) hp g z (by first | (simp; done) | (simp; omega)) (by simp) (fun v31 G31 g z => ?_)
  clear c1 c2 c3
  have g : gx m G G31 p [((20, 8), []), ((20, 8), []), ((20, 4800), []), ((20, 3), []), ((20, 42), []), ((20, 42), []), ((20, 16), []), ((20, 16), []), ((20, 272), []), ((20, 272), []), ((20, 80), []), ((20, 12), []), ((20, 12), []), ((20, 12), []), ((20, 12), []), ((20, 12), []), ((20, 200), []), ((20, 600), []), ((21, 16), []), ((20, 40), []), ((20, 40), []), ((20, 64), []), ((20, 600), []), ((21, 16), []), ((20, 16), []), ((20, 16), []), ((20, 16), []), ((20, 40), []), ((20, 40), []), ((20, 40), []), ((20, 40), [])] [none, none, some (32 + (m + 0)), some (32 + (m + 1)), some (32 + (m + 2)), some (32 + (m + 3)), some (32 + (m + 4)), some (32 + (m + 5)), none, some (32 + (m + 6)), some (32 + (m + 7)), some (32 + (m + 8)), some (32 + (m + 9)), none, some (32 + (m + 10)), none, some (32 + (m + 11)), some (32 + (m + 12)), some (32 + (m + 13)), some (32 + (m + 14)), some (32 + (m + 15)), none, some (32 + (m + 16)), none, none, none, none, none, none, none, none, none, none, some (32 + (m + 17)), some (32 + (m + 18)), some (32 + (m + 19)), some (32 + (m + 20)), none, some (32 + (m + 21)), none, some (32 + (m + 22)), none, none, none, none, some (32 + (m + 23)), some (32 + (m + 24)), some (32 + (m + 25)), some (32 + (m + 26)), some (32 + (m + 27)), some (32 + (m + 28)), some (32 + (m + 29)), some (32 + (m + 30)), none, none, none, none, none, none, none, none, none, none, none, none, none] := g
  have c1 : G31.2.2.1 = m + 31 := g.2.1
  have c2 : G31.2.2.2 = G.2.2.2 + 7403 := by
    have h := g.2.2.1
    simp only [List.map_cons, List.map_nil, List.sum_cons, List.sum_nil] at h
    omega
  have c3 : (G31.2.1 p).1 = 11 := by rw [(g.2.2.2.1 p hp).1, hk]
  simp (disch := omega) only [e_150_291, e_150_292, e_150_294, e_150_296, mk_2, c1, c3, show (40 : Int).toNat = 40 from rfl]
  repeat' first | (refine And.intro ?_ ?_) | exact True.intro | omega
  refine w_arr2 (K := fun v G => q_wp d 150 299 [.inr (.inr (.inl (some p)))] [] v G Q) (kd := 20) (n := 40) (k := 53) hp g z (by first | (simp; done) | (simp; omega)) (by simp) (fun v32 G32 g z => ?_)
  clear c1 c2 c3
  have g : gx m G G32 p [((20, 8), []), ((20, 8), []), ((20, 4800), []), ((20, 3), []), ((20, 42), []), ((20, 42), []), ((20, 16), []), ((20, 16), []), ((20, 272), []), ((20, 272), []), ((20, 80), []), ((20, 12), []), ((20, 12), []), ((20, 12), []), ((20, 12), []), ((20, 12), []), ((20, 200), []), ((20, 600), []), ((21, 16), []), ((20, 40), []), ((20, 40), []), ((20, 64), []), ((20, 600), []), ((21, 16), []), ((20, 16), []), ((20, 16), []), ((20, 16), []), ((20, 40), []), ((20, 40), []), ((20, 40), []), ((20, 40), []), ((20, 40), [])] [none, none, some (32 + (m + 0)), some (32 + (m + 1)), some (32 + (m + 2)), some (32 + (m + 3)), some (32 + (m + 4)), some (32 + (m + 5)), none, some (32 + (m + 6)), some (32 + (m + 7)), some (32 + (m + 8)), some (32 + (m + 9)), none, some (32 + (m + 10)), none, some (32 + (m + 11)), some (32 + (m + 12)), some (32 + (m + 13)), some (32 + (m + 14)), some (32 + (m + 15)), none, some (32 + (m + 16)), none, none, none, none, none, none, none, none, none, none, some (32 + (m + 17)), some (32 + (m + 18)), some (32 + (m + 19)), some (32 + (m + 20)), none, some (32 + (m + 21)), none, some (32 + (m + 22)), none, none, none, none, some (32 + (m + 23)), some (32 + (m + 24)), some (32 + (m + 25)), some (32 + (m + 26)), some (32 + (m + 27)), some (32 + (m + 28)), some (32 + (m + 29)), some (32 + (m + 30)), some (32 + (m + 31)), none, none, none, none, none, none, none, none, none, none, none, none] := g
  have c1 : G32.2.2.1 = m + 32 := g.2.1
  have c2 : G32.2.2.2 = G.2.2.2 + 7443 := by
    have h := g.2.2.1
    simp only [List.map_cons, List.map_nil, List.sum_cons, List.sum_nil] at h
    omega
  have c3 : (G32.2.1 p).1 = 11 := by rw [(g.2.2.2.1 p hp).1, hk]
  simp (disch := omega) only [e_150_299, e_150_300, e_150_302, e_150_304, mk_2, c1, c3, show (16 : Int).toNat = 16 from rfl]
  repeat' first | (refine And.intro ?_ ?_) | exact True.intro | omega
  refine w_arr2 (K := fun v G => q_wp d 150 307 [.inr (.inr (.inl (some p)))] [] v G Q) (kd := 20) (n := 16) (k := 59) hp g z (by first | (simp; done) | (simp; omega)) (by simp) (fun v33 G33 g z => ?_)
  clear c1 c2 c3
  have g : gx m G G33 p [((20, 8), []), ((20, 8), []), ((20, 4800), []), ((20, 3), []), ((20, 42), []), ((20, 42), []), ((20, 16), []), ((20, 16), []), ((20, 272), []), ((20, 272), []), ((20, 80), []), ((20, 12), []), ((20, 12), []), ((20, 12), []), ((20, 12), []), ((20, 12), []), ((20, 200), []), ((20, 600), []), ((21, 16), []), ((20, 40), []), ((20, 40), []), ((20, 64), []), ((20, 600), []), ((21, 16), []), ((20, 16), []), ((20, 16), []), ((20, 16), []), ((20, 40), []), ((20, 40), []), ((20, 40), []), ((20, 40), []), ((20, 40), []), ((20, 16), [])] [none, none, some (32 + (m + 0)), some (32 + (m + 1)), some (32 + (m + 2)), some (32 + (m + 3)), some (32 + (m + 4)), some (32 + (m + 5)), none, some (32 + (m + 6)), some (32 + (m + 7)), some (32 + (m + 8)), some (32 + (m + 9)), none, some (32 + (m + 10)), none, some (32 + (m + 11)), some (32 + (m + 12)), some (32 + (m + 13)), some (32 + (m + 14)), some (32 + (m + 15)), none, some (32 + (m + 16)), none, none, none, none, none, none, none, none, none, none, some (32 + (m + 17)), some (32 + (m + 18)), some (32 + (m + 19)), some (32 + (m + 20)), none, some (32 + (m + 21)), none, some (32 + (m + 22)), none, none, none, none, some (32 + (m + 23)), some (32 + (m + 24)), some (32 + (m + 25)), some (32 + (m + 26)), some (32 + (m + 27)), some (32 + (m + 28)), some (32 + (m + 29)), some (32 + (m + 30)), some (32 + (m + 31)), none, none, none, none, none, some (32 + (m + 32)), none, none, none, none, none, none] := g
  have c1 : G33.2.2.1 = m + 33 := g.2.1
  have c2 : G33.2.2.2 = G.2.2.2 + 7459 := by
    have h := g.2.2.1
    simp only [List.map_cons, List.map_nil, List.sum_cons, List.sum_nil] at h
    omega
  have c3 : (G33.2.1 p).1 = 11 := by rw [(g.2.2.2.1 p hp).1, hk]
  simp (disch := omega) only [e_150_307, e_150_308, e_150_310, e_150_312, mk_2, c1, c3, show (16 : Int).toNat = 16 from rfl]
  repeat' first | (refine And.intro ?_ ?_) | exact True.intro | omega
  refine w_arr2 (K := fun v G => q_wp d 150 315 [.inr (.inr (.inl (some p)))] [] v G Q) (kd := 20) (n := 16) (k := 60) hp g z (by first | (simp; done) | (simp; omega)) (by simp) (fun v34 G34 g z => ?_)
  clear c1 c2 c3
  have g : gx m G G34 p [((20, 8), []), ((20, 8), []), ((20, 4800), []), ((20, 3), []), ((20, 42), []), ((20, 42), []), ((20, 16), []), ((20, 16), []), ((20, 272), []), ((20, 272), []), ((20, 80), []), ((20, 12), []), ((20, 12), []), ((20, 12), []), ((20, 12), []), ((20, 12), []), ((20, 200), []), ((20, 600), []), ((21, 16), []), ((20, 40), []), ((20, 40), []), ((20, 64), []), ((20, 600), []), ((21, 16), []), ((20, 16), []), ((20, 16), []), ((20, 16), []), ((20, 40), []), ((20, 40), []), ((20, 40), []), ((20, 40), []), ((20, 40), []), ((20, 16), []), ((20, 16), [])] [none, none, some (32 + (m + 0)), some (32 + (m + 1)), some (32 + (m + 2)), some (32 + (m + 3)), some (32 + (m + 4)), some (32 + (m + 5)), none, some (32 + (m + 6)), some (32 + (m + 7)), some (32 + (m + 8)), some (32 + (m + 9)), none, some (32 + (m + 10)), none, some (32 + (m + 11)), some (32 + (m + 12)), some (32 + (m + 13)), some (32 + (m + 14)), some (32 + (m + 15)), none, some (32 + (m + 16)), none, none, none, none, none, none, none, none, none, none, some (32 + (m + 17)), some (32 + (m + 18)), some (32 + (m + 19)), some (32 + (m + 20)), none, some (32 + (m + 21)), none, some (32 + (m + 22)), none, none, none, none, some (32 + (m + 23)), some (32 + (m + 24)), some (32 + (m + 25)), some (32 + (m + 26)), some (32 + (m + 27)), some (32 + (m + 28)), some (32 + (m + 29)), some (32 + (m + 30)), some (32 + (m + 31)), none, none, none, none, none, some (32 + (m + 32)), some (32 + (m + 33)), none, none, none, none, none] := g
  have c1 : G34.2.2.1 = m + 34 := g.2.1
  have c2 : G34.2.2.2 = G.2.2.2 + 7475 := by
    have h := g.2.2.1
    simp only [List.map_cons, List.map_nil, List.sum_cons, List.sum_nil] at h
    omega
  have c3 : (G34.2.1 p).1 = 11 := by rw [(g.2.2.2.1 p hp).1, hk]
  simp (disch := omega) only [e_150_315, e_150_316, e_150_318, e_150_320, mk_2, c1, c3, show (64 : Int).toNat = 64 from rfl]
  repeat' first | (refine And.intro ?_ ?_) | exact True.intro | omega
  refine w_arr2 (K := fun v G => q_wp d 150 323 [.inr (.inr (.inl (some p)))] [] v G Q) (kd := 20) (n := 64) (k := 63) hp g z (by first | (simp; done) | (simp; omega)) (by simp) (fun v35 G35 g z => ?_)
  clear c1 c2 c3
  have g : gx m G G35 p [((20, 8), []), ((20, 8), []), ((20, 4800), []), ((20, 3), []), ((20, 42), []), ((20, 42), []), ((20, 16), []), ((20, 16), []), ((20, 272), []), ((20, 272), []), ((20, 80), []), ((20, 12), []), ((20, 12), []), ((20, 12), []), ((20, 12), []), ((20, 12), []), ((20, 200), []), ((20, 600), []), ((21, 16), []), ((20, 40), []), ((20, 40), []), ((20, 64), []), ((20, 600), []), ((21, 16), []), ((20, 16), []), ((20, 16), []), ((20, 16), []), ((20, 40), []), ((20, 40), []), ((20, 40), []), ((20, 40), []), ((20, 40), []), ((20, 16), []), ((20, 16), []), ((20, 64), [])] [none, none, some (32 + (m + 0)), some (32 + (m + 1)), some (32 + (m + 2)), some (32 + (m + 3)), some (32 + (m + 4)), some (32 + (m + 5)), none, some (32 + (m + 6)), some (32 + (m + 7)), some (32 + (m + 8)), some (32 + (m + 9)), none, some (32 + (m + 10)), none, some (32 + (m + 11)), some (32 + (m + 12)), some (32 + (m + 13)), some (32 + (m + 14)), some (32 + (m + 15)), none, some (32 + (m + 16)), none, none, none, none, none, none, none, none, none, none, some (32 + (m + 17)), some (32 + (m + 18)), some (32 + (m + 19)), some (32 + (m + 20)), none, some (32 + (m + 21)), none, some (32 + (m + 22)), none, none, none, none, some (32 + (m + 23)), some (32 + (m + 24)), some (32 + (m + 25)), some (32 + (m + 26)), some (32 + (m + 27)), some (32 + (m + 28)), some (32 + (m + 29)), some (32 + (m + 30)), some (32 + (m + 31)), none, none, none, none, none, some (32 + (m + 32)), some (32 + (m + 33)), none, none, some (32 + (m + 34)), none, none] := g
  have c1 : G35.2.2.1 = m + 35 := g.2.1
  have c2 : G35.2.2.2 = G.2.2.2 + 7539 := by
    have h := g.2.2.1
    simp only [List.map_cons, List.map_nil, List.sum_cons, List.sum_nil] at h
    omega
  have c3 : (G35.2.1 p).1 = 11 := by rw [(g.2.2.2.1 p hp).1, hk]
  simp (disch := omega) only [e_150_323, e_150_324, e_150_326, e_150_328, mk_2, c1, c3, show (16 : Int).toNat = 16 from rfl]
  repeat' first | (refine And.intro ?_ ?_) | exact True.intro | omega
  refine w_arr2 (K := fun v G => q_wp d 150 331 [.inr (.inr (.inl (some p)))] [] v G Q) (kd := 20) (n := 16) (k := 64) hp g z (by first | (simp; done) | (simp; omega)) (by simp) (fun v36 G36 g z => ?_)
  clear c1 c2 c3
  have g : gx m G G36 p [((20, 8), []), ((20, 8), []), ((20, 4800), []), ((20, 3), []), ((20, 42), []), ((20, 42), []), ((20, 16), []), ((20, 16), []), ((20, 272), []), ((20, 272), []), ((20, 80), []), ((20, 12), []), ((20, 12), []), ((20, 12), []), ((20, 12), []), ((20, 12), []), ((20, 200), []), ((20, 600), []), ((21, 16), []), ((20, 40), []), ((20, 40), []), ((20, 64), []), ((20, 600), []), ((21, 16), []), ((20, 16), []), ((20, 16), []), ((20, 16), []), ((20, 40), []), ((20, 40), []), ((20, 40), []), ((20, 40), []), ((20, 40), []), ((20, 16), []), ((20, 16), []), ((20, 64), []), ((20, 16), [])] [none, none, some (32 + (m + 0)), some (32 + (m + 1)), some (32 + (m + 2)), some (32 + (m + 3)), some (32 + (m + 4)), some (32 + (m + 5)), none, some (32 + (m + 6)), some (32 + (m + 7)), some (32 + (m + 8)), some (32 + (m + 9)), none, some (32 + (m + 10)), none, some (32 + (m + 11)), some (32 + (m + 12)), some (32 + (m + 13)), some (32 + (m + 14)), some (32 + (m + 15)), none, some (32 + (m + 16)), none, none, none, none, none, none, none, none, none, none, some (32 + (m + 17)), some (32 + (m + 18)), some (32 + (m + 19)), some (32 + (m + 20)), none, some (32 + (m + 21)), none, some (32 + (m + 22)), none, none, none, none, some (32 + (m + 23)), some (32 + (m + 24)), some (32 + (m + 25)), some (32 + (m + 26)), some (32 + (m + 27)), some (32 + (m + 28)), some (32 + (m + 29)), some (32 + (m + 30)), some (32 + (m + 31)), none, none, none, none, none, some (32 + (m + 32)), some (32 + (m + 33)), none, none, some (32 + (m + 34)), some (32 + (m + 35)), none] := g
  have fin := hQ _ _ g (fun b hb => by rw [z.1 b (by omega), u1 b hb]) (fun k hk => by rw [z.1 (32 + m) (by omega), u2 k hk]) (fun b b1 b2 j => z.2 b (by omega) (by omega) j)
  clear hQ
  simp only [e_150_331]
  repeat' first | (refine And.intro ?_ ?_) | exact True.intro | omega | assumption | rfl
end
