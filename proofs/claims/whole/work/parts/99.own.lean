section
variable {d p m : Nat} {v : q_H} {G : q_Gr} {Q : q_V → q_H → q_Gr → Prop}
def q_L61 (m : Nat) : List q_Ce := [((37, 8), []), ((38, 3), []), ((20, 80), []), ((4, 11), [some (32 + (m + 4)), none, some (32 + (m + 5)), none, none, none, none, none, some (32 + (m + 6)), none, none]), ((20, 200), []), ((30, 12), []), ((20, 4), []), ((5, 5), [some (32 + (m + 8)), some (32 + (m + 9)), some (32 + (m + 11)), some (32 + (m + 13)), some (32 + (m + 16))]), ((21, 16), []), ((3, 2), [some (32 + (m + 10)), none]), ((20, 600), []), ((3, 2), [some (32 + (m + 12)), none]), ((20, 48), []), ((6, 3), [some (32 + (m + 14)), some (32 + (m + 15)), none]), ((20, 16), []), ((20, 16), []), ((6, 3), [some (32 + (m + 17)), some (32 + (m + 18)), none]), ((20, 16), []), ((20, 16), []), ((2, 14), [some (32 + (m + 20)), none, none, some (32 + (m + 22)), some (32 + (m + 27)), some (32 + (m + 28)), some (32 + (m + 29)), some (32 + (m + 30)), none, none, some (32 + (m + 31)), some (32 + (m + 34)), none, some (32 + (m + 37))]), ((3, 2), [some (32 + (m + 21)), none]), ((20, 600), []), ((9, 4), [some (32 + (m + 23)), some (32 + (m + 24)), some (32 + (m + 25)), some (32 + (m + 26))]), ((20, 32), []), ((20, 32), []), ((20, 32), []), ((20, 32), []), ((21, 16), []), ((21, 32), []), ((20, 16), []), ((20, 16), []), ((6, 3), [some (32 + (m + 32)), some (32 + (m + 33)), none]), ((20, 16), []), ((20, 16), []), ((6, 3), [some (32 + (m + 35)), some (32 + (m + 36)), none]), ((20, 16), []), ((20, 16), []), ((3, 2), [some (32 + (m + 38)), none]), ((20, 48), []), ((2, 14), [some (32 + (m + 40)), none, none, some (32 + (m + 42)), some (32 + (m + 47)), some (32 + (m + 48)), some (32 + (m + 49)), some (32 + (m + 50)), none, none, some (32 + (m + 51)), some (32 + (m + 54)), none, some (32 + (m + 57))]), ((3, 2), [some (32 + (m + 41)), none]), ((20, 600), []), ((9, 4), [some (32 + (m + 43)), some (32 + (m + 44)), some (32 + (m + 45)), some (32 + (m + 46))]), ((20, 32), []), ((20, 32), []), ((20, 32), []), ((20, 32), []), ((21, 16), []), ((21, 32), []), ((20, 16), []), ((20, 16), []), ((6, 3), [some (32 + (m + 52)), some (32 + (m + 53)), none]), ((20, 16), []), ((20, 16), []), ((6, 3), [some (32 + (m + 55)), some (32 + (m + 56)), none]), ((20, 16), []), ((20, 16), []), ((3, 2), [some (32 + (m + 58)), none]), ((20, 48), []), ((1, 7), [some (32 + (m + 60)), none, none, none, none, none, none]), ((20, 16), [])]
/-- the class, up to its sheets -/
theorem k117a (hm : G.2.2.1 = m) (hk : (G.2.1 p).1 = 10) (hp : p < 32 + m) (hn : ∀ k, G.1 p k = none) (hr : m + 61 ≤ 600000 ∧ G.2.2.2 + 2980 ≤ 7302250) (hQ : ∀ v' G', gx m G G' p [((37, 8), []), ((38, 3), []), ((20, 80), []), ((4, 11), [some (32 + (m + 4)), none, some (32 + (m + 5)), none, none, none, none, none, some (32 + (m + 6)), none, none]), ((20, 200), []), ((30, 12), []), ((20, 4), []), ((5, 5), [some (32 + (m + 8)), some (32 + (m + 9)), some (32 + (m + 11)), some (32 + (m + 13)), some (32 + (m + 16))]), ((21, 16), []), ((3, 2), [some (32 + (m + 10)), none]), ((20, 600), []), ((3, 2), [some (32 + (m + 12)), none]), ((20, 48), []), ((6, 3), [some (32 + (m + 14)), some (32 + (m + 15)), none]), ((20, 16), []), ((20, 16), []), ((6, 3), [some (32 + (m + 17)), some (32 + (m + 18)), none]), ((20, 16), []), ((20, 16), []), ((2, 14), [some (32 + (m + 20)), none, none, some (32 + (m + 22)), some (32 + (m + 27)), some (32 + (m + 28)), some (32 + (m + 29)), some (32 + (m + 30)), none, none, some (32 + (m + 31)), some (32 + (m + 34)), none, some (32 + (m + 37))]), ((3, 2), [some (32 + (m + 21)), none]), ((20, 600), []), ((9, 4), [some (32 + (m + 23)), some (32 + (m + 24)), some (32 + (m + 25)), some (32 + (m + 26))]), ((20, 32), []), ((20, 32), []), ((20, 32), []), ((20, 32), []), ((21, 16), []), ((21, 32), []), ((20, 16), []), ((20, 16), []), ((6, 3), [some (32 + (m + 32)), some (32 + (m + 33)), none]), ((20, 16), []), ((20, 16), []), ((6, 3), [some (32 + (m + 35)), some (32 + (m + 36)), none]), ((20, 16), []), ((20, 16), []), ((3, 2), [some (32 + (m + 38)), none]), ((20, 48), []), ((2, 14), [some (32 + (m + 40)), none, none, some (32 + (m + 42)), some (32 + (m + 47)), some (32 + (m + 48)), some (32 + (m + 49)), some (32 + (m + 50)), none, none, some (32 + (m + 51)), some (32 + (m + 54)), none, some (32 + (m + 57))]), ((3, 2), [some (32 + (m + 41)), none]), ((20, 600), []), ((9, 4), [some (32 + (m + 43)), some (32 + (m + 44)), some (32 + (m + 45)), some (32 + (m + 46))]), ((20, 32), []), ((20, 32), []), ((20, 32), []), ((20, 32), []), ((21, 16), []), ((21, 32), []), ((20, 16), []), ((20, 16), []), ((6, 3), [some (32 + (m + 52)), some (32 + (m + 53)), none]), ((20, 16), []), ((20, 16), []), ((6, 3), [some (32 + (m + 55)), some (32 + (m + 56)), none]), ((20, 16), []), ((20, 16), []), ((3, 2), [some (32 + (m + 58)), none]), ((20, 48), []), ((1, 7), [some (32 + (m + 60)), none, none, none, none, none, none]), ((20, 16), [])] [some (32 + (m + 0)), some (32 + (m + 1)), some (32 + (m + 2)), none, some (32 + (m + 3)), some (32 + (m + 7)), some (32 + (m + 19)), some (32 + (m + 39)), some (32 + (m + 59)), none] → vz v v' m 61 → q_wp (d + 7) 117 86 [.inr (.inr (.inl (some p))), .inl 0] [] v' G' Q) : q_call (d + 8) 117 [.inr (.inr (.inl (some p)))] v G Q := by
  have g : gx m G G p [] [none, none, none, none, none, none, none, none, none, none] := gx_0 hm hn (by simp)
  have z : vz v v m 0 := vz_0
  have c1 : G.2.2.1 = m + 0 := g.2.1
  have c2 : G.2.2.2 = G.2.2.2 + 0 := by
    have h := g.2.2.1
    simp only [List.map_cons, List.map_nil, List.sum_cons, List.sum_nil] at h
    omega
  have c3 : (G.2.1 p).1 = 10 := by rw [(g.2.2.2.1 p hp).1, hk]
  simp (disch := omega) only [e_117, e_117_0, e_117_1, e_117_4, e_117_5, e_117_7, e_117_10, mk_2, c1, c3, show (8 : Int).toNat = 8 from rfl]
  repeat' first | (refine And.intro ?_ ?_) | exact True.intro | omega
  refine w_arr (K := fun v G => q_wp (d + 7) 117 13 [.inr (.inr (.inl (some p))), .inr (.inr (.inr ()))] [] v G Q) (kd := 37) (n := 8) (k := 0) hp g z (by simp) (fun v1 G1 g z => ?_)
  clear c1 c2 c3
  have g : gx m G G1 p [((37, 8), [])] [some (32 + (m + 0)), none, none, none, none, none, none, none, none, none] := g
  have z : vz v v1 m 1 := z
  have c1 : G1.2.2.1 = m + 1 := g.2.1
  have c2 : G1.2.2.2 = G.2.2.2 + 8 := by
    have h := g.2.2.1
    simp only [List.map_cons, List.map_nil, List.sum_cons, List.sum_nil] at h
    omega
  have c3 : (G1.2.1 p).1 = 10 := by rw [(g.2.2.2.1 p hp).1, hk]
  simp (disch := omega) only [e_117_13, e_117_14, e_117_15, e_117_18, mk_2, c1, c3, show (3 : Int).toNat = 3 from rfl]
  repeat' first | (refine And.intro ?_ ?_) | exact True.intro | omega
  refine w_arr (K := fun v G => q_wp (d + 7) 117 21 [.inr (.inr (.inl (some p))), .inr (.inr (.inr ()))] [] v G Q) (kd := 38) (n := 3) (k := 1) hp g z (by simp) (fun v2 G2 g z => ?_)
  clear c1 c2 c3
  have g : gx m G G2 p [((37, 8), []), ((38, 3), [])] [some (32 + (m + 0)), some (32 + (m + 1)), none, none, none, none, none, none, none, none] := g
  have z : vz v v2 m 2 := z
  have c1 : G2.2.2.1 = m + 2 := g.2.1
  have c2 : G2.2.2.2 = G.2.2.2 + 11 := by
    have h := g.2.2.1
    simp only [List.map_cons, List.map_nil, List.sum_cons, List.sum_nil] at h
    omega
  have c3 : (G2.2.1 p).1 = 10 := by rw [(g.2.2.2.1 p hp).1, hk]
  simp (disch := omega) only [e_117_21, e_117_22, e_117_24, e_117_26, mk_2, c1, c3, show (80 : Int).toNat = 80 from rfl]
  repeat' first | (refine And.intro ?_ ?_) | exact True.intro | omega
  refine w_arr (K := fun v G => q_wp (d + 7) 117 29 [.inr (.inr (.inl (some p))), .inr (.inr (.inr ()))] [] v G Q) (kd := 20) (n := 80) (k := 2) hp g z (by simp) (fun v3 G3 g z => ?_)
  clear c1 c2 c3
  have g : gx m G G3 p [((37, 8), []), ((38, 3), []), ((20, 80), [])] [some (32 + (m + 0)), some (32 + (m + 1)), some (32 + (m + 2)), none, none, none, none, none, none, none] := g
  have z : vz v v3 m 3 := z
  have c1 : G3.2.2.1 = m + 3 := g.2.1
  have c2 : G3.2.2.2 = G.2.2.2 + 91 := by
    have h := g.2.2.1
    simp only [List.map_cons, List.map_nil, List.sum_cons, List.sum_nil] at h
    omega
  have c3 : (G3.2.1 p).1 = 10 := by rw [(g.2.2.2.1 p hp).1, hk]
  have nw := gx_new (kd := 4) (n := 11) g
  simp (disch := omega) only [e_117_29, e_117_30, e_117_33, e_117_34, c1]
  repeat' first | (refine And.intro ?_ ?_) | exact True.intro | omega
  refine k43 (m := m + 3 + 1) nw.1 (congrArg Prod.fst nw.2.2) (by show 32 + (m + 3) < _; omega) nw.2.1 ⟨by omega, by rw [mk_4, c2]; omega⟩ (fun v4 H4 h3 z3 => ?_)
  have c4 : (H4.2.1 p).1 = 10 := by rw [(h3.2.2.2.1 p (by omega)).1, mk_2 (by omega), c3]
  have z4 := vz_sub z z3
  simp only [e_117_37, q_push_I, q_push_L, q_push_P, q_push_U, c4]
  repeat' first | (refine And.intro ?_ ?_) | exact True.intro | omega
  refine w_sub (K := fun G => q_wp (d + 7) 117 40 [.inr (.inr (.inl (some p))), .inr (.inr (.inr ()))] [] v4 G Q) (k := 4) hp g h3 (by simp) (fun G4 g => ?_)
  clear h3 c4 nw z z3
  have z := z4
  clear z4
  clear c1 c2 c3
  have g : gx m G G4 p [((37, 8), []), ((38, 3), []), ((20, 80), []), ((4, 11), [some (32 + (m + 4)), none, some (32 + (m + 5)), none, none, none, none, none, some (32 + (m + 6)), none, none]), ((20, 200), []), ((30, 12), []), ((20, 4), [])] [some (32 + (m + 0)), some (32 + (m + 1)), some (32 + (m + 2)), none, some (32 + (m + 3)), none, none, none, none, none] := g
  have z : vz v v4 m 7 := z
  have c1 : G4.2.2.1 = m + 7 := g.2.1
  have c2 : G4.2.2.2 = G.2.2.2 + 318 := by
    have h := g.2.2.1
    simp only [List.map_cons, List.map_nil, List.sum_cons, List.sum_nil] at h
    omega
  have c3 : (G4.2.1 p).1 = 10 := by rw [(g.2.2.2.1 p hp).1, hk]
  have nw := gx_new (kd := 5) (n := 5) g
  simp (disch := omega) only [e_117_40, e_117_41, e_117_44, e_117_45, c1]
  repeat' first | (refine And.intro ?_ ?_) | exact True.intro | omega
  refine k65 (m := m + 7 + 1) nw.1 (congrArg Prod.fst nw.2.2) (by show 32 + (m + 7) < _; omega) nw.2.1 ⟨by omega, by rw [mk_4, c2]; omega⟩ (fun v5 H5 h3 z3 => ?_)
  have c4 : (H5.2.1 p).1 = 10 := by rw [(h3.2.2.2.1 p (by omega)).1, mk_2 (by omega), c3]
  have z4 := vz_sub z z3
  simp only [e_117_48, q_push_I, q_push_L, q_push_P, q_push_U, c4]
  repeat' first | (refine And.intro ?_ ?_) | exact True.intro | omega
  refine w_sub (K := fun G => q_wp (d + 7) 117 51 [.inr (.inr (.inl (some p))), .inr (.inr (.inr ()))] [] v5 G Q) (k := 5) hp g h3 (by simp) (fun G5 g => ?_)
  clear h3 c4 nw z z3
  have z := z4
  clear z4
  clear c1 c2 c3
  have g : gx m G G5 p [((37, 8), []), ((38, 3), []), ((20, 80), []), ((4, 11), [some (32 + (m + 4)), none, some (32 + (m + 5)), none, none, none, none, none, some (32 + (m + 6)), none, none]), ((20, 200), []), ((30, 12), []), ((20, 4), []), ((5, 5), [some (32 + (m + 8)), some (32 + (m + 9)), some (32 + (m + 11)), some (32 + (m + 13)), some (32 + (m + 16))]), ((21, 16), []), ((3, 2), [some (32 + (m + 10)), none]), ((20, 600), []), ((3, 2), [some (32 + (m + 12)), none]), ((20, 48), []), ((6, 3), [some (32 + (m + 14)), some (32 + (m + 15)), none]), ((20, 16), []), ((20, 16), []), ((6, 3), [some (32 + (m + 17)), some (32 + (m + 18)), none]), ((20, 16), []), ((20, 16), [])] [some (32 + (m + 0)), some (32 + (m + 1)), some (32 + (m + 2)), none, some (32 + (m + 3)), some (32 + (m + 7)), none, none, none, none] := g
  have z : vz v v5 m 19 := z
  have c1 : G5.2.2.1 = m + 19 := g.2.1
  have c2 : G5.2.2.2 = G.2.2.2 + 1061 := by
    have h := g.2.2.1
    simp only [List.map_cons, List.map_nil, List.sum_cons, List.sum_nil] at h
    omega
  have c3 : (G5.2.1 p).1 = 10 := by rw [(g.2.2.2.1 p hp).1, hk]
  have nw := gx_new (kd := 2) (n := 14) g
  simp (disch := omega) only [e_117_51, e_117_52, e_117_55, e_117_56, c1]
  repeat' first | (refine And.intro ?_ ?_) | exact True.intro | omega
  refine k16 (m := m + 19 + 1) nw.1 (congrArg Prod.fst nw.2.2) (by show 32 + (m + 19) < _; omega) nw.2.1 ⟨by omega, by rw [mk_4, c2]; omega⟩ (fun v6 H6 h3 z3 => ?_)
  have c4 : (H6.2.1 p).1 = 10 := by rw [(h3.2.2.2.1 p (by omega)).1, mk_2 (by omega), c3]
  have z4 := vz_sub z z3
  simp only [e_117_59, q_push_I, q_push_L, q_push_P, q_push_U, c4]
  repeat' first | (refine And.intro ?_ ?_) | exact True.intro | omega
  refine w_sub (K := fun G => q_wp (d + 7) 117 62 [.inr (.inr (.inl (some p))), .inr (.inr (.inr ()))] [] v6 G Q) (k := 6) hp g h3 (by simp) (fun G6 g => ?_)
  clear h3 c4 nw z z3
  have z := z4
  clear z4
  clear c1 c2 c3
  have g : gx m G G6 p [((37, 8), []), ((38, 3), []), ((20, 80), []), ((4, 11), [some (32 + (m + 4)), none, some (32 + (m + 5)), none, none, none, none, none, some (32 + (m + 6)), none, none]), ((20, 200), []), ((30, 12), []), ((20, 4), []), ((5, 5), [some (32 + (m + 8)), some (32 + (m + 9)), some (32 + (m + 11)), some (32 + (m + 13)), some (32 + (m + 16))]), ((21, 16), []), ((3, 2), [some (32 + (m + 10)), none]), ((20, 600), []), ((3, 2), [some (32 + (m + 12)), none]), ((20, 48), []), ((6, 3), [some (32 + (m + 14)), some (32 + (m + 15)), none]), ((20, 16), []), ((20, 16), []), ((6, 3), [some (32 + (m + 17)), some (32 + (m + 18)), none]), ((20, 16), []), ((20, 16), []), ((2, 14), [some (32 + (m + 20)), none, none, some (32 + (m + 22)), some (32 + (m + 27)), some (32 + (m + 28)), some (32 + (m + 29)), some (32 + (m + 30)), none, none, some (32 + (m + 31)), some (32 + (m + 34)), none, some (32 + (m + 37))]), ((3, 2), [some (32 + (m + 21)), none]), ((20, 600), []), ((9, 4), [some (32 + (m + 23)), some (32 + (m + 24)), some (32 + (m + 25)), some (32 + (m + 26))]), ((20, 32), []), ((20, 32), []), ((20, 32), []), ((20, 32), []), ((21, 16), []), ((21, 32), []), ((20, 16), []), ((20, 16), []), ((6, 3), [some (32 + (m + 32)), some (32 + (m + 33)), none]), ((20, 16), []), ((20, 16), []), ((6, 3), [some (32 + (m + 35)), some (32 + (m + 36)), none]), ((20, 16), []), ((20, 16), []), ((3, 2), [some (32 + (m + 38)), none]), ((20, 48), [])] [some (32 + (m + 0)), some (32 + (m + 1)), some (32 + (m + 2)), none, some (32 + (m + 3)), some (32 + (m + 7)), some (32 + (m + 19)), none, none, none] := g
  have z : vz v v6 m 39 := z
  have c1 : G6.2.2.1 = m + 39 := g.2.1
  have c2 : G6.2.2.2 = G.2.2.2 + 2009 := by
    have h := g.2.2.1
    simp only [List.map_cons, List.map_nil, List.sum_cons, List.sum_nil] at h
    omega
  have c3 : (G6.2.1 p).1 = 10 := by rw [(g.2.2.2.1 p hp).1, hk]
  have nw := gx_new (kd := 2) (n := 14) g
  simp (disch := omega) only [e_117_62, e_117_63, e_117_66, e_117_67, c1]
  repeat' first | (refine And.intro ?_ ?_) | exact True.intro | omega
  refine k16 (m := m + 39 + 1) nw.1 (congrArg Prod.fst nw.2.2) (by show 32 + (m + 39) < _; omega) nw.2.1 ⟨by omega, by rw [mk_4, c2]; omega⟩ (fun v7 H7 h3 z3 => ?_)
  have c4 : (H7.2.1 p).1 = 10 := by rw [(h3.2.2.2.1 p (by omega)).1, mk_2 (by omega), c3]
  have z4 := vz_sub z z3
  simp only [e_117_70, q_push_I, q_push_L, q_push_P, q_push_U, c4]
  repeat' first | (refine And.intro ?_ ?_) | exact True.intro | omega
  refine w_sub (K := fun G => q_wp (d + 7) 117 73 [.inr (.inr (.inl (some p))), .inr (.inr (.inr ()))] [] v7 G Q) (k := 7) hp g h3 (by simp) (fun G7 g => ?_)
  clear h3 c4 nw z z3
  have z := z4
  clear z4
  clear c1 c2 c3
  have g : gx m G G7 p [((37, 8), []), ((38, 3), []), ((20, 80), []), ((4, 11), [some (32 + (m + 4)), none, some (32 + (m + 5)), none, none, none, none, none, some (32 + (m + 6)), none, none]), ((20, 200), []), ((30, 12), []), ((20, 4), []), ((5, 5), [some (32 + (m + 8)), some (32 + (m + 9)), some (32 + (m + 11)), some (32 + (m + 13)), some (32 + (m + 16))]), ((21, 16), []), ((3, 2), [some (32 + (m + 10)), none]), ((20, 600), []), ((3, 2), [some (32 + (m + 12)), none]), ((20, 48), []), ((6, 3), [some (32 + (m + 14)), some (32 + (m + 15)), none]), ((20, 16), []), ((20, 16), []), ((6, 3), [some (32 + (m + 17)), some (32 + (m + 18)), none]), ((20, 16), []), ((20, 16), []), ((2, 14), [some (32 + (m + 20)), none, none, some (32 + (m + 22)), some (32 + (m + 27)), some (32 + (m + 28)), some (32 + (m + 29)), some (32 + (m + 30)), none, none, some (32 + (m + 31)), some (32 + (m + 34)), none, some (32 + (m + 37))]), ((3, 2), [some (32 + (m + 21)), none]), ((20, 600), []), ((9, 4), [some (32 + (m + 23)), some (32 + (m + 24)), some (32 + (m + 25)), some (32 + (m + 26))]), ((20, 32), []), ((20, 32), []), ((20, 32), []), ((20, 32), []), ((21, 16), []), ((21, 32), []), ((20, 16), []), ((20, 16), []), ((6, 3), [some (32 + (m + 32)), some (32 + (m + 33)), none]), ((20, 16), []), ((20, 16), []), ((6, 3), [some (32 + (m + 35)), some (32 + (m + 36)), none]), ((20, 16), []), ((20, 16), []), ((3, 2), [some (32 + (m + 38)), none]), ((20, 48), []), ((2, 14), [some (32 + (m + 40)), none, none, some (32 + (m + 42)), some (32 + (m + 47)), some (32 + (m + 48)), some (32 + (m + 49)), some (32 + (m + 50)), none, none, some (32 + (m + 51)), some (32 + (m + 54)), none, some (32 + (m + 57))]), ((3, 2), [some (32 + (m + 41)), none]), ((20, 600), []), ((9, 4), [some (32 + (m + 43)), some (32 + (m + 44)), some (32 + (m + 45)), some (32 + (m + 46))]), ((20, 32), []), ((20, 32), []), ((20, 32), []), ((20, 32), []), ((21, 16), []), ((21, 32), []), ((20, 16), []), ((20, 16), []), ((6, 3), [some (32 + (m + 52)), some (32 + (m + 53)), none]), ((20, 16), []), ((20, 16), []), ((6, 3), [some (32 + (m + 55)), some (32 + (m + 56)), none]), ((20, 16), []), ((20, 16), []), ((3, 2), [some (32 + (m + 58)), none]), ((20, 48), [])] [some (32 + (m + 0)), some (32 + (m + 1)), some (32 + (m + 2)), none, some (32 + (m + 3)), some (32 + (m + 7)), some (32 + (m + 19)), some (32 + (m + 39)), none, none] := g
  have z : vz v v7 m 59 := z
  have c1 : G7.2.2.1 = m + 59 := g.2.1
  have c2 : G7.2.2.2 = G.2.2.2 + 2957 := by
    have h := g.2.2.1
    simp only [List.map_cons, List.map_nil, List.sum_cons, List.sum_nil] at h
    omega
  have c3 : (G7.2.1 p).1 = 10 := by rw [(g.2.2.2.1 p hp).1, hk]
  have nw := gx_new (kd := 1) (n := 7) g
  simp (disch := omega) only [e_117_73, e_117_74, e_117_77, e_117_78, c1]
  repeat' first | (refine And.intro ?_ ?_) | exact True.intro | omega
  refine k8 (m := m + 59 + 1) nw.1 (congrArg Prod.fst nw.2.2) (by show 32 + (m + 59) < _; omega) nw.2.1 ⟨by omega, by rw [mk_4, c2]; omega⟩ (fun v8 H8 h3 z3 => ?_)
  have c4 : (H8.2.1 p).1 = 10 := by rw [(h3.2.2.2.1 p (by omega)).1, mk_2 (by omega), c3]
  have z4 := vz_sub z z3
  simp only [e_117_81, q_push_I, q_push_L, q_push_P, q_push_U, c4]
  repeat' first | (refine And.intro ?_ ?_) | exact True.intro | omega
  refine w_sub (K := fun G => q_wp (d + 7) 117 84 [.inr (.inr (.inl (some p))), .inr (.inr (.inr ()))] [] v8 G Q) (k := 8) hp g h3 (by simp) (fun G8 g => ?_)
  clear h3 c4 nw z z3
  have z := z4
  clear z4
  clear c1 c2 c3
  have g : gx m G G8 p [((37, 8), []), ((38, 3), []), ((20, 80), []), ((4, 11), [some (32 + (m + 4)), none, some (32 + (m + 5)), none, none, none, none, none, some (32 + (m + 6)), none, none]), ((20, 200), []), ((30, 12), []), ((20, 4), []), ((5, 5), [some (32 + (m + 8)), some (32 + (m + 9)), some (32 + (m + 11)), some (32 + (m + 13)), some (32 + (m + 16))]), ((21, 16), []), ((3, 2), [some (32 + (m + 10)), none]), ((20, 600), []), ((3, 2), [some (32 + (m + 12)), none]), ((20, 48), []), ((6, 3), [some (32 + (m + 14)), some (32 + (m + 15)), none]), ((20, 16), []), ((20, 16), []), ((6, 3), [some (32 + (m + 17)), some (32 + (m + 18)), none]), ((20, 16), []), ((20, 16), []), ((2, 14), [some (32 + (m + 20)), none, none, some (32 + (m + 22)), some (32 + (m + 27)), some (32 + (m + 28)), some (32 + (m + 29)), some (32 + (m + 30)), none, none, some (32 + (m + 31)), some (32 + (m + 34)), none, some (32 + (m + 37))]), ((3, 2), [some (32 + (m + 21)), none]), ((20, 600), []), ((9, 4), [some (32 + (m + 23)), some (32 + (m + 24)), some (32 + (m + 25)), some (32 + (m + 26))]), ((20, 32), []), ((20, 32), []), ((20, 32), []), ((20, 32), []), ((21, 16), []), ((21, 32), []), ((20, 16), []), ((20, 16), []), ((6, 3), [some (32 + (m + 32)), some (32 + (m + 33)), none]), ((20, 16), []), ((20, 16), []), ((6, 3), [some (32 + (m + 35)), some (32 + (m + 36)), none]), ((20, 16), []), ((20, 16), []), ((3, 2), [some (32 + (m + 38)), none]), ((20, 48), []), ((2, 14), [some (32 + (m + 40)), none, none, some (32 + (m + 42)), some (32 + (m + 47)), some (32 + (m + 48)), some (32 + (m + 49)), some (32 + (m + 50)), none, none, some (32 + (m + 51)), some (32 + (m + 54)), none, some (32 + (m + 57))]), ((3, 2), [some (32 + (m + 41)), none]), ((20, 600), []), ((9, 4), [some (32 + (m + 43)), some (32 + (m + 44)), some (32 + (m + 45)), some (32 + (m + 46))]), ((20, 32), []), ((20, 32), []), ((20, 32), []), ((20, 32), []), ((21, 16), []), ((21, 32), []), ((20, 16), []), ((20, 16), []), ((6, 3), [some (32 + (m + 52)), some (32 + (m + 53)), none]), ((20, 16), []), ((20, 16), []), ((6, 3), [some (32 + (m + 55)), some (32 + (m + 56)), none]), ((20, 16), []), ((20, 16), []), ((3, 2), [some (32 + (m + 58)), none]), ((20, 48), []), ((1, 7), [some (32 + (m + 60)), none, none, none, none, none, none]), ((20, 16), [])] [some (32 + (m + 0)), some (32 + (m + 1)), some (32 + (m + 2)), none, some (32 + (m + 3)), some (32 + (m + 7)), some (32 + (m + 19)), some (32 + (m + 39)), some (32 + (m + 59)), none] := g
  have z : vz v v8 m 61 := z
  have fin := hQ _ _ g z
  clear hQ
  simp only [e_117_84, e_117_85]
  repeat' first | (refine And.intro ?_ ?_) | exact True.intro | omega | assumption | rfl
end
