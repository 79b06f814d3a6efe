section
variable {d p m : Nat} {v : q_H} {G : q_Gr} {Q : q_V → q_H → q_Gr → Prop}
/-- two arrays of 16 -/
theorem k76 (hm : G.2.2.1 = m) (hk : (G.2.1 p).1 = 6) (hp : p < 32 + m) (hn : ∀ k, G.1 p k = none) (hr : m + 2 ≤ 600000 ∧ G.2.2.2 + 32 ≤ 7302250) (hQ : ∀ v' G', gx m G G' p [((20, 16), []), ((20, 16), [])] [some (32 + (m + 0)), some (32 + (m + 1)), none] → vz v v' m 2 → Q (.inr (.inr (.inr ()))) v' G') : q_call (d + 1) 76 [.inr (.inr (.inl (some p)))] v G Q := by
  have g : gx m G G p [] [none, none, none] := gx_0 hm hn (by simp)
  have z : vz v v m 0 := vz_0
  have c1 : G.2.2.1 = m + 0 := g.2.1
  have c2 : G.2.2.2 = G.2.2.2 + 0 := by
    have h := g.2.2.1
    simp only [List.map_cons, List.map_nil, List.sum_cons, List.sum_nil] at h
    omega
  have c3 : (G.2.1 p).1 = 6 := by rw [(g.2.2.2.1 p hp).1, hk]
  simp (disch := omega) only [e_76, e_76_0, e_76_1, e_76_4, e_76_5, e_76_7, e_76_9, mk_2, c1, c3, show (16 : Int).toNat = 16 from rfl]
  repeat' first | (refine And.intro ?_ ?_) | exact True.intro | omega
  refine w_arr (K := fun v G => q_wp d 76 12 [.inr (.inr (.inl (some p)))] [] v G Q) (kd := 20) (n := 16) (k := 0) hp g z (by simp) (fun v1 G1 g z => ?_)
  clear c1 c2 c3
  have g : gx m G G1 p [((20, 16), [])] [some (32 + (m + 0)), none, none] := g
  have z : vz v v1 m 1 := z
  have c1 : G1.2.2.1 = m + 1 := g.2.1
  have c2 : G1.2.2.2 = G.2.2.2 + 16 := by
    have h := g.2.2.1
    simp only [List.map_cons, List.map_nil, List.sum_cons, List.sum_nil] at h
    omega
  have c3 : (G1.2.1 p).1 = 6 := by rw [(g.2.2.2.1 p hp).1, hk]
  simp (disch := omega) only [e_76_12, e_76_13, e_76_15, e_76_17, mk_2, c1, c3, show (16 : Int).toNat = 16 from rfl]
  repeat' first | (refine And.intro ?_ ?_) | exact True.intro | omega
  refine w_arr (K := fun v G => q_wp d 76 20 [.inr (.inr (.inl (some p)))] [] v G Q) (kd := 20) (n := 16) (k := 1) hp g z (by simp) (fun v2 G2 g z => ?_)
  clear c1 c2 c3
  have g : gx m G G2 p [((20, 16), []), ((20, 16), [])] [some (32 + (m + 0)), some (32 + (m + 1)), none] := g
  have z : vz v v2 m 2 := z
  have fin := hQ _ _ g z
  clear hQ
  simp only [e_76_20]
  repeat' first | (refine And.intro ?_ ?_) | exact True.intro | omega | assumption | rfl
/-- four arrays of 32 -/
theorem k104 (hm : G.2.2.1 = m) (hk : (G.2.1 p).1 = 9) (hp : p < 32 + m) (hn : ∀ k, G.1 p k = none) (hr : m + 4 ≤ 600000 ∧ G.2.2.2 + 128 ≤ 7302250) (hQ : ∀ v' G', gx m G G' p [((20, 32), []), ((20, 32), []), ((20, 32), []), ((20, 32), [])] [some (32 + (m + 0)), some (32 + (m + 1)), some (32 + (m + 2)), some (32 + (m + 3))] → vz v v' m 4 → Q (.inr (.inr (.inr ()))) v' G') : q_call (d + 1) 104 [.inr (.inr (.inl (some p)))] v G Q := by
  have g : gx m G G p [] [none, none, none, none] := gx_0 hm hn (by simp)
  have z : vz v v m 0 := vz_0
  have c1 : G.2.2.1 = m + 0 := g.2.1
  have c2 : G.2.2.2 = G.2.2.2 + 0 := by
    have h := g.2.2.1
    simp only [List.map_cons, List.map_nil, List.sum_cons, List.sum_nil] at h
    omega
  have c3 : (G.2.1 p).1 = 9 := by rw [(g.2.2.2.1 p hp).1, hk]
  simp (disch := omega) only [e_104, e_104_0, e_104_1, e_104_4, e_104_5, e_104_7, e_104_9, mk_2, c1, c3, show (32 : Int).toNat = 32 from rfl]
  repeat' first | (refine And.intro ?_ ?_) | exact True.intro | omega
  refine w_arr (K := fun v G => q_wp d 104 12 [.inr (.inr (.inl (some p)))] [] v G Q) (kd := 20) (n := 32) (k := 0) hp g z (by simp) (fun v1 G1 g z => ?_)
  clear c1 c2 c3
  have g : gx m G G1 p [((20, 32), [])] [some (32 + (m + 0)), none, none, none] := g
  have z : vz v v1 m 1 := z
  have c1 : G1.2.2.1 = m + 1 := g.2.1
  have c2 : G1.2.2.2 = G.2.2.2 + 32 := by
    have h := g.2.2.1
    simp only [List.map_cons, List.map_nil, List.sum_cons, List.sum_nil] at h
    omega
  have c3 : (G1.2.1 p).1 = 9 := by rw [(g.2.2.2.1 p hp).1, hk]
  simp (disch := omega) only [e_104_12, e_104_13, e_104_15, e_104_17, mk_2, c1, c3, show (32 : Int).toNat = 32 from rfl]
  repeat' first | (refine And.intro ?_ ?_) | exact True.intro | omega
  refine w_arr (K := fun v G => q_wp d 104 20 [.inr (.inr (.inl (some p)))] [] v G Q) (kd := 20) (n := 32) (k := 1) hp g z (by simp) (fun v2 G2 g z => ?_)
  clear c1 c2 c3
  have g : gx m G G2 p [((20, 32), []), ((20, 32), [])] [some (32 + (m + 0)), some (32 + (m + 1)), none, none] := g
  have z : vz v v2 m 2 := z
  have c1 : G2.2.2.1 = m + 2 := g.2.1
  have c2 : G2.2.2.2 = G.2.2.2 + 64 := by
    have h := g.2.2.1
    simp only [List.map_cons, List.map_nil, List.sum_cons, List.sum_nil] at h
    omega
  have c3 : (G2.2.1 p).1 = 9 := by rw [(g.2.2.2.1 p hp).1, hk]
  simp (disch := omega) only [e_104_20, e_104_21, e_104_23, e_104_25, mk_2, c1, c3, show (32 : Int).toNat = 32 from rfl]
  repeat' first | (refine And.intro ?_ ?_) | exact True.intro | omega
  refine w_arr (K := fun v G => q_wp d 104 28 [.inr (.inr (.inl (some p)))] [] v G Q) (kd := 20) (n := 32) (k := 2) hp g z (by simp) (fun v3 G3 g z => ?_)
  clear c1 c2 c3
  have g : gx m G G3 p [((20, 32), []), ((20, 32), []), ((20, 32), [])] [some (32 + (m + 0)), some (32 + (m + 1)), some (32 + (m + 2)), none] := g
  have z : vz v v3 m 3 := z
  have c1 : G3.2.2.1 = m + 3 := g.2.1
  have c2 : G3.2.2.2 = G.2.2.2 + 96 := by
    have h := g.2.2.1
    simp only [List.map_cons, List.map_nil, List.sum_cons, List.sum_nil] at h
    omega
  have c3 : (G3.2.1 p).1 = 9 := by rw [(g.2.2.2.1 p hp).1, hk]
  simp (disch := omega) only [e_104_28, e_104_29, e_104_31, e_104_33, mk_2, c1, c3, show (32 : Int).toNat = 32 from rfl]
  repeat' first | (refine And.intro ?_ ?_) | exact True.intro | omega
  refine w_arr (K := fun v G => q_wp d 104 36 [.inr (.inr (.inl (some p)))] [] v G Q) (kd := 20) (n := 32) (k := 3) hp g z (by simp) (fun v4 G4 g z => ?_)
  clear c1 c2 c3
  have g : gx m G G4 p [((20, 32), []), ((20, 32), []), ((20, 32), []), ((20, 32), [])] [some (32 + (m + 0)), some (32 + (m + 1)), some (32 + (m + 2)), some (32 + (m + 3))] := g
  have z : vz v v4 m 4 := z
  have fin := hQ _ _ g z
  clear hQ
  simp only [e_104_36]
  repeat' first | (refine And.intro ?_ ?_) | exact True.intro | omega | assumption | rfl
/-- one array of 16 -/
theorem k8 (hm : G.2.2.1 = m) (hk : (G.2.1 p).1 = 1) (hp : p < 32 + m) (hn : ∀ k, G.1 p k = none) (hr : m + 1 ≤ 600000 ∧ G.2.2.2 + 16 ≤ 7302250) (hQ : ∀ v' G', gx m G G' p [((20, 16), [])] [some (32 + (m + 0)), none, none, none, none, none, none] → vz v v' m 1 → Q (.inr (.inr (.inr ()))) v' G') : q_call (d + 1) 8 [.inr (.inr (.inl (some p)))] v G Q := by
  have g : gx m G G p [] [none, none, none, none, none, none, none] := gx_0 hm hn (by simp)
  have z : vz v v m 0 := vz_0
  have c1 : G.2.2.1 = m + 0 := g.2.1
  have c2 : G.2.2.2 = G.2.2.2 + 0 := by
    have h := g.2.2.1
    simp only [List.map_cons, List.map_nil, List.sum_cons, List.sum_nil] at h
    omega
  have c3 : (G.2.1 p).1 = 1 := by rw [(g.2.2.2.1 p hp).1, hk]
  simp (disch := omega) only [e_8, e_8_0, e_8_1, e_8_4, e_8_5, e_8_7, e_8_9, mk_2, c1, c3, show (16 : Int).toNat = 16 from rfl]
  repeat' first | (refine And.intro ?_ ?_) | exact True.intro | omega
  refine w_arr (K := fun v G => q_wp d 8 12 [.inr (.inr (.inl (some p)))] [] v G Q) (kd := 20) (n := 16) (k := 0) hp g z (by simp) (fun v1 G1 g z => ?_)
  clear c1 c2 c3
  have g : gx m G G1 p [((20, 16), [])] [some (32 + (m + 0)), none, none, none, none, none, none] := g
  have z : vz v v1 m 1 := z
  have fin := hQ _ _ g z
  clear hQ
  simp only [e_8_12]
  repeat' first | (refine And.intro ?_ ?_) | exact True.intro | omega | assumption | rfl
/-- the tape -/
theorem k43 (hm : G.2.2.1 = m) (hk : (G.2.1 p).1 = 4) (hp : p < 32 + m) (hn : ∀ k, G.1 p k = none) (hr : m + 3 ≤ 600000 ∧ G.2.2.2 + 216 ≤ 7302250) (hQ : ∀ v' G', gx m G G' p [((20, 200), []), ((30, 12), []), ((20, 4), [])] [some (32 + (m + 0)), none, some (32 + (m + 1)), none, none, none, none, none, some (32 + (m + 2)), none, none] → vz v v' m 3 → Q (.inr (.inr (.inr ()))) v' G') : q_call (d + 1) 43 [.inr (.inr (.inl (some p)))] v G Q := by
  have g : gx m G G p [] [none, none, none, none, none, none, none, none, none, none, none] := gx_0 hm hn (by simp)
  have z : vz v v m 0 := vz_0
  have c1 : G.2.2.1 = m + 0 := g.2.1
  have c2 : G.2.2.2 = G.2.2.2 + 0 := by
    have h := g.2.2.1
    simp only [List.map_cons, List.map_nil, List.sum_cons, List.sum_nil] at h
    omega
  have c3 : (G.2.1 p).1 = 4 := by rw [(g.2.2.2.1 p hp).1, hk]
  simp (disch := omega) only [e_43, e_43_0, e_43_1, e_43_4, e_43_5, e_43_8, e_43_10, mk_2, c1, c3, show (200 : Int).toNat = 200 from rfl]
  repeat' first | (refine And.intro ?_ ?_) | exact True.intro | omega
  refine w_arr (K := fun v G => q_wp d 43 13 [.inr (.inr (.inl (some p)))] [] v G Q) (kd := 20) (n := 200) (k := 0) hp g z (by simp) (fun v1 G1 g z => ?_)
  clear c1 c2 c3
  have g : gx m G G1 p [((20, 200), [])] [some (32 + (m + 0)), none, none, none, none, none, none, none, none, none, none] := g
  have z : vz v v1 m 1 := z
  have c1 : G1.2.2.1 = m + 1 := g.2.1
  have c2 : G1.2.2.2 = G.2.2.2 + 200 := by
    have h := g.2.2.1
    simp only [List.map_cons, List.map_nil, List.sum_cons, List.sum_nil] at h
    omega
  have c3 : (G1.2.1 p).1 = 4 := by rw [(g.2.2.2.1 p hp).1, hk]
  simp (disch := omega) only [e_43_13, e_43_14, e_43_16, e_43_19, mk_2, c1, c3, show (12 : Int).toNat = 12 from rfl]
  repeat' first | (refine And.intro ?_ ?_) | exact True.intro | omega
  refine w_arr (K := fun v G => q_wp d 43 22 [.inr (.inr (.inl (some p)))] [] v G Q) (kd := 30) (n := 12) (k := 2) hp g z (by simp) (fun v2 G2 g z => ?_)
  clear c1 c2 c3
  have g : gx m G G2 p [((20, 200), []), ((30, 12), [])] [some (32 + (m + 0)), none, some (32 + (m + 1)), none, none, none, none, none, none, none, none] := g
  have z : vz v v2 m 2 := z
  have c1 : G2.2.2.1 = m + 2 := g.2.1
  have c2 : G2.2.2.2 = G.2.2.2 + 212 := by
    have h := g.2.2.1
    simp only [List.map_cons, List.map_nil, List.sum_cons, List.sum_nil] at h
    omega
  have c3 : (G2.2.1 p).1 = 4 := by rw [(g.2.2.2.1 p hp).1, hk]
  simp (disch := omega) only [e_43_22, e_43_23, e_43_24, e_43_26, mk_2, c1, c3, show (4 : Int).toNat = 4 from rfl]
  repeat' first | (refine And.intro ?_ ?_) | exact True.intro | omega
  refine w_arr (K := fun v G => q_wp d 43 29 [.inr (.inr (.inl (some p)))] [] v G Q) (kd := 20) (n := 4) (k := 8) hp g z (by simp) (fun v3 G3 g z => ?_)
  clear c1 c2 c3
  have g : gx m G G3 p [((20, 200), []), ((30, 12), []), ((20, 4), [])] [some (32 + (m + 0)), none, some (32 + (m + 1)), none, none, none, none, none, some (32 + (m + 2)), none, none] := g
  have z : vz v v3 m 3 := z
  have fin := hQ _ _ g z
  clear hQ
  simp only [e_43_29]
  repeat' first | (refine And.intro ?_ ?_) | exact True.intro | omega | assumption | rfl
/-- one array of 600 -/
theorem k35_600 (hm : G.2.2.1 = m) (hk : (G.2.1 p).1 = 3) (hp : p < 32 + m) (hn : ∀ k, G.1 p k = none) (hr : m + 1 ≤ 600000 ∧ G.2.2.2 + 600 ≤ 7302250) (hQ : ∀ v' G', gx m G G' p [((20, 600), [])] [some (32 + (m + 0)), none] → vz v v' m 1 → Q (.inr (.inr (.inr ()))) v' G') : q_call (d + 1) 35 [.inr (.inr (.inl (some p))), .inl 600] v G Q := by
  have g : gx m G G p [] [none, none] := gx_0 hm hn (by simp)
  have z : vz v v m 0 := vz_0
  have c1 : G.2.2.1 = m + 0 := g.2.1
  simp (disch := omega) only [e_35, e_35_0, e_35_1, e_35_4, e_35_5, e_35_6, e_35_7, e_35_10, e_35_12, mk_2, c1, hk, ↓if_pos, ↓if_neg, show (600 : Int).toNat = 600 from rfl]
  repeat' first | (refine And.intro ?_ ?_) | exact True.intro | omega
  refine w_arr (K := fun v G => q_wp d 35 15 [.inr (.inr (.inl (some p))), .inl 600] [] v G Q) (kd := 20) (n := 600) (k := 0) hp g z (by simp) (fun v1 G1 g z => ?_)
  have fin := hQ _ _ g z
  clear hQ
  simp only [e_35_15]
  repeat' first | (refine And.intro ?_ ?_) | exact True.intro | omega | assumption | rfl
/-- one array of 48 -/
theorem k35_48 (hm : G.2.2.1 = m) (hk : (G.2.1 p).1 = 3) (hp : p < 32 + m) (hn : ∀ k, G.1 p k = none) (hr : m + 1 ≤ 600000 ∧ G.2.2.2 + 48 ≤ 7302250) (hQ : ∀ v' G', gx m G G' p [((20, 48), [])] [some (32 + (m + 0)), none] → vz v v' m 1 → Q (.inr (.inr (.inr ()))) v' G') : q_call (d + 1) 35 [.inr (.inr (.inl (some p))), .inl 48] v G Q := by
  have g : gx m G G p [] [none, none] := gx_0 hm hn (by simp)
  have z : vz v v m 0 := vz_0
  have c1 : G.2.2.1 = m + 0 := g.2.1
  simp (disch := omega) only [e_35, e_35_0, e_35_1, e_35_4, e_35_5, e_35_6, e_35_7, e_35_10, e_35_12, mk_2, c1, hk, ↓if_pos, ↓if_neg, show (48 : Int).toNat = 48 from rfl]
  repeat' first | (refine And.intro ?_ ?_) | exact True.intro | omega
  refine w_arr (K := fun v G => q_wp d 35 15 [.inr (.inr (.inl (some p))), .inl 48] [] v G Q) (kd := 20) (n := 48) (k := 0) hp g z (by simp) (fun v1 G1 g z => ?_)
  have fin := hQ _ _ g z
  clear hQ
  simp only [e_35_15]
  repeat' first | (refine And.intro ?_ ?_) | exact True.intro | omega | assumption | rfl
/-- the prover -/
theorem k65 (hm : G.2.2.1 = m) (hk : (G.2.1 p).1 = 5) (hp : p < 32 + m) (hn : ∀ k, G.1 p k = none) (hr : m + 11 ≤ 600000 ∧ G.2.2.2 + 738 ≤ 7302250) (hQ : ∀ v' G', gx m G G' p [((21, 16), []), ((3, 2), [some (32 + (m + 2)), none]), ((20, 600), []), ((3, 2), [some (32 + (m + 4)), none]), ((20, 48), []), ((6, 3), [some (32 + (m + 6)), some (32 + (m + 7)), none]), ((20, 16), []), ((20, 16), []), ((6, 3), [some (32 + (m + 9)), some (32 + (m + 10)), none]), ((20, 16), []), ((20, 16), [])] [some (32 + (m + 0)), some (32 + (m + 1)), some (32 + (m + 3)), some (32 + (m + 5)), some (32 + (m + 8))] → vz v v' m 11 → Q (.inr (.inr (.inr ()))) v' G') : q_call (d + 2) 65 [.inr (.inr (.inl (some p)))] v G Q := by
  have g : gx m G G p [] [none, none, none, none, none] := gx_0 hm hn (by simp)
  have z : vz v v m 0 := vz_0
  have c1 : G.2.2.1 = m + 0 := g.2.1
  have c2 : G.2.2.2 = G.2.2.2 + 0 := by
    have h := g.2.2.1
    simp only [List.map_cons, List.map_nil, List.sum_cons, List.sum_nil] at h
    omega
  have c3 : (G.2.1 p).1 = 5 := by rw [(g.2.2.2.1 p hp).1, hk]
  simp (disch := omega) only [e_65, e_65_0, e_65_1, e_65_4, e_65_5, e_65_7, e_65_9, mk_2, c1, c3, show (16 : Int).toNat = 16 from rfl]
  repeat' first | (refine And.intro ?_ ?_) | exact True.intro | omega
  refine w_arr (K := fun v G => q_wp (d + 1) 65 12 [.inr (.inr (.inl (some p)))] [] v G Q) (kd := 21) (n := 16) (k := 0) hp g z (by simp) (fun v1 G1 g z => ?_)
  clear c1 c2 c3
  have g : gx m G G1 p [((21, 16), [])] [some (32 + (m + 0)), none, none, none, none] := g
  have z : vz v v1 m 1 := z
  have c1 : G1.2.2.1 = m + 1 := g.2.1
  have c2 : G1.2.2.2 = G.2.2.2 + 16 := by
    have h := g.2.2.1
    simp only [List.map_cons, List.map_nil, List.sum_cons, List.sum_nil] at h
    omega
  have c3 : (G1.2.1 p).1 = 5 := by rw [(g.2.2.2.1 p hp).1, hk]
  have nw := gx_new (kd := 3) (n := 2) g
  simp (disch := omega) only [e_65_12, e_65_13, e_65_16, e_65_17, e_65_20, c1]
  repeat' first | (refine And.intro ?_ ?_) | exact True.intro | omega
  refine k35_600 (m := m + 1 + 1) nw.1 (congrArg Prod.fst nw.2.2) (by show 32 + (m + 1) < _; omega) nw.2.1 ⟨by omega, by rw [mk_4, c2]; omega⟩ (fun v2 H2 h3 z3 => ?_)
  have c4 : (H2.2.1 p).1 = 5 := by rw [(h3.2.2.2.1 p (by omega)).1, mk_2 (by omega), c3]
  have z4 := vz_sub z z3
  simp only [e_65_23, q_push_I, q_push_L, q_push_P, q_push_U, c4]
  repeat' first | (refine And.intro ?_ ?_) | exact True.intro | omega
  refine w_sub (K := fun G => q_wp (d + 1) 65 26 [.inr (.inr (.inl (some p)))] [] v2 G Q) (k := 1) hp g h3 (by simp) (fun G2 g => ?_)
  clear h3 c4 nw z z3
  have z := z4
  clear z4
  clear c1 c2 c3
  have g : gx m G G2 p [((21, 16), []), ((3, 2), [some (32 + (m + 2)), none]), ((20, 600), [])] [some (32 + (m + 0)), some (32 + (m + 1)), none, none, none] := g
  have z : vz v v2 m 3 := z
  have c1 : G2.2.2.1 = m + 3 := g.2.1
  have c2 : G2.2.2.2 = G.2.2.2 + 618 := by
    have h := g.2.2.1
    simp only [List.map_cons, List.map_nil, List.sum_cons, List.sum_nil] at h
    omega
  have c3 : (G2.2.1 p).1 = 5 := by rw [(g.2.2.2.1 p hp).1, hk]
  have nw := gx_new (kd := 3) (n := 2) g
  simp (disch := omega) only [e_65_26, e_65_27, e_65_30, e_65_31, e_65_33, c1]
  repeat' first | (refine And.intro ?_ ?_) | exact True.intro | omega
  refine k35_48 (m := m + 3 + 1) nw.1 (congrArg Prod.fst nw.2.2) (by show 32 + (m + 3) < _; omega) nw.2.1 ⟨by omega, by rw [mk_4, c2]; omega⟩ (fun v3 H3 h3 z3 => ?_)
  have c4 : (H3.2.1 p).1 = 5 := by rw [(h3.2.2.2.1 p (by omega)).1, mk_2 (by omega), c3]
  have z4 := vz_sub z z3
  simp only [e_65_36, q_push_I, q_push_L, q_push_P, q_push_U, c4]
  repeat' first | (refine And.intro ?_ ?_) | exact True.intro | omega
  refine w_sub (K := fun G => q_wp (d + 1) 65 39 [.inr (.inr (.inl (some p)))] [] v3 G Q) (k := 2) hp g h3 (by simp) (fun G3 g => ?_)
  clear h3 c4 nw z z3
  have z := z4
  clear z4
  clear c1 c2 c3
  have g : gx m G G3 p [((21, 16), []), ((3, 2), [some (32 + (m + 2)), none]), ((20, 600), []), ((3, 2), [some (32 + (m + 4)), none]), ((20, 48), [])] [some (32 + (m + 0)), some (32 + (m + 1)), some (32 + (m + 3)), none, none] := g
  have z : vz v v3 m 5 := z
  have c1 : G3.2.2.1 = m + 5 := g.2.1
  have c2 : G3.2.2.2 = G.2.2.2 + 668 := by
    have h := g.2.2.1
    simp only [List.map_cons, List.map_nil, List.sum_cons, List.sum_nil] at h
    omega
  have c3 : (G3.2.1 p).1 = 5 := by rw [(g.2.2.2.1 p hp).1, hk]
  have nw := gx_new (kd := 6) (n := 3) g
  simp (disch := omega) only [e_65_39, e_65_40, e_65_43, e_65_44, c1]
  repeat' first | (refine And.intro ?_ ?_) | exact True.intro | omega
  refine k76 (m := m + 5 + 1) nw.1 (congrArg Prod.fst nw.2.2) (by show 32 + (m + 5) < _; omega) nw.2.1 ⟨by omega, by rw [mk_4, c2]; omega⟩ (fun v4 H4 h3 z3 => ?_)
  have c4 : (H4.2.1 p).1 = 5 := by rw [(h3.2.2.2.1 p (by omega)).1, mk_2 (by omega), c3]
  have z4 := vz_sub z z3
  simp only [e_65_47, q_push_I, q_push_L, q_push_P, q_push_U, c4]
  repeat' first | (refine And.intro ?_ ?_) | exact True.intro | omega
  refine w_sub (K := fun G => q_wp (d + 1) 65 50 [.inr (.inr (.inl (some p)))] [] v4 G Q) (k := 3) hp g h3 (by simp) (fun G4 g => ?_)
  clear h3 c4 nw z z3
  have z := z4
  clear z4
  clear c1 c2 c3
  have g : gx m G G4 p [((21, 16), []), ((3, 2), [some (32 + (m + 2)), none]), ((20, 600), []), ((3, 2), [some (32 + (m + 4)), none]), ((20, 48), []), ((6, 3), [some (32 + (m + 6)), some (32 + (m + 7)), none]), ((20, 16), []), ((20, 16), [])] [some (32 + (m + 0)), some (32 + (m + 1)), some (32 + (m + 3)), some (32 + (m + 5)), none] := g
  have z : vz v v4 m 8 := z
  have c1 : G4.2.2.1 = m + 8 := g.2.1
  have c2 : G4.2.2.2 = G.2.2.2 + 703 := by
    have h := g.2.2.1
    simp only [List.map_cons, List.map_nil, List.sum_cons, List.sum_nil] at h
    omega
  have c3 : (G4.2.1 p).1 = 5 := by rw [(g.2.2.2.1 p hp).1, hk]
  have nw := gx_new (kd := 6) (n := 3) g
  simp (disch := omega) only [e_65_50, e_65_51, e_65_54, e_65_55, c1]
  repeat' first | (refine And.intro ?_ ?_) | exact True.intro | omega
  refine k76 (m := m + 8 + 1) nw.1 (congrArg Prod.fst nw.2.2) (by show 32 + (m + 8) < _; omega) nw.2.1 ⟨by omega, by rw [mk_4, c2]; omega⟩ (fun v5 H5 h3 z3 => ?_)
  have c4 : (H5.2.1 p).1 = 5 := by rw [(h3.2.2.2.1 p (by omega)).1, mk_2 (by omega), c3]
  have z4 := vz_sub z z3
  simp only [e_65_58, q_push_I, q_push_L, q_push_P, q_push_U, c4]
  repeat' first | (refine And.intro ?_ ?_) | exact True.intro | omega
  refine w_sub (K := fun G => q_wp (d + 1) 65 61 [.inr (.inr (.inl (some p)))] [] v5 G Q) (k := 4) hp g h3 (by simp) (fun G5 g => ?_)
  clear h3 c4 nw z z3
  have z := z4
  clear z4
  clear c1 c2 c3
  have g : gx m G G5 p [((21, 16), []), ((3, 2), [some (32 + (m + 2)), none]), ((20, 600), []), ((3, 2), [some (32 + (m + 4)), none]), ((20, 48), []), ((6, 3), [some (32 + (m + 6)), some (32 + (m + 7)), none]), ((20, 16), []), ((20, 16), []), ((6, 3), [some (32 + (m + 9)), some (32 + (m + 10)), none]), ((20, 16), []), ((20, 16), [])] [some (32 + (m + 0)), some (32 + (m + 1)), some (32 + (m + 3)), some (32 + (m + 5)), some (32 + (m + 8))] := g
  have z : vz v v5 m 11 := z
  have fin := hQ _ _ g z
  clear hQ
  simp only [e_65_61]
  repeat' first | (refine And.intro ?_ ?_) | exact True.intro | omega | assumption | rfl
/-- the checker -/
theorem k16 (hm : G.2.2.1 = m) (hk : (G.2.1 p).1 = 2) (hp : p < 32 + m) (hn : ∀ k, G.1 p k = none) (hr : m + 19 ≤ 600000 ∧ G.2.2.2 + 934 ≤ 7302250) (hQ : ∀ v' G', gx m G G' p [((3, 2), [some (32 + (m + 1)), none]), ((20, 600), []), ((9, 4), [some (32 + (m + 3)), some (32 + (m + 4)), some (32 + (m + 5)), some (32 + (m + 6))]), ((20, 32), []), ((20, 32), []), ((20, 32), []), ((20, 32), []), ((21, 16), []), ((21, 32), []), ((20, 16), []), ((20, 16), []), ((6, 3), [some (32 + (m + 12)), some (32 + (m + 13)), none]), ((20, 16), []), ((20, 16), []), ((6, 3), [some (32 + (m + 15)), some (32 + (m + 16)), none]), ((20, 16), []), ((20, 16), []), ((3, 2), [some (32 + (m + 18)), none]), ((20, 48), [])] [some (32 + (m + 0)), none, none, some (32 + (m + 2)), some (32 + (m + 7)), some (32 + (m + 8)), some (32 + (m + 9)), some (32 + (m + 10)), none, none, some (32 + (m + 11)), some (32 + (m + 14)), none, some (32 + (m + 17))] → vz v v' m 19 → Q (.inr (.inr (.inr ()))) v' G') : q_call (d + 2) 16 [.inr (.inr (.inl (some p)))] v G Q := by
  have g : gx m G G p [] [none, none, none, none, none, none, none, none, none, none, none, none, none, none] := gx_0 hm hn (by simp)
  have z : vz v v m 0 := vz_0
  have c1 : G.2.2.1 = m + 0 := g.2.1
  have c2 : G.2.2.2 = G.2.2.2 + 0 := by
    have h := g.2.2.1
    simp only [List.map_cons, List.map_nil, List.sum_cons, List.sum_nil] at h
    omega
  have c3 : (G.2.1 p).1 = 2 := by rw [(g.2.2.2.1 p hp).1, hk]
  have nw := gx_new (kd := 3) (n := 2) g
  simp (disch := omega) only [e_16, e_16_0, e_16_1, e_16_4, e_16_5, e_16_8, e_16_9, e_16_12, c1]
  repeat' first | (refine And.intro ?_ ?_) | exact True.intro | omega
  refine k35_600 (m := m + 0 + 1) nw.1 (congrArg Prod.fst nw.2.2) (by show 32 + (m + 0) < _; omega) nw.2.1 ⟨by omega, by rw [mk_4, c2]; omega⟩ (fun v1 H1 h3 z3 => ?_)
  have c4 : (H1.2.1 p).1 = 2 := by rw [(h3.2.2.2.1 p (by omega)).1, mk_2 (by omega), c3]
  have z4 := vz_sub z z3
  simp only [e_16_15, q_push_I, q_push_L, q_push_P, q_push_U, c4]
  repeat' first | (refine And.intro ?_ ?_) | exact True.intro | omega
  refine w_sub (K := fun G => q_wp (d + 1) 16 18 [.inr (.inr (.inl (some p)))] [] v1 G Q) (k := 0) hp g h3 (by simp) (fun G1 g => ?_)
  clear h3 c4 nw z z3
  have z := z4
  clear z4
  clear c1 c2 c3
  have g : gx m G G1 p [((3, 2), [some (32 + (m + 1)), none]), ((20, 600), [])] [some (32 + (m + 0)), none, none, none, none, none, none, none, none, none, none, none, none, none] := g
  have z : vz v v1 m 2 := z
  have c1 : G1.2.2.1 = m + 2 := g.2.1
  have c2 : G1.2.2.2 = G.2.2.2 + 602 := by
    have h := g.2.2.1
    simp only [List.map_cons, List.map_nil, List.sum_cons, List.sum_nil] at h
    omega
  have c3 : (G1.2.1 p).1 = 2 := by rw [(g.2.2.2.1 p hp).1, hk]
  have nw := gx_new (kd := 9) (n := 4) g
  simp (disch := omega) only [e_16_18, e_16_19, e_16_22, e_16_23, c1]
  repeat' first | (refine And.intro ?_ ?_) | exact True.intro | omega
  refine k104 (m := m + 2 + 1) nw.1 (congrArg Prod.fst nw.2.2) (by show 32 + (m + 2) < _; omega) nw.2.1 ⟨by omega, by rw [mk_4, c2]; omega⟩ (fun v2 H2 h3 z3 => ?_)
  have c4 : (H2.2.1 p).1 = 2 := by rw [(h3.2.2.2.1 p (by omega)).1, mk_2 (by omega), c3]
  have z4 := vz_sub z z3
  simp only [e_16_26, q_push_I, q_push_L, q_push_P, q_push_U, c4]
  repeat' first | (refine And.intro ?_ ?_) | exact True.intro | omega
  refine w_sub (K := fun G => q_wp (d + 1) 16 29 [.inr (.inr (.inl (some p)))] [] v2 G Q) (k := 3) hp g h3 (by simp) (fun G2 g => ?_)
  clear h3 c4 nw z z3
  have z := z4
  clear z4
  clear c1 c2 c3
  have g : gx m G G2 p [((3, 2), [some (32 + (m + 1)), none]), ((20, 600), []), ((9, 4), [some (32 + (m + 3)), some (32 + (m + 4)), some (32 + (m + 5)), some (32 + (m + 6))]), ((20, 32), []), ((20, 32), []), ((20, 32), []), ((20, 32), [])] [some (32 + (m + 0)), none, none, some (32 + (m + 2)), none, none, none, none, none, none, none, none, none, none] := g
  have z : vz v v2 m 7 := z
  have c1 : G2.2.2.1 = m + 7 := g.2.1
  have c2 : G2.2.2.2 = G.2.2.2 + 734 := by
    have h := g.2.2.1
    simp only [List.map_cons, List.map_nil, List.sum_cons, List.sum_nil] at h
    omega
  have c3 : (G2.2.1 p).1 = 2 := by rw [(g.2.2.2.1 p hp).1, hk]
  simp (disch := omega) only [e_16_29, e_16_30, e_16_32, e_16_34, mk_2, c1, c3, show (16 : Int).toNat = 16 from rfl]
  repeat' first | (refine And.intro ?_ ?_) | exact True.intro | omega
  refine w_arr (K := fun v G => q_wp (d + 1) 16 37 [.inr (.inr (.inl (some p)))] [] v G Q) (kd := 21) (n := 16) (k := 4) hp g z (by simp) (fun v3 G3 g z => ?_)
  clear c1 c2 c3
  have g : gx m G G3 p [((3, 2), [some (32 + (m + 1)), none]), ((20, 600), []), ((9, 4), [some (32 + (m + 3)), some (32 + (m + 4)), some (32 + (m + 5)), some (32 + (m + 6))]), ((20, 32), []), ((20, 32), []), ((20, 32), []), ((20, 32), []), ((21, 16), [])] [some (32 + (m + 0)), none, none, some (32 + (m + 2)), some (32 + (m + 7)), none, none, none, none, none, none, none, none, none] := g
  have z : vz v v3 m 8 := z
  have c1 : G3.2.2.1 = m + 8 := g.2.1
  have c2 : G3.2.2.2 = G.2.2.2 + 750 := by
    have h := g.2.2.1
    simp only [List.map_cons, List.map_nil, List.sum_cons, List.sum_nil] at h
    omega
  have c3 : (G3.2.1 p).1 = 2 := by rw [(g.2.2.2.1 p hp).1, hk]
  simp (disch := omega) only [e_16_37, e_16_38, e_16_40, e_16_42, mk_2, c1, c3, show (32 : Int).toNat = 32 from rfl]
  repeat' first | (refine And.intro ?_ ?_) | exact True.intro | omega
  refine w_arr (K := fun v G => q_wp (d + 1) 16 45 [.inr (.inr (.inl (some p)))] [] v G Q) (kd := 21) (n := 32) (k := 5) hp g z (by simp) (fun v4 G4 g z => ?_)
  clear c1 c2 c3
  have g : gx m G G4 p [((3, 2), [some (32 + (m + 1)), none]), ((20, 600), []), ((9, 4), [some (32 + (m + 3)), some (32 + (m + 4)), some (32 + (m + 5)), some (32 + (m + 6))]), ((20, 32), []), ((20, 32), []), ((20, 32), []), ((20, 32), []), ((21, 16), []), ((21, 32), [])] [some (32 + (m + 0)), none, none, some (32 + (m + 2)), some (32 + (m + 7)), some (32 + (m + 8)), none, none, none, none, none, none, none, none] := g
  have z : vz v v4 m 9 := z
  have c1 : G4.2.2.1 = m + 9 := g.2.1
  have c2 : G4.2.2.2 = G.2.2.2 + 782 := by
    have h := g.2.2.1
    simp only [List.map_cons, List.map_nil, List.sum_cons, List.sum_nil] at h
    omega
  have c3 : (G4.2.1 p).1 = 2 := by rw [(g.2.2.2.1 p hp).1, hk]
  simp (disch := omega) only [e_16_45, e_16_46, e_16_48, e_16_50, mk_2, c1, c3, show (16 : Int).toNat = 16 from rfl]
  repeat' first | (refine And.intro ?_ ?_) | exact True.intro | omega
  refine w_arr (K := fun v G => q_wp (d + 1) 16 53 [.inr (.inr (.inl (some p)))] [] v G Q) (kd := 20) (n := 16) (k := 6) hp g z (by simp) (fun v5 G5 g z => ?_)
  clear c1 c2 c3
  have g : gx m G G5 p [((3, 2), [some (32 + (m + 1)), none]), ((20, 600), []), ((9, 4), [some (32 + (m + 3)), some (32 + (m + 4)), some (32 + (m + 5)), some (32 + (m + 6))]), ((20, 32), []), ((20, 32), []), ((20, 32), []), ((20, 32), []), ((21, 16), []), ((21, 32), []), ((20, 16), [])] [some (32 + (m + 0)), none, none, some (32 + (m + 2)), some (32 + (m + 7)), some (32 + (m + 8)), some (32 + (m + 9)), none, none, none, none, none, none, none] := g
  have z : vz v v5 m 10 := z
  have c1 : G5.2.2.1 = m + 10 := g.2.1
  have c2 : G5.2.2.2 = G.2.2.2 + 798 := by
    have h := g.2.2.1
    simp only [List.map_cons, List.map_nil, List.sum_cons, List.sum_nil] at h
    omega
  have c3 : (G5.2.1 p).1 = 2 := by rw [(g.2.2.2.1 p hp).1, hk]
  simp (disch := omega) only [e_16_53, e_16_54, e_16_56, e_16_58, mk_2, c1, c3, show (16 : Int).toNat = 16 from rfl]
  repeat' first | (refine And.intro ?_ ?_) | exact True.intro | omega
  refine w_arr (K := fun v G => q_wp (d + 1) 16 61 [.inr (.inr (.inl (some p)))] [] v G Q) (kd := 20) (n := 16) (k := 7) hp g z (by simp) (fun v6 G6 g z => ?_)
  clear c1 c2 c3
  have g : gx m G G6 p [((3, 2), [some (32 + (m + 1)), none]), ((20, 600), []), ((9, 4), [some (32 + (m + 3)), some (32 + (m + 4)), some (32 + (m + 5)), some (32 + (m + 6))]), ((20, 32), []), ((20, 32), []), ((20, 32), []), ((20, 32), []), ((21, 16), []), ((21, 32), []), ((20, 16), []), ((20, 16), [])] [some (32 + (m + 0)), none, none, some (32 + (m + 2)), some (32 + (m + 7)), some (32 + (m + 8)), some (32 + (m + 9)), some (32 + (m + 10)), none, none, none, none, none, none] := g
  have z : vz v v6 m 11 := z
  have c1 : G6.2.2.1 = m + 11 := g.2.1
  have c2 : G6.2.2.2 = G.2.2.2 + 814 := by
    have h := g.2.2.1
    simp only [List.map_cons, List.map_nil, List.sum_cons, List.sum_nil] at h
    omega
  have c3 : (G6.2.1 p).1 = 2 := by rw [(g.2.2.2.1 p hp).1, hk]
  have nw := gx_new (kd := 6) (n := 3) g
  simp (disch := omega) only [e_16_61, e_16_62, e_16_65, e_16_66, c1]
  repeat' first | (refine And.intro ?_ ?_) | exact True.intro | omega
  refine k76 (m := m + 11 + 1) nw.1 (congrArg Prod.fst nw.2.2) (by show 32 + (m + 11) < _; omega) nw.2.1 ⟨by omega, by rw [mk_4, c2]; omega⟩ (fun v7 H7 h3 z3 => ?_)
  have c4 : (H7.2.1 p).1 = 2 := by rw [(h3.2.2.2.1 p (by omega)).1, mk_2 (by omega), c3]
  have z4 := vz_sub z z3
  simp only [e_16_69, q_push_I, q_push_L, q_push_P, q_push_U, c4]
  repeat' first | (refine And.intro ?_ ?_) | exact True.intro | omega
  refine w_sub (K := fun G => q_wp (d + 1) 16 72 [.inr (.inr (.inl (some p)))] [] v7 G Q) (k := 10) hp g h3 (by simp) (fun G7 g => ?_)
  clear h3 c4 nw z z3
  have z := z4
  clear z4
  clear c1 c2 c3
  have g : gx m G G7 p [((3, 2), [some (32 + (m + 1)), none]), ((20, 600), []), ((9, 4), [some (32 + (m + 3)), some (32 + (m + 4)), some (32 + (m + 5)), some (32 + (m + 6))]), ((20, 32), []), ((20, 32), []), ((20, 32), []), ((20, 32), []), ((21, 16), []), ((21, 32), []), ((20, 16), []), ((20, 16), []), ((6, 3), [some (32 + (m + 12)), some (32 + (m + 13)), none]), ((20, 16), []), ((20, 16), [])] [some (32 + (m + 0)), none, none, some (32 + (m + 2)), some (32 + (m + 7)), some (32 + (m + 8)), some (32 + (m + 9)), some (32 + (m + 10)), none, none, some (32 + (m + 11)), none, none, none] := g
  have z : vz v v7 m 14 := z
  have c1 : G7.2.2.1 = m + 14 := g.2.1
  have c2 : G7.2.2.2 = G.2.2.2 + 849 := by
    have h := g.2.2.1
    simp only [List.map_cons, List.map_nil, List.sum_cons, List.sum_nil] at h
    omega
  have c3 : (G7.2.1 p).1 = 2 := by rw [(g.2.2.2.1 p hp).1, hk]
  have nw := gx_new (kd := 6) (n := 3) g
  simp (disch := omega) only [e_16_72, e_16_73, e_16_76, e_16_77, c1]
  repeat' first | (refine And.intro ?_ ?_) | exact True.intro | omega
  refine k76 (m := m + 14 + 1) nw.1 (congrArg Prod.fst nw.2.2) (by show 32 + (m + 14) < _; omega) nw.2.1 ⟨by omega, by rw [mk_4, c2]; omega⟩ (fun v8 H8 h3 z3 => ?_)
  have c4 : (H8.2.1 p).1 = 2 := by rw [(h3.2.2.2.1 p (by omega)).1, mk_2 (by omega), c3]
  have z4 := vz_sub z z3
  simp only [e_16_80, q_push_I, q_push_L, q_push_P, q_push_U, c4]
  repeat' first | (refine And.intro ?_ ?_) | exact True.intro | omega
  refine w_sub (K := fun G => q_wp (d + 1) 16 83 [.inr (.inr (.inl (some p)))] [] v8 G Q) (k := 11) hp g h3 (by simp) (fun G8 g => ?_)
  clear h3 c4 nw z z3
  have z := z4
  clear z4
  clear c1 c2 c3
  have g : gx m G G8 p [((3, 2), [some (32 + (m + 1)), none]), ((20, 600), []), ((9, 4), [some (32 + (m + 3)), some (32 + (m + 4)), some (32 + (m + 5)), some (32 + (m + 6))]), ((20, 32), []), ((20, 32), []), ((20, 32), []), ((20, 32), []), ((21, 16), []), ((21, 32), []), ((20, 16), []), ((20, 16), []), ((6, 3), [some (32 + (m + 12)), some (32 + (m + 13)), none]), ((20, 16), []), ((20, 16), []), ((6, 3), [some (32 + (m + 15)), some (32 + (m + 16)), none]), ((20, 16), []), ((20, 16), [])] [some (32 + (m + 0)), none, none, some (32 + (m + 2)), some (32 + (m + 7)), some (32 + (m + 8)), some (32 + (m + 9)), some (32 + (m + 10)), none, none, some (32 + (m + 11)), some (32 + (m + 14)), none, none] := g
  have z : vz v v8 m 17 := z
  have c1 : G8.2.2.1 = m + 17 := g.2.1
  have c2 : G8.2.2.2 = G.2.2.2 + 884 := by
    have h := g.2.2.1
    simp only [List.map_cons, List.map_nil, List.sum_cons, List.sum_nil] at h
    omega
  have c3 : (G8.2.1 p).1 = 2 := by rw [(g.2.2.2.1 p hp).1, hk]
  have nw := gx_new (kd := 3) (n := 2) g
  simp (disch := omega) only [e_16_83, e_16_84, e_16_87, e_16_88, e_16_90, c1]
  repeat' first | (refine And.intro ?_ ?_) | exact True.intro | omega
  refine k35_48 (m := m + 17 + 1) nw.1 (congrArg Prod.fst nw.2.2) (by show 32 + (m + 17) < _; omega) nw.2.1 ⟨by omega, by rw [mk_4, c2]; omega⟩ (fun v9 H9 h3 z3 => ?_)
  have c4 : (H9.2.1 p).1 = 2 := by rw [(h3.2.2.2.1 p (by omega)).1, mk_2 (by omega), c3]
  have z4 := vz_sub z z3
  simp only [e_16_93, q_push_I, q_push_L, q_push_P, q_push_U, c4]
  repeat' first | (refine And.intro ?_ ?_) | exact True.intro | omega
  refine w_sub (K := fun G => q_wp (d + 1) 16 96 [.inr (.inr (.inl (some p)))] [] v9 G Q) (k := 13) hp g h3 (by simp) (fun G9 g => ?_)
  clear h3 c4 nw z z3
  have z := z4
  clear z4
  clear c1 c2 c3
  have g : gx m G G9 p [((3, 2), [some (32 + (m + 1)), none]), ((20, 600), []), ((9, 4), [some (32 + (m + 3)), some (32 + (m + 4)), some (32 + (m + 5)), some (32 + (m + 6))]), ((20, 32), []), ((20, 32), []), ((20, 32), []), ((20, 32), []), ((21, 16), []), ((21, 32), []), ((20, 16), []), ((20, 16), []), ((6, 3), [some (32 + (m + 12)), some (32 + (m + 13)), none]), ((20, 16), []), ((20, 16), []), ((6, 3), [some (32 + (m + 15)), some (32 + (m + 16)), none]), ((20, 16), []), ((20, 16), []), ((3, 2), [some (32 + (m + 18)), none]), ((20, 48), [])] [some (32 + (m + 0)), none, none, some (32 + (m + 2)), some (32 + (m + 7)), some (32 + (m + 8)), some (32 + (m + 9)), some (32 + (m + 10)), none, none, some (32 + (m + 11)), some (32 + (m + 14)), none, some (32 + (m + 17))] := g
  have z : vz v v9 m 19 := z
  have fin := hQ _ _ g z
  clear hQ
  simp only [e_16_96]
  repeat' first | (refine And.intro ?_ ?_) | exact True.intro | omega | assumption | rfl
end
