def q_R10 (m : Nat) : List (Option Nat) := [some (32 + (m + 0)), some (32 + (m + 1)), some (32 + (m + 2)), none, some (32 + (m + 3)), some (32 + (m + 7)), some (32 + (m + 19)), some (32 + (m + 39)), some (32 + (m + 59)), none]
def q_L36 : List q_Ce := [((20, 8), []), ((20, 8), []), ((20, 4800), []), ((20, 3), []), ((20, 42), []), ((20, 42), []), ((20, 16), []), ((20, 16), []), ((20, 272), []), ((20, 272), []), ((20, 80), []), ((20, 12), []), ((20, 12), []), ((20, 12), []), ((20, 12), []), ((20, 12), []), ((20, 200), []), ((20, 600), []), ((21, 16), []), ((20, 40), []), ((20, 40), []), ((20, 64), []), ((20, 600), []), ((21, 16), []), ((20, 16), []), ((20, 16), []), ((20, 16), []), ((20, 40), []), ((20, 40), []), ((20, 40), []), ((20, 40), []), ((20, 40), []), ((20, 16), []), ((20, 16), []), ((20, 64), []), ((20, 16), [])]
def q_R66 (m : Nat) : List (Option Nat) := [none, none, some (32 + (m + 0)), some (32 + (m + 1)), some (32 + (m + 2)), some (32 + (m + 3)), some (32 + (m + 4)), some (32 + (m + 5)), none, some (32 + (m + 6)), some (32 + (m + 7)), some (32 + (m + 8)), some (32 + (m + 9)), none, some (32 + (m + 10)), none, some (32 + (m + 11)), some (32 + (m + 12)), some (32 + (m + 13)), some (32 + (m + 14)), some (32 + (m + 15)), none, some (32 + (m + 16)), none, none, none, none, none, none, none, none, none, none, some (32 + (m + 17)), some (32 + (m + 18)), some (32 + (m + 19)), some (32 + (m + 20)), none, some (32 + (m + 21)), none, some (32 + (m + 22)), none, none, none, none, some (32 + (m + 23)), some (32 + (m + 24)), some (32 + (m + 25)), some (32 + (m + 26)), some (32 + (m + 27)), some (32 + (m + 28)), some (32 + (m + 29)), some (32 + (m + 30)), some (32 + (m + 31)), none, none, none, none, none, some (32 + (m + 32)), some (32 + (m + 33)), none, none, some (32 + (m + 34)), some (32 + (m + 35)), none]
theorem n_run {L : Nat} {u : q_H} {Q : q_V → q_H → q_Gr → Prop} (hQ : ∀ vA GA vB GB vC GC vE GE, gx 1 (q_mk (q_Gs L) 10 10) GA 32 (q_L61 1) (q_R10 1) → vz (q_zr u 32) vA 1 61 → gx 62 GA GB 33 (Bf 62 8) (Rf 62 2 8 8) → vb vA vB 62 8 → gx 78 GB GC 34 (Cf 78 3) (Rf 78 9 3 3) → vt vB vC 78 3 → gx 106 (q_mk GC 11 66) GE 137 q_L36 (q_R66 106) → (∀ b, b < 32 + 106 → vE b = q_zr vC 137 b) → (∀ k, k < 8 → vE (32 + 106) k = -1) → (∀ b, 32 + 106 < b → b < 32 + 106 + 36 → ∀ j, vE b j = 0) → q_wp 40 225 18 [.inr (.inr (.inl (some 0))), .inr (.inr (.inl (some 32))), .inr (.inr (.inl (some 137))), .inl 0] [] vE GE Q) : q_wp 40 225 0 [.inr (.inr (.inl (some 0))), .inr (.inr (.inr ())), .inr (.inr (.inr ())), .inr (.inr (.inr ()))] [] u (q_Gs L) Q := by
  have s0 : (q_Gs L).2.2.1 = 0 := rfl
  have s1 : (q_Gs L).2.2.2 = 0 := rfl
  have n0 : (q_mk (q_Gs L) 10 10).2.1 32 = (10, 10) := mk_2n (G := q_Gs L)
  have n1 : ∀ k, (q_mk (q_Gs L) 10 10).1 32 k = none := fun k => mk_1n (G := q_Gs L)
  have n2 : (q_mk (q_Gs L) 10 10).2.2.2 = 10 := rfl
  have key : q_call 40 117 [.inr (.inr (.inl (some 32)))] (q_zr u 32) (q_mk (q_Gs L) 10 10) (fun r v' G' => q_wp 40 225 7 [.inr (.inr (.inl (some 0))), .inr (.inr (.inr ())), .inr (.inr (.inr ())), .inr (.inr (.inr ()))] (q_push r [.inr (.inr (.inl (some 32)))]) v' G' Q) := by
    refine k117a (d := 32) (m := 1) rfl (congrArg Prod.fst n0) (by decide) n1 ⟨by decide, by rw [n2]; decide⟩ (fun vA GA gA zA => ?_)
    have gA : gx 1 (q_mk (q_Gs L) 10 10) GA 32 (q_L61 1) (q_R10 1) := gA
    have a1 : (GA.2.1 32).1 = 10 := by rw [(gA.2.2.2.1 32 (by decide)).1, n0]
    have a2 : GA.1 32 0 = some 33 := gA.2.2.2.2.2 0
    have a3 : GA.1 32 1 = some 34 := gA.2.2.2.2.2 1
    have a4 : GA.2.1 33 = (37, 8) := (gA.2.2.2.2.1 0 (by decide)).1
    have a5 : GA.2.1 34 = (38, 3) := (gA.2.2.2.2.1 1 (by decide)).1
    have a6 : ∀ k, GA.1 33 k = none := fun k => (gA.2.2.2.2.1 0 (by decide)).2 k
    have a7 : ∀ k, GA.1 34 k = none := fun k => (gA.2.2.2.2.1 1 (by decide)).2 k
    have a8 : GA.2.2.1 = 62 := gA.2.1
    have a9 : GA.2.2.2 ≤ 10000 := by
      rw [gA.2.2.1, n2]
      decide
    refine s_sheets (d := 37) (p := 32) (c := 33) (vA := vA) (GA := GA) a8 (by decide) (by decide) (by decide) a1 a2 a4 ⟨by decide, by omega⟩ (fun vB GB gB zB => ?_) 8 0 vA GA rfl (gx_0 a8 a6 (by simp [Rf])) ⟨fun _ _ => rfl, fun k hk => by omega⟩
    have b1 : (GB.2.1 32).1 = 10 := by rw [(gB.2.2.2.1 32 (by decide)).1, a1]
    have b2 : GB.1 32 1 = some 34 := by rw [(gB.2.2.2.1 32 (by decide)).2 (by decide), a3]
    have b3 : GB.2.1 34 = (38, 3) := by rw [(gB.2.2.2.1 34 (by decide)).1, a5]
    have b4 : ∀ k, GB.1 34 k = none := fun k => by rw [(gB.2.2.2.1 34 (by decide)).2 (by decide), a7]
    have b5 : GB.2.2.1 = 78 := by rw [gB.2.1, Bf_len]
    have b6 : GB.2.2.2 ≤ 20000 := by
      rw [gB.2.2.1, Bf_sum]
      omega
    have nx : q_wp 39 117 113 [.inr (.inr (.inl (some 32))), .inl 0] [] vB GB (fun r v' G' => q_wp 40 225 7 [.inr (.inr (.inl (some 0))), .inr (.inr (.inr ())), .inr (.inr (.inr ())), .inr (.inr (.inr ()))] (q_push r [.inr (.inr (.inl (some 32)))]) v' G' Q) := by
      refine s_tables (d := 32) (p := 32) (c := 34) (vA := vB) (GA := GB) b5 (by decide) (by decide) (by decide) b1 b2 b3 ⟨by decide, by omega⟩ (fun vC GC gC zC => ?_) 3 0 vB GB rfl (gx_0 b5 b4 (by simp [Rf])) ⟨fun _ _ => rfl, fun k hk => by omega⟩
      have d1 : GC.2.2.1 = 105 := by rw [gC.2.1, Cf_len]
      have d2 : GC.2.2.2 ≤ 30000 := by
        rw [gC.2.2.1, Cf_sum]
        omega
      have e0 : (q_mk GC 11 66).2.1 137 = (11, 66) := by
        have := mk_2n (G := GC) (kd := 11) (n := 66)
        rw [d1] at this
        exact this
      have e1 : ∀ k, (q_mk GC 11 66).1 137 k = none := fun k => by
        have := mk_1n (G := GC) (kd := 11) (n := 66) (k := k)
        rw [d1] at this
        exact this
      have e2 : (q_mk GC 11 66).2.2.1 = 106 := by rw [mk_3, d1]
      have k2 : q_call 40 150 [.inr (.inr (.inl (some 137)))] (q_zr vC 137) (q_mk GC 11 66) (fun r v' G' => q_wp 40 225 15 [.inr (.inr (.inl (some 0))), .inr (.inr (.inl (some 32))), .inr (.inr (.inr ())), .inr (.inr (.inr ()))] (q_push r [.inr (.inr (.inl (some 137)))]) v' G' Q) := by
        refine k150 (d := 39) (m := 106) e2 (congrArg Prod.fst e0) (by decide) e1 ⟨by decide, by rw [mk_4]; omega⟩ (fun vE GE gE y1 y2 y3 => ?_)
        have fin := hQ vA GA vB GB vC GC vE GE gA zA gB zB gC zC gE y1 y2 y3
        clear hQ
        simp only [e_225_15, e_225_16, e_225_17, q_push_I, q_push_L, q_push_P, q_push_U]
        repeat' first | (refine And.intro ?_ ?_) | exact True.intro | omega | assumption | rfl
      clear hQ
      simp (disch := omega) only [e_225_7, e_225_8, e_225_11, e_225_12, d1, q_push_I, q_push_L, q_push_P, q_push_U]
      repeat' first | (refine And.intro ?_ ?_) | exact True.intro | omega | assumption | rfl
    clear hQ
    simp only [e_117_111, e_117_112]
    repeat' first | (refine And.intro ?_ ?_) | exact True.intro | omega | assumption | rfl
  clear hQ
  simp (disch := omega) only [e_225, e_225_0, e_225_3, e_225_4, s0]
  repeat' first | (refine And.intro ?_ ?_) | exact True.intro | omega | assumption | rfl
