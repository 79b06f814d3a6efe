section
variable {d q : Nat} {v : q_H} {G : q_Gr} {Q : q_V → q_H → q_Gr → Prop}
/-- the class's walk through a tree -/
theorem s_walk {tt n N : Nat} {S : Nat → Bool} {v0 : q_H} {key val : Nat → Int} (hG : gok G) (g : gTab G q) (hq : 44 < q) (hI : tabI v0 q tt n) (hN : N = n + 2) (hkey : v0 (q + 2) = key) (hval : v0 (q + 3) = val) (hS : ∀ j, j < 16 → v0 41 j = if S j then 1 else 0) (h0 : 0 ≤ v0 42 1) : ∀ (m t : Nat) (L : List Int) (s : Nat) (z5 : q_V), 1 ≤ t → t < 32 → (sh N t).2 ≤ m → 1 ≤ (sh N t).2 → s + nv S (sh N t).1 (sh N t).2 ≤ 32 → v0 42 1 + L.length + (tl key val S (sh N t).1 (sh N t).2).length ≤ 600 → (∀ z5, q_wp (d + 3) 70 24 [.inr (.inr (.inl (some 40))), .inr (.inr (.inl (some q))), .inr (.inr (.inl (some (q + 4)))), .inl ((bh t : Nat)), .inl ((s + nv S (sh N t).1 (sh N t).2 : Nat)), z5] [] (q_apl v0 42 1 43 (L ++ tl key val S (sh N t).1 (sh N t).2)) G Q) → q_wp (d + 3) 70 24 [.inr (.inr (.inl (some 40))), .inr (.inr (.inl (some q))), .inr (.inr (.inl (some (q + 4)))), .inl t, .inl s, z5] [] (q_apl v0 42 1 43 L) G Q := by
  have h14 := hI.1
  have hsz := hI.2.2.1
  have hT := hI.2.2.2.2.2.2.2.2.2
  rw [hkey, hval] at hT
  rw [← hN] at hT
  have gt := g.2.2.2.2
  intro m
  induction m with
  | zero => intro t L s z5 h1 h2 h3 h4; omega
  | succ m ih =>
    intro t L s z5 h1 h2 h3 h4 h5 h6 hC
    have hbd := sh_bd N (by omega) t h2 h1
    have t1 := hT.1 t h1 h2
    have t2 := hT.2 t h1 h2 h4
    generalize hk : (sh N t).1 = k at *
    generalize hn : (sh N t).2 = w at *
    generalize hV : q_apl v0 42 1 43 L = V
    have vr : ∀ b, b ≠ 42 → b ≠ 43 → V b = v0 b := fun b b1 b2 => by rw [← hV, apl_r b1 b2]
    have v42 : V 42 1 = v0 42 1 + L.length := by rw [← hV, apl_c]
    have e1 : V (q + 4 + 1) t = (k : Int) := by rw [vr _ (by omega) (by omega), t1.1]
    have e2 : V (q + 4 + 2) t = (w : Int) := by rw [vr _ (by omega) (by omega), t1.2]
    have e3 : V (q + 4 + 3) t = (sl key val k w).1 := by rw [vr _ (by omega) (by omega), t2.1]
    have e4 : V (q + 4 + 4) t = (sl key val k w).2 := by rw [vr _ (by omega) (by omega), t2.2]
    have e5 : V (q + 1) 2 = (n : Int) + 2 := by rw [vr _ (by omega) (by omega), hsz]
    have hS' : ∀ j, j < 16 → V 41 j = if S j then 1 else 0 := fun j hj => by rw [vr _ (by omega) (by omega), hS j hj]
    have hs1 : 1 ≤ nv S k w := by
      by_cases h : anyS S w k = true
      · by_cases hw : w ≤ 1
        · rw [nv_leaf h hw]; omega
        · rw [nv_fork h (by omega)]; omega
      · rw [nv_no (by simpa using h)]; omega
    rw [e_70_24]
    by_cases ha : anyS S w k = true
    · have eh : ∀ (d' : Nat) (Q' : q_V → q_H → q_Gr → Prop), q_call (d' + 1) 71 [.inr (.inr (.inl (some 40))), .inl k, .inl w] V G Q' = Q' (.inl 1) V G := fun d' Q' => by rw [c_hasS hG hS' (by omega), ha, if_pos rfl]
      by_cases hw : w ≤ 1
      · have hw1 : w = 1 := by omega
        rw [nv_leaf ha hw] at hC
        rw [tl_leaf ha hw] at hC h6
        have h6 : v0 42 1 + L.length + (3 : Nat) ≤ 600 := h6
        have e6 : V (q + 2) k = key k := by rw [vr _ (by omega) (by omega), hkey]
        have e7 : V (q + 3) k = val k := by rw [vr _ (by omega) (by omega), hval]
        have ett : ∀ (d' : Nat) (Q' : q_V → q_H → q_Gr → Prop), q_call (d' + 3) 72 [.inr (.inr (.inl (some 40))), .inr (.inr (.inl (some q))), .inl t, .inl 1] V G Q' = Q' (.inr (.inr (.inr ()))) (q_apl v0 42 1 43 (L ++ [1, key k, val k])) G := fun d' Q' => by rw [c_tt1 (k := k) hG g hq h2 (by omega) (by omega) (by omega) e1 (by omega) (by omega), e6, e7, apl_app, hV]
        have f2 : q_apl v0 42 1 43 (L ++ [1, key k, val k]) (q + 4 + 2) t = (w : Int) := by rw [apl_r (by omega) (by omega), ← e2, vr _ (by omega) (by omega)]
        have := hC (.inl 1)
        simp (disch := first | assumption | omega) only [E70, SHC hG, g.1, gt.1, c_tstart, c_twidth, e1, e2, eh, ett, c_tfork, f2, c_bh, q_push_I, q_push_L, q_push_P, q_push_U, ↓if_neg, ↓if_pos, show (s : Int) + 1 = ((s + 1 : Nat) : Int) by omega]
        repeat' first | (refine And.intro ?_ ?_) | rfl | exact True.intro | assumption | omega
      · have ht16 : t < 16 := by
          have := hbd.2
          omega
        have sa := sh_all N (by omega) t ht16 h1
        rw [hk, hn, if_pos (by omega), if_pos (by omega)] at sa
        have ba := bh_all t ht16 h1
        rw [nv_fork ha (by omega)] at hC h5
        rw [tl_fork ha (by omega)] at hC h6
        rw [List.length_cons, List.length_append] at h6
        have ett : ∀ (d' : Nat) (Q' : q_V → q_H → q_Gr → Prop), q_call (d' + 3) 72 [.inr (.inr (.inl (some 40))), .inr (.inr (.inl (some q))), .inl t, .inl 1] V G Q' = Q' (.inr (.inr (.inr ()))) (q_apl v0 42 1 43 (L ++ [1])) G := fun d' Q' => by rw [c_tt2 hG g hq h2 (by omega) (by omega) (by omega) (by omega), apl_app, hV]
        have f2 : q_apl v0 42 1 43 (L ++ [1]) (q + 4 + 2) t = (w : Int) := by rw [apl_r (by omega) (by omega), ← e2, vr _ (by omega) (by omega)]
        have nx := ih (2 * t) (L ++ [1]) (s + 1) (.inl 1) (by omega) (by omega) (by rw [sa.1]; show (w + 1) / 2 ≤ m; omega) (by rw [sa.1]; show 1 ≤ (w + 1) / 2; omega) (by rw [sa.1]; show s + 1 + nv S k ((w + 1) / 2) ≤ 32; omega) (by rw [sa.1, List.length_append]; show v0 42 1 + ((L.length + 1 : Nat) : Int) + ((tl key val S k ((w + 1) / 2)).length : Int) ≤ 600; omega) (fun z5 => by
          rw [sa.1, ba.1]
          have nx2 := ih (2 * t + 1) (L ++ [1] ++ tl key val S k ((w + 1) / 2)) (s + 1 + nv S k ((w + 1) / 2)) z5 (by omega) (by omega) (by rw [sa.2]; show w - (w + 1) / 2 ≤ m; omega) (by rw [sa.2]; show 1 ≤ w - (w + 1) / 2; omega) (by rw [sa.2]; show s + 1 + nv S k ((w + 1) / 2) + nv S (k + (w + 1) / 2) (w - (w + 1) / 2) ≤ 32; omega) (by rw [sa.2, List.length_append, List.length_append]; show v0 42 1 + ((L.length + 1 + (tl key val S k ((w + 1) / 2)).length : Nat) : Int) + ((tl key val S (k + (w + 1) / 2) (w - (w + 1) / 2)).length : Int) ≤ 600; omega) (fun z5 => by
            rw [sa.2, ba.2]
            have := hC z5
            rw [show s + (1 + (nv S k ((w + 1) / 2) + nv S (k + (w + 1) / 2) (w - (w + 1) / 2))) = s + 1 + nv S k ((w + 1) / 2) + nv S (k + (w + 1) / 2) (w - (w + 1) / 2) by omega, show L ++ 1 :: (tl key val S k ((w + 1) / 2) ++ tl key val S (k + (w + 1) / 2) (w - (w + 1) / 2)) = L ++ [1] ++ tl key val S k ((w + 1) / 2) ++ tl key val S (k + (w + 1) / 2) (w - (w + 1) / 2) by simp] at this
            exact this)
          exact nx2)
        simp (disch := first | assumption | omega) only [E70, SHC hG, g.1, gt.1, c_tstart, c_twidth, e1, e2, eh, ett, c_tfork, f2, c_bh, q_push_I, q_push_L, q_push_P, q_push_U, ↓if_neg, ↓if_pos, show (s : Int) + 1 = ((s + 1 : Nat) : Int) by omega, show (2 : Int) * (t : Int) = ((2 * t : Nat) : Int) by omega]
        repeat' first | (refine And.intro ?_ ?_) | rfl | exact True.intro | assumption | omega
    · have ha : anyS S w k = false := by simpa using ha
      have eh : ∀ (d' : Nat) (Q' : q_V → q_H → q_Gr → Prop), q_call (d' + 1) 71 [.inr (.inr (.inl (some 40))), .inl k, .inl w] V G Q' = Q' (.inl 0) V G := fun d' Q' => by rw [c_hasS hG hS' (by omega), ha, if_neg (by decide)]
      rw [nv_no ha] at hC
      rw [tl_no ha] at hC h6
      have h6 : v0 42 1 + L.length + (3 : Nat) ≤ 600 := h6
      have ett : ∀ (d' : Nat) (Q' : q_V → q_H → q_Gr → Prop), q_call (d' + 3) 72 [.inr (.inr (.inl (some 40))), .inr (.inr (.inl (some q))), .inl t, .inl 0] V G Q' = Q' (.inr (.inr (.inr ()))) (q_apl v0 42 1 43 (L ++ [0, (sl key val k w).1, (sl key val k w).2])) G := fun d' Q' => by rw [c_tt0 hG g hq h2 (by omega) (by omega), e3, e4, apl_app, hV]
      have := hC (.inl 0)
      simp (disch := first | assumption | omega) only [E70, SHC hG, g.1, gt.1, c_tstart, c_twidth, e1, e2, eh, ett, c_bh, q_push_I, q_push_L, q_push_P, q_push_U, ↓if_neg, ↓if_pos, show (s : Int) + 1 = ((s + 1 : Nat) : Int) by omega]
      repeat' first | (refine And.intro ?_ ?_) | rfl | exact True.intro | assumption | omega
/-- tellShown -/
theorem c_tshown {tt n : Nat} {S : Nat → Bool} (hG : gok G) (g : gTab G q) (hq : 44 < q) (hI : tabI v q tt n) (hS : ∀ j, j < 16 → v 41 j = if S j then 1 else 0) (h0 : 0 ≤ v 42 1) (h6 : v 42 1 + 1 + (tl (v (q + 2)) (v (q + 3)) S 0 (n + 2)).length ≤ 600) : q_call (d + 4) 70 [.inr (.inr (.inl (some 40))), .inr (.inr (.inl (some q)))] v G Q = Q (.inr (.inr (.inr ()))) (q_apl v 42 1 43 ((((n + 2 : Nat) : Int)) :: tl (v (q + 2)) (v (q + 3)) S 0 (n + 2))) G := by
  refine q_call_eq ?_ Q
  have hN := g_num42 hG
  have h14 := hI.1
  have hsz : v (q + 1) 2 = ((n + 2 : Nat) : Int) := by rw [hI.2.2.1]; omega
  have gr := g.2.2.2.1
  have nl := nv_le S (n + 2) 0 (n + 2) (Nat.le_refl _) (by omega)
  have key := s_walk (d := d) (q := q) (G := G) (Q := fun r v' G' => r = .inr (.inr (.inr ())) ∧ v' = q_apl v 42 1 43 ((((n + 2 : Nat) : Int)) :: tl (v (q + 2)) (v (q + 3)) S 0 (n + 2)) ∧ G' = G) (S := S) hG g hq hI rfl rfl rfl hS h0 (n + 2) 1 [((n + 2 : Nat) : Int)] 1 (.inr (.inr (.inr ()))) (Nat.le_refl _) (by decide) (by rw [sh_1]; exact Nat.le_refl _) (by rw [sh_1]; show 1 ≤ n + 2; omega) (by rw [sh_1]; show 1 + nv S 0 (n + 2) ≤ 32; omega) (by rw [sh_1]; show v 42 1 + ((1 : Nat) : Int) + ((tl (v (q + 2)) (v (q + 3)) S 0 (n + 2)).length : Int) ≤ 600; omega) (fun z5 => by
    rw [bh_1, sh_1]
    show q_wp (d + 3) 70 24 [.inr (.inr (.inl (some 40))), .inr (.inr (.inl (some q))), .inr (.inr (.inl (some (q + 4)))), .inl (((0 : Nat) : Int)), .inl (((1 + nv S 0 (n + 2) : Nat) : Int)), z5] [] (q_apl v 42 1 43 ((((n + 2 : Nat) : Int)) :: tl (v (q + 2)) (v (q + 3)) S 0 (n + 2))) G _
    rw [e_70_24]
    by_cases c : 1 + nv S 0 (n + 2) = 32
    · simp (disch := omega) only [E70, ↓if_pos]
      repeat' first | (refine And.intro ?_ ?_) | rfl | exact True.intro | assumption | omega
    · simp (disch := omega) only [E70, ↓if_pos, ↓if_neg]
      repeat' first | (refine And.intro ?_ ?_) | rfl | exact True.intro | assumption | omega)
  simp (disch := first | assumption | omega) only [E70, SHC hG, g.1, c_ttree, c_tleaves, c_rsize, c_nadd, hsz, q_push_I, q_push_L, q_push_P, q_push_U, Nat.reduceAdd]
  repeat' first | (refine And.intro ?_ ?_) | rfl | exact True.intro | assumption | omega
end
