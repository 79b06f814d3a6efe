theorem getD_app {ns : List Int} {x : Int} {j : Nat} : (ns ++ [x]).getD j 0 = if j < ns.length then ns.getD j 0 else if j = ns.length then x else 0 := by
  rw [List.getD_eq_getElem?_getD, List.getD_eq_getElem?_getD]
  by_cases c : j < ns.length
  · rw [if_pos c, List.getElem?_append_left c]
  · rw [if_neg c, List.getElem?_append_right (by omega)]
    by_cases c2 : j = ns.length
    · rw [if_pos c2, c2, Nat.sub_self]
      rfl
    · rw [if_neg c2, List.getElem?_eq_none (by simp; omega)]
      rfl
section
variable {d q : Nat} {v : q_H} {G : q_Gr} {Q : q_V → q_H → q_Gr → Prop}
theorem s_cnums {f : Nat → Int} {N : Nat} {w : Int} {v0 : q_H} {z1 : q_V} (hG : gok G) (h : tpC' v0 f N) (hw : 0 ≤ w ∧ w ≤ 6) : ∀ (m k c : Nat) (v : q_H) (ns : List Int), k + m = nOf w → c ≤ N → pfr v v0 → v 36 9 = 0 → v 36 6 = (c : Int) → ns.length = k → (∀ j, j < k → v 39 j = ns.getD j 0 ∧ 0 ≤ ns.getD j 0 ∧ ns.getD j 0 ≤ 999) →
    (∀ v' (ft : Int) (pl : Nat), rdN f N w m k c ns = .inl (ft, pl) → pfr v' v0 → v' 36 9 = ft → v' 36 5 = (pl : Int) → 1 ≤ ft → ft ≤ 3 → (0 ≤ v' 36 4 ∧ v' 36 4 ≤ 4) → Q (.inr (.inr (.inl none))) v' G) →
    (∀ v' r (z3 : q_V), rdN f N w m k c ns = .inr r → pfr v' v0 → v' 36 9 = 0 → v' 36 6 = (r.2 : Int) → r.2 ≤ N → (∀ j, j < nOf w → v' 39 j = r.1.getD j 0) → q_wp (d + 4) 51 110 [.inr (.inr (.inl (some 36))), z1, .inl w, z3] [] v' G Q) →
    q_wp (d + 4) 51 42 [.inr (.inr (.inl (some 36))), z1, .inl w, .inl k] [] v G Q := by
  have nr := nOf_rng w
  have en : ∀ (u : q_H) (d' : Nat) (Q' : q_V → q_H → q_Gr → Prop), q_call (d' + 1) 54 [.inl w] u G Q' = Q' (.inl ((nOf w : Nat))) u G := fun u d' Q' => c_nof (by omega)
  intro m
  induction m with
  | zero =>
    intro k c v ns h1 hc hp h9 h6 hl hn hF hC
    have ht := tpC'_fr (v' := v) (hp.2 1 (by omega) (by omega)) (hp.1 37 (by omega) (by omega)) h
    have te := tkE_ok (f := f) hc
    have kr := tkK_rng f N c
    unfold rdN at hF hC
    have key : q_call (d + 4) 56 [.inr (.inr (.inl (some 36)))] v G (fun r v' G' => q_wp (d + 4) 51 84 [.inr (.inr (.inl (some 36))), z1, .inl w, .inl k] (q_push r []) v' G' Q) := c_ntok hG ht hc h6 (fun v1 f1 f1q tk => by
      have t1 := tk.1
      have p1 : pfr v1 v0 := pfr_tr hp ⟨fun b b1 _ => f1 b b1, fun j j1 _ => f1q j j1⟩
      by_cases c3 : tkK f N c = 3
      · rw [if_pos c3] at hC
        rw [c3] at t1
        have fin := hC (q_up v1 36 9 0) (ns, tkE f N c) (.inl k) rfl (pfr_tr p1 ⟨fun b b1 _ => by rw [u_r b1], fun j _ j2 => by rw [u_n (by omega)]⟩) (u_s rfl rfl) (by rw [u_n (by omega)]; exact tk.2.2.1) te.2.1 (fun j hj => by rw [u_n (by omega), f1 39 (by omega)]; exact (hn j (by omega)).1)
        simp (disch := first | assumption | omega | ((try simp (disch := omega) only [u_n, u_s]); first | assumption | omega)) only [e_51_84, e_51_85, e_51_86, e_51_89, e_51_90, e_51_93, e_51_94, e_51_97, e_51_98, e_51_101, e_51_102, e_51_105, SHC hG, t1, u_s, u_n, ↓if_pos, ↓if_neg, q_push_I, q_push_L, q_push_P, q_push_U]
        repeat' first | exact fin | (refine And.intro ?_ ?_) | exact True.intro | omega | rfl
      · rw [if_neg c3] at hF
        have fin := hF (q_up v1 36 9 1) 1 (tkS f N c) rfl (pfr_tr p1 ⟨fun b b1 _ => by rw [u_r b1], fun j _ j2 => by rw [u_n (by omega)]⟩) (u_s rfl rfl) (by rw [u_n (by omega)]; exact tk.2.1) (by decide) (by decide) (by rw [u_n (by omega), t1]; exact kr)
        simp (disch := first | assumption | omega | ((try simp (disch := omega) only [u_n, u_s]); first | assumption | omega)) only [e_51_84, e_51_85, e_51_86, e_51_89, e_51_90, e_51_93, e_51_94, e_51_97, e_51_98, e_51_101, e_51_102, e_51_105, e_51_108, e_51_109, SHC hG, t1, u_s, u_n, ↓if_pos, ↓if_neg, q_push_I, q_push_L, q_push_P, q_push_U]
        repeat' first | exact fin | (refine And.intro ?_ ?_) | exact True.intro | omega | rfl)
    rw [e_51_42]
    simp (disch := omega) only [e_51_43, e_51_44, e_51_47, e_51_73, e_51_74, e_51_77, e_51_80, e_51_81, SHC hG, en, h9, ↓if_pos, ↓if_neg, q_push_I, q_push_L, q_push_P, q_push_U]
    repeat' first | (refine And.intro ?_ ?_) | exact True.intro | omega | assumption | rfl
  | succ m ih =>
    intro k c v ns h1 hc hp h9 h6 hl hn hF hC
    have ht := tpC'_fr (v' := v) (hp.2 1 (by omega) (by omega)) (hp.1 37 (by omega) (by omega)) h
    have te := tkE_ok (f := f) hc
    have kr := tkK_rng f N c
    unfold rdN at hF hC
    have key : q_call (d + 4) 56 [.inr (.inr (.inl (some 36)))] v G (fun r v' G' => q_wp (d + 4) 51 61 [.inr (.inr (.inl (some 36))), z1, .inl w, .inl k] (q_push r []) v' G' Q) := c_ntok hG ht hc h6 (fun v1 f1 f1q tk => by
      have p1 : pfr v1 v0 := pfr_tr hp ⟨fun b b1 _ => f1 b b1, fun j j1 _ => f1q j j1⟩
      have w9 : v1 36 9 = 0 := by rw [f1q 9 (by omega), h9]
      have er := fun (d' : Nat) (Q' : q_V → q_H → q_Gr → Prop) => c_rnumb (d := d') (Q := Q') (w := w) (k := k) (prev := ns.getD (k - 1) 0) hG hc hw (by omega) tk (fun hk => by
        rw [f1 39 (by omega)]
        exact hn (k - 1) (by omega))
      -- out, with a fault
      have out : ∀ (ft : Int), 1 ≤ ft → ft ≤ 3 → Q (.inr (.inr (.inl none))) (q_up v1 36 9 ft) G → q_wp (d + 4) 51 42 [.inr (.inr (.inl (some 36))), z1, .inl w, .inl ((k + 1 : Nat))] [] (q_up v1 36 9 ft) G Q := fun ft g1 g2 fin => by
        have x9 : q_up v1 36 9 ft 36 9 = ft := u_s rfl rfl
        rw [e_51_42]
        by_cases cl : k + 1 < nOf w
        · simp (disch := omega) only [e_51_43, e_51_44, e_51_47, e_51_50, e_51_51, e_51_54, e_51_73, e_51_74, e_51_77, e_51_101, e_51_102, e_51_105, e_51_108, e_51_109, SHC hG, en, x9, ↓if_pos, ↓if_neg, q_push_I, q_push_L, q_push_P, q_push_U]
          repeat' first | exact fin | (refine And.intro ?_ ?_) | exact True.intro | omega | rfl
        · simp (disch := omega) only [e_51_43, e_51_44, e_51_47, e_51_50, e_51_51, e_51_54, e_51_73, e_51_74, e_51_77, e_51_101, e_51_102, e_51_105, e_51_108, e_51_109, SHC hG, en, x9, ↓if_pos, ↓if_neg, q_push_I, q_push_L, q_push_P, q_push_U]
          repeat' first | exact fin | (refine And.intro ?_ ?_) | exact True.intro | omega | rfl
      by_cases c2 : tkK f N c = 2
      · rw [if_pos c2] at hF hC
        simp only [if_pos c2] at er
        by_cases ci : blo w k (ns.getD (k - 1) 0) ≤ tkV f N c ∧ tkV f N c ≤ bhi w k
        · rw [if_pos ci] at hF hC
          simp only [if_pos ci] at er
          have vr := tkV_rng hc c2
          have nx := ih (k + 1) (tkE f N c) (q_up v1 39 k (tkV f N c)) (ns ++ [tkV f N c]) (by omega) te.2.1 (pfr_tr p1 ⟨fun b _ b2 => by rw [u_r b2], fun j _ _ => by rw [u_n (by omega)]⟩) (by rw [u_n (by omega), w9]) (by rw [u_n (by omega)]; exact tk.2.2.1) (by rw [List.length_append, hl]; rfl) (fun j hj => by
            rw [getD_app, hl]
            by_cases ej : j = k
            · rw [if_neg (by omega), if_pos ej, u_s rfl ej]
              exact ⟨rfl, vr⟩
            · rw [if_pos (by omega), u_n (by omega), f1 39 (by omega)]
              exact hn j (by omega)) hF hC
          simp (disch := omega) only [e_51_61, e_51_62, e_51_63, e_51_64, e_51_67, e_51_70, er, q_push_I, q_push_L, q_push_P, q_push_U, show (k : Int) + 1 = ((k + 1 : Nat) : Int) by omega]
          repeat' first | (refine And.intro ?_ ?_) | exact True.intro | omega | assumption | rfl
        · rw [if_neg ci] at hF
          simp only [if_neg ci] at er
          have fin := out 2 (by decide) (by decide) (hF (q_up v1 36 9 2) 2 (tkS f N c) rfl (pfr_tr p1 ⟨fun b b1 _ => by rw [u_r b1], fun j _ j2 => by rw [u_n (by omega)]⟩) (u_s rfl rfl) (by rw [u_n (by omega)]; exact tk.2.1) (by decide) (by decide) (by rw [u_n (by omega), tk.1]; exact kr))
          simp (disch := omega) only [e_51_61, e_51_62, e_51_63, e_51_64, e_51_67, e_51_70, er, q_push_I, q_push_L, q_push_P, q_push_U, show (k : Int) + 1 = ((k + 1 : Nat) : Int) by omega]
          repeat' first | exact fin | (refine And.intro ?_ ?_) | exact True.intro | omega | rfl
      · rw [if_neg c2] at hF
        simp only [if_neg c2] at er
        have fin := out 1 (by decide) (by decide) (hF (q_up v1 36 9 1) 1 (tkS f N c) rfl (pfr_tr p1 ⟨fun b b1 _ => by rw [u_r b1], fun j _ j2 => by rw [u_n (by omega)]⟩) (u_s rfl rfl) (by rw [u_n (by omega)]; exact tk.2.1) (by decide) (by decide) (by rw [u_n (by omega), tk.1]; exact kr))
        simp (disch := omega) only [e_51_61, e_51_62, e_51_63, e_51_64, e_51_67, e_51_70, er, q_push_I, q_push_L, q_push_P, q_push_U, show (k : Int) + 1 = ((k + 1 : Nat) : Int) by omega]
        repeat' first | exact fin | (refine And.intro ?_ ?_) | exact True.intro | omega | rfl)
    rw [e_51_42]
    simp (disch := omega) only [e_51_43, e_51_44, e_51_47, e_51_50, e_51_51, e_51_54, e_51_57, e_51_58, SHC hG, en, h9, ↓if_pos, ↓if_neg, q_push_I, q_push_L, q_push_P, q_push_U]
    repeat' first | (refine And.intro ?_ ?_) | exact True.intro | omega | assumption | rfl
/-- readAct -/
theorem c_ract {f : Nat → Int} {N c : Nat} {na : Int} (hG : gok G) (hC : csI v) (h : tpC' v f N) (hc : c ≤ N) (hna : 0 ≤ na ∧ na ≤ 12) (hr : na < 12 → q_room G 6) (h9 : v 36 9 = 0) (tk : tokC v f N c)
  (hF : ∀ v' (ft : Int) (pl : Nat), rdA f N c na = .inl (ft, pl) → pfr v' v → v' 36 9 = ft → v' 36 5 = (pl : Int) → 1 ≤ ft → ft ≤ 3 → (0 ≤ v' 36 4 ∧ v' 36 4 ≤ 4) → Q (.inr (.inr (.inl none))) v' G)
  (hS : ∀ v' (x : (Int × List Int) × Nat), rdA f N c na = .inr x → (∀ b, b ≠ 36 → b ≠ 39 → b ≠ 32 + G.2.2.1 → v' b = v b) → (∀ j, ¬ (4 ≤ j ∧ j ≤ 7) → j ≠ 9 → v' 36 j = v 36 j) → v' 36 9 = 0 → x.2 ≤ N → tokC v' f N x.2 → v' (32 + G.2.2.1) = actW (q_zr v (32 + G.2.2.1)) (32 + G.2.2.1) x.1.1 (acA x.1.2) (acB x.1.1 x.1.2) (acL x.1.1 x.1.2) (if x.1.1 = 2 then acL x.1.1 x.1.2 else acH x.1.1 x.1.2) (if x.1.1 = 2 then acH x.1.1 x.1.2 else 0) (32 + G.2.2.1) → Q (.inr (.inr (.inl (some (32 + G.2.2.1))))) v' (q_mk G 0 6)) : q_call (d + 8) 51 [.inr (.inr (.inl (some 36))), .inl na] v G Q := by
  have h142 := hG.2.2.2.2
  have kr := tkK_rng f N c
  have te := tkE_ok (f := f) hc
  obtain ⟨t1, t2, t3, t4⟩ := tk
  have wr := wrd_rng f (tkS f N c) (tkE f N c)
  have wA : -1 ≤ wdA f N c ∧ wdA f N c ≤ 6 := by
    unfold wdA
    split <;> omega
  have en : ∀ (u : q_H) (d' : Nat) (Q' : q_V → q_H → q_Gr → Prop), q_call (d' + 1) 54 [.inl (wdA f N c)] u G Q' = Q' (.inl ((nOf (wdA f N c) : Nat))) u G := fun u d' Q' => c_nof (by omega)
  have nr := nOf_rng (wdA f N c)
  -- from the head of the loop, with a fault
  have out : ∀ (ft : Int), 1 ≤ ft → ft ≤ 3 → rdA f N c na = .inl (ft, tkS f N c) → q_wp (d + 7) 51 42 [.inr (.inr (.inl (some 36))), .inl na, .inl (wdA f N c), .inl 0] [] (q_up v 36 9 ft) G Q := fun ft g1 g2 hr' => by
    have fin := hF (q_up v 36 9 ft) ft (tkS f N c) hr' ⟨fun b b1 _ => by rw [u_r b1], fun j _ j2 => by rw [u_n (by omega)]⟩ (u_s rfl rfl) (by rw [u_n (by omega), t2]) g1 g2 (by rw [u_n (by omega), t1]; exact kr)
    have x9 : q_up v 36 9 ft 36 9 = ft := u_s rfl rfl
    rw [e_51_42]
    simp (disch := omega) only [e_51_43, e_51_44, e_51_47, e_51_50, e_51_51, e_51_54, e_51_73, e_51_74, e_51_77, e_51_101, e_51_102, e_51_105, e_51_108, e_51_109, SHC hG, en, x9, ↓if_pos, ↓if_neg, q_push_I, q_push_L, q_push_P, q_push_U]
    repeat' first | exact fin | (refine And.intro ?_ ?_) | exact True.intro | omega | rfl
  -- the word
  have word : q_wp (d + 7) 51 16 [.inr (.inr (.inl (some 36))), .inl na, .inr (.inr (.inr ())), .inr (.inr (.inr ()))] [.inl (wdA f N c)] v G Q := by
    by_cases cw : wdA f N c < 0
    · have nx := out 1 (by decide) (by decide) (by unfold rdA; rw [if_pos cw])
      simp (disch := omega) only [e_51_16, e_51_17, e_51_18, e_51_21, e_51_22, e_51_23, e_51_26, e_51_29, e_51_30, e_51_32, e_51_35, e_51_36, e_51_37, e_51_40, e_51_41, SHC hG, ↓if_pos, ↓if_neg]
      repeat' first | (refine And.intro ?_ ?_) | exact True.intro | omega | assumption | rfl
    · by_cases c12 : 12 ≤ na
      · have nx := out 3 (by decide) (by decide) (by unfold rdA; rw [if_neg cw, if_pos c12])
        simp (disch := omega) only [e_51_16, e_51_17, e_51_18, e_51_21, e_51_22, e_51_23, e_51_26, e_51_29, e_51_30, e_51_32, e_51_35, e_51_36, e_51_37, e_51_40, e_51_41, SHC hG, ↓if_pos, ↓if_neg]
        repeat' first | (refine And.intro ?_ ?_) | exact True.intro | omega | assumption | rfl
      · clear out
        have hrd : ∀ y, rdN f N (wdA f N c) (nOf (wdA f N c)) 0 (tkE f N c) [] = y → rdA f N c na = (match y with
            | .inl e => .inl e
            | .inr r => .inr ((wdA f N c, r.1), r.2)) := fun y hy => by
          unfold rdA
          rw [if_neg cw, if_neg c12, hy]
          cases y <;> rfl
        have nx := s_cnums (d := d + 3) (Q := Q) (z1 := .inl na) (v0 := v) (w := wdA f N c) hG h (by omega) (nOf (wdA f N c)) 0 (tkE f N c) v [] (by omega) te.2.1 ⟨fun _ _ _ => rfl, fun _ _ _ => rfl⟩ h9 t3 rfl (fun j hj => by omega) (fun v' ft pl hr' p' x9 x5 g1 g2 g3 => hF v' ft pl (hrd _ hr') p' x9 x5 g1 g2 g3) (fun v' r z3 hr' p' x9 x6 hrN hn => by
          have ht' := tpC'_fr (v' := v') (v := v) (p'.2 1 (by omega) (by omega)) (p'.1 37 (by omega) (by omega)) h
          have key : q_call (d + 7) 56 [.inr (.inr (.inl (some 36)))] v' G (fun r' v'' G' => q_wp (d + 7) 51 114 [.inr (.inr (.inl (some 36))), .inl na, .inl (wdA f N c), z3] (q_push r' []) v'' G' Q) := c_ntok (d := d + 3) hG ht' hrN x6 (fun v2 f2 f2q tk2 => by
            have ea := fun (d' : Nat) (Q' : q_V → q_H → q_Gr → Prop) => c_actOf (d := d') (Q := Q') (v := v2) (ns := r.1) hG (hr (by omega)) (show 0 ≤ wdA f N c ∧ wdA f N c ≤ 6 by omega) (fun k hk => by rw [f2 39 (by omega)]; exact hn k hk)
            generalize hv3 : actW (q_zr v2 (32 + G.2.2.1)) (32 + G.2.2.1) (wdA f N c) (acA r.1) (acB (wdA f N c) r.1) (acL (wdA f N c) r.1) (if wdA f N c = 2 then acL (wdA f N c) r.1 else acH (wdA f N c) r.1) (if wdA f N c = 2 then acH (wdA f N c) r.1 else 0) = v3 at ea
            have f3 : ∀ b, b ≠ 32 + G.2.2.1 → v3 b = v2 b := fun b hb => by rw [← hv3, actW_r hb, zr_r hb]
            have fin := hS v3 ((wdA f N c, r.1), r.2) (hrd _ hr') (fun b b1 b2 b3 => by rw [f3 b b3, f2 b b1, p'.1 b b1 b2]) (fun j j1 j2 => by rw [f3 36 (by omega), f2q j j1, p'.2 j j1 j2]) (by rw [f3 36 (by omega), f2q 9 (by omega), x9]) hrN (by
              unfold tokC
              rw [f3 36 (by omega)]
              exact tk2) (by
              rw [← hv3]
              funext j
              unfold actW q_zr
              simp only [q_up_eq]
              rfl)
            simp (disch := omega) only [e_51_114, e_51_115, e_51_116, e_51_119, ea, q_push_I, q_push_L, q_push_P, q_push_U]
            repeat' first | exact fin | (refine And.intro ?_ ?_) | exact True.intro | omega | rfl)
          simp (disch := omega) only [e_51_110, e_51_111]
          repeat' first | (refine And.intro ?_ ?_) | exact True.intro | omega | assumption | rfl)
        have nx : q_wp (d + 7) 51 42 [.inr (.inr (.inl (some 36))), .inl na, .inl (wdA f N c), .inl 0] [] v G Q := nx
        simp (disch := omega) only [e_51_16, e_51_17, e_51_18, e_51_21, e_51_22, e_51_23, e_51_26, e_51_29, e_51_30, e_51_32, e_51_35, e_51_36, e_51_37, e_51_40, e_51_41, SHC hG, ↓if_pos, ↓if_neg]
        repeat' first | (refine And.intro ?_ ?_) | exact True.intro | omega | assumption | rfl
  by_cases c1 : tkK f N c = 1
  · have ew : wdA f N c = wrd f (tkS f N c) (tkE f N c) := by unfold wdA; rw [if_pos c1]
    rw [c1] at t1
    have ewt : ∀ (d' : Nat) (Q' : q_V → q_H → q_Gr → Prop), q_call (d' + 7) 62 [.inr (.inr (.inl (some 36)))] v G Q' = Q' (.inl (wdA f N c)) v G := fun d' Q' => by rw [c_wtok hG hC h t2 t3 te.1 te.2.1, ew]
    clear hF hS out en
    simp (disch := omega) only [e_51, e_51_0, e_51_1, e_51_4, e_51_5, e_51_8, e_51_9, e_51_12, SHC hG, t1, ewt, ↓if_pos, ↓if_neg, q_push_I, q_push_L, q_push_P, q_push_U]
    repeat' first | (refine And.intro ?_ ?_) | exact True.intro | omega | assumption | rfl
  · have ew : wdA f N c = -1 := by unfold wdA; rw [if_neg c1]
    rw [ew] at word
    clear hF hS out en
    simp (disch := omega) only [e_51, e_51_0, e_51_1, e_51_4, e_51_5, e_51_15, SHC hG, t1, ↓if_pos, ↓if_neg, q_push_I, q_push_L, q_push_P, q_push_U]
    repeat' first | (refine And.intro ?_ ?_) | exact True.intro | omega | assumption | rfl
end
