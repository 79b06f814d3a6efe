section
variable {d q : Nat} {v : q_H} {G : q_Gr} {Q : q_V → q_H → q_Gr → Prop}
def pofC (w n : Int) : Int := if w = 5 then 2 else if w = 4 ∨ w = 6 then 1 + n else 1
theorem c_pof {p : Nat} {w : Int} (g : gChk G q) (hp : G.2.1 p = (0, 6)) (hw : v p 0 = w) (hw6 : 0 ≤ w ∧ w ≤ 6) : q_call (d + 2) 22 [.inr (.inr (.inl (some q))), .inr (.inr (.inl (some p)))] v G Q = Q (.inl (pofC w (v (q + 12) 2))) v G := by
  refine q_call_eq ?_ Q
  have g' := g
  obtain ⟨g0, ⟨g1, g2, g3, g4, g5, g6, g7, g8, g9⟩, gN, gT, k1, k2, k3, k4, gA, gB, gR, q1, q2⟩ := g'
  have hp' : (G.2.1 p).1 = 0 := by rw [hp]
  have ep : ∀ (d' : Nat) (Q' : q_V → q_H → q_Gr → Prop), q_call (d' + 1) 3 [.inr (.inr (.inl (some p)))] v G Q' = Q' (.inl (if w = 4 ∨ w = 6 then 1 else 0)) v G := fun d' Q' => by rw [c_prob hp (by omega) (by omega), hw]
  unfold pofC
  by_cases c5 : w = 5
  · rw [if_pos c5]
    simp (disch := omega) only [E22, g0, hp', hw, q_push_I, q_push_L, q_push_P, q_push_U, ↓if_neg, ↓if_pos]
    repeat' first | (refine And.intro ?_ ?_) | exact True.intro | omega | assumption | rfl
  · rw [if_neg c5]
    by_cases c4 : w = 4 ∨ w = 6
    · rw [if_pos c4] at ep ⊢
      simp (disch := omega) only [E22, g0, g7, hp', hw, ep, c_rsize gA, q_push_I, q_push_L, q_push_P, q_push_U, ↓if_neg, ↓if_pos]
      repeat' first | (refine And.intro ?_ ?_) | exact True.intro | omega | assumption | rfl
    · rw [if_neg c4] at ep ⊢
      simp (disch := omega) only [E22, g0, hp', hw, ep, q_push_I, q_push_L, q_push_P, q_push_U, ↓if_neg, ↓if_pos]
      repeat' first | (refine And.intro ?_ ?_) | exact True.intro | omega | assumption | rfl
/-- one proof -/
theorem s_tstep {L : List Int} {p pi pos rq : Nat} {w low high hi due sa sb : Int} {xs RA : List (Int × Int)} (g : gChk G q) (hl : lok L) (hp : G.2.1 p = (0, 6)) (hp2 : 174 ≤ p) (hw : v p 0 = w) (hw6 : 0 ≤ w ∧ w ≤ 6) (hpi : pi < 16) (hL : hasL v (q + 1) 1 (q + 1 + 1) L) (h1 : v q 1 = (pos : Int)) (h2 : v q 2 = 0) (hpos : pos ≤ L.length) (hdue : due = if pi = 0 then sa else sb) (hdr : 0 ≤ due ∧ due ≤ 100000) (hrq : (pi = 0 → rq = q + 12) ∧ (pi ≠ 0 → rq = q + 15)) (hx : hasR v rq xs) (hA : hasR v (q + 12) RA) (hA16 : RA.length ≤ 16) (hcnt : (pi : Int) < pofC w RA.length) (hlow : ((pi = 0 ∨ ¬ (w = 4 ∨ w = 6)) ∧ low = v p 3 ∧ high = v p 4) ∨ (pi ≠ 0 ∧ (w = 4 ∨ w = 6) ∧ ∃ h : pi - 1 < RA.length, low = RA[pi - 1].1 ∧ high = low)) (hlo : 0 ≤ low ∧ low ≤ 999) (hk : w = 2 → hi = v p 5 ∧ 1 ≤ hi ∧ hi ≤ 14) (hh : w ≠ 2 → hi = high ∧ low ≤ high ∧ high ≤ 999) (hxl : ∀ z, rdP L pos due (wh w) low hi = .inr z → xs.length + (rwP z).length ≤ 16)
  (hF : ∀ v' (e : Nat) (y : Int) (z4 : q_V), rdP L pos due (wh w) low hi = .inl (e, y) → cpr q v' v → v' q 1 = (e : Int) → v' q 2 = y → 1 ≤ y → y ≤ 3 → e ≤ 600 → q_wp (d + 7) 21 97 [.inr (.inr (.inl (some q))), .inr (.inr (.inl (some p))), .inl sa, .inl sb, z4] [] v' G Q)
  (hS : ∀ v' z, rdP L pos due (wh w) low hi = .inr z → (∀ b, b ≠ q → ¬ (q + 4 ≤ b ∧ b ≤ q + 11) → b ≠ rq → b ≠ rq + 1 → b ≠ rq + 2 → v' b = v b) → v' q 1 = (z.1.1 : Int) → v' q 2 = 0 → hasR v' rq (xs ++ rwP z) → v' q 12 = v q 12 + smP z → q_wp (d + 7) 21 39 [.inr (.inr (.inl (some q))), .inr (.inr (.inl (some p))), .inl sa, .inl sb, .inl ((pi + 1 : Nat))] [] v' G Q) : q_wp (d + 7) 21 39 [.inr (.inr (.inl (some q))), .inr (.inr (.inl (some p))), .inl sa, .inl sb, .inl pi] [] v G Q := by
  have g' := g
  obtain ⟨g0, ⟨g1, g2, g3, g4, g5, g6, g7, g8, g9⟩, gN, gT, k1, k2, k3, k4, gA, gB, gR, q1, q2⟩ := g'
  have hp' : (G.2.1 p).1 = 0 := by rw [hp]
  have hA1 := hA.1
  have pc : -1000 ≤ pofC w RA.length ∧ pofC w RA.length ≤ 1000 := by
    unfold pofC
    repeat' split
    all_goals omega
  have ep : ∀ (d' : Nat) (Q' : q_V → q_H → q_Gr → Prop), q_call (d' + 2) 22 [.inr (.inr (.inl (some q))), .inr (.inr (.inl (some p)))] v G Q' = Q' (.inl (pofC w RA.length)) v G := fun d' Q' => by rw [c_pof g hp hw hw6, hA1]
  -- the way out
  have out : ∀ v' (e : Nat) (y : Int), rdP L pos due (wh w) low hi = .inl (e, y) → cpr q v' v → v' q 1 = (e : Int) → v' q 2 = y → 1 ≤ y → y ≤ 3 → e ≤ 600 → q_wp (d + 7) 21 39 [.inr (.inr (.inl (some q))), .inr (.inr (.inl (some p))), .inl sa, .inl sb, .inl ((pi + 1 : Nat))] [] v' G Q := fun v' e y hr hc e1 e2 y1 y2 e3 => by
    have fin := hF v' e y (.inl ((pi + 1 : Nat))) hr hc e1 e2 y1 y2 e3
    have ep' : ∀ (d' : Nat) (Q' : q_V → q_H → q_Gr → Prop), q_call (d' + 2) 22 [.inr (.inr (.inl (some q))), .inr (.inr (.inl (some p)))] v' G Q' = Q' (.inl (pofC w RA.length)) v' G := fun d' Q' => by rw [c_pof g hp (by rw [hc.1 p (by omega) (by omega), hw]) hw6, hc.1 (q + 12) (by omega) (by omega), hA1]
    rw [e_21_39]
    by_cases c1 : pi + 1 < 16
    · by_cases c2 : ((pi + 1 : Nat) : Int) < pofC w RA.length
      · simp (disch := omega) only [e_21_41, e_21_43, e_21_46, e_21_48, e_21_49, e_21_50, e_21_53, e_21_56, e_21_57, e_21_60, g0, ep', e2, q_push_I, q_push_L, q_push_P, q_push_U, ↓if_neg, ↓if_pos]
        repeat' first | exact fin | (refine And.intro ?_ ?_) | exact True.intro | omega | rfl
      · simp (disch := omega) only [e_21_41, e_21_43, e_21_46, e_21_48, e_21_49, e_21_50, e_21_53, e_21_56, e_21_57, e_21_60, g0, ep', q_push_I, q_push_L, q_push_P, q_push_U, ↓if_neg, ↓if_pos]
        repeat' first | exact fin | (refine And.intro ?_ ?_) | exact True.intro | omega | rfl
    · simp (disch := omega) only [e_21_41, e_21_43, e_21_46, e_21_48, e_21_49, e_21_50, e_21_53, e_21_56, e_21_57, e_21_60, ↓if_neg, ↓if_pos]
      repeat' first | exact fin | (refine And.intro ?_ ?_) | exact True.intro | omega | rfl
  have key : q_call (d + 7) 24 [.inr (.inr (.inl (some q))), .inl due] v G (fun r v' G' => q_wp (d + 7) 21 77 [.inr (.inr (.inl (some q))), .inr (.inr (.inl (some p))), .inl sa, .inl sb, .inl pi] (q_push r []) v' G' Q) := by
    refine c_rproof (d := d + 1) g hL hl h1 h2 hpos hdr (fun v' e y hr hc e1 e2 y1 y2 e3 => ?_) (fun v1 s hr hc hs h8 => ?_)
    · have fin := out v' e y (rdP_e hr) hc e1 e2 y1 y2 e3
      simp (disch := omega) only [e_21_77, e_21_78, e_21_81, e_21_91, e_21_94, g0, e2, q_push_I, q_push_L, q_push_P, q_push_U, ↓if_neg, ↓if_pos, show (pi : Int) + 1 = ((pi + 1 : Nat) : Int) by omega]
      repeat' first | exact fin | (refine And.intro ?_ ?_) | exact True.intro | omega | rfl
    · obtain ⟨n1, hI, hsl, hno, hyes⟩ := rdP_s (w := wh w) (low := low) (high := hi) hr
      have s2 := hs.2.1
      have vp : v1 p = v p := hc.1 p (by omega) (by omega)
      have hrqr : rq = q + 12 ∨ rq = q + 15 := by
        by_cases c : pi = 0
        · exact Or.inl (hrq.1 c)
        · exact Or.inr (hrq.2 c)
      have hx1 : hasR v1 rq xs := hasR_fr (hc.1 _ (by omega) (by omega)) (hc.1 _ (by omega) (by omega)) (hc.1 _ (by omega) (by omega)) hx
      have core : ∀ z3, q_wp (d + 6) 29 55 [.inr (.inr (.inl (some q))), .inr (.inr (.inl (some p))), .inl pi, z3, .inl low, .inl high, .inr (.inr (.inr ())), .inr (.inr (.inr ()))] [] v1 G (fun r v' G' => q_wp (d + 7) 21 91 [.inr (.inr (.inl (some q))), .inr (.inr (.inl (some p))), .inl sa, .inl sb, .inl pi] (q_push r []) v' G' Q) := fun z3 => s_hold (d := d + 2) (rq := rq) (xs := xs) (w := w) (hi := hi) g hp hp2 (by rw [vp, hw]) hw6 (by omega) hrq hs hI n1.1 n1.2 h8 hlo (fun c => by rw [vp]; exact hk c) hh hx1 (fun z hz => hxl _ (hyes z hz)) (fun hz => by
          have fin := out (q_up v1 q 2 3) s.1 3 (hno hz) (cpr_tr hc ⟨fun b b1 _ => by rw [u_r b1], fun j _ j2 _ _ => by rw [u_n (by omega)]⟩) (by rw [u_n (by omega)]; exact hs.1) (u_s rfl rfl) (by decide) (by decide) (by have := hl.1; omega)
          simp (disch := omega) only [e_21_91, e_21_94, q_push_I, q_push_L, q_push_P, q_push_U, show (pi : Int) + 1 = ((pi + 1 : Nat) : Int) by omega]
          repeat' first | exact fin | (refine And.intro ?_ ?_) | exact True.intro | omega | rfl) (fun v2 z hz f2 f2q r2 m2 => by
          have fin := hS v2 (s, z) (hyes z hz) (fun b b1 b2 b3 b4 b5 => by rw [f2 b b1 b3 b4 b5, hc.1 b b1 b2]) (by rw [f2q 1 (by omega)]; exact hs.1) (by rw [f2q 2 (by omega)]; exact s2) r2 (by rw [m2, hc.2 12 (by omega) (by omega) (by omega) (by omega)])
          simp (disch := omega) only [e_21_91, e_21_94, q_push_I, q_push_L, q_push_P, q_push_U, show (pi : Int) + 1 = ((pi + 1 : Nat) : Int) by omega]
          repeat' first | exact fin | (refine And.intro ?_ ?_) | exact True.intro | omega | rfl)
      have k2 : q_call (d + 7) 29 [.inr (.inr (.inl (some q))), .inr (.inr (.inl (some p))), .inl pi] v1 G (fun r v' G' => q_wp (d + 7) 21 91 [.inr (.inr (.inl (some q))), .inr (.inr (.inl (some p))), .inl sa, .inl sb, .inl pi] (q_push r []) v' G' Q) := by
        have epb : ∀ (d' : Nat) (Q' : q_V → q_H → q_Gr → Prop), q_call (d' + 1) 3 [.inr (.inr (.inl (some p)))] v1 G Q' = Q' (.inl (if w = 4 ∨ w = 6 then 1 else 0)) v1 G := fun d' Q' => by rw [c_prob hp (by rw [vp, hw]; omega) (by rw [vp, hw]; omega), vp, hw]
        rcases hlow with ⟨ha, hb, hcc⟩ | ⟨ha, hb, hlt, hcc, hd⟩
        · have w3 : v1 p 3 = low := by rw [vp, hb]
          have w4 : v1 p 4 = high := by rw [vp, hcc]
          have core := core (.inl 0)
          by_cases c0 : pi = 0
          · simp (disch := omega) only [e_29, e_29_0, e_29_1, e_29_4, e_29_5, e_29_8, e_29_11, e_29_12, e_29_15, e_29_16, e_29_17, e_29_18, e_29_21, e_29_22, e_29_25, e_29_26, e_29_27, e_29_28, e_29_31, e_29_34, e_29_35, e_29_38, e_29_40, e_29_41, e_29_44, e_29_46, e_29_49, e_29_50, e_29_53, g0, hp', w3, w4, q_push_I, q_push_L, q_push_P, q_push_U, ↓if_neg, ↓if_pos]
            repeat' first | (refine And.intro ?_ ?_) | exact True.intro | omega | assumption | rfl
          · rw [if_neg (by omega)] at epb
            simp (disch := omega) only [e_29, e_29_0, e_29_1, e_29_4, e_29_5, e_29_8, e_29_11, e_29_12, e_29_15, e_29_16, e_29_17, e_29_18, e_29_21, e_29_22, e_29_25, e_29_26, e_29_27, e_29_28, e_29_31, e_29_34, e_29_35, e_29_38, e_29_40, e_29_41, e_29_44, e_29_46, e_29_49, e_29_50, e_29_53, g0, hp', w3, w4, epb, q_push_I, q_push_L, q_push_P, q_push_U, ↓if_neg, ↓if_pos]
            repeat' first | (refine And.intro ?_ ?_) | exact True.intro | omega | assumption | rfl
        · have core := core (.inl 1)
          rw [if_pos hb] at epb
          rw [hd] at core
          have hA' : hasR v1 (q + 12) RA := hasR_fr (hc.1 _ (by omega) (by omega)) (hc.1 _ (by omega) (by omega)) (hc.1 _ (by omega) (by omega)) hA
          have ek : ∀ (d' : Nat) (Q' : q_V → q_H → q_Gr → Prop), q_call (d' + 2) 83 [.inr (.inr (.inl (some (q + 12)))), .inl ((pi : Int) - 1)] v1 G Q' = Q' (.inl low) v1 G := fun d' Q' => by rw [show (pi : Int) - 1 = ((pi - 1 : Nat) : Int) by omega, c_hkey gA hA' hA16 hlt, hcc]
          simp (disch := omega) only [e_29, e_29_0, e_29_1, e_29_4, e_29_5, e_29_8, e_29_11, e_29_12, e_29_15, e_29_16, e_29_17, e_29_18, e_29_21, e_29_22, e_29_25, e_29_26, e_29_27, e_29_28, e_29_31, e_29_34, e_29_35, e_29_38, e_29_40, e_29_41, e_29_44, e_29_46, e_29_49, e_29_50, e_29_53, g0, g7, hp', epb, ek, q_push_I, q_push_L, q_push_P, q_push_U, ↓if_neg, ↓if_pos]
          repeat' first | (refine And.intro ?_ ?_) | exact True.intro | omega | assumption | rfl
      simp (disch := omega) only [e_21_77, e_21_78, e_21_81, e_21_84, e_21_85, e_21_86, e_21_88, g0, s2, q_push_I, q_push_L, q_push_P, q_push_U, ↓if_neg, ↓if_pos]
      repeat' first | (refine And.intro ?_ ?_) | exact True.intro | omega | assumption | rfl
  rw [e_21_39]
  by_cases c0 : pi = 0
  · rw [if_pos c0] at hdue
    subst hdue
    simp (disch := omega) only [e_21_41, e_21_43, e_21_46, e_21_48, e_21_49, e_21_50, e_21_53, e_21_56, e_21_57, e_21_60, e_21_63, e_21_64, e_21_66, e_21_69, e_21_70, e_21_73, e_21_74, g0, ep, h2, q_push_I, q_push_L, q_push_P, q_push_U, ↓if_neg, ↓if_pos]
    repeat' first | (refine And.intro ?_ ?_) | exact True.intro | omega | assumption | rfl
  · rw [if_neg c0] at hdue
    subst hdue
    simp (disch := omega) only [e_21_41, e_21_43, e_21_46, e_21_48, e_21_49, e_21_50, e_21_53, e_21_56, e_21_57, e_21_60, e_21_63, e_21_64, e_21_66, e_21_69, e_21_70, e_21_73, e_21_74, g0, ep, h2, q_push_I, q_push_L, q_push_P, q_push_U, ↓if_neg, ↓if_pos]
    repeat' first | (refine And.intro ?_ ?_) | exact True.intro | omega | assumption | rfl
/-- the end: what was not taken -/
theorem s_tfail {p : Nat} {y : Int} {z1 z2 z3 z4 : q_V} (g : gChk G q) (hy : v q 2 = y) (h1 : 1 ≤ y) (h3 : y ≤ 3) (hQ : Q (.inl 0) v G) : q_wp d 21 97 [.inr (.inr (.inl (some q))), z1, z2, z3, z4] [] v G Q := by
  have g0 := g.1
  simp (disch := omega) only [e_21_97, e_21_98, e_21_101, e_21_123, e_21_124, e_21_127, e_21_150, e_21_151, e_21_154, e_21_157, e_21_158, e_21_161, e_21_162, g0, hy, ↓if_neg, ↓if_pos]
  repeat' first | (refine And.intro ?_ ?_) | exact True.intro | omega | assumption | rfl
/-- the end: all proofs hold -/
theorem s_tend {L : List Int} {p pos : Nat} {w : Int} {RA RB : List (Int × Int)} {z2 z3 z4 : q_V} (g : gChk G q) (hl : lok L) (hp : G.2.1 p = (0, 6)) (hp2 : 174 ≤ p) (hw : v p 0 = w) (hw6 : 0 ≤ w ∧ w ≤ 6) (hL : hasL v (q + 1) 1 (q + 1 + 1) L) (h1 : v q 1 = (pos : Int)) (h2 : v q 2 = 0) (hpos : pos ≤ L.length) (hA : hasR v (q + 12) RA) (hB : hasR v (q + 15) RB) (lA : RA.length ≤ 16) (lB : RB.length ≤ 16) (oA : rok RA) (oB : rok RB)
  (hE : pos < L.length → Q (.inl 0) (q_up v q 2 1) G)
  (hY : ¬ pos < L.length → ∀ v', (∀ b, b ≠ q + 18 → b ≠ q + 18 + 1 → v' b = v b) → hasL v' (q + 18) 1 (q + 18 + 1) (ansL w RA RB (v q 12)) → Q (.inl 1) v' G) : q_wp (d + 5) 21 97 [.inr (.inr (.inl (some q))), .inr (.inr (.inl (some p))), z2, z3, z4] [] v G Q := by
  have g' := g
  obtain ⟨g0, ⟨g1, g2, g3, g4, g5, g6, g7, g8, g9⟩, gN, gT, k1, k2, k3, k4, gA, gB, gR, q1, q2⟩ := g'
  have hL1 := hL.1
  have hll := hl.1
  by_cases c : pos < L.length
  · have fin := hE c
    simp (disch := first | assumption | omega | ((try simp (disch := omega) only [u_n, u_s]); first | assumption | omega)) only [e_21_97, e_21_98, e_21_101, e_21_104, e_21_105, e_21_108, e_21_109, e_21_112, e_21_115, e_21_118, e_21_119, e_21_120, e_21_123, e_21_124, e_21_127, e_21_150, e_21_151, e_21_154, e_21_157, e_21_158, e_21_161, e_21_162, g0, g1, h1, h2, c_nsize gN, hL1, u_s, u_n, q_push_I, q_push_L, q_push_P, q_push_U, ↓if_neg, ↓if_pos]
    repeat' first | exact fin | (refine And.intro ?_ ?_) | exact True.intro | omega | rfl
  · have key : q_call (d + 5) 5 [.inr (.inr (.inl (some p))), .inr (.inr (.inl (some (q + 18)))), .inr (.inr (.inl (some (q + 12)))), .inr (.inr (.inl (some (q + 15)))), .inl (v q 12)] v G (fun r v' G' => q_wp (d + 5) 21 150 [.inr (.inr (.inl (some q))), .inr (.inr (.inl (some p))), z2, z3, z4] (q_push r []) v' G' Q) := c_into (d := d + 1) (w := w) hp hp2 hw hw6.1 hw6.2 gR (by omega) gA gB (by omega) (by omega) hA hB lA lB oA oB (fun v' f' l' => by
      have fin := hY c v' f' l'
      have w2 : v' q 2 = 0 := by rw [f' q (by omega) (by omega), h2]
      simp (disch := omega) only [e_21_150, e_21_151, e_21_154, e_21_157, e_21_158, e_21_161, e_21_162, g0, w2, q_push_I, q_push_L, q_push_P, q_push_U, ↓if_neg, ↓if_pos]
      repeat' first | exact fin | (refine And.intro ?_ ?_) | exact True.intro | omega | rfl)
    simp (disch := first | assumption | omega | ((try simp (disch := omega) only [u_n, u_s]); first | assumption | omega)) only [e_21_97, e_21_98, e_21_101, e_21_104, e_21_105, e_21_108, e_21_109, e_21_112, e_21_115, e_21_118, e_21_119, e_21_120, e_21_123, e_21_124, e_21_127, e_21_130, e_21_131, e_21_132, e_21_135, e_21_136, e_21_139, e_21_140, e_21_143, e_21_144, e_21_147, g0, g1, g7, g8, g9, h1, h2, c_nsize gN, hL1, q_push_I, q_push_L, q_push_P, q_push_U, ↓if_neg, ↓if_pos]
    repeat' first | (refine And.intro ?_ ?_) | exact True.intro | omega | assumption | rfl
end
