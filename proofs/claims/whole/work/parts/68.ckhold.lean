def rdP1 (L : List Int) (pos : Nat) (due : Int) : (Nat × Int) ⊕ RS :=
  if ¬ okN L pos 2 16 then .inl (pos, 1)
  else match rdT L (nL L pos) 16 0 (nL L pos) (rs0 (pos + 1)) with
    | .inl e => .inl (e, 1)
    | .inr r => if J (J r.2.1 r.2.2) (nL L pos) ≠ due then .inl (r.1.1, 2) else .inr r.1
theorem rd_le {L : List Int} {N : Nat} : ∀ (f k n : Nat) (s : RS), s.1 ≤ L.length → (∀ e, rdT L N f k n s = .inl e → e ≤ L.length) ∧ ∀ r, rdT L N f k n s = .inr r → r.1.1 ≤ L.length := by
  intro f
  induction f with
  | zero =>
    intro k n s h
    refine ⟨fun e he => ?_, fun r hr => ?_⟩
    · unfold rdT at he
      cases he
      exact h
    · unfold rdT at hr
      cases hr
  | succ f ih =>
    intro k n s h
    by_cases c : okN L s.1 0 1
    · have l0 := c.1
      by_cases c0 : L.getD s.1 0 = 0
      · by_cases c1 : okN L (s.1 + 1) 0 65520
        · have l1 := c1.1
          by_cases c2 : okN L (s.1 + 2) 0 14000
          · rw [rdT_hy c c0 c1 c2]
            refine ⟨fun e he => (by cases he), fun r hr => ?_⟩
            cases hr
            have := c2.1
            show s.1 + 3 ≤ _
            omega
          · rw [rdT_h2 c c0 c1 c2]
            refine ⟨fun e he => ?_, fun r hr => by cases hr⟩
            cases he
            omega
        · rw [rdT_h1 c c0 c1]
          refine ⟨fun e he => ?_, fun r hr => by cases hr⟩
          cases he
          omega
      · by_cases cn : n ≤ 1
        · by_cases c1 : okN L (s.1 + 1) (klo N k s.2.1) (khi N k)
          · have l1 := c1.1
            by_cases c2 : okN L (s.1 + 2) 0 (vhi N k)
            · rw [rdT_ly c c0 cn c1 c2]
              refine ⟨fun e he => (by cases he), fun r hr => ?_⟩
              cases hr
              have := c2.1
              show s.1 + 3 ≤ _
              omega
            · rw [rdT_l2 c c0 cn c1 c2]
              refine ⟨fun e he => ?_, fun r hr => by cases hr⟩
              cases he
              omega
          · rw [rdT_l1 c c0 cn c1]
            refine ⟨fun e he => ?_, fun r hr => by cases hr⟩
            cases he
            omega
        · have a := ih k ((n + 1) / 2) (s.1 + 1, s.2) (by show s.1 + 1 ≤ _; omega)
          cases hA : rdT L N f k ((n + 1) / 2) (s.1 + 1, s.2) with
          | inl e1 =>
            rw [rdT_k1 c c0 cn hA]
            refine ⟨fun e he => ?_, fun r hr => by cases hr⟩
            cases he
            exact a.1 e1 hA
          | inr r1 =>
            have b := ih (k + (n + 1) / 2) (n - (n + 1) / 2) r1.1 (a.2 r1 hA)
            cases hB : rdT L N f (k + (n + 1) / 2) (n - (n + 1) / 2) r1.1 with
            | inl e1 =>
              rw [rdT_k2 c c0 cn hA hB]
              refine ⟨fun e he => ?_, fun r hr => by cases hr⟩
              cases he
              exact b.1 e1 hB
            | inr r2 =>
              rw [rdT_ky c c0 cn hA hB]
              refine ⟨fun e he => (by cases he), fun r hr => ?_⟩
              cases hr
              exact b.2 r2 hB
    · rw [rdT_1 c]
      refine ⟨fun e he => ?_, fun r hr => by cases hr⟩
      cases he
      exact h
theorem rdP_e {L : List Int} {pos : Nat} {due w low high : Int} {e : Nat × Int} (h : rdP1 L pos due = .inl e) : rdP L pos due w low high = .inl e := by
  unfold rdP1 at h
  unfold rdP
  by_cases c : okN L pos 2 16
  · rw [if_neg (fun q => q c)] at h ⊢
    cases hr : rdT L (nL L pos) 16 0 (nL L pos) (rs0 (pos + 1)) with
    | inl x =>
      rw [hr] at h
      exact congrArg Sum.inl (Sum.inl.inj h)
    | inr r =>
      rw [hr] at h
      simp only at h ⊢
      split at h
      · next c2 => rw [if_pos c2]; exact congrArg Sum.inl (Sum.inl.inj h)
      · cases h
  · rw [if_pos c] at h ⊢
    exact congrArg Sum.inl (Sum.inl.inj h)
theorem rdP_s {L : List Int} {pos : Nat} {due w low high : Int} {s : RS} (h : rdP1 L pos due = .inr s) : (2 ≤ nL L pos ∧ nL L pos ≤ 16) ∧ rdInv (nL L pos) (nL L pos) s ∧ s.1 ≤ L.length ∧ (enw w (nL L pos) s low high = none → rdP L pos due w low high = .inl (s.1, 3)) ∧ (∀ z, enw w (nL L pos) s low high = some z → rdP L pos due w low high = .inr (s, z)) := by
  unfold rdP1 at h
  unfold rdP
  by_cases c : okN L pos 2 16
  · have hn : 2 ≤ nL L pos ∧ nL L pos ≤ 16 := by
      unfold nL
      omega
    rw [if_neg (fun q => q c)] at h ⊢
    cases hr : rdT L (nL L pos) 16 0 (nL L pos) (rs0 (pos + 1)) with
    | inl x =>
      rw [hr] at h
      cases h
    | inr r =>
      rw [hr] at h
      have ok := rd_ok hn.1 16 0 (nL L pos) (rs0 (pos + 1)) hn.2 (by omega) (by omega) (rdInv_0 _ _) r hr
      rw [Nat.zero_add] at ok
      simp only at h ⊢
      split at h
      · cases h
      · next c2 =>
        cases h
        rw [if_neg c2]
        refine ⟨hn, ok.1, ok.2.2.2.2, fun he => by rw [he], fun z he => by rw [he]⟩
  · rw [if_pos c] at h
    cases h
/-- what reading a proof leaves alone -/
def cpr (q : Nat) (v' v : q_H) : Prop := (∀ b, b ≠ q → ¬ (q + 4 ≤ b ∧ b ≤ q + 11) → v' b = v b) ∧ ∀ j, j ≠ 1 → j ≠ 2 → j ≠ 8 → j ≠ 9 → v' q j = v q j
theorem cpr_tr {q : Nat} {v1 v2 v3 : q_H} (h1 : cpr q v2 v1) (h2 : cpr q v3 v2) : cpr q v3 v1 := ⟨fun b b1 b2 => by rw [h2.1 b b1 b2, h1.1 b b1 b2], fun j j1 j2 j3 j4 => by rw [h2.2 j j1 j2 j3 j4, h1.2 j j1 j2 j3 j4]⟩
theorem cpr_f {q : Nat} {v' v : q_H} (h : cfr q v' v) : cpr q v' v := ⟨fun b b1 b2 => h.1 b b1 (by omega), fun j j1 j2 _ j4 => h.2 j j1 j2 j4⟩
section
variable {d q : Nat} {v : q_H} {G : q_Gr} {Q : q_V → q_H → q_Gr → Prop}
theorem c_rproof {L : List Int} {pos : Nat} {due : Int} (g : gChk G q) (hL : hasL v (q + 1) 1 (q + 1 + 1) L) (hl : lok L) (hp : v q 1 = (pos : Int)) (hw : v q 2 = 0) (hpl : pos ≤ L.length) (hdue : 0 ≤ due ∧ due ≤ 100000)
  (hF : ∀ v' (e : Nat) (y : Int), rdP1 L pos due = .inl (e, y) → cpr q v' v → v' q 1 = (e : Int) → v' q 2 = y → 1 ≤ y → y ≤ 3 → e ≤ 600 → Q (.inr (.inr (.inr ()))) v' G)
  (hS : ∀ v' (s : RS), rdP1 L pos due = .inr s → cpr q v' v → cS v' q s → v' q 8 = (nL L pos : Int) → Q (.inr (.inr (.inr ()))) v' G) : q_call (d + 6) 24 [.inr (.inr (.inl (some q))), .inl due] v G Q := by
  have g' := g
  obtain ⟨g0, ⟨g1, g2, g3, g4, g5, g6, g7, g8, g9⟩, gN, gT, k1, k2, k3, k4, gA, gB, gR, q1, q2⟩ := g'
  have hll := hl.1
  by_cases c : okN L pos 2 16
  · have hn : 2 ≤ nL L pos ∧ nL L pos ≤ 16 := by
      unfold nL
      omega
    have hnN : L.getD pos 0 = (nL L pos : Int) := by
      unfold nL
      omega
    have n1 : ∀ (d' : Nat) (Q' : q_V → q_H → q_Gr → Prop), q_call (d' + 3) 23 [.inr (.inr (.inl (some q))), .inl 2, .inl 16] v G Q' = Q' (.inl (nL L pos)) (q_up v q 1 ((pos : Int) + 1)) G := fun d' Q' => by rw [c_next_y g hL hl hp (by decide) (by decide) c, hnN]
    have p1 : ∀ {x}, rdT L (nL L pos) 16 0 (nL L pos) (rs0 (pos + 1)) = .inl x → rdP1 L pos due = .inl (x, 1) := fun hr => by
      unfold rdP1
      rw [if_neg (fun q => q c), hr]
    have p2 : ∀ {r}, rdT L (nL L pos) 16 0 (nL L pos) (rs0 (pos + 1)) = .inr r → rdP1 L pos due = if J (J r.2.1 r.2.2) (nL L pos) ≠ due then .inl (r.1.1, 2) else .inr r.1 := fun hr => by
      unfold rdP1
      rw [if_neg (fun q => q c), hr]
    generalize hNN : nL L pos = N at *
    generalize hv2 : q_up (q_up v q 1 ((pos : Int) + 1)) q 8 (N : Int) = v2
    have c2 : cpr q v2 v := ⟨fun b b1 _ => by rw [← hv2, u_r b1, u_r b1], fun j j1 j2 j3 j4 => by rw [← hv2, u_n (by omega), u_n (by omega)]⟩
    have w1 : v2 q 1 = ((pos + 1 : Nat) : Int) := by
      rw [← hv2, u_n (by omega), u_s rfl rfl]
      omega
    have w2 : v2 q 2 = 0 := by rw [← hv2, u_n (by omega), u_n (by omega), hw]
    have w8 : v2 q 8 = (N : Int) := by rw [← hv2, u_s rfl rfl]
    have key : q_call (d + 5) 25 [.inr (.inr (.inl (some q)))] v2 G (fun r v' G' => q_wp (d + 5) 24 23 [.inr (.inr (.inl (some q))), .inl due, .inr (.inr (.inr ())), .inr (.inr (.inr ()))] (q_push r []) v' G' Q) := c_begin (d := d + 3) g hn.2 w8 (fun v3 f3 f3q w9 hT z8 z9 => by
      have c3 : cpr q v3 v := cpr_tr c2 ⟨f3, fun j _ _ _ j4 => f3q j j4⟩
      have hs3 : cS v3 q (rs0 (pos + 1)) := ⟨by rw [f3q 1 (by omega), w1]; rfl, by rw [f3q 2 (by omega), w2], w9, fun j hj => by rw [(z8 j hj).1]; rfl, fun j _ hS => (by cases hS), fun j hj => by rw [(z8 j hj).2]; rfl⟩
      have hL3 : hasL v3 (q + 1) 1 (q + 1 + 1) L := hasL_fr (c3.1 _ (by omega) (by omega)) (c3.1 _ (by omega) (by omega)) hL
      have w38 : v3 q 8 = (N : Int) := by rw [f3q 8 (by omega), w8]
      have s1 := sh_1 N
      have s11 : (sh N 1).1 = 0 := by rw [s1]
      have s12 : (sh N 1).2 = N := by rw [s1]
      have nx := s_cwalk (d := d) (z1 := .inl due) (Q := Q) g hl hn.1 hn.2 16 1 (rs0 (pos + 1)) 1 v3 (by decide) (by decide) (by omega) (by omega) (by omega) hT hL3 w38 hs3 (by rw [s11]; exact rdInv_0 _ _) (by show pos + 1 ≤ L.length; have := c.1; omega) (fun u hu _ => z9 u hu) (fun v' e z2 z3 hr hc e1 e2 => by
        rw [s11, s12] at hr
        have le : e ≤ 600 := by have := (rd_le 16 0 N (rs0 (pos + 1)) (by show pos + 1 ≤ L.length; have := c.1; omega)).1 e hr; omega
        have fin := hF v' e 1 (p1 hr) (cpr_tr c3 (cpr_f hc)) e1 e2 (by decide) (by decide) le
        simp (disch := omega) only [e_24_56, e_24_57, e_24_60, e_24_63, g0, e2, ↓if_neg]
        repeat' first | exact fin | (refine And.intro ?_ ?_) | exact True.intro | omega | rfl) (fun v4 r stp' hr hc hs4 hst ev eqn gd1 ch => by
        rw [s11, s12] at hr
        have ok := rd_ok hn.1 16 0 N (rs0 (pos + 1)) hn.2 (by omega) (by omega) (rdInv_0 _ _) r hr
        have h42 := hs4.2.1
        rw [s12] at hst
        have fk := s_forks (d := d) (Q := Q) (z1 := .inl due) (z2 := .inl (((bh 1 : Nat) : Int))) (v0 := v4) g (fun u u1 u2 => ch u u1 u2 (anc_1 u u2 u1)) (fun v5 f5 e5 => by
          have e5 := e5 gd1
          rw [ev] at e5
          have c5 : cpr q v5 v := cpr_tr c3 (cpr_tr (cpr_f hc) ⟨fun b b1 b2 => f5 b (by omega) (by omega), fun j _ _ _ _ => by rw [f5 q (by omega) (by omega)]⟩)
          have hs5 : cS v5 q r.1 := by
            obtain ⟨x1, x2, x3, x4, x5, x6⟩ := hs4
            exact ⟨by rw [f5 q (by omega) (by omega)]; exact x1, by rw [f5 q (by omega) (by omega)]; exact x2, by rw [f5 q (by omega) (by omega)]; exact x3, fun j hj => by rw [f5 _ (by omega) (by omega)]; exact x4 j hj, fun j hj hS => by rw [f5 _ (by omega) (by omega)]; exact x5 j hj hS, fun j hj => by rw [f5 _ (by omega) (by omega)]; exact x6 j hj⟩
          have w58 : v5 q 8 = (N : Int) := by rw [f5 q (by omega) (by omega), hc.2 8 (by omega) (by omega) (by omega), w38]
          have wid : v5 (q + 3 + 2) 1 = (N : Int) := by rw [f5 _ (by omega) (by omega), hc.1 _ (by omega) (by omega), (hT 1 (by decide) (by decide)).2, s12]
          have ts : ∀ (d' : Nat) (Q' : q_V → q_H → q_Gr → Prop), q_call (d' + 2) 115 [.inr (.inr (.inl (some (q + 3))))] v5 G Q' = Q' (.inl (J (J r.2.1 r.2.2) N)) v5 G := fun d' Q' => by rw [c_ttab gT (by omega) (by omega) (by omega) (by omega) (by omega) (by omega), e5.1, e5.2, wid]
          have jr := J_rng (J r.2.1 r.2.2) N
          have p2 := p2 hr
          by_cases ce : J (J r.2.1 r.2.2) N = due
          · rw [if_neg (fun q => q ce)] at p2
            have fin := hS v5 r.1 p2 c5 hs5 w58
            simp (disch := omega) only [e_24_95, e_24_96, e_24_99, e_24_102, e_24_103, e_24_106, e_24_107, e_24_108, e_24_111, g0, g2, ts, q_push_I, q_push_L, q_push_P, q_push_U, ↓if_neg, ↓if_pos]
            repeat' first | exact fin | (refine And.intro ?_ ?_) | exact True.intro | omega | rfl
          · rw [if_pos ce] at p2
            have fin := hF (q_up v5 q 2 2) r.1.1 2 p2 (cpr_tr c5 ⟨fun b b1 _ => by rw [u_r b1], fun j _ j2 _ _ => by rw [u_n (by omega)]⟩) (by rw [u_n (by omega)]; exact hs5.1) (u_s rfl rfl) (by decide) (by decide) (by have := ok.2.2.2.2; omega)
            simp (disch := omega) only [e_24_95, e_24_96, e_24_99, e_24_102, e_24_103, e_24_106, e_24_107, e_24_108, e_24_111, g0, g2, ts, q_push_I, q_push_L, q_push_P, q_push_U, ↓if_neg, ↓if_pos]
            repeat' first | exact fin | (refine And.intro ?_ ?_) | exact True.intro | omega | rfl) 15 v4 (by decide) (fun _ _ _ => rfl) (fun _ _ => ⟨rfl, rfl⟩) (fun u u1 u2 hg => by
          rw [evT_l (fun q => by omega)]
          exact ⟨rfl, rfl⟩)
        have fk : q_wp (d + 5) 24 67 [.inr (.inr (.inl (some q))), .inl due, .inl (((bh 1 : Nat) : Int)), .inl 15] [] v4 G Q := fk
        rw [bh_1] at fk ⊢
        rw [e_24_27]
        by_cases cs : stp' < 32
        · simp (disch := omega) only [e_24_28, e_24_30, e_24_33, e_24_34, e_24_37, e_24_38, e_24_41, e_24_56, e_24_57, e_24_60, e_24_63, e_24_64, e_24_66, g0, h42, ↓if_neg, ↓if_pos]
          repeat' first | (refine And.intro ?_ ?_) | exact True.intro | omega | assumption | rfl
        · simp (disch := omega) only [e_24_28, e_24_30, e_24_33, e_24_34, e_24_37, e_24_38, e_24_41, e_24_56, e_24_57, e_24_60, e_24_63, e_24_64, e_24_66, g0, h42, ↓if_neg, ↓if_pos]
          repeat' first | (refine And.intro ?_ ?_) | exact True.intro | omega | assumption | rfl)
      have nx : q_wp (d + 5) 24 27 [.inr (.inr (.inl (some q))), .inl due, .inl 1, .inl 1] [] v3 G Q := nx
      simp only [e_24_23, e_24_24, e_24_25, e_24_26, q_push_I, q_push_L, q_push_P, q_push_U]
      exact nx)
    simp (disch := omega) only [e_24, e_24_0, e_24_1, e_24_2, e_24_3, e_24_5, e_24_8, e_24_11, e_24_12, e_24_15, e_24_18, e_24_19, e_24_20, g0, n1, hv2, w2, q_push_I, q_push_L, q_push_P, q_push_U, ↓if_pos]
    repeat' first | (refine And.intro ?_ ?_) | exact True.intro | omega | assumption | rfl
  · have n1 : ∀ (d' : Nat) (Q' : q_V → q_H → q_Gr → Prop), q_call (d' + 3) 23 [.inr (.inr (.inl (some q))), .inl 2, .inl 16] v G Q' = Q' (.inl 2) (q_up v q 2 1) G := fun d' Q' => c_next_n g hL hl hp (by omega) (by decide) (by decide) c
    have p1 : rdP1 L pos due = .inl (pos, 1) := by
      unfold rdP1
      rw [if_pos c]
    have fin := hF (q_up (q_up v q 2 1) q 8 2) pos 1 p1 ⟨fun b b1 _ => by rw [u_r b1, u_r b1], fun j _ j2 j3 _ => by rw [u_n (by omega), u_n (by omega)]⟩ (by rw [u_n (by omega), u_n (by omega), hp]) (by rw [u_n (by omega), u_s rfl rfl]) (by decide) (by decide) (by omega)
    simp (disch := first | assumption | omega | ((try simp (disch := omega) only [u_n, u_s]); first | assumption | omega)) only [e_24, e_24_0, e_24_1, e_24_2, e_24_3, e_24_5, e_24_8, e_24_11, e_24_12, e_24_15, e_24_18, g0, n1, u_s, u_n, q_push_I, q_push_L, q_push_P, q_push_U, ↓if_neg, ↓if_pos]
    repeat' first | exact fin | (refine And.intro ?_ ?_) | exact True.intro | omega | rfl
end
