/-! ===== the class reads numbers ===== -/
def gChk (G : q_Gr) (q : Nat) : Prop := (G.2.1 q).1 = 2 ∧ (G.1 q 0 = some (q + 1) ∧ G.1 q 3 = some (q + 3) ∧ G.1 q 4 = some (q + 8) ∧ G.1 q 5 = some (q + 9) ∧ G.1 q 6 = some (q + 10) ∧ G.1 q 7 = some (q + 11) ∧ G.1 q 10 = some (q + 12) ∧ G.1 q 11 = some (q + 15) ∧ G.1 q 13 = some (q + 18)) ∧ gNum G (q + 1) 600 ∧ gTree G (q + 3) ∧ G.2.1 (q + 8) = (21, 16) ∧ G.2.1 (q + 9) = (21, 32) ∧ G.2.1 (q + 10) = (20, 16) ∧ G.2.1 (q + 11) = (20, 16) ∧ gRow G (q + 12) ∧ gRow G (q + 15) ∧ gNum G (q + 18) 48 ∧ 32 ≤ q ∧ q < 90
def lok (L : List Int) : Prop := L.length ≤ 600 ∧ ∀ x, x ∈ L → -2147483648 ≤ x ∧ x ≤ 2147483647
theorem lok_at {L : List Int} (h : lok L) {k : Nat} (hk : k < L.length) : -2147483648 ≤ L.getD k 0 ∧ L.getD k 0 ≤ 2147483647 := by
  rw [getD_lt hk]
  exact h.2 _ (List.getElem_mem hk)
/-- state of the reading -/
def cS (v : q_H) (q : Nat) (s : RS) : Prop := v q 1 = (s.1 : Int) ∧ v q 2 = 0 ∧ v q 9 = s.2.1 ∧ (∀ j, j < 16 → v (q + 8) j = if s.2.2.1 j then 1 else 0) ∧ (∀ j, j < 16 → s.2.2.1 j = true → v (q + 10) j = s.2.2.2.1 j) ∧ ∀ j, j < 16 → v (q + 11) j = s.2.2.2.2 j
/-- what reading a tree leaves alone -/
def cfr (q : Nat) (v' v : q_H) : Prop := (∀ b, b ≠ q → ¬ (q + 6 ≤ b ∧ b ≤ q + 11) → v' b = v b) ∧ ∀ j, j ≠ 1 → j ≠ 2 → j ≠ 9 → v' q j = v q j
theorem cfr_rf (q : Nat) (v : q_H) : cfr q v v := ⟨fun _ _ _ => rfl, fun _ _ _ _ => rfl⟩
theorem cfr_tr {q : Nat} {v1 v2 v3 : q_H} (h1 : cfr q v2 v1) (h2 : cfr q v3 v2) : cfr q v3 v1 := ⟨fun b b1 b2 => by rw [h2.1 b b1 b2, h1.1 b b1 b2], fun j j1 j2 j3 => by rw [h2.2 j j1 j2 j3, h1.2 j j1 j2 j3]⟩
section
variable {d q : Nat} {v : q_H} {G : q_Gr} {Q : q_V → q_H → q_Gr → Prop}
theorem c_next_y {L : List Int} {pos : Nat} {lo hi : Int} (g : gChk G q) (hL : hasL v (q + 1) 1 (q + 1 + 1) L) (hl : lok L) (hp : v q 1 = (pos : Int)) (hlo : -100000 ≤ lo ∧ lo ≤ 100000) (hhi : -100000 ≤ hi ∧ hi ≤ 100000) (h : okN L pos lo hi) : q_call (d + 3) 23 [.inr (.inr (.inl (some q))), .inl lo, .inl hi] v G Q = Q (.inl (L.getD pos 0)) (q_up v q 1 ((pos : Int) + 1)) G := by
  obtain ⟨g0, ⟨g1, g2, g3, g4, g5, g6, g7, g8, g9⟩, gN, gT, k1, k2, k3, k4, gA, gB, gR, q1, q2⟩ := g
  refine q_call_eq ?_ Q
  have hL1 := hL.1
  have h6 := hl.1
  obtain ⟨o1, o2, o3⟩ := h
  have ha := hasL_at hL o1
  generalize hx : L.getD pos 0 = x at *
  have en : ∀ (d' : Nat) (Q' : q_V → q_H → q_Gr → Prop), q_call (d' + 2) 41 [.inr (.inr (.inl (some (q + 1)))), .inl pos] v G Q' = Q' (.inl x) v G := fun d' Q' => by
    rw [c_nat gN (by omega) (by omega) (by omega) (by omega) (by decide), if_pos (by omega), Int.toNat_natCast, ha]
  simp (disch := omega) only [E23, g0, g1, hp, en, c_nsize gN, hL1, ↓if_neg, ↓if_pos, q_push_I, q_push_L, q_push_P, q_push_U]
  repeat' first | (refine And.intro ?_ ?_) | exact True.intro | omega | assumption | rfl
theorem c_next_n {L : List Int} {pos : Nat} {lo hi : Int} (g : gChk G q) (hL : hasL v (q + 1) 1 (q + 1 + 1) L) (hl : lok L) (hp : v q 1 = (pos : Int)) (hp2 : pos ≤ 1000) (hlo : -100000 ≤ lo ∧ lo ≤ 100000) (hhi : -100000 ≤ hi ∧ hi ≤ 100000) (h : ¬ okN L pos lo hi) : q_call (d + 3) 23 [.inr (.inr (.inl (some q))), .inl lo, .inl hi] v G Q = Q (.inl lo) (q_up v q 2 1) G := by
  obtain ⟨g0, ⟨g1, g2, g3, g4, g5, g6, g7, g8, g9⟩, gN, gT, k1, k2, k3, k4, gA, gB, gR, q1, q2⟩ := g
  refine q_call_eq ?_ Q
  have hL1 := hL.1
  have h6 := hl.1
  by_cases c : pos < L.length
  · have ha := hasL_at hL c
    have hr := lok_at hl c
    generalize hx : L.getD pos 0 = x at *
    have en : ∀ (d' : Nat) (Q' : q_V → q_H → q_Gr → Prop), q_call (d' + 2) 41 [.inr (.inr (.inl (some (q + 1)))), .inl pos] v G Q' = Q' (.inl x) v G := fun d' Q' => by
      rw [c_nat gN (by omega) (by omega) (by omega) (by omega) (by decide), if_pos (by omega), Int.toNat_natCast, ha]
    by_cases c2 : x < lo
    · simp (disch := omega) only [E23, g0, g1, hp, en, c_nsize gN, hL1, ↓if_neg, ↓if_pos, q_push_I, q_push_L, q_push_P, q_push_U]
      repeat' first | (refine And.intro ?_ ?_) | exact True.intro | omega | assumption | rfl
    · have c3 : ¬ x ≤ hi := fun q => h ⟨c, by rw [hx]; omega, by rw [hx]; exact q⟩
      simp (disch := omega) only [E23, g0, g1, hp, en, c_nsize gN, hL1, ↓if_neg, ↓if_pos, q_push_I, q_push_L, q_push_P, q_push_U]
      repeat' first | (refine And.intro ?_ ?_) | exact True.intro | omega | assumption | rfl
  · have en : ∀ (d' : Nat) (Q' : q_V → q_H → q_Gr → Prop), q_call (d' + 2) 41 [.inr (.inr (.inl (some (q + 1)))), .inl pos] v G Q' = Q' (.inl (-1000000)) v G := fun d' Q' => by
      rw [c_nat gN (by omega) (by omega) (by omega) (by omega) (by decide), if_neg (by omega)]
    simp (disch := omega) only [E23, g0, g1, hp, en, c_nsize gN, hL1, ↓if_neg, ↓if_pos, q_push_I, q_push_L, q_push_P, q_push_U]
    repeat' first | (refine And.intro ?_ ?_) | exact True.intro | omega | assumption | rfl
theorem c_rh1 {L : List Int} {pos t k : Nat} (g : gChk G q) (hL : hasL v (q + 1) 1 (q + 1 + 1) L) (hl : lok L) (hp : v q 1 = (pos : Int)) (hp2 : pos ≤ 900) (hw : v q 2 = 0) (ht : t < 32) (hk : v (q + 3 + 1) t = (k : Int)) (hk16 : k < 16) (h1 : ¬ okN L pos 0 65520) : q_call (d + 4) 28 [.inr (.inr (.inl (some q))), .inl t] v G Q = Q (.inr (.inr (.inr ()))) (q_up v q 2 1) G := by
  have g' := g
  obtain ⟨g0, ⟨g1, g2, g3, g4, g5, g6, g7, g8, g9⟩, gN, gT, k1, k2, k3, k4, gA, gB, gR, q1, q2⟩ := g'
  refine q_call_eq ?_ Q
  have hL' : ∀ x, hasL (q_up v q 1 x) (q + 1) 1 (q + 1 + 1) L := fun x => hasL_fr (u_r (by omega)) (u_r (by omega)) hL
  have hL2 : ∀ x y, hasL (q_up (q_up v q 1 x) q 1 y) (q + 1) 1 (q + 1 + 1) L := fun x y => hasL_fr (u_r (by omega)) (u_r (by omega)) (hL' x)
  have n1 : ∀ (d' : Nat) (Q' : q_V → q_H → q_Gr → Prop), q_call (d' + 3) 23 [.inr (.inr (.inl (some q))), .inl 0, .inl 65520] v G Q' = Q' (.inl 0) (q_up v q 2 1) G := fun d' Q' => c_next_n g hL hl hp (by omega) (by decide) (by decide) h1
  simp (disch := first | assumption | omega | ((try simp (disch := omega) only [u_n, u_s]); first | assumption | omega)) only [E28, g0, n1, u_s, u_n, ↓if_neg, ↓if_pos, q_push_I, q_push_L, q_push_P, q_push_U]
  repeat' first | (refine And.intro ?_ ?_) | exact True.intro | omega | assumption | rfl
theorem c_rh2 {L : List Int} {pos t k : Nat} (g : gChk G q) (hL : hasL v (q + 1) 1 (q + 1 + 1) L) (hl : lok L) (hp : v q 1 = (pos : Int)) (hp2 : pos ≤ 900) (hw : v q 2 = 0) (ht : t < 32) (hk : v (q + 3 + 1) t = (k : Int)) (hk16 : k < 16) (h1 : okN L pos 0 65520) (h2 : ¬ okN L (pos + 1) 0 14000) : q_call (d + 4) 28 [.inr (.inr (.inl (some q))), .inl t] v G Q = Q (.inr (.inr (.inr ()))) (q_up (q_up v q 1 ((pos : Int) + 1)) q 2 1) G := by
  have g' := g
  obtain ⟨g0, ⟨g1, g2, g3, g4, g5, g6, g7, g8, g9⟩, gN, gT, k1, k2, k3, k4, gA, gB, gR, q1, q2⟩ := g'
  refine q_call_eq ?_ Q
  have hL' : ∀ x, hasL (q_up v q 1 x) (q + 1) 1 (q + 1 + 1) L := fun x => hasL_fr (u_r (by omega)) (u_r (by omega)) hL
  have hL2 : ∀ x y, hasL (q_up (q_up v q 1 x) q 1 y) (q + 1) 1 (q + 1 + 1) L := fun x y => hasL_fr (u_r (by omega)) (u_r (by omega)) (hL' x)
  have n1 : ∀ (d' : Nat) (Q' : q_V → q_H → q_Gr → Prop), q_call (d' + 3) 23 [.inr (.inr (.inl (some q))), .inl 0, .inl 65520] v G Q' = Q' (.inl (L.getD pos 0)) (q_up v q 1 ((pos : Int) + 1)) G := fun d' Q' => c_next_y g hL hl hp (by decide) (by decide) h1
  have n2 : ∀ (d' : Nat) (Q' : q_V → q_H → q_Gr → Prop), q_call (d' + 3) 23 [.inr (.inr (.inl (some q))), .inl 0, .inl 14000] (q_up v q 1 ((pos : Int) + 1)) G Q' = Q' (.inl 0) (q_up (q_up v q 1 ((pos : Int) + 1)) q 2 1) G := fun d' Q' => c_next_n g (hL' _) hl (by rw [u_s rfl rfl]; omega) (by omega) (by decide) (by decide) h2
  simp (disch := first | assumption | omega | ((try simp (disch := omega) only [u_n, u_s]); first | assumption | omega)) only [E28, g0, g2, n1, n2, c_tstart gT, u_s, u_n, hw, ↓if_neg, ↓if_pos, q_push_I, q_push_L, q_push_P, q_push_U]
  repeat' first | (refine And.intro ?_ ?_) | exact True.intro | omega | assumption | rfl
theorem c_rhy {L : List Int} {pos t k : Nat} (g : gChk G q) (hL : hasL v (q + 1) 1 (q + 1 + 1) L) (hl : lok L) (hp : v q 1 = (pos : Int)) (hp2 : pos ≤ 900) (hw : v q 2 = 0) (ht : t < 32) (hk : v (q + 3 + 1) t = (k : Int)) (hk16 : k < 16) (h1 : okN L pos 0 65520) (h2 : okN L (pos + 1) 0 14000) : q_call (d + 4) 28 [.inr (.inr (.inl (some q))), .inl t] v G Q = Q (.inr (.inr (.inr ()))) (q_up (q_up (q_up (q_up (q_up v q 1 ((pos : Int) + 1)) q 1 (((pos + 1 : Nat) : Int) + 1)) (q + 3 + 3) t (L.getD pos 0)) (q + 3 + 4) t (L.getD (pos + 1) 0)) (q + 11) k (L.getD (pos + 1) 0)) G := by
  have g' := g
  obtain ⟨g0, ⟨g1, g2, g3, g4, g5, g6, g7, g8, g9⟩, gN, gT, k1, k2, k3, k4, gA, gB, gR, q1, q2⟩ := g'
  refine q_call_eq ?_ Q
  have hL' : ∀ x, hasL (q_up v q 1 x) (q + 1) 1 (q + 1 + 1) L := fun x => hasL_fr (u_r (by omega)) (u_r (by omega)) hL
  have hL2 : ∀ x y, hasL (q_up (q_up v q 1 x) q 1 y) (q + 1) 1 (q + 1 + 1) L := fun x y => hasL_fr (u_r (by omega)) (u_r (by omega)) (hL' x)
  have n1 : ∀ (d' : Nat) (Q' : q_V → q_H → q_Gr → Prop), q_call (d' + 3) 23 [.inr (.inr (.inl (some q))), .inl 0, .inl 65520] v G Q' = Q' (.inl (L.getD pos 0)) (q_up v q 1 ((pos : Int) + 1)) G := fun d' Q' => c_next_y g hL hl hp (by decide) (by decide) h1
  have n2 : ∀ (d' : Nat) (Q' : q_V → q_H → q_Gr → Prop), q_call (d' + 3) 23 [.inr (.inr (.inl (some q))), .inl 0, .inl 14000] (q_up v q 1 ((pos : Int) + 1)) G Q' = Q' (.inl (L.getD (pos + 1) 0)) (q_up (q_up v q 1 ((pos : Int) + 1)) q 1 (((pos + 1 : Nat) : Int) + 1)) G := fun d' Q' => c_next_y g (hL' _) hl (by rw [u_s rfl rfl]; omega) (by decide) (by decide) h2
  simp (disch := first | assumption | omega | ((try simp (disch := omega) only [u_n, u_s]); first | assumption | omega)) only [E28, g0, g2, g6, n1, n2, c_tstart gT, c_tbec gT, c_within, k4, hk, u_s, u_n, hw, ↓if_neg, ↓if_pos, q_push_I, q_push_L, q_push_P, q_push_U, Int.toNat_natCast]
  repeat' first | (refine And.intro ?_ ?_) | exact True.intro | omega | assumption | rfl
theorem kl_rng {N k : Nat} {last : Int} (hla : -1 ≤ last ∧ last ≤ 1000) : (-100000 ≤ klo N k last ∧ klo N k last ≤ 100000) ∧ (-100000 ≤ khi N k ∧ khi N k ≤ 100000) ∧ (-100000 ≤ vhi N k ∧ vhi N k ≤ 100000) := by
  unfold klo khi vhi
  refine ⟨⟨?_, ?_⟩, ⟨?_, ?_⟩, ?_, ?_⟩ <;> (repeat' split) <;> omega
theorem c_rl1 {L : List Int} {pos t k N : Nat} {last : Int} (g : gChk G q) (hL : hasL v (q + 1) 1 (q + 1 + 1) L) (hl : lok L) (hp : v q 1 = (pos : Int)) (hp2 : pos ≤ 900) (hw : v q 2 = 0) (ht : t < 32) (hk : v (q + 3 + 1) t = (k : Int)) (hk16 : k + 1 ≤ N) (hN2 : 2 ≤ N) (hN : N ≤ 16) (h8 : v q 8 = (N : Int)) (h9 : v q 9 = last) (hla : -1 ≤ last ∧ last ≤ 1000) (h1 : ¬ okN L pos (klo N k last) (khi N k)) : q_call (d + 4) 27 [.inr (.inr (.inl (some q))), .inl t] v G Q = Q (.inr (.inr (.inr ()))) (q_up v q 2 1) G := by
  have kr := kl_rng (N := N) (k := k) hla
  have g' := g
  obtain ⟨g0, ⟨g1, g2, g3, g4, g5, g6, g7, g8, g9⟩, gN, gT, k1, k2, k3, k4, gA, gB, gR, q1, q2⟩ := g'
  refine q_call_eq ?_ Q
  have hL' : ∀ x, hasL (q_up v q 1 x) (q + 1) 1 (q + 1 + 1) L := fun x => hasL_fr (u_r (by omega)) (u_r (by omega)) hL
  have hL2 : ∀ x y, hasL (q_up (q_up v q 1 x) q 1 y) (q + 1) 1 (q + 1 + 1) L := fun x y => hasL_fr (u_r (by omega)) (u_r (by omega)) (hL' x)
  have n1 : ∀ (d' : Nat) (Q' : q_V → q_H → q_Gr → Prop), q_call (d' + 3) 23 [.inr (.inr (.inl (some q))), .inl (klo N k last), .inl (khi N k)] v G Q' = Q' (.inl (klo N k last)) (q_up v q 2 1) G := fun d' Q' => c_next_n g hL hl hp (by omega) kr.1 kr.2.1 h1
  rcases (show k = 0 ∨ (k ≠ 0 ∧ k + 1 = N) ∨ (k ≠ 0 ∧ k + 1 ≠ N) by omega) with c | c | c
  · have e1 : klo N k last = -1 := by unfold klo; rw [if_pos c]
    have e2 : khi N k = -1 := by unfold khi; rw [if_pos c]
    have e3 : vhi N k = 0 := by unfold vhi; rw [if_pos (Or.inl c)]
    rw [e1, e2] at n1
    simp (disch := first | assumption | omega | ((try simp (disch := omega) only [u_n, u_s]); first | assumption | omega)) only [E27, g0, g2, c_tstart gT, hk, h8, n1, u_s, u_n, ↓if_neg, ↓if_pos, q_push_I, q_push_L, q_push_P, q_push_U]
    repeat' first | (refine And.intro ?_ ?_) | exact True.intro | omega | assumption | rfl
  · have e1 : klo N k last = 1000 := by unfold klo; rw [if_neg c.1, if_pos c.2]
    have e2 : khi N k = 1000 := by unfold khi; rw [if_neg c.1, if_pos c.2]
    have e3 : vhi N k = 0 := by unfold vhi; rw [if_pos (Or.inr c.2)]
    rw [e1, e2] at n1
    simp (disch := first | assumption | omega | ((try simp (disch := omega) only [u_n, u_s]); first | assumption | omega)) only [E27, g0, g2, c_tstart gT, hk, h8, n1, u_s, u_n, ↓if_neg, ↓if_pos, q_push_I, q_push_L, q_push_P, q_push_U]
    repeat' first | (refine And.intro ?_ ?_) | exact True.intro | omega | assumption | rfl
  · have e1 : klo N k last = last + 1 := by unfold klo; rw [if_neg c.1, if_neg c.2]
    have e2 : khi N k = 999 := by unfold khi; rw [if_neg c.1, if_neg c.2]
    have e3 : vhi N k = 999 := by unfold vhi; rw [if_neg (by omega)]
    rw [e1, e2] at n1
    simp (disch := first | assumption | omega | ((try simp (disch := omega) only [u_n, u_s]); first | assumption | omega)) only [E27, g0, g2, c_tstart gT, hk, h8, h9, n1, u_s, u_n, ↓if_neg, ↓if_pos, q_push_I, q_push_L, q_push_P, q_push_U]
    repeat' first | (refine And.intro ?_ ?_) | exact True.intro | omega | assumption | rfl
theorem c_rl2 {L : List Int} {pos t k N : Nat} {last : Int} (g : gChk G q) (hL : hasL v (q + 1) 1 (q + 1 + 1) L) (hl : lok L) (hp : v q 1 = (pos : Int)) (hp2 : pos ≤ 900) (hw : v q 2 = 0) (ht : t < 32) (hk : v (q + 3 + 1) t = (k : Int)) (hk16 : k + 1 ≤ N) (hN2 : 2 ≤ N) (hN : N ≤ 16) (h8 : v q 8 = (N : Int)) (h9 : v q 9 = last) (hla : -1 ≤ last ∧ last ≤ 1000) (h1 : okN L pos (klo N k last) (khi N k)) (h2 : ¬ okN L (pos + 1) 0 (vhi N k)) : q_call (d + 4) 27 [.inr (.inr (.inl (some q))), .inl t] v G Q = Q (.inr (.inr (.inr ()))) (q_up (q_up v q 1 ((pos : Int) + 1)) q 2 1) G := by
  have kr := kl_rng (N := N) (k := k) hla
  have g' := g
  obtain ⟨g0, ⟨g1, g2, g3, g4, g5, g6, g7, g8, g9⟩, gN, gT, k1, k2, k3, k4, gA, gB, gR, q1, q2⟩ := g'
  refine q_call_eq ?_ Q
  have hL' : ∀ x, hasL (q_up v q 1 x) (q + 1) 1 (q + 1 + 1) L := fun x => hasL_fr (u_r (by omega)) (u_r (by omega)) hL
  have hL2 : ∀ x y, hasL (q_up (q_up v q 1 x) q 1 y) (q + 1) 1 (q + 1 + 1) L := fun x y => hasL_fr (u_r (by omega)) (u_r (by omega)) (hL' x)
  have n1 : ∀ (d' : Nat) (Q' : q_V → q_H → q_Gr → Prop), q_call (d' + 3) 23 [.inr (.inr (.inl (some q))), .inl (klo N k last), .inl (khi N k)] v G Q' = Q' (.inl (L.getD pos 0)) (q_up v q 1 ((pos : Int) + 1)) G := fun d' Q' => c_next_y g hL hl hp kr.1 kr.2.1 h1
  have n2 : ∀ (d' : Nat) (Q' : q_V → q_H → q_Gr → Prop), q_call (d' + 3) 23 [.inr (.inr (.inl (some q))), .inl 0, .inl (vhi N k)] (q_up v q 1 ((pos : Int) + 1)) G Q' = Q' (.inl 0) (q_up (q_up v q 1 ((pos : Int) + 1)) q 2 1) G := fun d' Q' => c_next_n g (hL' _) hl (by rw [u_s rfl rfl]; omega) (by omega) (by decide) kr.2.2 h2
  rcases (show k = 0 ∨ (k ≠ 0 ∧ k + 1 = N) ∨ (k ≠ 0 ∧ k + 1 ≠ N) by omega) with c | c | c
  · have e1 : klo N k last = -1 := by unfold klo; rw [if_pos c]
    have e2 : khi N k = -1 := by unfold khi; rw [if_pos c]
    have e3 : vhi N k = 0 := by unfold vhi; rw [if_pos (Or.inl c)]
    rw [e1, e2] at n1
    rw [e3] at n2
    simp (disch := first | assumption | omega | ((try simp (disch := omega) only [u_n, u_s]); first | assumption | omega)) only [E27, g0, g2, c_tstart gT, hk, h8, n1, n2, u_s, u_n, hw, ↓if_neg, ↓if_pos, q_push_I, q_push_L, q_push_P, q_push_U]
    repeat' first | (refine And.intro ?_ ?_) | exact True.intro | omega | assumption | rfl
  · have e1 : klo N k last = 1000 := by unfold klo; rw [if_neg c.1, if_pos c.2]
    have e2 : khi N k = 1000 := by unfold khi; rw [if_neg c.1, if_pos c.2]
    have e3 : vhi N k = 0 := by unfold vhi; rw [if_pos (Or.inr c.2)]
    rw [e1, e2] at n1
    rw [e3] at n2
    simp (disch := first | assumption | omega | ((try simp (disch := omega) only [u_n, u_s]); first | assumption | omega)) only [E27, g0, g2, c_tstart gT, hk, h8, n1, n2, u_s, u_n, hw, ↓if_neg, ↓if_pos, q_push_I, q_push_L, q_push_P, q_push_U]
    repeat' first | (refine And.intro ?_ ?_) | exact True.intro | omega | assumption | rfl
  · have e1 : klo N k last = last + 1 := by unfold klo; rw [if_neg c.1, if_neg c.2]
    have e2 : khi N k = 999 := by unfold khi; rw [if_neg c.1, if_neg c.2]
    have e3 : vhi N k = 999 := by unfold vhi; rw [if_neg (by omega)]
    rw [e1, e2] at n1
    rw [e3] at n2
    simp (disch := first | assumption | omega | ((try simp (disch := omega) only [u_n, u_s]); first | assumption | omega)) only [E27, g0, g2, c_tstart gT, hk, h8, h9, n1, n2, u_s, u_n, hw, ↓if_neg, ↓if_pos, q_push_I, q_push_L, q_push_P, q_push_U]
    repeat' first | (refine And.intro ?_ ?_) | exact True.intro | omega | assumption | rfl
theorem c_rly {L : List Int} {pos t k N : Nat} {last : Int} (g : gChk G q) (hL : hasL v (q + 1) 1 (q + 1 + 1) L) (hl : lok L) (hp : v q 1 = (pos : Int)) (hp2 : pos ≤ 900) (hw : v q 2 = 0) (ht : t < 32) (hk : v (q + 3 + 1) t = (k : Int)) (hk16 : k + 1 ≤ N) (hN2 : 2 ≤ N) (hN : N ≤ 16) (h8 : v q 8 = (N : Int)) (h9 : v q 9 = last) (hla : -1 ≤ last ∧ last ≤ 1000) (h1 : okN L pos (klo N k last) (khi N k)) (h2 : okN L (pos + 1) 0 (vhi N k)) (hkr : -1 ≤ L.getD pos 0 ∧ L.getD pos 0 ≤ 1000) (hvr : 0 ≤ L.getD (pos + 1) 0 ∧ L.getD (pos + 1) 0 ≤ 999) : q_call (d + 4) 27 [.inr (.inr (.inl (some q))), .inl t] v G Q = Q (.inr (.inr (.inr ()))) (q_up (q_up (q_up (q_up (q_up (q_up (q_up (q_up v q 1 ((pos : Int) + 1)) q 1 (((pos + 1 : Nat) : Int) + 1)) (q + 3 + 3) t (J (J (L.getD pos 0 + 1) (L.getD (pos + 1) 0)) 7)) (q + 3 + 4) t (L.getD (pos + 1) 0)) (q + 8) k 1) (q + 10) k (L.getD pos 0)) (q + 11) k (L.getD (pos + 1) 0)) q 9 (L.getD pos 0)) G := by
  have kr := kl_rng (N := N) (k := k) hla
  have g' := g
  obtain ⟨g0, ⟨g1, g2, g3, g4, g5, g6, g7, g8, g9⟩, gN, gT, k1, k2, k3, k4, gA, gB, gR, q1, q2⟩ := g'
  refine q_call_eq ?_ Q
  have hL' : ∀ x, hasL (q_up v q 1 x) (q + 1) 1 (q + 1 + 1) L := fun x => hasL_fr (u_r (by omega)) (u_r (by omega)) hL
  have hL2 : ∀ x y, hasL (q_up (q_up v q 1 x) q 1 y) (q + 1) 1 (q + 1 + 1) L := fun x y => hasL_fr (u_r (by omega)) (u_r (by omega)) (hL' x)
  have n1 : ∀ (d' : Nat) (Q' : q_V → q_H → q_Gr → Prop), q_call (d' + 3) 23 [.inr (.inr (.inl (some q))), .inl (klo N k last), .inl (khi N k)] v G Q' = Q' (.inl (L.getD pos 0)) (q_up v q 1 ((pos : Int) + 1)) G := fun d' Q' => c_next_y g hL hl hp kr.1 kr.2.1 h1
  have n2 : ∀ (d' : Nat) (Q' : q_V → q_H → q_Gr → Prop), q_call (d' + 3) 23 [.inr (.inr (.inl (some q))), .inl 0, .inl (vhi N k)] (q_up v q 1 ((pos : Int) + 1)) G Q' = Q' (.inl (L.getD (pos + 1) 0)) (q_up (q_up v q 1 ((pos : Int) + 1)) q 1 (((pos + 1 : Nat) : Int) + 1)) G := fun d' Q' => c_next_y g (hL' _) hl (by rw [u_s rfl rfl]; omega) (by decide) kr.2.2 h2
  rcases (show k = 0 ∨ (k ≠ 0 ∧ k + 1 = N) ∨ (k ≠ 0 ∧ k + 1 ≠ N) by omega) with c | c | c
  · have e1 : klo N k last = -1 := by unfold klo; rw [if_pos c]
    have e2 : khi N k = -1 := by unfold khi; rw [if_pos c]
    have e3 : vhi N k = 0 := by unfold vhi; rw [if_pos (Or.inl c)]
    rw [e1, e2] at n1
    rw [e3] at n2
    simp (disch := first | assumption | omega | ((try simp (disch := omega) only [u_n, u_s]); first | assumption | omega)) only [E27, g0, g2, g3, g5, g6, k1, k3, k4, c_tstart gT, c_tbleaf gT, c_within, hk, h8, n1, n2, u_s, u_n, hw, ↓if_neg, ↓if_pos, q_push_I, q_push_L, q_push_P, q_push_U, Int.toNat_natCast]
    repeat' first | (refine And.intro ?_ ?_) | exact True.intro | omega | assumption | rfl
  · have e1 : klo N k last = 1000 := by unfold klo; rw [if_neg c.1, if_pos c.2]
    have e2 : khi N k = 1000 := by unfold khi; rw [if_neg c.1, if_pos c.2]
    have e3 : vhi N k = 0 := by unfold vhi; rw [if_pos (Or.inr c.2)]
    rw [e1, e2] at n1
    rw [e3] at n2
    simp (disch := first | assumption | omega | ((try simp (disch := omega) only [u_n, u_s]); first | assumption | omega)) only [E27, g0, g2, g3, g5, g6, k1, k3, k4, c_tstart gT, c_tbleaf gT, c_within, hk, h8, n1, n2, u_s, u_n, hw, ↓if_neg, ↓if_pos, q_push_I, q_push_L, q_push_P, q_push_U, Int.toNat_natCast]
    repeat' first | (refine And.intro ?_ ?_) | exact True.intro | omega | assumption | rfl
  · have e1 : klo N k last = last + 1 := by unfold klo; rw [if_neg c.1, if_neg c.2]
    have e2 : khi N k = 999 := by unfold khi; rw [if_neg c.1, if_neg c.2]
    have e3 : vhi N k = 999 := by unfold vhi; rw [if_neg (by omega)]
    rw [e1, e2] at n1
    rw [e3] at n2
    simp (disch := first | assumption | omega | ((try simp (disch := omega) only [u_n, u_s]); first | assumption | omega)) only [E27, g0, g2, g3, g5, g6, k1, k3, k4, c_tstart gT, c_tbleaf gT, c_within, hk, h8, h9, n1, n2, u_s, u_n, hw, ↓if_neg, ↓if_pos, q_push_I, q_push_L, q_push_P, q_push_U, Int.toNat_natCast]
    repeat' first | (refine And.intro ?_ ?_) | exact True.intro | omega | assumption | rfl
end
