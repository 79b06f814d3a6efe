/-! ===== the reference reads numbers ===== -/
def mS (v : q_H) (s : RS) : Prop := v 137 41 = (s.1 : Int) ∧ v 137 43 = 0 ∧ (∀ j, j < 16 → v 161 j = if s.2.2.1 j then 1 else 0) ∧ (∀ j, j < 16 → s.2.2.1 j = true → v 162 j = s.2.2.2.1 j ∧ v 163 j = s.2.2.2.2 j) ∧ ∀ j, j < 16 → s.2.2.1 j = false → v 164 j = s.2.2.2.2 j
def mrf (v' v : q_H) : Prop := (∀ b, b ≠ 137 → ¬ (161 ≤ b ∧ b ≤ 169) → v' b = v b) ∧ ∀ j, j ≠ 41 → j ≠ 42 → j ≠ 43 → j ≠ 54 → j ≠ 55 → v' 137 j = v 137 j
theorem mrf_rf (v : q_H) : mrf v v := ⟨fun _ _ _ => rfl, fun _ _ _ _ _ _ => rfl⟩
theorem mrf_tr {v1 v2 v3 : q_H} (h1 : mrf v2 v1) (h2 : mrf v3 v2) : mrf v3 v1 := ⟨fun b b1 b2 => by rw [h2.1 b b1 b2, h1.1 b b1 b2], fun j j1 j2 j3 j4 j5 => by rw [h2.2 j j1 j2 j3 j4 j5, h1.2 j j1 j2 j3 j4 j5]⟩
theorem hasL_mrf {v' v : q_H} {L : List Int} (h : mrf v' v) (hL : hasL v 137 39 160 L) : hasL v' 137 39 160 L := ⟨by rw [h.2 39 (by omega) (by omega) (by omega) (by omega) (by omega)]; exact hL.1, fun k hk => by rw [h.1 160 (by omega) (by omega)]; exact hL.2 k hk⟩
section
variable {d q : Nat} {v : q_H} {G : q_Gr} {Q : q_V → q_H → q_Gr → Prop}
theorem c_wrong {a r : Int} (hG : gok G) (h : v 137 43 = 0) : q_call (d + 1) 200 [.inr (.inr (.inl (some 137))), .inl a, .inl r] v G Q = Q (.inr (.inr (.inr ()))) (q_up (q_up v 137 42 a) 137 43 r) G := by
  refine q_call_eq ?_ Q
  simp (disch := omega) only [E200, SHM hG, h, ↓if_neg, ↓if_pos]
  repeat' first | (refine And.intro ?_ ?_) | exact True.intro | omega | assumption | rfl
theorem m_next_y {L : List Int} {pos : Nat} {lo hi : Int} (hG : gok G) (hL : hasL v 137 39 160 L) (hl : lok L) (hp : v 137 41 = (pos : Int)) (hw : v 137 43 = 0) (hlo : -100000 ≤ lo ∧ lo ≤ 100000) (hhi : -100000 ≤ hi ∧ hi ≤ 100000) (h : okN L pos lo hi) : q_call (d + 2) 201 [.inr (.inr (.inl (some 137))), .inl lo, .inl hi] v G Q = Q (.inl (L.getD pos 0)) (q_up v 137 41 ((pos : Int) + 1)) G := by
  refine q_call_eq ?_ Q
  have hL1 := hL.1
  have h6 := hl.1
  obtain ⟨o1, o2, o3⟩ := h
  have ha := hasL_at hL o1
  generalize hx : L.getD pos 0 = x at *
  simp (disch := omega) only [E201, SHM hG, hp, hw, hL1, ha, c_in, u_s, u_n, ↓if_neg, ↓if_pos, q_push_I, q_push_L, q_push_P, q_push_U, Int.toNat_natCast, show (pos : Int) + 1 - 1 = (pos : Int) by omega]
  repeat' first | (refine And.intro ?_ ?_) | exact True.intro | omega | assumption | rfl
theorem m_next_n {L : List Int} {pos : Nat} {lo hi : Int} (hG : gok G) (hL : hasL v 137 39 160 L) (hl : lok L) (hp : v 137 41 = (pos : Int)) (hp2 : pos ≤ L.length) (hw : v 137 43 = 0) (hlo : -100000 ≤ lo ∧ lo ≤ 100000) (hhi : -100000 ≤ hi ∧ hi ≤ 100000) (h : ¬ okN L pos lo hi) : q_call (d + 2) 201 [.inr (.inr (.inl (some 137))), .inl lo, .inl hi] v G Q = Q (.inl 0) (q_up (q_up v 137 42 (pos : Int)) 137 43 1) G := by
  refine q_call_eq ?_ Q
  have hL1 := hL.1
  have h6 := hl.1
  by_cases c : pos < L.length
  · have ha := hasL_at hL c
    have hr := lok_at hl c
    have hn : ¬ (lo ≤ L.getD pos 0 ∧ L.getD pos 0 ≤ hi) := fun q => h ⟨c, q⟩
    generalize hx : L.getD pos 0 = x at *
    simp (disch := first | assumption | omega) only [E201, SHM hG, hp, hw, hL1, ha, c_in, c_wrong, ↓if_neg, ↓if_pos, q_push_I, q_push_L, q_push_P, q_push_U, Int.toNat_natCast]
    repeat' first | (refine And.intro ?_ ?_) | exact True.intro | omega | assumption | rfl
  · simp (disch := first | assumption | omega) only [E201, SHM hG, hp, hw, hL1, c_wrong, ↓if_neg, ↓if_pos, q_push_I, q_push_L, q_push_P, q_push_U]
    repeat' first | (refine And.intro ?_ ?_) | exact True.intro | omega | assumption | rfl
theorem m_next_w {lo hi y : Int} (hG : gok G) (hw : v 137 43 = y) (hy : 1 ≤ y) (hy3 : y ≤ 3) : q_call (d + 2) 201 [.inr (.inr (.inl (some 137))), .inl lo, .inl hi] v G Q = Q (.inl 0) v G := by
  refine q_call_eq ?_ Q
  simp (disch := omega) only [E201, SHM hG, hw, ↓if_neg, ↓if_pos]
  repeat' first | (refine And.intro ?_ ?_) | exact True.intro | omega | assumption | rfl
/-- readLeaf, once its two numbers are known -/
theorem m_rleaf {k N : Nat} {last x y : Int} {v1 v2 : q_H} (hG : gok G) (hk16 : k + 1 ≤ N) (hN2 : 2 ≤ N) (hN : N ≤ 16) (h8 : v 137 44 = (N : Int)) (hla : -1 ≤ last ∧ last ≤ 1000) (hx : -1 ≤ x ∧ x ≤ 1000) (hy : 0 ≤ y ∧ y ≤ 999) (n1 : ∀ (d' : Nat) (Q' : q_V → q_H → q_Gr → Prop), q_call (d' + 2) 201 [.inr (.inr (.inl (some 137))), .inl (klo N k last), .inl (khi N k)] v G Q' = Q' (.inl x) v1 G) (n2 : ∀ (d' : Nat) (Q' : q_V → q_H → q_Gr → Prop), q_call (d' + 2) 201 [.inr (.inr (.inl (some 137))), .inl 0, .inl (vhi N k)] (q_up v1 162 k x) G Q' = Q' (.inl y) v2 G) (f2 : v2 162 k = x) : q_call (d + 3) 202 [.inr (.inr (.inl (some 137))), .inl k, .inl last] v G Q = Q (.inr (.inr (.inr ()))) (q_up (q_up (q_up (q_up v2 163 k y) 161 k 1) 137 54 (J (J (x + 1) y) 7)) 137 55 y) G := by
  refine q_call_eq ?_ Q
  rcases (show k = 0 ∨ (k ≠ 0 ∧ k + 1 = N) ∨ (k ≠ 0 ∧ k + 1 ≠ N) by omega) with c | c | c
  · have e1 : klo N k last = -1 := by unfold klo; rw [if_pos c]
    have e2 : khi N k = -1 := by unfold khi; rw [if_pos c]
    have e3 : vhi N k = 0 := by unfold vhi; rw [if_pos (Or.inl c)]
    rw [e1, e2] at n1
    rw [e3] at n2
    simp (disch := first | assumption | omega | ((try simp (disch := omega) only [u_n, u_s]); first | assumption | omega)) only [E202, SHM hG, h8, n1, n2, f2, c_mleaf, u_s, u_n, ↓if_neg, ↓if_pos, q_push_I, q_push_L, q_push_P, q_push_U, Int.toNat_natCast]
    repeat' first | (refine And.intro ?_ ?_) | exact True.intro | omega | assumption | rfl
  · have e1 : klo N k last = 1000 := by unfold klo; rw [if_neg c.1, if_pos c.2]
    have e2 : khi N k = 1000 := by unfold khi; rw [if_neg c.1, if_pos c.2]
    have e3 : vhi N k = 0 := by unfold vhi; rw [if_pos (Or.inr c.2)]
    rw [e1, e2] at n1
    rw [e3] at n2
    simp (disch := first | assumption | omega | ((try simp (disch := omega) only [u_n, u_s]); first | assumption | omega)) only [E202, SHM hG, h8, n1, n2, f2, c_mleaf, u_s, u_n, ↓if_neg, ↓if_pos, q_push_I, q_push_L, q_push_P, q_push_U, Int.toNat_natCast]
    repeat' first | (refine And.intro ?_ ?_) | exact True.intro | omega | assumption | rfl
  · have e1 : klo N k last = last + 1 := by unfold klo; rw [if_neg c.1, if_neg c.2]
    have e2 : khi N k = 999 := by unfold khi; rw [if_neg c.1, if_neg c.2]
    have e3 : vhi N k = 999 := by unfold vhi; rw [if_neg (by omega)]
    rw [e1, e2] at n1
    rw [e3] at n2
    simp (disch := first | assumption | omega | ((try simp (disch := omega) only [u_n, u_s]); first | assumption | omega)) only [E202, SHM hG, h8, n1, n2, f2, c_mleaf, u_s, u_n, ↓if_neg, ↓if_pos, q_push_I, q_push_L, q_push_P, q_push_U, Int.toNat_natCast]
    repeat' first | (refine And.intro ?_ ?_) | exact True.intro | omega | assumption | rfl
theorem m_leaf {L : List Int} {k N : Nat} {s : RS} (hG : gok G) (hL : hasL v 137 39 160 L) (hl : lok L) (hN2 : 2 ≤ N) (hN : N ≤ 16) (h8 : v 137 44 = (N : Int)) (hk : k + 1 ≤ N) (hs : mS v s) (hI : rdInv N k s) (hp : s.1 ≤ L.length)
  (hF : ∀ v' (e : Nat), (∀ f n, n ≤ 1 → ∀ t, (t + 1, s.2) = s → okN L t 0 1 → L.getD t 0 ≠ 0 → rdT L N (f + 1) k n (t, s.2) = .inl e) → mrf v' v → v' 137 42 = (e : Int) → v' 137 43 = 1 → Q (.inr (.inr (.inr ()))) v' G)
  (hD : ∀ v' (r : RS × Int × Int), (∀ f n, n ≤ 1 → ∀ t, (t + 1, s.2) = s → okN L t 0 1 → L.getD t 0 ≠ 0 → rdT L N (f + 1) k n (t, s.2) = .inr r) → mrf v' v → mS v' r.1 → v' 137 54 = r.2.1 → v' 137 55 = r.2.2 → v' 162 k = r.1.2.1 → (∀ b j, 165 ≤ b → b ≤ 169 → v' b j = v b j) → Q (.inr (.inr (.inr ()))) v' G) : q_call (d + 3) 202 [.inr (.inr (.inl (some 137))), .inl k, .inl s.2.1] v G Q := by
  obtain ⟨s1, s2, s3, s4, s5⟩ := hs
  have la := hI.2.2.2.2.1
  have kr := kl_rng (N := N) (k := k) la
  by_cases c1 : okN L s.1 (klo N k s.2.1) (khi N k)
  · have n1 : ∀ (d' : Nat) (Q' : q_V → q_H → q_Gr → Prop), q_call (d' + 2) 201 [.inr (.inr (.inl (some 137))), .inl (klo N k s.2.1), .inl (khi N k)] v G Q' = Q' (.inl (L.getD s.1 0)) (q_up v 137 41 ((s.1 : Int) + 1)) G := fun d' Q' => m_next_y hG hL hl s1 s2 kr.1 kr.2.1 c1
    have hxr : -1 ≤ L.getD s.1 0 ∧ L.getD s.1 0 ≤ 1000 := by
      have := c1.2
      unfold klo khi at this
      repeat' split at this
      all_goals omega
    have hL1 : hasL (q_up (q_up v 137 41 ((s.1 : Int) + 1)) 162 k (L.getD s.1 0)) 137 39 160 L := ⟨by rw [u_n (by omega), u_n (by omega)]; exact hL.1, fun j hj => by rw [u_n (by omega), u_n (by omega)]; exact hL.2 j hj⟩
    have w41 : q_up (q_up v 137 41 ((s.1 : Int) + 1)) 162 k (L.getD s.1 0) 137 41 = ((s.1 + 1 : Nat) : Int) := by
      rw [u_n (by omega), u_s rfl rfl]
      omega
    have w43 : q_up (q_up v 137 41 ((s.1 : Int) + 1)) 162 k (L.getD s.1 0) 137 43 = 0 := by rw [u_n (by omega), u_n (by omega), s2]
    by_cases c2 : okN L (s.1 + 1) 0 (vhi N k)
    · have n2 : ∀ (d' : Nat) (Q' : q_V → q_H → q_Gr → Prop), q_call (d' + 2) 201 [.inr (.inr (.inl (some 137))), .inl 0, .inl (vhi N k)] (q_up (q_up v 137 41 ((s.1 : Int) + 1)) 162 k (L.getD s.1 0)) G Q' = Q' (.inl (L.getD (s.1 + 1) 0)) (q_up (q_up (q_up v 137 41 ((s.1 : Int) + 1)) 162 k (L.getD s.1 0)) 137 41 (((s.1 + 1 : Nat) : Int) + 1)) G := fun d' Q' => m_next_y hG hL1 hl w41 w43 (by decide) kr.2.2 c2
      have hyr : 0 ≤ L.getD (s.1 + 1) 0 ∧ L.getD (s.1 + 1) 0 ≤ 999 := by
        have := c2.2
        unfold vhi at this
        split at this <;> omega
      rw [m_rleaf hG hk hN2 hN h8 la hxr hyr n1 n2 (by rw [u_n (by omega), u_s rfl rfl])]
      refine hD _ ((s.1 + 2, L.getD s.1 0, upB s.2.2.1 k, upF s.2.2.2.1 k (L.getD s.1 0), upF s.2.2.2.2 k (L.getD (s.1 + 1) 0)), J (J (L.getD s.1 0 + 1) (L.getD (s.1 + 1) 0)) 7, L.getD (s.1 + 1) 0) (fun f n hn t ht ho h0 => ?_) ⟨fun b b1 b2 => ?_, fun j j1 j2 j3 j4 j5 => ?_⟩ ⟨?_, ?_, fun j hj => ?_, fun j hj hS => ?_, fun j hj hS => ?_⟩ ?_ ?_ ?_ (fun b j b1 b2 => ?_)
      · have e1 : t + 1 = s.1 := congrArg Prod.fst ht
        have := rdT_ly (L := L) (N := N) (f := f) (k := k) (n := n) (s := (t, s.2)) ho h0 hn (by show okN L (t + 1) (klo N k s.2.1) (khi N k); rw [e1]; exact c1) (by show okN L (t + 2) 0 (vhi N k); rw [show t + 2 = s.1 + 1 by omega]; exact c2)
        rw [this]
        unfold leafS
        simp only [show t + 1 = s.1 by omega, show t + 2 = s.1 + 1 by omega, show t + 3 = s.1 + 2 by omega]
      · rw [u_r (by omega), u_r (by omega), u_r (by omega), u_r (by omega), u_r (by omega), u_r (by omega), u_r (by omega)]
      · simp (disch := omega) only [u_n]
      · simp (disch := omega) only [u_n, u_s]
        omega
      · simp (disch := omega) only [u_n]
        exact s2
      · unfold upB
        by_cases e : j = k
        · simp only [if_pos e]
          simp (disch := omega) only [u_n, u_s]
          rfl
        · simp only [if_neg e]
          simp (disch := omega) only [u_n]
          exact s3 j hj
      · unfold upB at hS
        unfold upF
        by_cases e : j = k
        · simp only [if_pos e]
          simp (disch := omega) only [u_n, u_s]
          exact ⟨True.intro, True.intro⟩
        · simp only [if_neg e] at hS ⊢
          simp (disch := omega) only [u_n]
          exact s4 j hj hS
      · unfold upB at hS
        unfold upF
        by_cases e : j = k
        · simp only [if_pos e] at hS
          cases hS
        · simp only [if_neg e] at hS ⊢
          simp (disch := omega) only [u_n]
          exact s5 j hj hS
      · simp (disch := omega) only [u_n, u_s]
      · simp (disch := omega) only [u_s]
      · simp (disch := omega) only [u_n, u_s]
      · simp (disch := omega) only [u_n]
    · have n2 : ∀ (d' : Nat) (Q' : q_V → q_H → q_Gr → Prop), q_call (d' + 2) 201 [.inr (.inr (.inl (some 137))), .inl 0, .inl (vhi N k)] (q_up (q_up v 137 41 ((s.1 : Int) + 1)) 162 k (L.getD s.1 0)) G Q' = Q' (.inl 0) (q_up (q_up (q_up (q_up v 137 41 ((s.1 : Int) + 1)) 162 k (L.getD s.1 0)) 137 42 (((s.1 + 1 : Nat) : Int))) 137 43 1) G := fun d' Q' => m_next_n hG hL1 hl w41 (by have := c1.1; omega) w43 (by decide) kr.2.2 c2
      rw [m_rleaf hG hk hN2 hN h8 la hxr (by decide) n1 n2 (by rw [u_n (by omega), u_n (by omega), u_s rfl rfl])]
      refine hF _ (s.1 + 1) (fun f n hn t ht ho h0 => ?_) ⟨fun b b1 b2 => ?_, fun j j1 j2 j3 j4 j5 => ?_⟩ ?_ ?_
      · have e1 : t + 1 = s.1 := congrArg Prod.fst ht
        rw [rdT_l2 (s := (t, s.2)) ho h0 hn (by show okN L (t + 1) (klo N k s.2.1) (khi N k); rw [e1]; exact c1) (by show ¬ okN L (t + 2) 0 (vhi N k); rw [show t + 2 = s.1 + 1 by omega]; exact c2)]
        show Sum.inl (t + 2) = _
        rw [show t + 2 = s.1 + 1 by omega]
      · rw [u_r (by omega), u_r (by omega), u_r (by omega), u_r (by omega), u_r (by omega), u_r (by omega), u_r (by omega), u_r (by omega)]
      · simp (disch := omega) only [u_n]
      · simp (disch := omega) only [u_n, u_s]
      · simp (disch := omega) only [u_n, u_s]
  · have n1 : ∀ (d' : Nat) (Q' : q_V → q_H → q_Gr → Prop), q_call (d' + 2) 201 [.inr (.inr (.inl (some 137))), .inl (klo N k s.2.1), .inl (khi N k)] v G Q' = Q' (.inl 0) (q_up (q_up v 137 42 (s.1 : Int)) 137 43 1) G := fun d' Q' => m_next_n hG hL hl s1 hp s2 kr.1 kr.2.1 c1
    have n2 : ∀ (d' : Nat) (Q' : q_V → q_H → q_Gr → Prop), q_call (d' + 2) 201 [.inr (.inr (.inl (some 137))), .inl 0, .inl (vhi N k)] (q_up (q_up (q_up v 137 42 (s.1 : Int)) 137 43 1) 162 k 0) G Q' = Q' (.inl 0) (q_up (q_up (q_up v 137 42 (s.1 : Int)) 137 43 1) 162 k 0) G := fun d' Q' => m_next_w hG (y := 1) (by rw [u_n (by omega), u_s rfl rfl]) (by decide) (by decide)
    rw [m_rleaf hG hk hN2 hN h8 la (by decide) (by decide) n1 n2 (u_s rfl rfl)]
    refine hF _ s.1 (fun f n hn t ht ho h0 => ?_) ⟨fun b b1 b2 => ?_, fun j j1 j2 j3 j4 j5 => ?_⟩ ?_ ?_
    · have e1 : t + 1 = s.1 := congrArg Prod.fst ht
      rw [rdT_l1 (s := (t, s.2)) ho h0 hn (by show ¬ okN L (t + 1) (klo N k s.2.1) (khi N k); rw [e1]; exact c1)]
      show Sum.inl (t + 1) = _
      rw [e1]
    · rw [u_r (by omega), u_r (by omega), u_r (by omega), u_r (by omega), u_r (by omega), u_r (by omega), u_r (by omega)]
    · simp (disch := omega) only [u_n]
    · simp (disch := omega) only [u_n, u_s]
    · simp (disch := omega) only [u_n, u_s]
end
