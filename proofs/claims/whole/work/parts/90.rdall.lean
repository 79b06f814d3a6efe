/-! ===== all acts of a text, pure ===== -/
theorem rdN_ok {f : Nat → Int} {N : Nat} {w : Int} : ∀ (m k c : Nat) (ns : List Int) (r : List Int × Nat), ns.length = k → c ≤ N → (∀ j, j < k → blo w j (ns.getD (j - 1) 0) ≤ ns.getD j 0 ∧ ns.getD j 0 ≤ bhi w j) → rdN f N w m k c ns = .inr r → (∀ j, j < k + m → blo w j (r.1.getD (j - 1) 0) ≤ r.1.getD j 0 ∧ r.1.getD j 0 ≤ bhi w j) ∧ c < r.2 ∧ r.2 ≤ N := by
  intro m
  induction m with
  | zero =>
    intro k c ns r hl hc hj h
    have te := tkE_ok (f := f) hc
    unfold rdN at h
    by_cases c3 : tkK f N c = 3
    · rw [if_pos c3] at h
      cases h
      exact ⟨hj, (te.2.2.1 (by omega)).1, te.2.1⟩
    · rw [if_neg c3] at h
      cases h
  | succ m ih =>
    intro k c ns r hl hc hj h
    have te := tkE_ok (f := f) hc
    unfold rdN at h
    by_cases c2 : tkK f N c = 2
    · rw [if_pos c2] at h
      by_cases ci : blo w k (ns.getD (k - 1) 0) ≤ tkV f N c ∧ tkV f N c ≤ bhi w k
      · rw [if_pos ci] at h
        have := ih (k + 1) (tkE f N c) (ns ++ [tkV f N c]) r (by rw [List.length_append, hl]; rfl) te.2.1 (fun j hj' => by
          by_cases ej : j = k
          · subst ej
            have g1 : (ns ++ [tkV f N c]).getD j 0 = tkV f N c := by rw [getD_app, if_neg (by omega), if_pos (by omega)]
            rw [g1]
            by_cases c0 : j = 0
            · subst c0
              refine ⟨?_, ci.2⟩
              have := ci.1
              unfold blo at this ⊢
              rw [if_pos (Or.inl rfl)] at this ⊢
              exact this
            · have g2 : (ns ++ [tkV f N c]).getD (j - 1) 0 = ns.getD (j - 1) 0 := by rw [getD_app, if_pos (by omega)]
              rw [g2]
              exact ci
          · rw [getD_app, getD_app, hl, if_pos (by omega), if_pos (by omega)]
            exact hj j (by omega)) h
        have t1 := (te.2.2.1 (by omega)).1
        exact ⟨fun j hj => this.1 j (by omega), by omega, this.2.2⟩
      · rw [if_neg ci] at h
        cases h
    · rw [if_neg c2] at h
      cases h
def actOK (w : Int) (ns : List Int) : Prop := (0 ≤ w ∧ w ≤ 6) ∧ (0 ≤ acA ns ∧ acA ns ≤ 2) ∧ (0 ≤ acB w ns ∧ acB w ns ≤ 2) ∧ (0 ≤ acL w ns ∧ acL w ns ≤ 999) ∧ (w = 2 → 1 ≤ acH w ns ∧ acH w ns ≤ 14) ∧ (w ≠ 2 → acL w ns ≤ acH w ns ∧ acH w ns ≤ 999) ∧ (w < 4 → acB w ns = acA ns)
theorem rdA_ok {f : Nat → Int} {N c : Nat} {na : Int} {x : (Int × List Int) × Nat} (hc : c ≤ N) (h : rdA f N c na = .inr x) : actOK x.1.1 x.1.2 ∧ na < 12 ∧ c < x.2 ∧ x.2 ≤ N := by
  have te := tkE_ok (f := f) hc
  have wr := wrd_rng f (tkS f N c) (tkE f N c)
  have wA : -1 ≤ wdA f N c ∧ wdA f N c ≤ 6 := by
    unfold wdA
    split <;> omega
  have kA : ¬ wdA f N c < 0 → tkK f N c ≠ 0 := fun h => by
    unfold wdA at h
    split at h <;> omega
  unfold rdA at h
  by_cases cw : wdA f N c < 0
  · rw [if_pos cw] at h
    cases h
  · rw [if_neg cw] at h
    by_cases c12 : 12 ≤ na
    · rw [if_pos c12] at h
      cases h
    · rw [if_neg c12] at h
      have t1 := (te.2.2.1 (kA cw)).1
      generalize hw : wdA f N c = w at *
      generalize hr : rdN f N w (nOf w) 0 (tkE f N c) [] = y at h
      cases y with
      | inl e => cases h
      | inr r =>
        have h : (Sum.inr ((w, r.1), r.2) : (Int × Nat) ⊕ ((Int × List Int) × Nat)) = .inr x := h
        cases h
        obtain ⟨k1, k2, k3⟩ := rdN_ok (nOf w) 0 (tkE f N c) [] r rfl te.2.1 (fun j hj => by omega) hr
        refine ⟨?_, by omega, by show c < r.2; omega, k3⟩
        show actOK w r.1
        unfold actOK acA acB acL acH
        unfold nOf at k1
        by_cases c4 : 4 ≤ w
        · simp only [if_pos c4] at k1 ⊢
          have k10 := k1 0 (by decide)
          have k11 := k1 1 (by decide)
          have k12 := k1 2 (by decide)
          have k13 := k1 3 (by decide)
          unfold blo bhi at k10 k11 k12 k13
          rw [if_pos (by omega), if_pos (by omega)] at k10 k11
          rw [if_neg (by omega), if_neg (by omega), if_neg (by omega), if_neg (by omega), if_neg (by omega)] at k12
          rw [if_neg (by omega), if_neg (by omega), if_pos (by omega), if_neg (by omega), if_neg (by omega)] at k13
          exact ⟨by omega, k10, k11, k12, fun e => by omega, fun _ => k13, fun e => by omega⟩
        · simp only [if_neg c4] at k1 ⊢
          by_cases c3 : w = 3
          · simp only [if_pos c3] at k1 ⊢
            have k10 := k1 0 (by decide)
            have k11 := k1 1 (by decide)
            unfold blo bhi at k10 k11
            rw [if_pos (by omega), if_pos (by omega)] at k10
            rw [if_neg (by omega), if_neg (by omega), if_neg (by omega), if_neg (by omega), if_neg (by omega)] at k11
            exact ⟨by omega, k10, k10, k11, fun e => by omega, fun _ => ⟨by omega, k11.2⟩, fun _ => True.intro⟩
          · simp only [if_neg c3] at k1 ⊢
            have k10 := k1 0 (by decide)
            have k11 := k1 1 (by decide)
            have k12 := k1 2 (by decide)
            unfold blo bhi at k10 k11 k12
            rw [if_pos (by omega), if_pos (by omega)] at k10
            rw [if_neg (by omega), if_neg (by omega), if_neg (by omega), if_neg (by omega), if_neg (by omega)] at k11
            by_cases c2 : w = 2
            · rw [if_neg (by omega), if_pos (by omega), if_neg (by omega), if_pos (by omega)] at k12
              exact ⟨by omega, k10, k10, k11, fun _ => k12, fun e => by omega, fun _ => True.intro⟩
            · rw [if_neg (by omega), if_neg (by omega), if_pos (by omega), if_neg (by omega), if_neg (by omega)] at k12
              exact ⟨by omega, k10, k10, k11, fun e => by omega, fun _ => k12, fun _ => True.intro⟩
def rdAll (f : Nat → Int) (N : Nat) : Nat → Nat → Nat → List (Int × List Int) → (Int × Nat) ⊕ List (Int × List Int)
  | 0, _, _, l => .inr l
  | n + 1, c, a, l => if tkK f N c = 0 then .inr l else match rdA f N c a with
    | .inl e => .inl e
    | .inr x => rdAll f N n x.2 (a + 1) (l ++ [x.1])
theorem rdAll_0 {f : Nat → Int} {N n c a : Nat} {l : List (Int × List Int)} (h : tkK f N c = 0) : rdAll f N (n + 1) c a l = .inr l := by
  unfold rdAll
  rw [if_pos h]
theorem rdAll_e {f : Nat → Int} {N n c a : Nat} {l : List (Int × List Int)} {e : Int × Nat} (h : tkK f N c ≠ 0) (hr : rdA f N c a = .inl e) : rdAll f N (n + 1) c a l = .inl e := by
  unfold rdAll
  rw [if_neg h, hr]
theorem rdAll_x {f : Nat → Int} {N n c a : Nat} {l : List (Int × List Int)} {x : (Int × List Int) × Nat} (h : tkK f N c ≠ 0) (hr : rdA f N c a = .inr x) : rdAll f N (n + 1) c a l = rdAll f N n x.2 (a + 1) (l ++ [x.1]) := by
  conv => lhs; unfold rdAll
  rw [if_neg h, hr]
theorem gD_l {α : Type} {l : List α} {x z : α} {k : Nat} (h : k < l.length) : (l ++ [x]).getD k z = l.getD k z := by
  rw [List.getD_eq_getElem?_getD, List.getD_eq_getElem?_getD, List.getElem?_append_left h]
theorem gD_e {α : Type} {l : List α} {x z : α} {k : Nat} (h : k = l.length) : (l ++ [x]).getD k z = x := by
  rw [List.getD_eq_getElem?_getD, List.getElem?_append_right (by omega), h, Nat.sub_self]
  rfl
section
variable {v : q_H} {G : q_Gr}
def acF (row : Nat → Int) (x : Int × List Int) : Prop := row 0 = x.1 ∧ row 1 = acA x.2 ∧ row 2 = acB x.1 x.2 ∧ row 3 = acL x.1 x.2 ∧ row 4 = (if x.1 = 2 then acL x.1 x.2 else acH x.1 x.2) ∧ row 5 = (if x.1 = 2 then acH x.1 x.2 else 0)
/-- the class while it reads a text: l read, from the place a0 on -/
def plI (v0 : q_H) (G0 : q_Gr) (v : q_H) (G : q_Gr) (a0 : Nat) (l : List (Int × List Int)) : Prop := gok G ∧ (∀ b, b ≠ 36 → b ≠ 39 → b < 32 + G0.2.2.1 → v b = v0 b) ∧ (∀ j, ¬ (4 ≤ j ∧ j ≤ 7) → j ≠ 9 → v 36 j = v0 36 j) ∧ G.2.2.1 = G0.2.2.1 + l.length ∧ G.2.2.2 = G0.2.2.2 + 6 * l.length ∧ (∀ j, j < a0 → G.1 38 j = G0.1 38 j) ∧ (∀ p, p < 32 + G0.2.2.1 → G.2.1 p = G0.2.1 p) ∧ ∀ k, k < l.length → G.1 38 (a0 + k) = some (32 + G0.2.2.1 + k) ∧ G.2.1 (32 + G0.2.2.1 + k) = (0, 6) ∧ acF (v (32 + G0.2.2.1 + k)) (l.getD k (0, [])) ∧ actOK (l.getD k (0, [])).1 (l.getD k (0, [])).2
theorem gok_upr {j : Nat} {x : Option Nat} (h : gok G) : gok (q_upr G.1 38 j x, G.2) := by
  obtain ⟨h1, h2, h3, h4, h5⟩ := h
  refine ⟨h1, fun a k a1 a2 a3 => ?_, h3, h4, h5⟩
  show (if a = 38 ∧ k = j then x else G.1 a k) = _
  rw [if_neg (by omega), h2 a k a1 a2 a3]
theorem plI_pfr {v0 v' : q_H} {G0 : q_Gr} {a0 : Nat} {l : List (Int × List Int)} (h0 : 142 ≤ G0.2.2.1) (hp : pfr v' v) (h : plI v0 G0 v G a0 l) : plI v0 G0 v' G a0 l := by
  obtain ⟨h1, h2, h3, h4, h5, h6, h7, h8⟩ := h
  refine ⟨h1, fun b b1 b2 b3 => by rw [hp.1 b b1 b2, h2 b b1 b2 b3], fun j j1 j2 => by rw [hp.2 j j1 j2, h3 j j1 j2], h4, h5, h6, h7, fun k hk => ?_⟩
  rw [hp.1 _ (by omega) (by omega)]
  exact h8 k hk
theorem plI_x {v0 v' : q_H} {G0 : q_Gr} {a0 a : Nat} {l : List (Int × List Int)} {x : Int × List Int} (h0 : 142 ≤ G0.2.2.1) (h : plI v0 G0 v G a0 l) (ha : a = a0 + l.length) (ok : actOK x.1 x.2) (f1 : ∀ b, b ≠ 36 → b ≠ 39 → b ≠ 32 + G.2.2.1 → v' b = v b) (f2 : ∀ j, ¬ (4 ≤ j ∧ j ≤ 7) → j ≠ 9 → v' 36 j = v 36 j) (f3 : acF (v' (32 + G.2.2.1)) x) : plI v0 G0 v' (q_upr (q_mk G 0 6).1 38 a (some (32 + G.2.2.1)), (q_mk G 0 6).2) a0 (l ++ [x]) := by
  obtain ⟨h1, h2, h3, h4, h5, h6, h7, h8⟩ := h
  have hl : (l ++ [x]).length = l.length + 1 := by rw [List.length_append]; rfl
  have e38 : ∀ j, q_upr (q_mk G 0 6).1 38 a (some (32 + G.2.2.1)) 38 j = if j = a then some (32 + G.2.2.1) else G.1 38 j := fun j => by
    show (if 38 = 38 ∧ j = a then some (32 + G.2.2.1) else (q_mk G 0 6).1 38 j) = _
    rw [mk_1 (by omega)]
    by_cases e : j = a
    · rw [if_pos ⟨rfl, e⟩, if_pos e]
    · rw [if_neg (fun h => e h.2), if_neg e]
  refine ⟨gok_upr (gok_mk h1), fun b b1 b2 b3 => by rw [f1 b b1 b2 (by omega), h2 b b1 b2 b3], fun j j1 j2 => by rw [f2 j j1 j2, h3 j j1 j2], ?_, ?_, fun j hj => ?_, fun p hp => ?_, fun k hk => ?_⟩
  · show (q_mk G 0 6).2.2.1 = _
    rw [mk_3, hl]
    omega
  · show (q_mk G 0 6).2.2.2 = _
    rw [mk_4, hl]
    omega
  · show q_upr (q_mk G 0 6).1 38 a (some (32 + G.2.2.1)) 38 j = _
    rw [e38, if_neg (by omega), h6 j hj]
  · show (q_mk G 0 6).2.1 p = _
    rw [mk_2 (by omega), h7 p hp]
  · show q_upr (q_mk G 0 6).1 38 a (some (32 + G.2.2.1)) 38 (a0 + k) = _ ∧ (q_mk G 0 6).2.1 (32 + G0.2.2.1 + k) = (0, 6) ∧ _
    rw [e38]
    rw [hl] at hk
    by_cases e : k = l.length
    · have ep : 32 + G0.2.2.1 + k = 32 + G.2.2.1 := by omega
      rw [if_pos (by omega), ep, mk_2n, gD_e e]
      exact ⟨rfl, rfl, f3, ok⟩
    · have h8 := h8 k (by omega)
      rw [if_neg (by omega), mk_2 (by omega), gD_l (by omega), f1 _ (by omega) (by omega) (by omega)]
      exact h8
/-- the reference while it reads a text -/
def mpI (v0 v : q_H) (a0 : Nat) (l : List (Int × List Int)) : Prop := (∀ b, b ≠ 137 → (b < 149 ∨ 153 < b) → v b = v0 b) ∧ (∀ j, j ≠ 21 → ¬ (26 ≤ j ∧ j ≤ 31) → v 137 j = v0 137 j) ∧ (∀ b j, 149 ≤ b → b ≤ 153 → j < a0 → v b j = v0 b j) ∧ ∀ k, k < l.length → v 149 (a0 + k) = (l.getD k (0, [])).1 ∧ v 150 (a0 + k) = acA (l.getD k (0, [])).2 ∧ v 151 (a0 + k) = acB (l.getD k (0, [])).1 (l.getD k (0, [])).2 ∧ v 152 (a0 + k) = acL (l.getD k (0, [])).1 (l.getD k (0, [])).2 ∧ v 153 (a0 + k) = acH (l.getD k (0, [])).1 (l.getD k (0, [])).2
theorem mpI_mwf {v0 v' : q_H} {a0 : Nat} {l : List (Int × List Int)} (hp : mwf v' v) (h : mpI v0 v a0 l) : mpI v0 v' a0 l := by
  obtain ⟨h1, h2, h3, h4⟩ := h
  refine ⟨fun b b1 b2 => by rw [hp.1 b b1, h1 b b1 b2], fun j j1 j2 => by rw [hp.2 j j2, h2 j j1 j2], fun b j b1 b2 hj => by rw [hp.1 b (by omega), h3 b j b1 b2 hj], fun k hk => ?_⟩
  rw [hp.1 149 (by omega), hp.1 150 (by omega), hp.1 151 (by omega), hp.1 152 (by omega), hp.1 153 (by omega)]
  exact h4 k hk
theorem mst_n {a b j : Nat} {w x0 x1 x2 x3 : Int} (h : ¬ (149 ≤ b ∧ b ≤ 153 ∧ j = a)) (h2 : ¬ (b = 137 ∧ j = 21)) : mst v a w x0 x1 x2 x3 b j = v b j := by
  unfold mst
  rw [u_n (by omega), u_n (by omega), u_n (by omega), u_n (by omega), u_n (by omega), u_n (by omega)]
theorem mst_f {a : Nat} {w x0 x1 x2 x3 : Int} : mst v a w x0 x1 x2 x3 149 a = w ∧ mst v a w x0 x1 x2 x3 150 a = x0 ∧ mst v a w x0 x1 x2 x3 151 a = x1 ∧ mst v a w x0 x1 x2 x3 152 a = x2 ∧ mst v a w x0 x1 x2 x3 153 a = x3 ∧ mst v a w x0 x1 x2 x3 137 21 = (a : Int) + 1 := by
  unfold mst
  refine ⟨?_, ?_, ?_, ?_, ?_, ?_⟩ <;> simp (disch := omega) only [u_n, u_s]
theorem mpI_x {v0 : q_H} {a0 a : Nat} {l : List (Int × List Int)} {x : Int × List Int} (h : mpI v0 v a0 l) (ha : a = a0 + l.length) : mpI v0 (mst v a x.1 (acA x.2) (acB x.1 x.2) (acL x.1 x.2) (acH x.1 x.2)) a0 (l ++ [x]) := by
  obtain ⟨h1, h2, h3, h4⟩ := h
  have hl : (l ++ [x]).length = l.length + 1 := by rw [List.length_append]; rfl
  have mf := mst_f (v := v) (a := a) (w := x.1) (x0 := acA x.2) (x1 := acB x.1 x.2) (x2 := acL x.1 x.2) (x3 := acH x.1 x.2)
  refine ⟨fun b b1 b2 => ?_, fun j j1 j2 => by rw [mst_n (by omega) (by omega), h2 j j1 j2], fun b j b1 b2 hj => by rw [mst_n (by omega) (by omega), h3 b j b1 b2 hj], fun k hk => ?_⟩
  · funext j
    rw [mst_n (by omega) (by omega), h1 b b1 b2]
  · rw [hl] at hk
    by_cases e : k = l.length
    · rw [gD_e e, show a0 + k = a by omega]
      exact ⟨mf.1, mf.2.1, mf.2.2.1, mf.2.2.2.1, mf.2.2.2.2.1⟩
    · rw [gD_l (by omega), mst_n (by omega) (by omega), mst_n (by omega) (by omega), mst_n (by omega) (by omega), mst_n (by omega) (by omega), mst_n (by omega) (by omega)]
      exact h4 k (by omega)
end
