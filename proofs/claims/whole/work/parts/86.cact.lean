/-! ===== acts read from a text, pure ===== -/
def blo (w : Int) (k : Nat) (prev : Int) : Int := if k = 0 ∨ (k = 1 ∧ 4 ≤ w) then 0 else if w = 2 ∧ k = 2 then 1 else if (k = 3 ∧ 4 ≤ w) ∨ (k = 2 ∧ w < 4) then prev else 0
def bhi (w : Int) (k : Nat) : Int := if k = 0 ∨ (k = 1 ∧ 4 ≤ w) then 2 else if w = 2 ∧ k = 2 then 14 else 999
def nOf (w : Int) : Nat := if 4 ≤ w then 4 else if w = 3 then 2 else 3
def rdN (f : Nat → Int) (N : Nat) (w : Int) : Nat → Nat → Nat → List Int → (Int × Nat) ⊕ (List Int × Nat)
  | 0, _, c, ns => if tkK f N c = 3 then .inr (ns, tkE f N c) else .inl (1, tkS f N c)
  | m + 1, k, c, ns => if tkK f N c = 2 then (if blo w k (ns.getD (k - 1) 0) ≤ tkV f N c ∧ tkV f N c ≤ bhi w k then rdN f N w m (k + 1) (tkE f N c) (ns ++ [tkV f N c]) else .inl (2, tkS f N c)) else .inl (1, tkS f N c)
def wdA (f : Nat → Int) (N c : Nat) : Int := if tkK f N c = 1 then wrd f (tkS f N c) (tkE f N c) else -1
def rdA (f : Nat → Int) (N c : Nat) (na : Int) : (Int × Nat) ⊕ ((Int × List Int) × Nat) := if wdA f N c < 0 then .inl (1, tkS f N c) else if 12 ≤ na then .inl (3, tkS f N c) else match rdN f N (wdA f N c) (nOf (wdA f N c)) 0 (tkE f N c) [] with
  | .inl e => .inl e
  | .inr r => .inr ((wdA f N c, r.1), r.2)
section
variable {d q : Nat} {v : q_H} {G : q_Gr} {Q : q_V → q_H → q_Gr → Prop}
theorem c_told {w x prev : Int} {k : Nat} (hG : gok G) (hw : 0 ≤ w ∧ w ≤ 6) (hx : 0 ≤ x ∧ x ≤ 999) (hk : k < 4) (hp : 1 ≤ k → v 39 (k - 1) = prev ∧ 0 ≤ prev ∧ prev ≤ 999) : q_call (d + 1) 55 [.inr (.inr (.inl (some 36))), .inl w, .inl k, .inl x] v G Q = Q (.inl (if blo w k prev ≤ x ∧ x ≤ bhi w k then 1 else 0)) v G := by
  refine q_call_eq ?_ Q
  unfold blo bhi
  by_cases c0 : k = 0 ∨ (k = 1 ∧ 4 ≤ w)
  · rw [if_pos c0, if_pos c0]
    by_cases cx : x < 3
    · rw [if_pos (by omega)]
      by_cases ck : k = 0
      · simp (disch := omega) only [E55, SHC hG, ↓if_pos, ↓if_neg]
        repeat' first | (refine And.intro ?_ ?_) | exact True.intro | omega | assumption | rfl
      · simp (disch := omega) only [E55, SHC hG, ↓if_pos, ↓if_neg]
        repeat' first | (refine And.intro ?_ ?_) | exact True.intro | omega | assumption | rfl
    · rw [if_neg (by omega)]
      by_cases ck : k = 0
      · simp (disch := omega) only [E55, SHC hG, ↓if_pos, ↓if_neg]
        repeat' first | (refine And.intro ?_ ?_) | exact True.intro | omega | assumption | rfl
      · simp (disch := omega) only [E55, SHC hG, ↓if_pos, ↓if_neg]
        repeat' first | (refine And.intro ?_ ?_) | exact True.intro | omega | assumption | rfl
  · rw [if_neg c0, if_neg c0]
    have hp := hp (by omega)
    have ei : ((k : Int) - 1).toNat = k - 1 := by omega
    by_cases c2 : w = 2 ∧ k = 2
    · rw [if_pos c2, if_pos c2]
      obtain ⟨e1, e2⟩ := c2
      by_cases cx : 1 ≤ x ∧ x ≤ 14
      · rw [if_pos cx]
        simp (disch := omega) only [E55, SHC hG, ↓if_pos, ↓if_neg]
        repeat' first | (refine And.intro ?_ ?_) | exact True.intro | omega | assumption | rfl
      · rw [if_neg cx]
        by_cases cy : x < 1
        · simp (disch := omega) only [E55, SHC hG, ↓if_pos, ↓if_neg]
          repeat' first | (refine And.intro ?_ ?_) | exact True.intro | omega | assumption | rfl
        · simp (disch := omega) only [E55, SHC hG, ↓if_pos, ↓if_neg]
          repeat' first | (refine And.intro ?_ ?_) | exact True.intro | omega | assumption | rfl
    · rw [if_neg c2, if_neg c2]
      by_cases ch : (k = 3 ∧ 4 ≤ w) ∨ (k = 2 ∧ w < 4)
      · rw [if_pos ch]
        by_cases cx : prev ≤ x
        · rw [if_pos (by omega)]
          rcases ch with ⟨e1, e2⟩ | ⟨e1, e2⟩
          · by_cases cw : w = 2
            · omega
            · simp (disch := omega) only [E55, SHC hG, ei, hp.1, ↓if_pos, ↓if_neg]
              repeat' first | (refine And.intro ?_ ?_) | exact True.intro | omega | assumption | rfl
          · by_cases cw : w = 2
            · omega
            · simp (disch := omega) only [E55, SHC hG, ei, hp.1, ↓if_pos, ↓if_neg]
              repeat' first | (refine And.intro ?_ ?_) | exact True.intro | omega | assumption | rfl
        · rw [if_neg (by omega)]
          rcases ch with ⟨e1, e2⟩ | ⟨e1, e2⟩
          · by_cases cw : w = 2
            · omega
            · simp (disch := omega) only [E55, SHC hG, ei, hp.1, ↓if_pos, ↓if_neg]
              repeat' first | (refine And.intro ?_ ?_) | exact True.intro | omega | assumption | rfl
          · by_cases cw : w = 2
            · omega
            · simp (disch := omega) only [E55, SHC hG, ei, hp.1, ↓if_pos, ↓if_neg]
              repeat' first | (refine And.intro ?_ ?_) | exact True.intro | omega | assumption | rfl
      · rw [if_neg ch, if_pos (by omega)]
        by_cases c4 : 4 ≤ w
        · by_cases cw : w = 2
          · omega
          · by_cases ck : k = 1
            · omega
            · simp (disch := omega) only [E55, SHC hG, ↓if_pos, ↓if_neg]
              repeat' first | (refine And.intro ?_ ?_) | exact True.intro | omega | assumption | rfl
        · by_cases cw : w = 2
          · by_cases ck : k = 1
            · simp (disch := omega) only [E55, SHC hG, ↓if_pos, ↓if_neg]
              repeat' first | (refine And.intro ?_ ?_) | exact True.intro | omega | assumption | rfl
            · simp (disch := omega) only [E55, SHC hG, ↓if_pos, ↓if_neg]
              repeat' first | (refine And.intro ?_ ?_) | exact True.intro | omega | assumption | rfl
          · by_cases ck : k = 1
            · simp (disch := omega) only [E55, SHC hG, ↓if_pos, ↓if_neg]
              repeat' first | (refine And.intro ?_ ?_) | exact True.intro | omega | assumption | rfl
            · simp (disch := omega) only [E55, SHC hG, ↓if_pos, ↓if_neg]
              repeat' first | (refine And.intro ?_ ?_) | exact True.intro | omega | assumption | rfl
theorem tkK_rng (f : Nat → Int) (N c : Nat) : 0 ≤ tkK f N c ∧ tkK f N c ≤ 4 := by
  unfold tkK
  repeat' split
  all_goals omega
/-- readNumber -/
theorem c_rnumb {f : Nat → Int} {N c k : Nat} {w prev : Int} (hG : gok G) (hc : c ≤ N) (hw : 0 ≤ w ∧ w ≤ 6) (hk : k < 4) (ht : tokC v f N c) (hp : 1 ≤ k → v 39 (k - 1) = prev ∧ 0 ≤ prev ∧ prev ≤ 999) : q_call (d + 2) 52 [.inr (.inr (.inl (some 36))), .inl w, .inl k] v G Q = Q (.inr (.inr (.inr ()))) (if tkK f N c = 2 then (if blo w k prev ≤ tkV f N c ∧ tkV f N c ≤ bhi w k then q_up v 39 k (tkV f N c) else q_up v 36 9 2) else q_up v 36 9 1) G := by
  refine q_call_eq ?_ Q
  obtain ⟨t1, t2, t3, t4⟩ := ht
  have kr := tkK_rng f N c
  by_cases c2 : tkK f N c = 2
  · have t4 := t4 c2
    have vr := tkV_rng hc c2
    rw [if_pos c2]
    rw [c2] at t1
    have ea : ∀ (d' : Nat) (Q' : q_V → q_H → q_Gr → Prop), q_call (d' + 1) 55 [.inr (.inr (.inl (some 36))), .inl w, .inl k, .inl (tkV f N c)] v G Q' = Q' (.inl (if blo w k prev ≤ tkV f N c ∧ tkV f N c ≤ bhi w k then 1 else 0)) v G := fun d' Q' => c_told hG hw vr hk hp
    by_cases ci : blo w k prev ≤ tkV f N c ∧ tkV f N c ≤ bhi w k
    · rw [if_pos ci] at ea ⊢
      simp (disch := omega) only [E52, SHC hG, t1, t4, ea, c_within, ↓if_pos, ↓if_neg, q_push_I, q_push_L, q_push_P, q_push_U, Int.toNat_natCast]
      repeat' first | (refine And.intro ?_ ?_) | exact True.intro | omega | assumption | rfl
    · rw [if_neg ci] at ea ⊢
      simp (disch := omega) only [E52, SHC hG, t1, t4, ea, ↓if_pos, ↓if_neg, q_push_I, q_push_L, q_push_P, q_push_U]
      repeat' first | (refine And.intro ?_ ?_) | exact True.intro | omega | assumption | rfl
  · rw [if_neg c2]
    simp (disch := omega) only [E52, SHC hG, t1, ↓if_pos, ↓if_neg, q_push_I, q_push_L, q_push_P, q_push_U]
    repeat' first | (refine And.intro ?_ ?_) | exact True.intro | omega | assumption | rfl
theorem c_nof {w : Int} (hw : -1 ≤ w ∧ w ≤ 6) : q_call (d + 1) 54 [.inl w] v G Q = Q (.inl ((nOf w : Nat))) v G := by
  refine q_call_eq ?_ Q
  unfold nOf
  by_cases c4 : 4 ≤ w
  · rw [if_pos c4]
    simp (disch := omega) only [E54, ↓if_pos, ↓if_neg]
    repeat' first | (refine And.intro ?_ ?_) | exact True.intro | omega | assumption | rfl
  · rw [if_neg c4]
    by_cases c3 : w = 3
    · rw [if_pos c3]
      simp (disch := omega) only [E54, ↓if_pos, ↓if_neg]
      repeat' first | (refine And.intro ?_ ?_) | exact True.intro | omega | assumption | rfl
    · rw [if_neg c3]
      simp (disch := omega) only [E54, ↓if_pos, ↓if_neg]
      repeat' first | (refine And.intro ?_ ?_) | exact True.intro | omega | assumption | rfl
theorem nOf_rng (w : Int) : 2 ≤ nOf w ∧ nOf w ≤ 4 := by
  unfold nOf
  repeat' split
  all_goals omega
/-- fields of an act: TABLES a, b, low, high (of FIRST: k) -/
def acA (ns : List Int) : Int := ns.getD 0 0
def acB (w : Int) (ns : List Int) : Int := if 4 ≤ w then ns.getD 1 0 else ns.getD 0 0
def acL (w : Int) (ns : List Int) : Int := if 4 ≤ w then ns.getD 2 0 else ns.getD 1 0
def acH (w : Int) (ns : List Int) : Int := if 4 ≤ w then ns.getD 3 0 else if w = 3 then ns.getD 1 0 else ns.getD 2 0
theorem c_actOf {w : Int} {ns : List Int} (hG : gok G) (hr : q_room G 6) (hw : 0 ≤ w ∧ w ≤ 6) (hn : ∀ k, k < nOf w → v 39 k = ns.getD k 0) : q_call (d + 2) 53 [.inr (.inr (.inl (some 36))), .inl w] v G Q = Q (.inr (.inr (.inl (some (32 + G.2.2.1))))) (actW (q_zr v (32 + G.2.2.1)) (32 + G.2.2.1) w (acA ns) (acB w ns) (acL w ns) (if w = 2 then acL w ns else acH w ns) (if w = 2 then acH w ns else 0)) (q_mk G 0 6) := by
  refine q_call_eq ?_ Q
  have h142 := hG.2.2.2.2
  have hG1 : gok (q_mk G 0 6) := gok_mk hG
  have g1 : ((q_mk G 0 6).2.1 (32 + G.2.2.1)).1 = 0 := by rw [mk_2n]
  have z39 : ∀ k, q_zr v (32 + G.2.2.1) 39 k = v 39 k := fun k => by rw [zr_r (by omega)]
  have ea : ∀ (a b lo hi kk : Int) (d' : Nat) (Q' : q_V → q_H → q_Gr → Prop), q_call (d' + 1) 0 [.inr (.inr (.inl (some (32 + G.2.2.1)))), .inl w, .inl a, .inl b, .inl lo, .inl hi, .inl kk] (q_zr v (32 + G.2.2.1)) (q_mk G 0 6) Q' = Q' (.inr (.inr (.inr ()))) (actW (q_zr v (32 + G.2.2.1)) (32 + G.2.2.1) w a b lo hi kk) (q_mk G 0 6) := fun a b lo hi kk d' Q' => c_actnew g1
  unfold acA acB acL acH
  unfold nOf at hn
  by_cases c4 : 4 ≤ w
  · rw [if_pos c4] at hn
    simp only [if_pos c4, if_neg (show ¬ w = 2 by omega)]
    have n0 := hn 0 (by decide)
    have n1 := hn 1 (by decide)
    have n2 := hn 2 (by decide)
    have n3 := hn 3 (by decide)
    have t0 : (0 : Int).toNat = 0 := rfl
    have t1 : (1 : Int).toNat = 1 := rfl
    have t2 : (2 : Int).toNat = 2 := rfl
    have t3 : (3 : Int).toNat = 3 := rfl
    simp (disch := omega) only [E53, SHC hG, SHC hG1, t0, t1, t2, t3, z39, n0, n1, n2, n3, ea, ↓if_pos, ↓if_neg, q_push_I, q_push_L, q_push_P, q_push_U]
    repeat' first | (refine And.intro ?_ ?_) | exact True.intro | omega | assumption | rfl
  · rw [if_neg c4] at hn
    simp only [if_neg c4]
    have t0 : (0 : Int).toNat = 0 := rfl
    have t1 : (1 : Int).toNat = 1 := rfl
    have t2 : (2 : Int).toNat = 2 := rfl
    by_cases c3 : w = 3
    · rw [if_pos c3] at hn
      simp only [if_pos c3, if_neg (show ¬ w = 2 by omega)]
      have n0 := hn 0 (by decide)
      have n1 := hn 1 (by decide)
      simp (disch := omega) only [E53, SHC hG, SHC hG1, t0, t1, t2, z39, n0, n1, ea, ↓if_pos, ↓if_neg, q_push_I, q_push_L, q_push_P, q_push_U]
      repeat' first | (refine And.intro ?_ ?_) | exact True.intro | omega | assumption | rfl
    · rw [if_neg c3] at hn
      simp only [if_neg c3]
      have n0 := hn 0 (by decide)
      have n1 := hn 1 (by decide)
      have n2 := hn 2 (by decide)
      by_cases c2 : w = 2
      · simp only [if_pos c2]
        simp (disch := omega) only [E53, SHC hG, SHC hG1, t0, t1, t2, z39, n0, n1, n2, ea, ↓if_pos, ↓if_neg, q_push_I, q_push_L, q_push_P, q_push_U]
        repeat' first | (refine And.intro ?_ ?_) | exact True.intro | omega | assumption | rfl
      · simp only [if_neg c2]
        by_cases c0 : w = 0
        · simp (disch := omega) only [E53, SHC hG, SHC hG1, t0, t1, t2, z39, n0, n1, n2, ea, ↓if_pos, ↓if_neg, q_push_I, q_push_L, q_push_P, q_push_U]
          repeat' first | (refine And.intro ?_ ?_) | exact True.intro | omega | assumption | rfl
        · simp (disch := omega) only [E53, SHC hG, SHC hG1, t0, t1, t2, z39, n0, n1, n2, ea, ↓if_pos, ↓if_neg, q_push_I, q_push_L, q_push_P, q_push_U]
          repeat' first | (refine And.intro ?_ ?_) | exact True.intro | omega | assumption | rfl
/-- what reading an act leaves alone -/
def pfr (v' v : q_H) : Prop := (∀ b, b ≠ 36 → b ≠ 39 → v' b = v b) ∧ ∀ j, ¬ (4 ≤ j ∧ j ≤ 7) → j ≠ 9 → v' 36 j = v 36 j
theorem pfr_tr {v1 v2 v3 : q_H} (h1 : pfr v2 v1) (h2 : pfr v3 v2) : pfr v3 v1 := ⟨fun b b1 b2 => by rw [h2.1 b b1 b2, h1.1 b b1 b2], fun j j1 j2 => by rw [h2.2 j j1 j2, h1.2 j j1 j2]⟩
end
