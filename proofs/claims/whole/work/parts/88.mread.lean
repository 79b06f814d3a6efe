theorem tk_dig {f : Nat → Int} {N c : Nat} (h : c ≤ N) (hk : tkK f N c = 2) : tkE f N c - tkS f N c ≤ 3 ∧ ∀ k, tkS f N c ≤ k → k < tkE f N c → 48 ≤ f k ∧ f k ≤ 57 := by
  have hs := tkS_ok (f := f) h
  unfold tkK at hk
  unfold tkE at hk ⊢
  generalize tkS f N c = s at *
  by_cases c1 : N ≤ s
  · rw [if_pos c1] at hk
    omega
  · rw [if_neg c1] at hk
    simp only [if_neg c1] at hk ⊢
    by_cases c2 : lIs (f s) = true
    · rw [if_pos c2] at hk
      omega
    · rw [if_neg c2] at hk
      simp only [if_neg c2] at hk ⊢
      by_cases c3 : fIs (f s) = true
      · rw [if_pos c3] at hk
        simp only [if_pos c3] at hk ⊢
        have g := srch_gt (p := fun k => !fIs (f k)) (n := N) (s := s) (by simpa using c3) (by omega)
        refine ⟨?_, fun k k1 k2 => ?_⟩
        · split at hk
          · assumption
          · omega
        · have := g.2.2 k k1 k2
          simpa using this
      · rw [if_neg c3] at hk
        split at hk <;> omega
section
variable {d q : Nat} {v : q_H} {G : q_Gr} {Q : q_V → q_H → q_Gr → Prop}
theorem m_bad {k : Int} (hG : gok G) (h30 : v 137 30 = 0) (hk : 1 ≤ k ∧ k ≤ 3) : q_call (d + 1) 177 [.inr (.inr (.inl (some 137))), .inl k] v G Q = Q (.inr (.inr (.inr ()))) (q_up (q_up v 137 30 k) 137 31 (v 137 28)) G := by
  refine q_call_eq ?_ Q
  simp (disch := omega) only [E177, SHM hG, h30, u_n, ↓if_pos, ↓if_neg]
  repeat' first | (refine And.intro ?_ ?_) | exact True.intro | omega | assumption | rfl
theorem m_badD {k : Int} (hG : gok G) (h30 : 1 ≤ v 137 30 ∧ v 137 30 ≤ 3) : q_call (d + 1) 177 [.inr (.inr (.inl (some 137))), .inl k] v G Q = Q (.inr (.inr (.inr ()))) v G := by
  refine q_call_eq ?_ Q
  simp (disch := omega) only [E177, SHM hG, ↓if_pos, ↓if_neg]
  repeat' first | (refine And.intro ?_ ?_) | exact True.intro | omega | assumption | rfl
theorem m_mustD {b : Int} (hG : gok G) (hb : 0 ≤ b ∧ b ≤ 1) (h30 : 1 ≤ v 137 30 ∧ v 137 30 ≤ 3) : q_call (d + 2) 178 [.inr (.inr (.inl (some 137))), .inl b] v G Q = Q (.inr (.inr (.inr ()))) v G := by
  refine q_call_eq ?_ Q
  have eb : ∀ (k : Int) (d' : Nat) (Q' : q_V → q_H → q_Gr → Prop), q_call (d' + 1) 177 [.inr (.inr (.inl (some 137))), .inl k] v G Q' = Q' (.inr (.inr (.inr ()))) v G := fun k d' Q' => m_badD hG h30
  by_cases c : b = 0
  · simp (disch := omega) only [e_178, e_178_0, e_178_1, e_178_4, e_178_5, e_178_6, e_178_9, e_178_10, e_178_13, e_178_20, SHM hG, eb, ↓if_pos, ↓if_neg, q_push_I, q_push_L, q_push_P, q_push_U]
    repeat' first | (refine And.intro ?_ ?_) | exact True.intro | omega | assumption | rfl
  · simp (disch := omega) only [e_178, e_178_0, e_178_1, e_178_4, e_178_5, e_178_6, e_178_9, e_178_10, e_178_13, e_178_20, SHM hG, eb, ↓if_pos, ↓if_neg, q_push_I, q_push_L, q_push_P, q_push_U]
    repeat' first | (refine And.intro ?_ ?_) | exact True.intro | omega | assumption | rfl
theorem m_must0 (hG : gok G) (h30 : v 137 30 = 0) : q_call (d + 2) 178 [.inr (.inr (.inl (some 137))), .inl 0] v G Q = Q (.inr (.inr (.inr ()))) (q_up (q_up v 137 30 1) 137 31 (v 137 28)) G := by
  refine q_call_eq ?_ Q
  have eb : ∀ (d' : Nat) (Q' : q_V → q_H → q_Gr → Prop), q_call (d' + 1) 177 [.inr (.inr (.inl (some 137))), .inl 1] v G Q' = Q' (.inr (.inr (.inr ()))) (q_up (q_up v 137 30 1) 137 31 (v 137 28)) G := fun d' Q' => m_bad hG h30 (by decide)
  have x30 : q_up (q_up v 137 30 1) 137 31 (v 137 28) 137 30 = 1 := by rw [u_n (by omega), u_s rfl rfl]
  simp (disch := omega) only [e_178, e_178_0, e_178_1, e_178_4, e_178_5, e_178_6, e_178_9, e_178_10, e_178_13, e_178_20, SHM hG, eb, x30, ↓if_pos, ↓if_neg, q_push_I, q_push_L, q_push_P, q_push_U]
  repeat' first | (refine And.intro ?_ ?_) | exact True.intro | omega | assumption | rfl
theorem m_must1 {f : Nat → Int} {N c : Nat} (hG : gok G) (h30 : v 137 30 = 0) (h : tpM v f N) (hc : c ≤ N) (h6 : v 137 26 = (c : Int)) (hQ : ∀ v', (∀ b, b ≠ 137 → v' b = v b) → (∀ j, ¬ (26 ≤ j ∧ j ≤ 29) → v' 137 j = v 137 j) → tokM v' f N c → Q (.inr (.inr (.inr ()))) v' G) : q_call (d + 3) 178 [.inr (.inr (.inl (some 137))), .inl 1] v G Q := by
  have key : q_call (d + 2) 176 [.inr (.inr (.inl (some 137)))] v G (fun r v' G' => q_wp (d + 2) 178 20 [.inr (.inr (.inl (some 137))), .inl 1] (q_push r []) v' G' Q) := m_step hG h hc h6 (fun v' f1 f1q tk => by
    have fin := hQ v' f1 f1q tk
    simp only [e_178_20, q_push_I, q_push_L, q_push_P, q_push_U]
    repeat' first | exact fin | (refine And.intro ?_ ?_) | exact True.intro | omega | rfl)
  simp (disch := omega) only [e_178, e_178_0, e_178_1, e_178_4, e_178_5, e_178_6, e_178_9, e_178_10, e_178_13, e_178_16, e_178_17, SHM hG, h30, ↓if_pos, ↓if_neg]
  repeat' first | (refine And.intro ?_ ?_) | exact True.intro | omega | assumption | rfl
theorem s_mval {f : Nat → Int} {N E : Nat} {lo hi : Int} (hG : gok G) (ht : tpM v f N) (hE : v 137 29 = (E : Int)) (hN : E ≤ N) (hk : v 137 27 = 3) : ∀ (r i : Nat) (acc : Int), i + r = E → r ≤ 3 → (∀ k, i ≤ k → k < E → 48 ≤ f k ∧ f k ≤ 57) → 0 ≤ acc → (r = 3 → acc ≤ 0) → (r = 2 → acc ≤ 9) → (r = 1 → acc ≤ 99) → acc ≤ 999 → q_wp (d + 1) 180 56 [.inr (.inr (.inl (some 137))), .inl lo, .inl hi, .inl (valF f r i acc), .inl E] [] v G Q → q_wp (d + 1) 180 17 [.inr (.inr (.inl (some 137))), .inl lo, .inl hi, .inl acc, .inl i] [] v G Q := by
  intro r
  have h200 := ht.1
  induction r with
  | zero =>
    intro i acc he _ _ _ _ _ _ _ fin
    have e : i = E := by omega
    subst e
    rw [e_180_17]
    simp (disch := omega) only [e_180_19, e_180_20, e_180_23, SHM hG, hE, ↓if_pos, ↓if_neg]
    repeat' first | (refine And.intro ?_ ?_) | exact True.intro | omega | assumption | rfl
  | succ r ih =>
    intro i acc he hr hd h0 h3 h2 h1 ha fin
    have hfi := ht.2.2 i (by omega)
    have hdi := hd i (by omega) (by omega)
    have nx := ih (i + 1) (10 * acc + f i - 48) (by omega) (by omega) (fun k k1 k2 => hd k (by omega) k2) (by omega) (by omega) (by omega) (by omega) (by omega) fin
    have hfe := hfi.1
    clear ih fin
    rw [e_180_17]
    simp (disch := omega) only [e_180_19, e_180_20, e_180_23, e_180_26, e_180_27, e_180_30, e_180_31, e_180_34, e_180_36, e_180_37, e_180_38, e_180_39, e_180_42, e_180_44, e_180_45, e_180_46, e_180_48, e_180_49, e_180_50, e_180_53, SHM hG, hE, hk, hfe, ↓if_pos, ↓if_neg, Int.toNat_natCast, show (i : Int) + 1 = ((i + 1 : Nat) : Int) by omega]
    repeat' first | (refine And.intro ?_ ?_) | exact True.intro | omega | assumption | rfl
/-- what reading leaves alone in the reference -/
def mwf (v' v : q_H) : Prop := (∀ b, b ≠ 137 → v' b = v b) ∧ ∀ j, ¬ (26 ≤ j ∧ j ≤ 31) → v' 137 j = v 137 j
theorem mwf_tr {v1 v2 v3 : q_H} (h1 : mwf v2 v1) (h2 : mwf v3 v2) : mwf v3 v1 := ⟨fun b b1 => by rw [h2.1 b b1, h1.1 b b1], fun j j1 => by rw [h2.2 j j1, h1.2 j j1]⟩
theorem mwf_bad {k z : Int} : mwf (q_up (q_up v 137 30 k) 137 31 z) v := ⟨fun b hb => by rw [u_r hb, u_r hb], fun j hj => by rw [u_n (by omega), u_n (by omega)]⟩
theorem m_numD {lo hi : Int} (hG : gok G) (h30 : 1 ≤ v 137 30 ∧ v 137 30 ≤ 3) : q_call (d + 1) 180 [.inr (.inr (.inl (some 137))), .inl lo, .inl hi] v G Q = Q (.inl 0) v G := by
  refine q_call_eq ?_ Q
  simp (disch := omega) only [e_180, e_180_0, e_180_1, e_180_4, e_180_7, e_180_8, SHM hG, ↓if_pos, ↓if_neg]
  repeat' first | (refine And.intro ?_ ?_) | exact True.intro | omega | assumption | rfl
/-- numberIn, as a step of reading numbers -/
theorem m_num {f : Nat → Int} {N c m k : Nat} {w lo hi : Int} {ns : List Int} (hG : gok G) (ht : tpM v f N) (hc : c ≤ N) (h30 : v 137 30 = 0) (tk : tokM v f N c) (elo : lo = blo w k (ns.getD (k - 1) 0)) (ehi : hi = bhi w k) (hlo : 0 ≤ lo ∧ lo ≤ 999) (hhi : 0 ≤ hi ∧ hi ≤ 999)
  (hD : ∀ (ft x : Int) v', rdN f N w (m + 1) k c ns = .inl (ft, tkS f N c) → 1 ≤ ft → ft ≤ 3 → mwf v' v → v' 137 30 = ft → v' 137 31 = (tkS f N c : Int) → Q (.inl x) v' G)
  (hL : ∀ v', rdN f N w (m + 1) k c ns = rdN f N w m (k + 1) (tkE f N c) (ns ++ [tkV f N c]) → 0 ≤ tkV f N c → tkV f N c ≤ 999 → mwf v' v → v' 137 30 = 0 → tokM v' f N (tkE f N c) → Q (.inl (tkV f N c)) v' G) : q_call (d + 4) 180 [.inr (.inr (.inl (some 137))), .inl lo, .inl hi] v G Q := by
  obtain ⟨t1, t2, t3, t4⟩ := tk
  have te := tkE_ok (f := f) hc
  have kr := tkK_rng f N c
  by_cases c2 : tkK f N c = 2
  · have vr := tkV_rng hc c2
    have dg := tk_dig hc c2
    have e27 : v 137 27 = 3 := by rw [t1, c2]; rfl
    have nx : q_wp (d + 3) 180 56 [.inr (.inr (.inl (some 137))), .inl lo, .inl hi, .inl (tkV f N c), .inl (tkE f N c)] [] v G Q := by
      by_cases ci : lo ≤ tkV f N c ∧ tkV f N c ≤ hi
      · have key : q_call (d + 3) 178 [.inr (.inr (.inl (some 137))), .inl 1] v G (fun r v' G' => q_wp (d + 3) 180 98 [.inr (.inr (.inl (some 137))), .inl lo, .inl hi, .inl (tkV f N c), .inl (tkE f N c)] (q_push r []) v' G' Q) := m_must1 hG h30 ht te.2.1 t4 (fun v' f1 f1q tk' => by
          have fin := hL v' (by
            show (if tkK f N c = 2 then (if blo w k (ns.getD (k - 1) 0) ≤ tkV f N c ∧ tkV f N c ≤ bhi w k then rdN f N w m (k + 1) (tkE f N c) (ns ++ [tkV f N c]) else .inl (2, tkS f N c)) else .inl (1, tkS f N c)) = _
            rw [if_pos c2, if_pos (by omega)]) vr.1 vr.2 ⟨f1, fun j hj => f1q j (by omega)⟩ (by rw [f1q 30 (by omega), h30]) tk'
          clear hL hD
          simp only [e_180_98, e_180_99, q_push_I, q_push_L, q_push_P, q_push_U]
          repeat' first | exact fin | (refine And.intro ?_ ?_) | exact True.intro | omega | rfl)
        have ei : ∀ (d' : Nat) (Q' : q_V → q_H → q_Gr → Prop), q_call (d' + 1) 151 [.inr (.inl (tkV f N c)), .inr (.inl lo), .inr (.inl hi)] v G Q' = Q' (.inl 1) v G := fun d' Q' => by
          rw [c_in (by omega) (by omega) (by omega) (by omega) (by omega) (by omega), if_pos ci]
        clear hL hD
        simp (disch := omega) only [e_180_56, e_180_57, e_180_60, e_180_61, e_180_64, e_180_65, e_180_66, e_180_67, e_180_68, e_180_69, e_180_70, e_180_73, e_180_81, e_180_82, e_180_83, e_180_86, e_180_87, e_180_90, e_180_91, e_180_94, e_180_95, SHM hG, e27, ei, ↓if_pos, ↓if_neg, q_push_I, q_push_L, q_push_P, q_push_U]
        repeat' first | (refine And.intro ?_ ?_) | exact True.intro | omega | assumption | rfl
      · have fin := hD 2 (tkV f N c) (q_up (q_up v 137 30 2) 137 31 (tkS f N c)) (by
            show (if tkK f N c = 2 then (if blo w k (ns.getD (k - 1) 0) ≤ tkV f N c ∧ tkV f N c ≤ bhi w k then rdN f N w m (k + 1) (tkE f N c) (ns ++ [tkV f N c]) else .inl (2, tkS f N c)) else .inl (1, tkS f N c)) = _
            rw [if_pos c2, if_neg (by rw [← elo, ← ehi]; exact ci)]) (by decide) (by decide) mwf_bad (by rw [u_n (by omega), u_s rfl rfl]) (u_s rfl rfl)
        have eb : ∀ (d' : Nat) (Q' : q_V → q_H → q_Gr → Prop), q_call (d' + 1) 177 [.inr (.inr (.inl (some 137))), .inl 2] v G Q' = Q' (.inr (.inr (.inr ()))) (q_up (q_up v 137 30 2) 137 31 (tkS f N c)) G := fun d' Q' => by rw [m_bad hG h30 (by decide), t2]
        have em : ∀ (d' : Nat) (Q' : q_V → q_H → q_Gr → Prop), q_call (d' + 2) 178 [.inr (.inr (.inl (some 137))), .inl 1] (q_up (q_up v 137 30 2) 137 31 (tkS f N c)) G Q' = Q' (.inr (.inr (.inr ()))) (q_up (q_up v 137 30 2) 137 31 (tkS f N c)) G := fun d' Q' => m_mustD hG (by decide) (by rw [u_n (by omega), u_s rfl rfl]; decide)
        have x27 : q_up (q_up v 137 30 2) 137 31 (tkS f N c) 137 27 = 3 := by rw [u_n (by omega), u_n (by omega), e27]
        have ei : ∀ (d' : Nat) (Q' : q_V → q_H → q_Gr → Prop), q_call (d' + 1) 151 [.inr (.inl (tkV f N c)), .inr (.inl lo), .inr (.inl hi)] v G Q' = Q' (.inl 0) v G := fun d' Q' => by
          rw [c_in (by omega) (by omega) (by omega) (by omega) (by omega) (by omega), if_neg ci]
        clear hL hD
        simp (disch := omega) only [e_180_56, e_180_57, e_180_60, e_180_61, e_180_64, e_180_65, e_180_66, e_180_67, e_180_68, e_180_69, e_180_70, e_180_73, e_180_76, e_180_77, e_180_78, e_180_81, e_180_82, e_180_83, e_180_86, e_180_87, e_180_90, e_180_91, e_180_94, e_180_95, e_180_98, e_180_99, SHM hG, e27, x27, ei, eb, em, ↓if_pos, ↓if_neg, q_push_I, q_push_L, q_push_P, q_push_U]
        repeat' first | exact fin | (refine And.intro ?_ ?_) | exact True.intro | omega | rfl
    have lp := s_mval (d := d + 2) (Q := Q) (lo := lo) (hi := hi) hG ht t3 te.2.1 e27 (tkE f N c - tkS f N c) (tkS f N c) 0 (by omega) dg.1 dg.2 (by decide) (fun _ => by decide) (fun _ => by decide) (fun _ => by decide) (by decide) nx
    clear hL hD nx
    simp (disch := omega) only [e_180, e_180_0, e_180_1, e_180_4, e_180_7, e_180_8, e_180_9, e_180_10, e_180_11, e_180_12, e_180_15, SHM hG, h30, t2, ↓if_pos, ↓if_neg]
    repeat' first | (refine And.intro ?_ ?_) | exact True.intro | omega | assumption | rfl
  · have e27 : v 137 27 ≠ 3 ∧ 0 ≤ v 137 27 ∧ v 137 27 ≤ 5 := by
      rw [t1]
      unfold mkK
      split <;> omega
    have h200 := ht.1
    have fin := hD 1 0 (q_up (q_up v 137 30 1) 137 31 (tkS f N c)) (by
        show (if tkK f N c = 2 then (if blo w k (ns.getD (k - 1) 0) ≤ tkV f N c ∧ tkV f N c ≤ bhi w k then rdN f N w m (k + 1) (tkE f N c) (ns ++ [tkV f N c]) else .inl (2, tkS f N c)) else .inl (1, tkS f N c)) = _
        rw [if_neg c2]) (by decide) (by decide) mwf_bad (by rw [u_n (by omega), u_s rfl rfl]) (u_s rfl rfl)
    have em : ∀ (d' : Nat) (Q' : q_V → q_H → q_Gr → Prop), q_call (d' + 2) 178 [.inr (.inr (.inl (some 137))), .inl 0] v G Q' = Q' (.inr (.inr (.inr ()))) (q_up (q_up v 137 30 1) 137 31 (tkS f N c)) G := fun d' Q' => by rw [m_must0 hG h30, t2]
    have lp : q_wp (d + 3) 180 17 [.inr (.inr (.inl (some 137))), .inl lo, .inl hi, .inl 0, .inl (tkS f N c)] [] v G Q := by
      clear hL hD
      rw [e_180_17]
      by_cases ce : tkE f N c ≤ tkS f N c
      · simp (disch := omega) only [e_180_19, e_180_20, e_180_23, e_180_26, e_180_27, e_180_30, e_180_31, e_180_34, e_180_36, e_180_37, e_180_38, e_180_39, e_180_42, e_180_44, e_180_45, e_180_46, e_180_48, e_180_49, e_180_50, e_180_53, e_180_56, e_180_57, e_180_60, e_180_61, e_180_64, e_180_65, e_180_66, e_180_67, e_180_68, e_180_69, e_180_70, e_180_73, e_180_76, e_180_77, e_180_78, e_180_81, e_180_82, e_180_83, e_180_86, e_180_87, e_180_90, e_180_91, e_180_94, e_180_95, e_180_98, e_180_99, SHM hG, t3, em, ↓if_pos, ↓if_neg, q_push_I, q_push_L, q_push_P, q_push_U]
        repeat' first | exact fin | (refine And.intro ?_ ?_) | exact True.intro | omega | rfl
      · simp (disch := omega) only [e_180_19, e_180_20, e_180_23, e_180_26, e_180_27, e_180_30, e_180_31, e_180_56, e_180_57, e_180_60, e_180_61, e_180_64, e_180_65, e_180_66, e_180_67, e_180_68, e_180_69, e_180_70, e_180_73, e_180_76, e_180_77, e_180_78, e_180_81, e_180_82, e_180_83, e_180_86, e_180_87, e_180_90, e_180_91, e_180_94, e_180_95, e_180_98, e_180_99, SHM hG, t3, em, ↓if_pos, ↓if_neg, q_push_I, q_push_L, q_push_P, q_push_U]
        repeat' first | exact fin | (refine And.intro ?_ ?_) | exact True.intro | omega | rfl
    clear hL hD
    simp (disch := omega) only [e_180, e_180_0, e_180_1, e_180_4, e_180_7, e_180_8, e_180_9, e_180_10, e_180_11, e_180_12, e_180_15, SHM hG, h30, t2, ↓if_pos, ↓if_neg]
    repeat' first | (refine And.intro ?_ ?_) | exact True.intro | omega | assumption | rfl
end
