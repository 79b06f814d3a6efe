theorem allS_snoc {S : Nat → Bool} : ∀ r i, allS S (r + 1) i = (allS S r i && S (i + r))
  | 0, i => by
    show (S i && true) = (true && S (i + 0))
    rw [Bool.and_true, Bool.true_and, Nat.add_zero]
  | r + 1, i => by
    have h := allS_snoc (S := S) r (i + 1)
    show (S i && allS S (r + 1) (i + 1)) = ((S i && allS S r (i + 1)) && S (i + (r + 1)))
    rw [h, Bool.and_assoc, show i + 1 + r = i + (r + 1) by omega]
def noI (x : Int) : Int := if x < 0 then -1000000 else x
section
variable {d q : Nat} {v : q_H} {G : q_Gr} {Q : q_V → q_H → q_Gr → Prop}
theorem s_areS {S : Nat → Bool} {one e : Nat} (hG : gok G) (he : e < 16) (hS : ∀ j, j < 16 → v 161 j = if S j then 1 else 0) : ∀ (r i : Nat) (b : Bool), i + r = e + 1 → Q (.inl (if (b && allS S r i) then 1 else 0)) v G → q_wp d 204 5 [.inr (.inr (.inl (some 137))), .inl one, .inl e, .inl (if b then 1 else 0), .inl i] [] v G Q := by
  intro r
  induction r with
  | zero =>
    intro i b h hQ
    unfold allS at hQ
    rw [Bool.and_true] at hQ
    rw [e_204_5]
    have br : (0 : Int) ≤ (if b = true then 1 else 0) ∧ (if b = true then (1 : Int) else 0) ≤ 1 := by split <;> decide
    simp (disch := omega) only [e_204_7, e_204_8, e_204_37, e_204_38, ↓if_neg, ↓if_pos]
    repeat' first | (refine And.intro ?_ ?_) | exact True.intro | omega | assumption | rfl
  | succ r ih =>
    intro i b h hQ
    have hs := hS i (by omega)
    have e1 : (b && allS S (r + 1) i) = ((b && S i) && allS S r (i + 1)) := by
      show (b && (S i && allS S r (i + 1))) = _
      rw [Bool.and_assoc]
    rw [e1] at hQ
    have nx := ih (i + 1) (b && S i) (by omega) hQ
    rw [e_204_5]
    cases b with
    | false =>
      have nx : q_wp d 204 5 [.inr (.inr (.inl (some 137))), .inl one, .inl e, .inl 0, .inl ((i + 1 : Nat))] [] v G Q := nx
      rw [if_neg (by decide)]
      simp (disch := omega) only [e_204_7, e_204_8, e_204_11, e_204_12, e_204_15, e_204_16, e_204_19, e_204_21, e_204_22, e_204_25, e_204_26, e_204_29, e_204_30, e_204_31, e_204_34, ↓if_neg, ↓if_pos, show (i : Int) + 1 = ((i + 1 : Nat) : Int) by omega]
      repeat' first | (refine And.intro ?_ ?_) | exact True.intro | omega | assumption | rfl
    | true =>
      rw [if_pos rfl]
      rw [Bool.true_and] at nx
      cases hb : S i with
      | false =>
        rw [hb, if_neg (by decide)] at nx hs
        simp (disch := omega) only [e_204_7, e_204_8, e_204_11, e_204_12, e_204_15, e_204_16, e_204_19, e_204_21, e_204_22, e_204_25, e_204_26, e_204_29, e_204_30, e_204_31, e_204_34, SHM hG, hs, Int.toNat_natCast, ↓if_neg, ↓if_pos, show (i : Int) + 1 = ((i + 1 : Nat) : Int) by omega]
        repeat' first | (refine And.intro ?_ ?_) | exact True.intro | omega | assumption | rfl
      | true =>
        rw [hb, if_pos rfl] at nx hs
        simp (disch := omega) only [e_204_7, e_204_8, e_204_11, e_204_12, e_204_15, e_204_16, e_204_19, e_204_21, e_204_22, e_204_25, e_204_26, e_204_29, e_204_30, e_204_31, e_204_34, SHM hG, hs, Int.toNat_natCast, ↓if_neg, ↓if_pos, show (i : Int) + 1 = ((i + 1 : Nat) : Int) by omega]
        repeat' first | (refine And.intro ?_ ?_) | exact True.intro | omega | assumption | rfl
theorem c_areS {S : Nat → Bool} {one e : Nat} (hG : gok G) (he : e < 16) (ho : one ≤ e) (hS : ∀ j, j < 16 → v 161 j = if S j then 1 else 0) : q_call (d + 1) 204 [.inr (.inr (.inl (some 137))), .inl one, .inl e] v G Q = Q (.inl (if allS S (e - one + 1) one then 1 else 0)) v G := by
  refine q_call_eq ?_ Q
  have nx := s_areS (d := d) (one := one) (e := e) (Q := fun r v' G' => r = .inl (if allS S (e - one + 1) one then 1 else 0) ∧ v' = v ∧ G' = G) hG he hS (e - one + 1) one true (by omega) (by rw [Bool.true_and]; exact ⟨rfl, rfl, rfl⟩)
  rw [if_pos rfl] at nx
  simp (disch := omega) only [e_204, e_204_0, e_204_1, e_204_2, e_204_3, SHM hG]
  repeat' first | (refine And.intro ?_ ?_) | exact True.intro | omega | assumption | rfl
theorem s_enl {s : RS} {N : Nat} {w low high : Int} {v0 : q_H} (hG : gok G) (hs : mS v0 s) (hI : rdInv N N s) (hN : N ≤ 16) (h8 : v0 137 44 = (N : Int)) (hlo : -2147483648 ≤ low ∧ low ≤ 2147483647) (hC : ∀ v', (∀ b, b ≠ 137 → v' b = v0 b) → (∀ j, j ≠ 56 → v' 137 j = v0 137 j) → v' 137 56 = noI (lstP (pB s low) N) → q_wp d 205 64 [.inr (.inr (.inl (some 137))), .inl w, .inl low, .inl high, .inl N] [] v' G Q) : ∀ (r i : Nat) (v : q_H), i + r = N → (∀ b, b ≠ 137 → v b = v0 b) → (∀ j, j ≠ 56 → v 137 j = v0 137 j) → v 137 56 = noI (lstP (pB s low) i) → q_wp d 205 15 [.inr (.inr (.inl (some 137))), .inl w, .inl low, .inl high, .inl i] [] v G Q := by
  obtain ⟨s1, s2, s3, s4, s5⟩ := hs
  intro r
  induction r with
  | zero =>
    intro i v h hf hj h56
    have e : i = N := by omega
    subst e
    have fin := hC v hf hj h56
    have w44 : v 137 44 = (i : Int) := by rw [hj 44 (by omega), h8]
    rw [e_205_15]
    simp (disch := omega) only [e_205_17, e_205_18, e_205_21, SHM hG, w44, ↓if_pos]
    repeat' first | exact fin | (refine And.intro ?_ ?_) | exact True.intro | omega | rfl
  | succ r ih =>
    intro i v h hf hj h56
    have w44 : v 137 44 = (N : Int) := by rw [hj 44 (by omega), h8]
    have a3 : v 161 i = if s.2.2.1 i then 1 else 0 := by rw [hf 161 (by omega)]; exact s3 i (by omega)
    have step : ∀ x, x = noI (lstP (pB s low) (i + 1)) → q_wp d 205 15 [.inr (.inr (.inl (some 137))), .inl w, .inl low, .inl high, .inl ((i + 1 : Nat))] [] (q_up v 137 56 x) G Q := fun x hx => ih (i + 1) (q_up v 137 56 x) (by omega) (fun b hb => by rw [u_r hb, hf b hb]) (fun j hj' => by rw [u_n (by omega), hj j hj']) (by rw [u_s rfl rfl, hx])
    rw [e_205_15]
    by_cases c : s.2.2.1 i = true
    · rw [c, if_pos rfl] at a3
      have a4 : v 162 i = s.2.2.2.1 i := by rw [hf 162 (by omega)]; exact (s4 i (by omega) c).1
      have kr := hI.2.2.2.2.2.1 i c
      by_cases c2 : s.2.2.2.1 i < low
      · have el : lstP (pB s low) (i + 1) = (i : Int) := by
          unfold lstP
          rw [if_pos (by simp [pB, c, c2])]
        have nx := step i (by rw [el]; unfold noI; rw [if_neg (by omega)])
        simp (disch := omega) only [e_205_17, e_205_18, e_205_21, e_205_24, e_205_25, e_205_26, e_205_29, e_205_31, e_205_32, e_205_35, e_205_36, e_205_39, e_205_41, e_205_42, e_205_43, e_205_46, e_205_48, e_205_51, e_205_52, e_205_55, e_205_58, e_205_61, SHM hG, w44, a3, a4, Int.toNat_natCast, ↓if_neg, ↓if_pos, show (i : Int) + 1 = ((i + 1 : Nat) : Int) by omega]
        repeat' first | (refine And.intro ?_ ?_) | exact True.intro | omega | assumption | rfl
      · have el : lstP (pB s low) (i + 1) = lstP (pB s low) i := by
          conv => lhs; unfold lstP
          rw [if_neg (by simp [pB, c, c2])]
        have nx := step (v 137 56) (by rw [h56, el])
        simp (disch := omega) only [e_205_17, e_205_18, e_205_21, e_205_24, e_205_25, e_205_26, e_205_29, e_205_31, e_205_32, e_205_35, e_205_36, e_205_39, e_205_41, e_205_42, e_205_43, e_205_46, e_205_48, e_205_51, e_205_52, e_205_55, e_205_58, e_205_61, SHM hG, w44, a3, a4, Int.toNat_natCast, ↓if_neg, ↓if_pos, show (i : Int) + 1 = ((i + 1 : Nat) : Int) by omega]
        repeat' first | (refine And.intro ?_ ?_) | exact True.intro | omega | assumption | rfl
    · rw [if_neg c] at a3
      have el : lstP (pB s low) (i + 1) = lstP (pB s low) i := by
        conv => lhs; unfold lstP
        rw [if_neg (by simp [pB, c])]
      have nx := step (v 137 56) (by rw [h56, el])
      simp (disch := omega) only [e_205_17, e_205_18, e_205_21, e_205_24, e_205_25, e_205_26, e_205_29, e_205_31, e_205_32, e_205_35, e_205_36, e_205_39, e_205_41, e_205_42, e_205_43, e_205_46, e_205_48, e_205_51, e_205_52, e_205_55, e_205_58, e_205_61, SHM hG, w44, a3, Int.toNat_natCast, ↓if_neg, ↓if_pos, show (i : Int) + 1 = ((i + 1 : Nat) : Int) by omega]
      repeat' first | (refine And.intro ?_ ?_) | exact True.intro | omega | assumption | rfl
theorem s_enr {s : RS} {N : Nat} {w low high : Int} {v0 : q_H} {P : Nat → Bool} (hG : gok G) (hs : mS v0 s) (hI : rdInv N N s) (hN : N ≤ 16) (h8 : v0 137 44 = (N : Int)) (hw : 0 ≤ w ∧ w ≤ 6) (hhi : -2147483648 ≤ high ∧ high ≤ 2147483647) (hP : ∀ k, k < N → P k = (s.2.2.1 k && (if w = 2 then decide (k + 1 = N) else decide (high < s.2.2.2.1 k)))) (hC : ∀ v', (∀ b, b ≠ 137 → v' b = v0 b) → (∀ j, j ≠ 57 → v' 137 j = v0 137 j) → v' 137 57 = noI (fstP P N 0) → q_wp d 205 136 [.inr (.inr (.inl (some 137))), .inl w, .inl low, .inl high, .inl (-1)] [] v' G Q) : ∀ (i : Nat) (v : q_H), i ≤ N → (∀ b, b ≠ 137 → v b = v0 b) → (∀ j, j ≠ 57 → v 137 j = v0 137 j) → v 137 57 = noI (fstP P (N - i) i) → q_wp d 205 72 [.inr (.inr (.inl (some 137))), .inl w, .inl low, .inl high, .inl ((i : Int) - 1)] [] v G Q := by
  obtain ⟨s1, s2, s3, s4, s5⟩ := hs
  intro i
  induction i with
  | zero =>
    intro v h hf hj h57
    have fin := hC v hf hj h57
    have fin : q_wp d 205 136 [.inr (.inr (.inl (some 137))), .inl w, .inl low, .inl high, .inl (((0 : Nat) : Int) - 1)] [] v G Q := fin
    rw [e_205_72]
    simp (disch := omega) only [e_205_74, ↓if_pos]
    repeat' first | exact fin | (refine And.intro ?_ ?_) | exact True.intro | omega | rfl
  | succ i ih =>
    intro v h hf hj h57
    have w44 : v 137 44 = (N : Int) := by rw [hj 44 (by omega), h8]
    have a3 : v 161 i = if s.2.2.1 i then 1 else 0 := by rw [hf 161 (by omega)]; exact s3 i (by omega)
    have hPi := hP i (by omega)
    have eN : N - i = N - (i + 1) + 1 := by omega
    have step : ∀ x, x = noI (fstP P (N - i) i) → q_wp d 205 72 [.inr (.inr (.inl (some 137))), .inl w, .inl low, .inl high, .inl ((i : Int) - 1)] [] (q_up v 137 57 x) G Q := fun x hx => ih (q_up v 137 57 x) (by omega) (fun b hb => by rw [u_r hb, hf b hb]) (fun j hj' => by rw [u_n (by omega), hj j hj']) (by rw [u_s rfl rfl, hx])
    have yes : P i = true → (i : Int) = noI (fstP P (N - i) i) := fun hp => by
      rw [eN]
      unfold fstP noI
      rw [if_pos hp, if_neg (by omega)]
    have no : P i = false → v 137 57 = noI (fstP P (N - i) i) := fun hp => by
      rw [h57, eN]
      conv => rhs; unfold fstP
      rw [if_neg (by rw [hp]; decide)]
    rw [show ((i + 1 : Nat) : Int) - 1 = (i : Int) by omega, e_205_72]
    by_cases c : s.2.2.1 i = true
    · rw [c, if_pos rfl] at a3
      rw [c, Bool.true_and] at hPi
      by_cases c2 : w = 2
      · rw [if_pos c2] at hPi
        by_cases c3 : i + 1 = N
        · have nx := step i (yes (by rw [hPi]; simpa using c3))
          simp (disch := omega) only [e_205_74, e_205_77, e_205_78, e_205_79, e_205_82, e_205_84, e_205_85, e_205_88, e_205_89, e_205_90, e_205_93, e_205_95, e_205_96, e_205_99, e_205_100, e_205_101, e_205_104, e_205_107, e_205_108, e_205_111, e_205_113, e_205_114, e_205_115, e_205_118, e_205_120, e_205_123, e_205_124, e_205_127, e_205_130, e_205_133, SHM hG, w44, a3, Int.toNat_natCast, ↓if_neg, ↓if_pos, show (i : Int) + -1 = (i : Int) - 1 by omega]
          repeat' first | (refine And.intro ?_ ?_) | exact True.intro | omega | assumption | rfl
        · have nx := step (v 137 57) (no (by rw [hPi]; simpa using c3))
          simp (disch := omega) only [e_205_74, e_205_77, e_205_78, e_205_79, e_205_82, e_205_84, e_205_85, e_205_88, e_205_89, e_205_90, e_205_93, e_205_95, e_205_96, e_205_99, e_205_100, e_205_101, e_205_104, e_205_107, e_205_108, e_205_111, e_205_113, e_205_114, e_205_115, e_205_118, e_205_120, e_205_123, e_205_124, e_205_127, e_205_130, e_205_133, SHM hG, w44, a3, Int.toNat_natCast, ↓if_neg, ↓if_pos, show (i : Int) + -1 = (i : Int) - 1 by omega]
          repeat' first | (refine And.intro ?_ ?_) | exact True.intro | omega | assumption | rfl
      · rw [if_neg c2] at hPi
        have a4 : v 162 i = s.2.2.2.1 i := by rw [hf 162 (by omega)]; exact (s4 i (by omega) c).1
        have kr := hI.2.2.2.2.2.1 i c
        by_cases c3 : high < s.2.2.2.1 i
        · have nx := step i (yes (by rw [hPi]; simpa using c3))
          simp (disch := omega) only [e_205_74, e_205_77, e_205_78, e_205_79, e_205_82, e_205_84, e_205_85, e_205_88, e_205_89, e_205_90, e_205_93, e_205_95, e_205_96, e_205_99, e_205_100, e_205_101, e_205_104, e_205_107, e_205_108, e_205_111, e_205_113, e_205_114, e_205_115, e_205_118, e_205_120, e_205_123, e_205_124, e_205_127, e_205_130, e_205_133, SHM hG, a3, a4, Int.toNat_natCast, ↓if_neg, ↓if_pos, show (i : Int) + -1 = (i : Int) - 1 by omega]
          repeat' first | (refine And.intro ?_ ?_) | exact True.intro | omega | assumption | rfl
        · have nx := step (v 137 57) (no (by rw [hPi]; simpa using c3))
          simp (disch := omega) only [e_205_74, e_205_77, e_205_78, e_205_79, e_205_82, e_205_84, e_205_85, e_205_88, e_205_89, e_205_90, e_205_93, e_205_95, e_205_96, e_205_99, e_205_100, e_205_101, e_205_104, e_205_107, e_205_108, e_205_111, e_205_113, e_205_114, e_205_115, e_205_118, e_205_120, e_205_123, e_205_124, e_205_127, e_205_130, e_205_133, SHM hG, a3, a4, Int.toNat_natCast, ↓if_neg, ↓if_pos, show (i : Int) + -1 = (i : Int) - 1 by omega]
          repeat' first | (refine And.intro ?_ ?_) | exact True.intro | omega | assumption | rfl
    · rw [if_neg c] at a3
      rw [show s.2.2.1 i = false by simpa using c, Bool.false_and] at hPi
      have nx := step (v 137 57) (no hPi)
      simp (disch := omega) only [e_205_74, e_205_77, e_205_78, e_205_79, e_205_82, e_205_84, e_205_85, e_205_88, e_205_89, e_205_90, e_205_93, e_205_95, e_205_96, e_205_99, e_205_100, e_205_101, e_205_104, e_205_107, e_205_108, e_205_111, e_205_113, e_205_114, e_205_115, e_205_118, e_205_120, e_205_123, e_205_124, e_205_127, e_205_130, e_205_133, SHM hG, a3, Int.toNat_natCast, ↓if_neg, ↓if_pos, show (i : Int) + -1 = (i : Int) - 1 by omega]
      repeat' first | (refine And.intro ?_ ?_) | exact True.intro | omega | assumption | rfl
/-- isEnough -/
theorem m_enough {s : RS} {N : Nat} {w low high : Int} (hG : gok G) (hs : mS v s) (hI : rdInv N N s) (hN2 : 2 ≤ N) (hN : N ≤ 16) (h8 : v 137 44 = (N : Int)) (hw : 0 ≤ w ∧ w ≤ 2) (hlo : 0 ≤ low ∧ low ≤ 999) (hk : w = 2 → 1 ≤ high ∧ high ≤ 14) (hh : w ≠ 2 → low ≤ high ∧ high ≤ 999)
  (hF : enw w N s low high = none → ∀ v', (∀ b, b ≠ 137 → v' b = v b) → (∀ j, j ≠ 56 → j ≠ 57 → v' 137 j = v 137 j) → (-1000000 ≤ v' 137 56 ∧ v' 137 56 ≤ 100) → (-1000000 ≤ v' 137 57 ∧ v' 137 57 ≤ 100) → Q (.inl 0) v' G)
  (hS : ∀ z, enw w N s low high = some z → ∀ v', (∀ b, b ≠ 137 → v' b = v b) → (∀ j, j ≠ 56 → j ≠ 57 → v' 137 j = v 137 j) → v' 137 56 = (z.1 : Int) → v' 137 57 = (z.2.2 : Int) → Q (.inl 1) v' G) : q_call (d + 2) 205 [.inr (.inr (.inl (some 137))), .inl w, .inl low, .inl high] v G Q := by
  have hs' := hs
  obtain ⟨s1, s2, s3, s4, s5⟩ := hs'
  obtain ⟨l1, l2, l3, l4⟩ := lstP_sp (pB s low) N
  have hhr : -2147483648 ≤ high ∧ high ≤ 2147483647 := by
    by_cases c : w = 2
    · have := hk c; omega
    · have := hh c; omega
  generalize hv0 : q_up (q_up v 137 56 (-1000000)) 137 57 (-1000000) = v0
  have f0 : ∀ b, b ≠ 137 → v0 b = v b := fun b hb => by rw [← hv0, u_r hb, u_r hb]
  have f0q : ∀ j, j ≠ 56 → j ≠ 57 → v0 137 j = v 137 j := fun j j1 j2 => by rw [← hv0, u_n (by omega), u_n (by omega)]
  have h56 : v0 137 56 = -1000000 := by rw [← hv0, u_n (by omega), u_s rfl rfl]
  have h57 : v0 137 57 = -1000000 := by rw [← hv0, u_s rfl rfl]
  have mS_c : ∀ u, (∀ b, b ≠ 137 → u b = v b) → (∀ j, j ≠ 56 → j ≠ 57 → u 137 j = v 137 j) → mS u s := fun u uf uj => ⟨by rw [uj 41 (by omega) (by omega)]; exact s1, by rw [uj 43 (by omega) (by omega)]; exact s2, fun j hj => by rw [uf 161 (by omega)]; exact s3 j hj, fun j hj hS => by rw [uf 162 (by omega), uf 163 (by omega)]; exact s4 j hj hS, fun j hj hS => by rw [uf 164 (by omega)]; exact s5 j hj hS⟩
  have lp := s_enl (d := d + 1) (Q := Q) (w := w) (low := low) (high := high) (v0 := v0) hG (mS_c v0 f0 f0q) hI hN (by rw [f0q 44 (by omega) (by omega), h8]) (by omega) (fun v1 f1 f1q e56 => by
    have g1 : ∀ b, b ≠ 137 → v1 b = v b := fun b hb => by rw [f1 b hb, f0 b hb]
    have g1q : ∀ j, j ≠ 56 → j ≠ 57 → v1 137 j = v 137 j := fun j j1 j2 => by rw [f1q j j1, f0q j j1 j2]
    have w44 : v1 137 44 = (N : Int) := by rw [g1q 44 (by omega) (by omega), h8]
    have lp := s_enr (d := d + 1) (Q := Q) (w := w) (low := low) (high := high) (v0 := v1) (P := fun k => s.2.2.1 k && (if w = 2 then decide (k + 1 = N) else decide (high < s.2.2.2.1 k))) hG (mS_c v1 g1 g1q) hI hN w44 (by omega) hhr (fun k _ => rfl) (fun v2 f2 f2q e57 => by
      have g2 : ∀ b, b ≠ 137 → v2 b = v b := fun b hb => by rw [f2 b hb, g1 b hb]
      have g2q : ∀ j, j ≠ 56 → j ≠ 57 → v2 137 j = v 137 j := fun j j1 j2 => by rw [f2q j j2, g1q j j1 j2]
      have w44 : v2 137 44 = (N : Int) := by rw [g2q 44 (by omega) (by omega), h8]
      have w56 : v2 137 56 = noI (lstP (pB s low) N) := by rw [f2q 56 (by omega), e56]
      have w161 : ∀ j, j < 16 → v2 161 j = if s.2.2.1 j then 1 else 0 := fun j hj => by rw [g2 161 (by omega)]; exact s3 j hj
      unfold enw at hF hS
      by_cases cx : lstP (pB s low) N < 0
      · rw [if_pos cx] at hF
        unfold noI at w56
        rw [if_pos cx] at w56
        by_cases c2 : w = 2
        · have k5 := hk c2
          have fin := hF rfl (q_up v2 137 57 (-1000000 + high + 1)) (fun b hb => by rw [u_r hb, g2 b hb]) (fun j j1 j2 => by rw [u_n (by omega), g2q j j1 j2]) (by rw [u_n (by omega), w56]; decide) (by rw [u_s rfl rfl]; omega)
          simp (disch := first | assumption | omega | ((try simp (disch := omega) only [u_n, u_s]); first | assumption | omega)) only [e_205_136, e_205_137, e_205_138, e_205_141, e_205_142, e_205_145, e_205_146, e_205_147, e_205_148, e_205_151, e_205_152, e_205_153, e_205_156, e_205_157, e_205_160, e_205_161, e_205_162, e_205_165, e_205_166, e_205_169, e_205_170, e_205_171, e_205_173, e_205_174, e_205_176, e_205_177, e_205_180, e_205_181, e_205_182, e_205_185, e_205_187, e_205_190, e_205_192, e_205_193, e_205_194, e_205_197, e_205_198, e_205_201, e_205_203, e_205_223, e_205_224, SHM hG, w44, w56, u_n, ↓if_neg, ↓if_pos]
          repeat' first | exact fin | (refine And.intro ?_ ?_) | exact True.intro | omega | rfl
        · have wr : -1000000 ≤ v2 137 57 ∧ v2 137 57 ≤ 100 := by
            have b := fstP_sp (fun k => s.2.2.1 k && (if w = 2 then decide (k + 1 = N) else decide (high < s.2.2.2.1 k))) N 0
            rw [e57]
            generalize fstP (fun k => s.2.2.1 k && (if w = 2 then decide (k + 1 = N) else decide (high < s.2.2.2.1 k))) N 0 = y at b
            have b1 := b.1
            have b2 := b.2.1
            unfold noI
            split <;> omega
          have fin := hF rfl v2 g2 g2q (by rw [w56]; decide) wr
          simp (disch := omega) only [e_205_136, e_205_137, e_205_138, e_205_225, e_205_226, e_205_229, e_205_231, e_205_234, e_205_235, e_205_238, e_205_240, e_205_243, e_205_244, SHM hG, w56, ↓if_neg, ↓if_pos]
          repeat' first | exact fin | (refine And.intro ?_ ?_) | exact True.intro | omega | rfl
      · rw [if_neg cx] at hF
        simp only [if_neg cx] at hS
        have l3 := l3 (by omega)
        rw [Bool.and_eq_true, decide_eq_true_eq] at l3
        obtain ⟨x, hxx⟩ : ∃ x : Nat, lstP (pB s low) N = (x : Int) := ⟨(lstP (pB s low) N).toNat, by omega⟩
        unfold noI at w56
        rw [if_neg cx, hxx] at w56
        rw [hxx] at l2 l3
        simp only [hxx, Int.toNat_natCast] at hF hS
        rw [Int.toNat_natCast] at l3
        have hxN : x + 1 < N := by
          rcases Nat.lt_or_ge (x + 1) N with c | c
          · exact c
          · exfalso
            have := (hI.2.2.2.2.2.1 x l3.1).2.2.2.1 (by omega)
            omega
        by_cases c2 : w = 2
        · have k5 := hk c2
          rw [if_pos c2] at hF
          simp only [if_pos c2] at hS
          have hE : fE N x high = min (x + high.toNat) (N - 1) := rfl
          generalize hee : fE N x high = e at *
          have eA : allS s.2.2.1 (e - x + 1) x = allS s.2.2.1 (e - x) (x + 1) := by
            show (s.2.2.1 x && allS s.2.2.1 (e - x) (x + 1)) = _
            rw [l3.1, Bool.true_and]
          have ear : ∀ (u : q_H), (∀ j, j < 16 → u 161 j = if s.2.2.1 j then 1 else 0) → ∀ (d' : Nat) (Q' : q_V → q_H → q_Gr → Prop), q_call (d' + 1) 204 [.inr (.inr (.inl (some 137))), .inl x, .inl e] u G Q' = Q' (.inl (if allS s.2.2.1 (e - x) (x + 1) then 1 else 0)) u G := fun u hu d' Q' => by rw [c_areS hG (by omega) (by omega) hu, eA]
          -- the end is known
          have tail : ∀ rr : Int, rr = (((if e = N - 1 then e else e + 1) : Nat) : Int) → q_wp (d + 1) 205 197 [.inr (.inr (.inl (some 137))), .inl w, .inl low, .inl high, .inl e] [] (q_up v2 137 57 rr) G Q := fun rr hrr => by
            have ear := ear (q_up v2 137 57 rr) (fun j hj => by rw [u_n (by omega)]; exact w161 j hj)
            have y56 : q_up v2 137 57 rr 137 56 = (x : Int) := by rw [u_n (by omega), w56]
            by_cases ca : allS s.2.2.1 (e - x) (x + 1) = true
            · have fin := hS (x, e + 1, if e = N - 1 then e else e + 1) (by rw [if_pos ca]) (q_up v2 137 57 rr) (fun b hb => by rw [u_r hb, g2 b hb]) (fun j j1 j2 => by rw [u_n (by omega), g2q j j1 j2]) y56 (by rw [u_s rfl rfl, hrr])
              rw [if_pos ca] at ear
              simp (disch := omega) only [e_205_197, e_205_198, e_205_201, e_205_203, e_205_206, e_205_207, e_205_208, e_205_211, e_205_213, e_205_216, e_205_219, e_205_220, e_205_223, e_205_224, SHM hG, y56, ear, ↓if_neg, ↓if_pos, q_push_I, q_push_L, q_push_P, q_push_U]
              repeat' first | exact fin | (refine And.intro ?_ ?_) | exact True.intro | omega | rfl
            · have fin := hF (by rw [if_neg ca]) (q_up v2 137 57 rr) (fun b hb => by rw [u_r hb, g2 b hb]) (fun j j1 j2 => by rw [u_n (by omega), g2q j j1 j2]) (by rw [y56]; omega) (by rw [u_s rfl rfl, hrr]; split <;> omega)
              rw [if_neg ca] at ear
              simp (disch := omega) only [e_205_197, e_205_198, e_205_201, e_205_203, e_205_206, e_205_207, e_205_208, e_205_211, e_205_213, e_205_216, e_205_219, e_205_220, e_205_223, e_205_224, SHM hG, y56, ear, ↓if_neg, ↓if_pos, q_push_I, q_push_L, q_push_P, q_push_U]
              repeat' first | exact fin | (refine And.intro ?_ ?_) | exact True.intro | omega | rfl
          by_cases cb : (x : Int) + high > (N : Int) - 1
          · have ee : (N : Int) - 1 = (e : Int) := by omega
            have tl := tail (e : Int) (by rw [if_pos (by omega)])
            simp (disch := omega) only [e_205_136, e_205_137, e_205_138, e_205_141, e_205_142, e_205_145, e_205_146, e_205_147, e_205_148, e_205_151, e_205_152, e_205_153, e_205_156, e_205_157, e_205_160, e_205_161, e_205_162, e_205_165, e_205_166, e_205_169, e_205_170, e_205_171, e_205_173, e_205_174, e_205_176, e_205_177, e_205_180, e_205_181, e_205_182, e_205_185, e_205_187, e_205_190, e_205_192, e_205_193, e_205_194, SHM hG, w44, w56, ee, ↓if_neg, ↓if_pos]
            repeat' first | (refine And.intro ?_ ?_) | exact True.intro | omega | assumption | rfl
          · have ee : (x : Int) + high = (e : Int) := by omega
            by_cases cc : e = N - 1
            · have tl := tail (e : Int) (by rw [if_pos cc])
              simp (disch := omega) only [e_205_136, e_205_137, e_205_138, e_205_141, e_205_142, e_205_145, e_205_146, e_205_147, e_205_148, e_205_151, e_205_152, e_205_153, e_205_156, e_205_157, e_205_160, e_205_161, e_205_162, e_205_165, e_205_166, e_205_169, e_205_170, e_205_171, e_205_173, e_205_174, e_205_176, e_205_177, e_205_180, e_205_181, e_205_182, e_205_185, e_205_187, e_205_190, e_205_192, e_205_193, e_205_194, SHM hG, w44, w56, ee, ↓if_neg, ↓if_pos]
              repeat' first | (refine And.intro ?_ ?_) | exact True.intro | omega | assumption | rfl
            · have tl := tail ((e : Int) + 1) (by rw [if_neg cc]; omega)
              simp (disch := omega) only [e_205_136, e_205_137, e_205_138, e_205_141, e_205_142, e_205_145, e_205_146, e_205_147, e_205_148, e_205_151, e_205_152, e_205_153, e_205_156, e_205_157, e_205_160, e_205_161, e_205_162, e_205_165, e_205_166, e_205_169, e_205_170, e_205_171, e_205_173, e_205_174, e_205_176, e_205_177, e_205_180, e_205_181, e_205_182, e_205_185, e_205_187, e_205_190, e_205_192, e_205_193, e_205_194, SHM hG, w44, w56, ee, ↓if_neg, ↓if_pos]
              repeat' first | (refine And.intro ?_ ?_) | exact True.intro | omega | assumption | rfl
        · have hh := hh c2
          rw [if_neg c2] at hF
          simp only [if_neg c2] at hS e57
          have e57 : v2 137 57 = noI (fstP (pA s high) N 0) := e57
          obtain ⟨f1', f2', f3, f4⟩ := fstP_sp (pA s high) N 0
          by_cases cy : fstP (pA s high) N 0 < 0
          · rw [if_pos cy] at hF
            unfold noI at e57
            rw [if_pos cy] at e57
            have fin := hF rfl v2 g2 g2q (by rw [w56]; omega) (by rw [e57]; decide)
            simp (disch := omega) only [e_205_136, e_205_137, e_205_138, e_205_225, e_205_226, e_205_229, e_205_231, e_205_234, e_205_235, e_205_238, e_205_240, e_205_243, e_205_244, SHM hG, w56, e57, ↓if_neg, ↓if_pos]
            repeat' first | exact fin | (refine And.intro ?_ ?_) | exact True.intro | omega | rfl
          · rw [if_neg cy] at hF
            simp only [if_neg cy] at hS
            unfold noI at e57
            rw [if_neg cy] at e57
            obtain ⟨y, hyy⟩ : ∃ y : Nat, fstP (pA s high) N 0 = (y : Int) := ⟨(fstP (pA s high) N 0).toNat, by omega⟩
            obtain ⟨_, f5, _⟩ := f3 (by omega)
            rw [Bool.and_eq_true, decide_eq_true_eq] at f5
            rw [hyy] at f2' f5 e57
            rw [Int.toNat_natCast] at f5
            simp only [hyy, Int.toNat_natCast] at hF hS
            have hxy : x < y := by
              rcases Nat.lt_or_ge x y with c | c
              · exact c
              · exfalso
                by_cases e : x = y
                · rw [e] at l3
                  omega
                · have := hI.2.2.1 y x (by omega) f5.1 l3.1
                  omega
            have fy := fun (h : enB w s.2.2.1 x y = true) => hS (x, y, y) (by rw [if_pos h]) v2 g2 g2q w56 e57
            have fn := fun (h : ¬ enB w s.2.2.1 x y = true) => hF (by rw [if_neg h]) v2 g2 g2q (by rw [w56]; omega) (by rw [e57]; omega)
            clear hF hS
            unfold enB at fy fn
            by_cases c1 : w = 1
            · rw [if_pos c1] at fy fn
              have a1 := w161 (x + 1) (by omega)
              have a2 := w161 (y - 1) (by omega)
              cases b1 : s.2.2.1 (x + 1) with
              | false =>
                rw [b1, if_neg (by decide)] at a1
                have fin := fn (by rw [b1, Bool.false_and]; decide)
                simp (disch := omega) only [e_205_136, e_205_137, e_205_138, e_205_225, e_205_226, e_205_229, e_205_231, e_205_234, e_205_235, e_205_238, e_205_240, e_205_243, e_205_244, e_205_245, e_205_246, e_205_247, e_205_250, e_205_251, e_205_254, e_205_255, e_205_258, e_205_259, e_205_260, e_205_261, e_205_264, e_205_265, e_205_268, e_205_269, e_205_272, e_205_273, e_205_274, e_205_275, e_205_278, e_205_279, e_205_282, e_205_283, e_205_298, SHM hG, w56, e57, a1, show ((x : Int) + 1).toNat = x + 1 by omega, ↓if_neg, ↓if_pos]
                repeat' first | exact fin | (refine And.intro ?_ ?_) | exact True.intro | omega | rfl
              | true =>
                rw [b1, if_pos rfl] at a1
                cases b2 : s.2.2.1 (y - 1) with
                | false =>
                  rw [b2, if_neg (by decide)] at a2
                  have fin := fn (by rw [b1, b2]; decide)
                  simp (disch := omega) only [e_205_136, e_205_137, e_205_138, e_205_225, e_205_226, e_205_229, e_205_231, e_205_234, e_205_235, e_205_238, e_205_240, e_205_243, e_205_244, e_205_245, e_205_246, e_205_247, e_205_250, e_205_251, e_205_254, e_205_255, e_205_258, e_205_259, e_205_260, e_205_261, e_205_264, e_205_265, e_205_268, e_205_269, e_205_272, e_205_273, e_205_274, e_205_275, e_205_278, e_205_279, e_205_282, e_205_283, e_205_298, SHM hG, w56, e57, a1, a2, show ((x : Int) + 1).toNat = x + 1 by omega, show ((y : Int) - 1).toNat = y - 1 by omega, ↓if_neg, ↓if_pos]
                  repeat' first | exact fin | (refine And.intro ?_ ?_) | exact True.intro | omega | rfl
                | true =>
                  rw [b2, if_pos rfl] at a2
                  have fin := fy (by rw [b1, b2]; decide)
                  simp (disch := omega) only [e_205_136, e_205_137, e_205_138, e_205_225, e_205_226, e_205_229, e_205_231, e_205_234, e_205_235, e_205_238, e_205_240, e_205_243, e_205_244, e_205_245, e_205_246, e_205_247, e_205_250, e_205_251, e_205_254, e_205_255, e_205_258, e_205_259, e_205_260, e_205_261, e_205_264, e_205_265, e_205_268, e_205_269, e_205_272, e_205_273, e_205_274, e_205_275, e_205_278, e_205_279, e_205_282, e_205_283, e_205_298, SHM hG, w56, e57, a1, a2, show ((x : Int) + 1).toNat = x + 1 by omega, show ((y : Int) - 1).toNat = y - 1 by omega, ↓if_neg, ↓if_pos]
                  repeat' first | exact fin | (refine And.intro ?_ ?_) | exact True.intro | omega | rfl
            · rw [if_neg c1] at fy fn
              have eA : allS s.2.2.1 (y - x + 1) x = allS s.2.2.1 (y - x - 1) (x + 1) := by
                show (s.2.2.1 x && allS s.2.2.1 (y - x) (x + 1)) = _
                rw [l3.1, Bool.true_and, show y - x = y - x - 1 + 1 by omega, allS_snoc, show x + 1 + (y - x - 1) = y by omega, f5.1, Bool.and_true, show y - x - 1 + 1 - 1 = y - x - 1 by omega]
              have ear : ∀ (d' : Nat) (Q' : q_V → q_H → q_Gr → Prop), q_call (d' + 1) 204 [.inr (.inr (.inl (some 137))), .inl x, .inl y] v2 G Q' = Q' (.inl (if allS s.2.2.1 (y - x - 1) (x + 1) then 1 else 0)) v2 G := fun d' Q' => by rw [c_areS hG (by omega) (by omega) w161, eA]
              by_cases ca : allS s.2.2.1 (y - x - 1) (x + 1) = true
              · have fin := fy ca
                rw [if_pos ca] at ear
                simp (disch := omega) only [e_205_136, e_205_137, e_205_138, e_205_225, e_205_226, e_205_229, e_205_231, e_205_234, e_205_235, e_205_238, e_205_240, e_205_243, e_205_244, e_205_245, e_205_246, e_205_247, e_205_286, e_205_287, e_205_288, e_205_291, e_205_292, e_205_295, e_205_298, SHM hG, w56, e57, ear, ↓if_neg, ↓if_pos, q_push_I, q_push_L, q_push_P, q_push_U]
                repeat' first | exact fin | (refine And.intro ?_ ?_) | exact True.intro | omega | rfl
              · have fin := fn ca
                rw [if_neg ca] at ear
                simp (disch := omega) only [e_205_136, e_205_137, e_205_138, e_205_225, e_205_226, e_205_229, e_205_231, e_205_234, e_205_235, e_205_238, e_205_240, e_205_243, e_205_244, e_205_245, e_205_246, e_205_247, e_205_286, e_205_287, e_205_288, e_205_291, e_205_292, e_205_295, e_205_298, SHM hG, w56, e57, ear, ↓if_neg, ↓if_pos, q_push_I, q_push_L, q_push_P, q_push_U]
                repeat' first | exact fin | (refine And.intro ?_ ?_) | exact True.intro | omega | rfl) N v1 (Nat.le_refl _) (fun _ _ => rfl) (fun _ _ => rfl) (by rw [Nat.sub_self, f1q 57 (by omega), h57]; rfl)
    simp (disch := omega) only [e_205_64, e_205_65, e_205_68, e_205_69, e_205_70, SHM hG, w44]
    repeat' first | (refine And.intro ?_ ?_) | exact True.intro | omega | assumption | rfl) N 0 v0 (by omega) (fun _ _ => rfl) (fun _ _ => rfl) (by rw [h56]; rfl)
  have lp : q_wp (d + 1) 205 15 [.inr (.inr (.inl (some 137))), .inl w, .inl low, .inl high, .inl 0] [] v0 G Q := lp
  simp (disch := omega) only [e_205, e_205_0, e_205_1, e_205_3, e_205_6, e_205_7, e_205_9, e_205_12, e_205_13, SHM hG, hv0]
  repeat' first | (refine And.intro ?_ ?_) | exact True.intro | omega | assumption | rfl
end
