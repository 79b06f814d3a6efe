section
variable {d q : Nat} {v : q_H} {G : q_Gr} {Q : q_V → q_H → q_Gr → Prop}
/-- an act of the reference, at the place a -/
def mst (v : q_H) (a : Nat) (w x0 x1 x2 x3 : Int) : q_H := q_up (q_up (q_up (q_up (q_up (q_up v 149 a w) 150 a x0) 151 a x1) 152 a x2) 153 a x3) 137 21 ((a : Int) + 1)
/-- nothing more after a fault -/
theorem m_dead46 {w x z2 z3 z4 z5 : q_V} {W X : Int} (hG : gok G) (h30 : 1 ≤ v 137 30 ∧ v 137 30 ≤ 3) (hW : -1000000 ≤ W ∧ W ≤ 6) (fin : Q (.inr (.inr (.inr ()))) v G) : q_wp (d + 4) 182 46 [.inr (.inr (.inl (some 137))), .inl W, z2, z3, z4, z5] [.inl X] v G Q := by
  have en : ∀ (lo hi : Int) (d' : Nat) (Q' : q_V → q_H → q_Gr → Prop), q_call (d' + 1) 180 [.inr (.inr (.inl (some 137))), .inl lo, .inl hi] v G Q' = Q' (.inl 0) v G := fun lo hi d' Q' => m_numD hG h30
  by_cases c4 : W < 4
  · by_cases c3 : W = 3
    · simp (disch := omega) only [e_182_46, e_182_47, e_182_48, e_182_49, e_182_52, e_182_53, e_182_56, e_182_57, e_182_58, e_182_59, e_182_62, e_182_63, e_182_64, e_182_65, e_182_68, e_182_71, e_182_73, e_182_74, e_182_75, e_182_78, e_182_80, e_182_83, e_182_84, e_182_85, e_182_88, e_182_89, e_182_90, e_182_92, e_182_95, e_182_98, e_182_99, e_182_101, e_182_104, e_182_107, e_182_109, e_182_110, e_182_113, e_182_133, e_182_134, e_182_137, e_182_202, SHM hG, en, ↓if_pos, ↓if_neg, q_push_I, q_push_L, q_push_P, q_push_U]
      repeat' first | exact fin | (refine And.intro ?_ ?_) | exact True.intro | omega | rfl
    · by_cases c2 : W = 2
      · simp (disch := omega) only [e_182_46, e_182_47, e_182_48, e_182_49, e_182_52, e_182_53, e_182_56, e_182_57, e_182_58, e_182_59, e_182_62, e_182_63, e_182_64, e_182_65, e_182_68, e_182_71, e_182_73, e_182_74, e_182_75, e_182_78, e_182_80, e_182_83, e_182_84, e_182_85, e_182_88, e_182_89, e_182_90, e_182_92, e_182_95, e_182_98, e_182_99, e_182_101, e_182_104, e_182_107, e_182_109, e_182_110, e_182_113, e_182_133, e_182_134, e_182_137, e_182_202, SHM hG, en, ↓if_pos, ↓if_neg, q_push_I, q_push_L, q_push_P, q_push_U]
        repeat' first | exact fin | (refine And.intro ?_ ?_) | exact True.intro | omega | rfl
      · simp (disch := omega) only [e_182_46, e_182_47, e_182_48, e_182_49, e_182_52, e_182_53, e_182_56, e_182_57, e_182_58, e_182_59, e_182_62, e_182_63, e_182_64, e_182_65, e_182_68, e_182_71, e_182_73, e_182_74, e_182_75, e_182_78, e_182_80, e_182_83, e_182_84, e_182_85, e_182_88, e_182_89, e_182_90, e_182_92, e_182_95, e_182_98, e_182_99, e_182_101, e_182_104, e_182_107, e_182_109, e_182_110, e_182_113, e_182_133, e_182_134, e_182_137, e_182_202, SHM hG, en, ↓if_pos, ↓if_neg, q_push_I, q_push_L, q_push_P, q_push_U]
        repeat' first | exact fin | (refine And.intro ?_ ?_) | exact True.intro | omega | rfl
  · simp (disch := omega) only [e_182_46, e_182_47, e_182_48, e_182_49, e_182_52, e_182_53, e_182_56, e_182_57, e_182_58, e_182_59, e_182_62, e_182_63, e_182_64, e_182_65, e_182_68, e_182_71, e_182_73, e_182_74, e_182_75, e_182_78, e_182_80, e_182_83, e_182_84, e_182_85, e_182_88, e_182_89, e_182_90, e_182_92, e_182_95, e_182_98, e_182_99, e_182_101, e_182_104, e_182_107, e_182_109, e_182_110, e_182_113, e_182_133, e_182_134, e_182_137, e_182_202, SHM hG, en, ↓if_pos, ↓if_neg, q_push_I, q_push_L, q_push_P, q_push_U]
    repeat' first | exact fin | (refine And.intro ?_ ?_) | exact True.intro | omega | rfl
theorem m_dead62 {z2 z3 z4 z5 : q_V} {W X : Int} (hG : gok G) (h30 : 1 ≤ v 137 30 ∧ v 137 30 ≤ 3) (hW : -1000000 ≤ W ∧ W ≤ 6) (fin : Q (.inr (.inr (.inr ()))) v G) : q_wp (d + 4) 182 62 [.inr (.inr (.inl (some 137))), .inl W, z2, z3, z4, z5] [.inl X] v G Q := by
  have en : ∀ (lo hi : Int) (d' : Nat) (Q' : q_V → q_H → q_Gr → Prop), q_call (d' + 1) 180 [.inr (.inr (.inl (some 137))), .inl lo, .inl hi] v G Q' = Q' (.inl 0) v G := fun lo hi d' Q' => m_numD hG h30
  by_cases c3 : W = 3
  · simp (disch := omega) only [e_182_62, e_182_63, e_182_64, e_182_65, e_182_68, e_182_71, e_182_73, e_182_74, e_182_75, e_182_78, e_182_80, e_182_83, e_182_84, e_182_85, e_182_88, e_182_89, e_182_90, e_182_92, e_182_95, e_182_98, e_182_99, e_182_101, e_182_104, e_182_107, e_182_109, e_182_110, e_182_113, e_182_133, e_182_134, e_182_137, e_182_202, SHM hG, en, ↓if_pos, ↓if_neg, q_push_I, q_push_L, q_push_P, q_push_U]
    repeat' first | exact fin | (refine And.intro ?_ ?_) | exact True.intro | omega | rfl
  · by_cases c2 : W = 2
    · simp (disch := omega) only [e_182_62, e_182_63, e_182_64, e_182_65, e_182_68, e_182_71, e_182_73, e_182_74, e_182_75, e_182_78, e_182_80, e_182_83, e_182_84, e_182_85, e_182_88, e_182_89, e_182_90, e_182_92, e_182_95, e_182_98, e_182_99, e_182_101, e_182_104, e_182_107, e_182_109, e_182_110, e_182_113, e_182_133, e_182_134, e_182_137, e_182_202, SHM hG, en, ↓if_pos, ↓if_neg, q_push_I, q_push_L, q_push_P, q_push_U]
      repeat' first | exact fin | (refine And.intro ?_ ?_) | exact True.intro | omega | rfl
    · simp (disch := omega) only [e_182_62, e_182_63, e_182_64, e_182_65, e_182_68, e_182_71, e_182_73, e_182_74, e_182_75, e_182_78, e_182_80, e_182_83, e_182_84, e_182_85, e_182_88, e_182_89, e_182_90, e_182_92, e_182_95, e_182_98, e_182_99, e_182_101, e_182_104, e_182_107, e_182_109, e_182_110, e_182_113, e_182_133, e_182_134, e_182_137, e_182_202, SHM hG, en, ↓if_pos, ↓if_neg, q_push_I, q_push_L, q_push_P, q_push_U]
      repeat' first | exact fin | (refine And.intro ?_ ?_) | exact True.intro | omega | rfl
theorem m_dead71 {z2 z3 z4 z5 : q_V} {W X : Int} (hG : gok G) (h30 : 1 ≤ v 137 30 ∧ v 137 30 ≤ 3) (hW : -1000000 ≤ W ∧ W ≤ 6) (fin : Q (.inr (.inr (.inr ()))) v G) : q_wp (d + 4) 182 71 [.inr (.inr (.inl (some 137))), .inl W, z2, z3, z4, z5] [.inl X] v G Q := by
  have en : ∀ (lo hi : Int) (d' : Nat) (Q' : q_V → q_H → q_Gr → Prop), q_call (d' + 1) 180 [.inr (.inr (.inl (some 137))), .inl lo, .inl hi] v G Q' = Q' (.inl 0) v G := fun lo hi d' Q' => m_numD hG h30
  by_cases c3 : W = 3
  · simp (disch := omega) only [e_182_71, e_182_73, e_182_74, e_182_75, e_182_78, e_182_80, e_182_83, e_182_84, e_182_85, e_182_88, e_182_89, e_182_90, e_182_92, e_182_95, e_182_98, e_182_99, e_182_101, e_182_104, e_182_107, e_182_109, e_182_110, e_182_113, e_182_133, e_182_134, e_182_137, e_182_202, SHM hG, en, ↓if_pos, ↓if_neg, q_push_I, q_push_L, q_push_P, q_push_U]
    repeat' first | exact fin | (refine And.intro ?_ ?_) | exact True.intro | omega | rfl
  · by_cases c2 : W = 2
    · simp (disch := omega) only [e_182_71, e_182_73, e_182_74, e_182_75, e_182_78, e_182_80, e_182_83, e_182_84, e_182_85, e_182_88, e_182_89, e_182_90, e_182_92, e_182_95, e_182_98, e_182_99, e_182_101, e_182_104, e_182_107, e_182_109, e_182_110, e_182_113, e_182_133, e_182_134, e_182_137, e_182_202, SHM hG, en, ↓if_pos, ↓if_neg, q_push_I, q_push_L, q_push_P, q_push_U]
      repeat' first | exact fin | (refine And.intro ?_ ?_) | exact True.intro | omega | rfl
    · simp (disch := omega) only [e_182_71, e_182_73, e_182_74, e_182_75, e_182_78, e_182_80, e_182_83, e_182_84, e_182_85, e_182_88, e_182_89, e_182_90, e_182_92, e_182_95, e_182_98, e_182_99, e_182_101, e_182_104, e_182_107, e_182_109, e_182_110, e_182_113, e_182_133, e_182_134, e_182_137, e_182_202, SHM hG, en, ↓if_pos, ↓if_neg, q_push_I, q_push_L, q_push_P, q_push_U]
      repeat' first | exact fin | (refine And.intro ?_ ?_) | exact True.intro | omega | rfl
theorem m_dead107 {z1 z2 z3 z4 z5 : q_V} {X : Int} (hG : gok G) (h30 : 1 ≤ v 137 30 ∧ v 137 30 ≤ 3) (fin : Q (.inr (.inr (.inr ()))) v G) : q_wp (d + 4) 182 107 [.inr (.inr (.inl (some 137))), z1, z2, z3, z4, z5] [.inl X] v G Q := by
  simp (disch := omega) only [e_182_107, e_182_109, e_182_110, e_182_113, e_182_133, e_182_134, e_182_137, e_182_202, SHM hG, ↓if_pos, ↓if_neg, q_push_I, q_push_L, q_push_P, q_push_U]
  repeat' first | exact fin | (refine And.intro ?_ ?_) | exact True.intro | omega | rfl
/-- the end of an act -/
theorem m_live107 {f : Nat → Int} {N c k a : Nat} {w x0 x1 x2 x3 : Int} {z5 : q_V} {ns : List Int} {v0 : q_H} (hG : gok G) (ht : tpM v0 f N) (hc : c ≤ N) (hw : 0 ≤ w ∧ w ≤ 6) (ha : v0 137 21 = (a : Int)) (ha2 : a < 12) (h30 : v 137 30 = 0) (hm : mwf v v0) (tk : tokM v f N c) (h0 : 0 ≤ x0 ∧ x0 ≤ 999) (h1 : 0 ≤ x1 ∧ x1 ≤ 999) (h2 : 0 ≤ x2 ∧ x2 ≤ 999) (h3 : 0 ≤ x3 ∧ x3 ≤ 999)
  (hD : ∀ (ft : Int) (pl : Nat) v', rdN f N w 0 k c ns = .inl (ft, pl) → 1 ≤ ft → ft ≤ 3 → mwf v' v0 → v' 137 30 = ft → v' 137 31 = (pl : Int) → Q (.inr (.inr (.inr ()))) v' G)
  (hL : ∀ v', rdN f N w 0 k c ns = .inr (ns, tkE f N c) → mwf v' v0 → v' 137 30 = 0 → tokM v' f N (tkE f N c) → Q (.inr (.inr (.inr ()))) (mst v' a w x0 x1 x2 x3) G) : q_wp (d + 4) 182 107 [.inr (.inr (.inl (some 137))), .inl w, .inl x0, .inl x1, .inl x2, z5] [.inl x3] v G Q := by
  obtain ⟨t1, t2, t3, t4⟩ := tk
  have te := tkE_ok (f := f) hc
  have kr := tkK_rng f N c
  have ht' : tpM v f N := tpM_fr (hm.2 25 (by omega)) (hm.1 154 (by omega)) ht
  by_cases c3 : tkK f N c = 3
  · have e27 : v 137 27 = 4 := by rw [t1, c3]; rfl
    have key : q_call (d + 4) 178 [.inr (.inr (.inl (some 137))), .inl 1] v G (fun r v' G' => q_wp (d + 4) 182 133 [.inr (.inr (.inl (some 137))), .inl w, .inl x0, .inl x1, .inl x2, .inl x3] (q_push r []) v' G' Q) := m_must1 hG h30 ht' te.2.1 t4 (fun v' f1 f1q tk' => by
      have fin := hL v' (by
        show (if tkK f N c = 3 then Sum.inr (ns, tkE f N c) else .inl (1, tkS f N c)) = _
        rw [if_pos c3]) (mwf_tr hm ⟨f1, fun j hj => f1q j (by omega)⟩) (by rw [f1q 30 (by omega), h30]) tk'
      have x30 : v' 137 30 = 0 := by rw [f1q 30 (by omega), h30]
      have x21 : v' 137 21 = (a : Int) := by rw [f1q 21 (by omega), hm.2 21 (by omega), ha]
      unfold mst at fin
      clear hL hD
      simp (disch := omega) only [e_182_133, e_182_134, e_182_137, e_182_140, e_182_141, e_182_144, e_182_145, e_182_148, e_182_149, e_182_150, e_182_151, e_182_154, e_182_155, e_182_158, e_182_159, e_182_160, e_182_161, e_182_164, e_182_165, e_182_168, e_182_169, e_182_170, e_182_171, e_182_174, e_182_175, e_182_178, e_182_180, e_182_181, e_182_182, e_182_185, e_182_186, e_182_189, e_182_191, e_182_192, e_182_193, e_182_194, e_182_197, e_182_198, e_182_199, e_182_202, SHM hG, x30, x21, u_n, ↓if_pos, ↓if_neg, q_push_I, q_push_L, q_push_P, q_push_U, Int.toNat_natCast]
      repeat' first | exact fin | (refine And.intro ?_ ?_) | exact True.intro | omega | rfl)
    clear hL hD
    simp (disch := omega) only [e_182_107, e_182_109, e_182_110, e_182_113, e_182_116, e_182_117, e_182_118, e_182_121, e_182_122, e_182_125, e_182_126, e_182_129, e_182_130, SHM hG, h30, e27, ↓if_pos, ↓if_neg, q_push_I, q_push_L, q_push_P, q_push_U]
    repeat' first | (refine And.intro ?_ ?_) | exact True.intro | omega | assumption | rfl
  · have e27 : v 137 27 ≠ 4 ∧ 0 ≤ v 137 27 ∧ v 137 27 ≤ 5 := by
      rw [t1]
      unfold mkK
      split <;> omega
    have fin := hD 1 (tkS f N c) (q_up (q_up v 137 30 1) 137 31 (tkS f N c)) (by
        show (if tkK f N c = 3 then Sum.inr (ns, tkE f N c) else .inl (1, tkS f N c)) = _
        rw [if_neg c3]) (by decide) (by decide) (mwf_tr hm mwf_bad) (by rw [u_n (by omega), u_s rfl rfl]) (u_s rfl rfl)
    have em : ∀ (d' : Nat) (Q' : q_V → q_H → q_Gr → Prop), q_call (d' + 2) 178 [.inr (.inr (.inl (some 137))), .inl 0] v G Q' = Q' (.inr (.inr (.inr ()))) (q_up (q_up v 137 30 1) 137 31 (tkS f N c)) G := fun d' Q' => by rw [m_must0 hG h30, t2]
    have x30 : q_up (q_up v 137 30 1) 137 31 (tkS f N c) 137 30 = 1 := by rw [u_n (by omega), u_s rfl rfl]
    clear hL hD
    simp (disch := omega) only [e_182_107, e_182_109, e_182_110, e_182_113, e_182_116, e_182_117, e_182_118, e_182_121, e_182_122, e_182_125, e_182_126, e_182_129, e_182_130, e_182_133, e_182_134, e_182_137, e_182_202, SHM hG, h30, x30, em, ↓if_pos, ↓if_neg, q_push_I, q_push_L, q_push_P, q_push_U]
    repeat' first | exact fin | (refine And.intro ?_ ?_) | exact True.intro | omega | rfl
/-- readAct -/
theorem m_ract {f : Nat → Int} {N c a : Nat} (hG : gok G) (ht : tpM v f N) (hc : c ≤ N) (ha : v 137 21 = (a : Int)) (ha2 : a ≤ 12) (h30 : v 137 30 = 0) (tk : tokM v f N c)
  (hD : ∀ (ft : Int) (pl : Nat) v', rdA f N c a = .inl (ft, pl) → 1 ≤ ft → ft ≤ 3 → mwf v' v → v' 137 30 = ft → v' 137 31 = (pl : Int) → Q (.inr (.inr (.inr ()))) v' G)
  (hL : ∀ v' (x : (Int × List Int) × Nat), rdA f N c a = .inr x → mwf v' v → v' 137 30 = 0 → tokM v' f N x.2 → x.2 ≤ N → Q (.inr (.inr (.inr ()))) (mst v' a x.1.1 (acA x.1.2) (acB x.1.1 x.1.2) (acL x.1.1 x.1.2) (acH x.1.1 x.1.2)) G) : q_call (d + 5) 182 [.inr (.inr (.inl (some 137)))] v G Q := by
  have te := tkE_ok (f := f) hc
  have wr := wrd_rng f (tkS f N c) (tkE f N c)
  have wA : -1 ≤ wdA f N c ∧ wdA f N c ≤ 6 := by
    unfold wdA
    split <;> omega
  have ew : ∀ (d' : Nat) (Q' : q_V → q_H → q_Gr → Prop), q_call (d' + 2) 181 [.inr (.inr (.inl (some 137)))] v G Q' = Q' (.inl (if wdA f N c < 0 then -1000000 else wdA f N c)) v G := fun d' Q' => by
    rw [m_word hG ht hc tk]
    unfold wdA
    by_cases c1 : tkK f N c = 1
    · rw [if_pos c1, if_pos c1]
    · rw [if_neg c1, if_neg c1, if_pos (by decide)]
  by_cases cw : wdA f N c < 0
  · rw [if_pos cw] at ew
    have em : ∀ (d' : Nat) (Q' : q_V → q_H → q_Gr → Prop), q_call (d' + 2) 178 [.inr (.inr (.inl (some 137))), .inl 0] v G Q' = Q' (.inr (.inr (.inr ()))) (q_up (q_up v 137 30 1) 137 31 (tkS f N c)) G := fun d' Q' => by rw [m_must0 hG h30, tk.2.1]
    have fin := hD 1 (tkS f N c) (q_up (q_up v 137 30 1) 137 31 (tkS f N c)) (by unfold rdA; rw [if_pos cw]) (by decide) (by decide) mwf_bad (by rw [u_n (by omega), u_s rfl rfl]) (u_s rfl rfl)
    have x30 : 1 ≤ q_up (q_up v 137 30 1) 137 31 (tkS f N c) 137 30 ∧ q_up (q_up v 137 30 1) 137 31 (tkS f N c) 137 30 ≤ 3 := by
      rw [u_n (by omega), u_s rfl rfl]
      decide
    have nx := m_dead46 (d := d) (W := -1000000) (X := 0) (z2 := .inr (.inr (.inr ()))) (z3 := .inr (.inr (.inr ()))) (z4 := .inr (.inr (.inr ()))) (z5 := .inr (.inr (.inr ()))) (w := .inr (.inr (.inr ()))) (x := .inr (.inr (.inr ()))) hG x30 (by decide) fin
    have en : ∀ (lo hi : Int) (d' : Nat) (Q' : q_V → q_H → q_Gr → Prop), q_call (d' + 1) 180 [.inr (.inr (.inl (some 137))), .inl lo, .inl hi] (q_up (q_up v 137 30 1) 137 31 (tkS f N c)) G Q' = Q' (.inl 0) (q_up (q_up v 137 30 1) 137 31 (tkS f N c)) G := fun lo hi d' Q' => m_numD hG x30
    clear hL hD
    simp (disch := omega) only [e_182, e_182_0, e_182_1, e_182_4, e_182_5, e_182_6, e_182_8, e_182_25, e_182_26, e_182_27, e_182_29, e_182_32, e_182_33, e_182_36, e_182_37, e_182_40, e_182_41, e_182_42, e_182_43, SHM hG, ew, em, en, ↓if_pos, ↓if_neg, q_push_I, q_push_L, q_push_P, q_push_U]
    repeat' first | (refine And.intro ?_ ?_) | exact True.intro | omega | assumption | rfl
  · rw [if_neg cw] at ew
    by_cases c12 : 12 ≤ a
    · have eb : ∀ (d' : Nat) (Q' : q_V → q_H → q_Gr → Prop), q_call (d' + 1) 177 [.inr (.inr (.inl (some 137))), .inl 3] v G Q' = Q' (.inr (.inr (.inr ()))) (q_up (q_up v 137 30 3) 137 31 (tkS f N c)) G := fun d' Q' => by rw [m_bad hG h30 (by decide), tk.2.1]
      have fin := hD 3 (tkS f N c) (q_up (q_up v 137 30 3) 137 31 (tkS f N c)) (by unfold rdA; rw [if_neg cw, if_pos (by omega)]) (by decide) (by decide) mwf_bad (by rw [u_n (by omega), u_s rfl rfl]) (u_s rfl rfl)
      have x30 : 1 ≤ q_up (q_up v 137 30 3) 137 31 (tkS f N c) 137 30 ∧ q_up (q_up v 137 30 3) 137 31 (tkS f N c) 137 30 ≤ 3 := by
        rw [u_n (by omega), u_s rfl rfl]
        decide
      have nx := m_dead46 (d := d) (W := wdA f N c) (X := 0) (z2 := .inr (.inr (.inr ()))) (z3 := .inr (.inr (.inr ()))) (z4 := .inr (.inr (.inr ()))) (z5 := .inr (.inr (.inr ()))) (w := .inr (.inr (.inr ()))) (x := .inr (.inr (.inr ()))) hG x30 (by omega) fin
      have en : ∀ (lo hi : Int) (d' : Nat) (Q' : q_V → q_H → q_Gr → Prop), q_call (d' + 1) 180 [.inr (.inr (.inl (some 137))), .inl lo, .inl hi] (q_up (q_up v 137 30 3) 137 31 (tkS f N c)) G Q' = Q' (.inl 0) (q_up (q_up v 137 30 3) 137 31 (tkS f N c)) G := fun lo hi d' Q' => m_numD hG x30
      have em : ∀ (d' : Nat) (Q' : q_V → q_H → q_Gr → Prop), q_call (d' + 2) 178 [.inr (.inr (.inl (some 137))), .inl 1] (q_up (q_up v 137 30 3) 137 31 (tkS f N c)) G Q' = Q' (.inr (.inr (.inr ()))) (q_up (q_up v 137 30 3) 137 31 (tkS f N c)) G := fun d' Q' => m_mustD hG (by decide) x30
      clear hL hD
      simp (disch := omega) only [e_182, e_182_0, e_182_1, e_182_4, e_182_5, e_182_6, e_182_8, e_182_11, e_182_12, e_182_15, e_182_17, e_182_20, e_182_21, e_182_22, e_182_25, e_182_26, e_182_27, e_182_29, e_182_32, e_182_33, e_182_36, e_182_37, e_182_40, e_182_41, e_182_42, e_182_43, SHM hG, ew, ha, eb, em, en, ↓if_pos, ↓if_neg, q_push_I, q_push_L, q_push_P, q_push_U]
      repeat' first | (refine And.intro ?_ ?_) | exact True.intro | omega | assumption | rfl
    · have hrd : ∀ y, rdN f N (wdA f N c) (nOf (wdA f N c)) 0 (tkE f N c) [] = y → rdA f N c a = (match y with
          | .inl e => .inl e
          | .inr r => .inr ((wdA f N c, r.1), r.2)) := fun y hy => by
        unfold rdA
        rw [if_neg cw, if_neg (by omega), hy]
        cases y <;> rfl
      have hD' : ∀ (ft : Int) (pl : Nat) v', rdN f N (wdA f N c) (nOf (wdA f N c)) 0 (tkE f N c) [] = .inl (ft, pl) → 1 ≤ ft → ft ≤ 3 → mwf v' v → v' 137 30 = ft → v' 137 31 = (pl : Int) → Q (.inr (.inr (.inr ()))) v' G := fun ft pl v' h => hD ft pl v' (hrd _ h)
      have hL' : ∀ v' (r : List Int × Nat), rdN f N (wdA f N c) (nOf (wdA f N c)) 0 (tkE f N c) [] = .inr r → mwf v' v → v' 137 30 = 0 → tokM v' f N r.2 → r.2 ≤ N → Q (.inr (.inr (.inr ()))) (mst v' a (wdA f N c) (acA r.1) (acB (wdA f N c) r.1) (acL (wdA f N c) r.1) (acH (wdA f N c) r.1)) G := fun v' r h => hL v' ((wdA f N c, r.1), r.2) (hrd _ h)
      clear hD hL hrd
      generalize wdA f N c = w at *
      have hw : 0 ≤ w ∧ w ≤ 6 := by omega
      have tpf : ∀ v', mwf v' v → tpM v' f N := fun v' hm => tpM_fr (hm.2 25 (by omega)) (hm.1 154 (by omega)) ht
      have e2 := te.2.1
      have key : q_call (d + 4) 178 [.inr (.inr (.inl (some 137))), .inl 1] v G (fun r v' G' => q_wp (d + 4) 182 40 [.inr (.inr (.inl (some 137))), .inl w, .inr (.inr (.inr ())), .inr (.inr (.inr ())), .inr (.inr (.inr ())), .inr (.inr (.inr ()))] (q_push r []) v' G' Q) := m_must1 hG h30 ht te.2.1 tk.2.2.2 (fun v1 f1 f1q tk1 => by
        have m1 : mwf v1 v := ⟨f1, fun j hj => f1q j (by omega)⟩
        have x1 : v1 137 30 = 0 := by rw [f1q 30 (by omega), h30]
        generalize tkE f N c = c1 at *
        have te1 := tkE_ok (f := f) e2
        have k1 : q_call (d + 4) 180 [.inr (.inr (.inl (some 137))), .inl 0, .inl 2] v1 G (fun r v' G' => q_wp (d + 4) 182 46 [.inr (.inr (.inl (some 137))), .inl w, .inr (.inr (.inr ())), .inr (.inr (.inr ())), .inr (.inr (.inr ())), .inr (.inr (.inr ()))] (q_push r []) v' G' Q) := by
          by_cases c4 : w < 4
          · have eh : ∀ k, k = 0 → bhi w k = 2 := fun k hk => by unfold bhi; rw [if_pos (by omega)]
            by_cases c3 : w = 3
            · -- two numbers
              have en : nOf w = 2 := by unfold nOf; rw [if_neg (by omega), if_pos c3]
              rw [en] at hD' hL'
              refine m_num (m := 1) (k := 0) (w := w) (ns := []) hG (tpf _ m1) e2 x1 tk1 (by unfold blo; rw [if_pos (by omega)]) (by unfold bhi; rw [if_pos (by omega)]) (by decide) (by decide) (fun ft x v' hr g1 g2 hm y30 y31 => ?_) (fun v2 hr g1 g2 hm x2 tk2 => ?_)
              · exact m_dead46 (w := .inr (.inr (.inr ()))) (x := .inr (.inr (.inr ()))) hG (by omega) (by omega) (hD' ft _ v' hr g1 g2 (mwf_tr m1 hm) y30 y31)
              rw [hr] at hD' hL'
              have m2 := mwf_tr m1 hm
              generalize tkV f N c1 = n0 at *
              have e3 := te1.2.1
              generalize tkE f N c1 = c2 at *
              have te2 := tkE_ok (f := f) e3
              have k2 : q_call (d + 4) 180 [.inr (.inr (.inl (some 137))), .inl 0, .inl 999] v2 G (fun r v' G' => q_wp (d + 4) 182 71 [.inr (.inr (.inl (some 137))), .inl w, .inl n0, .inl n0, .inr (.inr (.inr ())), .inr (.inr (.inr ()))] (q_push r []) v' G' Q) := by
                refine m_num (m := 0) (k := 1) (w := w) (ns := [n0]) hG (tpf _ m2) e3 x2 tk2 (by unfold blo; rw [if_neg (by omega), if_neg (by omega), if_neg (by omega)]) (by unfold bhi; rw [if_neg (by omega), if_neg (by omega)]) (by decide) (by decide) (fun ft x v' hr' g1 g2 hm y30 y31 => ?_) (fun v3 hr' g3 g4 hm x3 tk3 => ?_)
                · exact m_dead71 hG (by omega) (by omega) (hD' ft _ v' hr' g1 g2 (mwf_tr m2 hm) y30 y31)
                have hr' : rdN f N w 1 1 c2 [n0] = rdN f N w 0 2 (tkE f N c2) [n0, tkV f N c2] := hr'
                have hD' : ∀ (ft : Int) (pl : Nat) v', rdN f N w 1 1 c2 [n0] = .inl (ft, pl) → 1 ≤ ft → ft ≤ 3 → mwf v' v → v' 137 30 = ft → v' 137 31 = (pl : Int) → Q (.inr (.inr (.inr ()))) v' G := hD'
                have hL' : ∀ v' (r : List Int × Nat), rdN f N w 1 1 c2 [n0] = .inr r → mwf v' v → v' 137 30 = 0 → tokM v' f N r.2 → r.2 ≤ N → Q (.inr (.inr (.inr ()))) (mst v' a w (acA r.1) (acB w r.1) (acL w r.1) (acH w r.1)) G := hL'
                rw [hr'] at hD' hL'
                have m3 := mwf_tr m2 hm
                generalize tkV f N c2 = n1 at *
                have e4 := te2.2.1
                generalize tkE f N c2 = c3' at *
                have nx := m_live107 (d := d) (Q := Q) (z5 := .inr (.inr (.inr ()))) (k := 2) (ns := [n0, n1]) (w := w) (x0 := n0) (x1 := n0) (x2 := n1) (x3 := n1) hG ht e4 hw ha (by omega) x3 m3 tk3 (by omega) (by omega) (by omega) (by omega) hD' (fun v' hr x y z => by
                  have fin := hL' v' _ hr x y z (tkE_ok (f := f) e4).2.1
                  unfold acA acB acL acH at fin
                  rw [if_neg (by omega), if_neg (by omega), if_neg (by omega), if_pos c3] at fin
                  exact fin)
                clear hD' hL'
                simp (disch := omega) only [e_182_71, e_182_73, e_182_74, e_182_75, e_182_78, e_182_80, ↓if_pos, ↓if_neg, q_push_I, q_push_L, q_push_P, q_push_U]
                repeat' first | (refine And.intro ?_ ?_) | exact True.intro | omega | assumption | rfl
              clear hD' hL'
              simp (disch := omega) only [e_182_46, e_182_47, e_182_48, e_182_49, e_182_52, e_182_53, e_182_56, e_182_57, e_182_58, e_182_59, e_182_62, e_182_63, e_182_64, e_182_65, e_182_68, ↓if_pos, ↓if_neg, q_push_I, q_push_L, q_push_P, q_push_U]
              repeat' first | (refine And.intro ?_ ?_) | exact True.intro | omega | assumption | rfl
            · -- three numbers
              have en : nOf w = 3 := by unfold nOf; rw [if_neg (by omega), if_neg c3]
              rw [en] at hD' hL'
              refine m_num (m := 2) (k := 0) (w := w) (ns := []) hG (tpf _ m1) e2 x1 tk1 (by unfold blo; rw [if_pos (by omega)]) (by unfold bhi; rw [if_pos (by omega)]) (by decide) (by decide) (fun ft x v' hr g1 g2 hm y30 y31 => ?_) (fun v2 hr g1 g2 hm x2 tk2 => ?_)
              · exact m_dead46 (w := .inr (.inr (.inr ()))) (x := .inr (.inr (.inr ()))) hG (by omega) (by omega) (hD' ft _ v' hr g1 g2 (mwf_tr m1 hm) y30 y31)
              rw [hr] at hD' hL'
              have m2 := mwf_tr m1 hm
              generalize tkV f N c1 = n0 at *
              have e3 := te1.2.1
              generalize tkE f N c1 = c2 at *
              have te2 := tkE_ok (f := f) e3
              have k2 : q_call (d + 4) 180 [.inr (.inr (.inl (some 137))), .inl 0, .inl 999] v2 G (fun r v' G' => q_wp (d + 4) 182 71 [.inr (.inr (.inl (some 137))), .inl w, .inl n0, .inl n0, .inr (.inr (.inr ())), .inr (.inr (.inr ()))] (q_push r []) v' G' Q) := by
                refine m_num (m := 1) (k := 1) (w := w) (ns := [n0]) hG (tpf _ m2) e3 x2 tk2 (by unfold blo; rw [if_neg (by omega), if_neg (by omega), if_neg (by omega)]) (by unfold bhi; rw [if_neg (by omega), if_neg (by omega)]) (by decide) (by decide) (fun ft x v' hr' g1 g2 hm y30 y31 => ?_) (fun v3 hr' g3 g4 hm x3 tk3 => ?_)
                · exact m_dead71 hG (by omega) (by omega) (hD' ft _ v' hr' g1 g2 (mwf_tr m2 hm) y30 y31)
                have hr' : rdN f N w 2 1 c2 [n0] = rdN f N w 1 2 (tkE f N c2) [n0, tkV f N c2] := hr'
                have hD' : ∀ (ft : Int) (pl : Nat) v', rdN f N w 2 1 c2 [n0] = .inl (ft, pl) → 1 ≤ ft → ft ≤ 3 → mwf v' v → v' 137 30 = ft → v' 137 31 = (pl : Int) → Q (.inr (.inr (.inr ()))) v' G := hD'
                have hL' : ∀ v' (r : List Int × Nat), rdN f N w 2 1 c2 [n0] = .inr r → mwf v' v → v' 137 30 = 0 → tokM v' f N r.2 → r.2 ≤ N → Q (.inr (.inr (.inr ()))) (mst v' a w (acA r.1) (acB w r.1) (acL w r.1) (acH w r.1)) G := hL'
                rw [hr'] at hD' hL'
                have m3 := mwf_tr m2 hm
                generalize tkV f N c2 = n1 at *
                have e4 := te2.2.1
                generalize tkE f N c2 = c3' at *
                have te3 := tkE_ok (f := f) e4
                have k3 : ∀ lo hi, lo = blo w 2 n1 → hi = bhi w 2 → (0 ≤ lo ∧ lo ≤ 999) → (0 ≤ hi ∧ hi ≤ 999) → q_call (d + 4) 180 [.inr (.inr (.inl (some 137))), .inl lo, .inl hi] v3 G (fun r v' G' => q_wp (d + 4) 182 107 [.inr (.inr (.inl (some 137))), .inl w, .inl n0, .inl n0, .inl n1, .inr (.inr (.inr ()))] (q_push r []) v' G' Q) := fun lo hi el eh' hl hh => by
                  refine m_num (m := 0) (k := 2) (w := w) (ns := [n0, n1]) hG (tpf _ m3) e4 x3 tk3 el eh' hl hh (fun ft x v' hr' g1 g2 hm y30 y31 => ?_) (fun v4 hr' g5 g6 hm x4 tk4 => ?_)
                  · exact m_dead107 hG (by omega) (hD' ft _ v' hr' g1 g2 (mwf_tr m3 hm) y30 y31)
                  have hr' : rdN f N w 1 2 c3' [n0, n1] = rdN f N w 0 3 (tkE f N c3') [n0, n1, tkV f N c3'] := hr'
                  rw [hr'] at hD' hL'
                  have m4 := mwf_tr m3 hm
                  generalize tkV f N c3' = n2 at *
                  have e5 := te3.2.1
                  generalize tkE f N c3' = c4' at *
                  exact m_live107 (d := d) (Q := Q) (z5 := .inr (.inr (.inr ()))) (k := 3) (ns := [n0, n1, n2]) (w := w) (x0 := n0) (x1 := n0) (x2 := n1) (x3 := n2) hG ht e5 hw ha (by omega) x4 m4 tk4 (by omega) (by omega) (by omega) (by omega) hD' (fun v' hr x y z => by
                    have fin := hL' v' _ hr x y z (tkE_ok (f := f) e5).2.1
                    unfold acA acB acL acH at fin
                    rw [if_neg (by omega), if_neg (by omega), if_neg (by omega), if_neg c3] at fin
                    exact fin)
                clear hD' hL'
                by_cases c2' : w = 2
                · have k3 := k3 1 14 (by unfold blo; rw [if_neg (by omega), if_pos (by omega)]) (by unfold bhi; rw [if_neg (by omega), if_pos (by omega)]) (by decide) (by decide)
                  simp (disch := omega) only [e_182_71, e_182_73, e_182_74, e_182_75, e_182_78, e_182_80, e_182_83, e_182_84, e_182_85, e_182_88, e_182_89, e_182_90, e_182_92, e_182_95, ↓if_pos, ↓if_neg, q_push_I, q_push_L, q_push_P, q_push_U]
                  repeat' first | (refine And.intro ?_ ?_) | exact True.intro | omega | assumption | rfl
                · have k3 := k3 n1 999 (by unfold blo; rw [if_neg (by omega), if_neg (by omega), if_pos (by omega)]) (by unfold bhi; rw [if_neg (by omega), if_neg (by omega)]) (by omega) (by decide)
                  simp (disch := omega) only [e_182_71, e_182_73, e_182_74, e_182_75, e_182_78, e_182_80, e_182_83, e_182_84, e_182_85, e_182_98, e_182_99, e_182_101, e_182_104, ↓if_pos, ↓if_neg, q_push_I, q_push_L, q_push_P, q_push_U]
                  repeat' first | (refine And.intro ?_ ?_) | exact True.intro | omega | assumption | rfl
              clear hD' hL'
              simp (disch := omega) only [e_182_46, e_182_47, e_182_48, e_182_49, e_182_52, e_182_53, e_182_56, e_182_57, e_182_58, e_182_59, e_182_62, e_182_63, e_182_64, e_182_65, e_182_68, ↓if_pos, ↓if_neg, q_push_I, q_push_L, q_push_P, q_push_U]
              repeat' first | (refine And.intro ?_ ?_) | exact True.intro | omega | assumption | rfl
          · -- four numbers
            have en : nOf w = 4 := by unfold nOf; rw [if_pos (by omega)]
            rw [en] at hD' hL'
            refine m_num (m := 3) (k := 0) (w := w) (ns := []) hG (tpf _ m1) e2 x1 tk1 (by unfold blo; rw [if_pos (by omega)]) (by unfold bhi; rw [if_pos (by omega)]) (by decide) (by decide) (fun ft x v' hr g1 g2 hm y30 y31 => ?_) (fun v2 hr g1 g2 hm x2 tk2 => ?_)
            · exact m_dead46 (w := .inr (.inr (.inr ()))) (x := .inr (.inr (.inr ()))) hG (by omega) (by omega) (hD' ft _ v' hr g1 g2 (mwf_tr m1 hm) y30 y31)
            rw [hr] at hD' hL'
            have m2 := mwf_tr m1 hm
            generalize tkV f N c1 = n0 at *
            have e3 := te1.2.1
            generalize tkE f N c1 = c2 at *
            have te2 := tkE_ok (f := f) e3
            have k2 : q_call (d + 4) 180 [.inr (.inr (.inl (some 137))), .inl 0, .inl 2] v2 G (fun r v' G' => q_wp (d + 4) 182 62 [.inr (.inr (.inl (some 137))), .inl w, .inl n0, .inr (.inr (.inr ())), .inr (.inr (.inr ())), .inr (.inr (.inr ()))] (q_push r []) v' G' Q) := by
              refine m_num (m := 2) (k := 1) (w := w) (ns := [n0]) hG (tpf _ m2) e3 x2 tk2 (by unfold blo; rw [if_pos (by omega)]) (by unfold bhi; rw [if_pos (by omega)]) (by decide) (by decide) (fun ft x v' hr' g1 g2 hm y30 y31 => ?_) (fun v3 hr' g3 g4 hm x3 tk3 => ?_)
              · exact m_dead62 hG (by omega) (by omega) (hD' ft _ v' hr' g1 g2 (mwf_tr m2 hm) y30 y31)
              have hr' : rdN f N w 3 1 c2 [n0] = rdN f N w 2 2 (tkE f N c2) [n0, tkV f N c2] := hr'
              have hD' : ∀ (ft : Int) (pl : Nat) v', rdN f N w 3 1 c2 [n0] = .inl (ft, pl) → 1 ≤ ft → ft ≤ 3 → mwf v' v → v' 137 30 = ft → v' 137 31 = (pl : Int) → Q (.inr (.inr (.inr ()))) v' G := hD'
              have hL' : ∀ v' (r : List Int × Nat), rdN f N w 3 1 c2 [n0] = .inr r → mwf v' v → v' 137 30 = 0 → tokM v' f N r.2 → r.2 ≤ N → Q (.inr (.inr (.inr ()))) (mst v' a w (acA r.1) (acB w r.1) (acL w r.1) (acH w r.1)) G := hL'
              rw [hr'] at hD' hL'
              have m3 := mwf_tr m2 hm
              generalize tkV f N c2 = n1 at *
              have e4 := te2.2.1
              generalize tkE f N c2 = c3' at *
              have te3 := tkE_ok (f := f) e4
              have k3 : q_call (d + 4) 180 [.inr (.inr (.inl (some 137))), .inl 0, .inl 999] v3 G (fun r v' G' => q_wp (d + 4) 182 71 [.inr (.inr (.inl (some 137))), .inl w, .inl n0, .inl n1, .inr (.inr (.inr ())), .inr (.inr (.inr ()))] (q_push r []) v' G' Q) := by
                refine m_num (m := 1) (k := 2) (w := w) (ns := [n0, n1]) hG (tpf _ m3) e4 x3 tk3 (by unfold blo; rw [if_neg (by omega), if_neg (by omega), if_neg (by omega)]) (by unfold bhi; rw [if_neg (by omega), if_neg (by omega)]) (by decide) (by decide) (fun ft x v' hr' g1 g2 hm y30 y31 => ?_) (fun v4 hr' g5 g6 hm x4 tk4 => ?_)
                · exact m_dead71 hG (by omega) (by omega) (hD' ft _ v' hr' g1 g2 (mwf_tr m3 hm) y30 y31)
                have hr' : rdN f N w 2 2 c3' [n0, n1] = rdN f N w 1 3 (tkE f N c3') [n0, n1, tkV f N c3'] := hr'
                rw [hr'] at hD' hL'
                have m4 := mwf_tr m3 hm
                generalize tkV f N c3' = n2 at *
                have e5 := te3.2.1
                generalize tkE f N c3' = c4' at *
                have te4 := tkE_ok (f := f) e5
                have k4 : q_call (d + 4) 180 [.inr (.inr (.inl (some 137))), .inl n2, .inl 999] v4 G (fun r v' G' => q_wp (d + 4) 182 107 [.inr (.inr (.inl (some 137))), .inl w, .inl n0, .inl n1, .inl n2, .inr (.inr (.inr ()))] (q_push r []) v' G' Q) := by
                  refine m_num (m := 0) (k := 3) (w := w) (ns := [n0, n1, n2]) hG (tpf _ m4) e5 x4 tk4 (by unfold blo; rw [if_neg (by omega), if_neg (by omega), if_pos (by omega)]; rfl) (by unfold bhi; rw [if_neg (by omega), if_neg (by omega)]) (by omega) (by decide) (fun ft x v' hr' g1 g2 hm y30 y31 => ?_) (fun v5 hr' g7 g8 hm x5 tk5 => ?_)
                  · exact m_dead107 hG (by omega) (hD' ft _ v' hr' g1 g2 (mwf_tr m4 hm) y30 y31)
                  have hr' : rdN f N w 1 3 c4' [n0, n1, n2] = rdN f N w 0 4 (tkE f N c4') [n0, n1, n2, tkV f N c4'] := hr'
                  rw [hr'] at hD' hL'
                  have m5 := mwf_tr m4 hm
                  generalize tkV f N c4' = n3 at *
                  have e6 := te4.2.1
                  generalize tkE f N c4' = c5' at *
                  exact m_live107 (d := d) (Q := Q) (z5 := .inr (.inr (.inr ()))) (k := 4) (ns := [n0, n1, n2, n3]) (w := w) (x0 := n0) (x1 := n1) (x2 := n2) (x3 := n3) hG ht e6 hw ha (by omega) x5 m5 tk5 (by omega) (by omega) (by omega) (by omega) hD' (fun v' hr x y z => by
                    have fin := hL' v' _ hr x y z (tkE_ok (f := f) e6).2.1
                    unfold acA acB acL acH at fin
                    rw [if_pos (by omega), if_pos (by omega), if_pos (by omega)] at fin
                    exact fin)
                clear hD' hL'
                simp (disch := omega) only [e_182_71, e_182_73, e_182_74, e_182_75, e_182_78, e_182_80, e_182_83, e_182_84, e_182_85, e_182_98, e_182_99, e_182_101, e_182_104, ↓if_pos, ↓if_neg, q_push_I, q_push_L, q_push_P, q_push_U]
                repeat' first | (refine And.intro ?_ ?_) | exact True.intro | omega | assumption | rfl
              clear hD' hL'
              simp (disch := omega) only [e_182_62, e_182_63, e_182_64, e_182_65, e_182_68, ↓if_pos, ↓if_neg, q_push_I, q_push_L, q_push_P, q_push_U]
              repeat' first | (refine And.intro ?_ ?_) | exact True.intro | omega | assumption | rfl
            clear hD' hL'
            simp (disch := omega) only [e_182_46, e_182_47, e_182_48, e_182_49, e_182_52, e_182_53, e_182_56, e_182_57, e_182_58, e_182_59, ↓if_pos, ↓if_neg, q_push_I, q_push_L, q_push_P, q_push_U]
            repeat' first | (refine And.intro ?_ ?_) | exact True.intro | omega | assumption | rfl
        clear hD' hL'
        simp (disch := omega) only [e_182_40, e_182_41, e_182_42, e_182_43, ↓if_pos, ↓if_neg, q_push_I, q_push_L, q_push_P, q_push_U]
        repeat' first | (refine And.intro ?_ ?_) | exact True.intro | omega | assumption | rfl)
      clear hD' hL'
      simp (disch := omega) only [e_182, e_182_0, e_182_1, e_182_4, e_182_5, e_182_6, e_182_8, e_182_11, e_182_12, e_182_15, e_182_17, e_182_20, e_182_21, e_182_22, e_182_25, e_182_26, e_182_27, e_182_29, e_182_32, e_182_33, e_182_36, e_182_37, SHM hG, ew, ha, ↓if_pos, ↓if_neg, q_push_I, q_push_L, q_push_P, q_push_U]
      repeat' first | (refine And.intro ?_ ?_) | exact True.intro | omega | assumption | rfl
end
