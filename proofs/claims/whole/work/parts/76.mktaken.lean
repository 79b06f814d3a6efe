def hadR (v : q_H) (RA : List (Int × Int)) : Prop := v 137 58 = (RA.length : Int) ∧ ∀ (k : Nat) (hk : k < RA.length), v 170 k = RA[k].1 ∧ v 171 k = RA[k].2
def mtf (v' v : q_H) : Prop := (∀ b, b ≠ 137 → b ≠ 159 → ¬ (161 ≤ b ∧ b ≤ 171) → v' b = v b) ∧ (∀ j, j ≠ 37 → ¬ (41 ≤ j ∧ j ≤ 44) → ¬ (54 ≤ j ∧ j ≤ 58) → v' 137 j = v 137 j) ∧ bl5 v'
theorem mtf_tr {v1 v2 v3 : q_H} (h1 : mtf v2 v1) (h2 : mtf v3 v2) : mtf v3 v1 := ⟨fun b b1 b2 b3 => by rw [h2.1 b b1 b2 b3, h1.1 b b1 b2 b3], fun j j1 j2 j3 => by rw [h2.2.1 j j1 j2 j3, h1.2.1 j j1 j2 j3], h2.2.2⟩
theorem mtf_p {v' v : q_H} (h : mpf v' v) : mtf v' v := ⟨fun b b1 _ b3 => h.1 b b1 (by omega), fun j _ j2 j3 => h.2.1 j j2 (by omega), h.2.2⟩
theorem syR_eq {w : Int} {r : Int × Int} {RB : List (Int × Int)} (hw : w = 4 ∨ w = 5 ∨ w = 6) (h : ∀ y, fnd r.1 RB = some y → y ≠ -1000000) : syR w r (oN (fnd r.1 RB)) = if w = 6 then mis1 RB r else mat1 RB r := by
  unfold syR mis1 mat1
  cases hf : fnd r.1 RB with
  | none =>
    have e : oN none = -1000000 := rfl
    rw [e]
    by_cases c : w = 6
    · rw [if_pos (by omega), if_pos rfl, if_pos c]
    · rw [if_neg (by omega), if_neg c]
  | some y =>
    have hy := h y hf
    have e : oN (some y) = y := rfl
    rw [e]
    by_cases c : w = 6
    · rw [if_neg (by omega), if_pos c]
    · rw [if_pos (by omega), if_neg hy, if_neg c]
theorem syR_3 {w : Int} {r : Int × Int} (hw : w ≤ 3) : syR w r (-1000000) = mis1 [] r := by
  unfold syR mis1
  rw [if_pos (Or.inl hw), if_pos rfl]
  rfl
section
variable {d q : Nat} {v : q_H} {G : q_Gr} {Q : q_V → q_H → q_Gr → Prop}
theorem s_mtot {s : RS} {y : Nat} {v0 : q_H} {z1 z2 z3 : q_V} (hG : gok G) (hs : mS v0 s) (hy : y ≤ 16) (h57 : v0 137 57 = (y : Int)) : ∀ (r i : Nat) (v : q_H) (RA : List (Int × Int)) (tot : Int), i + r = y → (∀ b, b ≠ 137 → b ≠ 170 → b ≠ 171 → v b = v0 b) → (∀ j, j ≠ 58 → v 137 j = v0 137 j) → hadR v RA → RA.length + r ≤ 16 → (∀ v', (∀ b, b ≠ 137 → b ≠ 170 → b ≠ 171 → v' b = v0 b) → (∀ j, j ≠ 58 → v' 137 j = v0 137 j) → hadR v' (RA ++ rws s.2.2.1 s.2.2.2.1 s.2.2.2.2 r i) → q_wp d 209 177 [.inr (.inr (.inl (some 137))), z1, z2, z3, .inl (tot + sumA s.2.2.2.2 r i), .inl y] [] v' G Q) → q_wp d 209 71 [.inr (.inr (.inl (some 137))), z1, z2, z3, .inl tot, .inl i] [] v G Q := by
  obtain ⟨s1, s2, s3, s4, s5⟩ := hs
  intro r
  induction r with
  | zero =>
    intro i v RA tot h hf hj hR hl hC
    have e : i = y := by omega
    subst e
    have fin := hC v hf hj (by show hadR v (RA ++ []); rw [List.append_nil]; exact hR)
    unfold sumA at fin
    rw [Int.add_zero] at fin
    have w57 : v 137 57 = (i : Int) := by rw [hj 57 (by omega), h57]
    rw [e_209_71]
    simp (disch := omega) only [e_209_73, e_209_74, e_209_77, SHM hG, w57, ↓if_pos]
    repeat' first | exact fin | (refine And.intro ?_ ?_) | exact True.intro | omega | rfl
  | succ r ih =>
    intro i v RA tot h hf hj hR hl hC
    have w57 : v 137 57 = (y : Int) := by rw [hj 57 (by omega), h57]
    have w43 : v 137 43 = 0 := by rw [hj 43 (by omega), s2]
    have a3 : v 161 i = if s.2.2.1 i then 1 else 0 := by rw [hf 161 (by omega) (by omega) (by omega)]; exact s3 i (by omega)
    have esum : tot + s.2.2.2.2 i + sumA s.2.2.2.2 r (i + 1) = tot + sumA s.2.2.2.2 (r + 1) i := by
      conv => rhs; unfold sumA
      omega
    rw [e_209_71]
    by_cases c : s.2.2.1 i = true
    · have eg : rws s.2.2.1 s.2.2.2.1 s.2.2.2.2 (r + 1) i = [(s.2.2.2.1 i, s.2.2.2.2 i)] ++ rws s.2.2.1 s.2.2.2.1 s.2.2.2.2 r (i + 1) := by
        conv => lhs; unfold rws
        rw [if_pos c]
      rw [eg] at hC
      rw [c, if_pos rfl] at a3
      have a4 : v 162 i = s.2.2.2.1 i := by rw [hf 162 (by omega) (by omega) (by omega)]; exact (s4 i (by omega) c).1
      have a5 : v 163 i = s.2.2.2.2 i := by rw [hf 163 (by omega) (by omega) (by omega)]; exact (s4 i (by omega) c).2
      have h58 := hR.1
      have nx := ih (i + 1) (q_up (q_up (q_up v 170 RA.length (s.2.2.2.1 i)) 171 RA.length (s.2.2.2.2 i)) 137 58 ((RA.length : Int) + 1)) (RA ++ [(s.2.2.2.1 i, s.2.2.2.2 i)]) (tot + s.2.2.2.2 i) (by omega) (fun b b1 b2 b3 => by rw [u_r b1, u_r b3, u_r b2, hf b b1 b2 b3]) (fun j hj' => by rw [u_n (by omega), u_n (by omega), u_n (by omega), hj j hj']) (by
        refine ⟨by rw [u_s rfl rfl, List.length_append]; show _ = ((RA.length + 1 : Nat) : Int); omega, fun k hk => ?_⟩
        rw [List.length_append] at hk
        have hk : k < RA.length + 1 := hk
        rw [List.getElem_append]
        split
        · next hlt =>
          simp (disch := omega) only [u_n]
          exact hR.2 k hlt
        · next hge =>
          have ek : k = RA.length := by omega
          subst ek
          simp (disch := omega) only [u_n, u_s]
          simp) (by rw [List.length_append]; show RA.length + 1 + r ≤ 16; omega) (fun v' h1 h2 h3 => by rw [esum]; exact hC v' h1 h2 (by rw [← List.append_assoc]; exact h3))
      simp (disch := omega) only [e_209_73, e_209_74, e_209_77, e_209_80, e_209_81, e_209_84, e_209_87, e_209_89, e_209_90, e_209_93, e_209_95, e_209_96, e_209_99, e_209_100, e_209_103, e_209_105, e_209_106, e_209_109, e_209_110, e_209_113, e_209_115, e_209_116, e_209_117, e_209_119, e_209_120, e_209_123, e_209_125, e_209_126, e_209_129, e_209_130, e_209_133, e_209_134, e_209_137, e_209_138, e_209_141, e_209_143, e_209_144, e_209_145, e_209_146, e_209_149, e_209_150, e_209_153, e_209_154, e_209_157, e_209_159, e_209_160, e_209_161, e_209_162, e_209_163, e_209_166, e_209_167, e_209_168, e_209_171, e_209_174, SHM hG, w57, w43, a3, a4, a5, h58, u_n, Int.toNat_natCast, ↓if_neg, ↓if_pos, show (i : Int) + 1 = ((i + 1 : Nat) : Int) by omega]
      repeat' first | (refine And.intro ?_ ?_) | exact True.intro | omega | assumption | rfl
    · have eg : rws s.2.2.1 s.2.2.2.1 s.2.2.2.2 (r + 1) i = rws s.2.2.1 s.2.2.2.1 s.2.2.2.2 r (i + 1) := by
        conv => lhs; unfold rws
        rw [if_neg c, List.nil_append]
      rw [eg] at hC
      rw [if_neg c] at a3
      have a5 : v 164 i = s.2.2.2.2 i := by rw [hf 164 (by omega) (by omega) (by omega)]; exact s5 i (by omega) (by simpa using c)
      have nx := ih (i + 1) v RA (tot + s.2.2.2.2 i) (by omega) hf hj hR (by omega) (fun v' h1 h2 h3 => by rw [esum]; exact hC v' h1 h2 h3)
      simp (disch := omega) only [e_209_73, e_209_74, e_209_77, e_209_80, e_209_81, e_209_84, e_209_87, e_209_89, e_209_90, e_209_93, e_209_95, e_209_96, e_209_99, e_209_100, e_209_103, e_209_105, e_209_106, e_209_109, e_209_110, e_209_113, e_209_115, e_209_116, e_209_117, e_209_119, e_209_120, e_209_123, e_209_125, e_209_126, e_209_129, e_209_130, e_209_133, e_209_134, e_209_137, e_209_138, e_209_141, e_209_143, e_209_144, e_209_145, e_209_146, e_209_149, e_209_150, e_209_153, e_209_154, e_209_157, e_209_159, e_209_160, e_209_161, e_209_162, e_209_163, e_209_166, e_209_167, e_209_168, e_209_171, e_209_174, SHM hG, w57, w43, a3, a5, Int.toNat_natCast, ↓if_neg, ↓if_pos, show (i : Int) + 1 = ((i + 1 : Nat) : Int) by omega]
      repeat' first | (refine And.intro ?_ ?_) | exact True.intro | omega | assumption | rfl
/-! the ways out -/
theorem s_m341 {y : Int} {z1 z2 z3 z4 z5 : q_V} (hG : gok G) (hy : v 137 43 = y) (h1 : 1 ≤ y) (h3 : y ≤ 3) (hQ : Q (.inl 0) v G) : q_wp d 209 341 [.inr (.inr (.inl (some 137))), z1, z2, z3, z4, z5] [] v G Q := by
  simp (disch := omega) only [e_209_341, e_209_342, e_209_345, e_209_368, e_209_369, e_209_372, e_209_375, e_209_376, e_209_379, e_209_380, SHM hG, hy, ↓if_neg, ↓if_pos]
  repeat' first | (refine And.intro ?_ ?_) | exact True.intro | omega | assumption | rfl
theorem s_m242 {y : Int} {k : Nat} {z1 z2 z3 z4 : q_V} (hG : gok G) (hk : k < 100) (hh : -1000 ≤ v 137 58 ∧ v 137 58 ≤ 1000) (hy : v 137 43 = y) (h1 : 1 ≤ y) (h3 : y ≤ 3) (hQ : Q (.inl 0) v G) : q_wp d 209 242 [.inr (.inr (.inl (some 137))), z1, z2, z3, z4, .inl k] [] v G Q := by
  have nx := s_m341 (d := d) (z1 := z1) (z2 := z2) (z3 := z3) (z4 := z4) (z5 := .inl k) hG hy h1 h3 hQ
  rw [e_209_242]
  by_cases c : (k : Int) < v 137 58
  · simp (disch := omega) only [e_209_244, e_209_245, e_209_248, e_209_251, e_209_252, e_209_255, SHM hG, hy, ↓if_neg, ↓if_pos]
    repeat' first | (refine And.intro ?_ ?_) | exact True.intro | omega | assumption | rfl
  · simp (disch := omega) only [e_209_244, e_209_245, e_209_248, e_209_251, e_209_252, e_209_255, SHM hG, ↓if_neg, ↓if_pos]
    repeat' first | (refine And.intro ?_ ?_) | exact True.intro | omega | assumption | rfl
theorem s_m213 {y w : Int} {z1 z2 z4 z5 : q_V} (hG : gok G) (hw : 0 ≤ w ∧ w ≤ 6) (hh : -1000 ≤ v 137 58 ∧ v 137 58 ≤ 1000) (hy : v 137 43 = y) (h1 : 1 ≤ y) (h3 : y ≤ 3) (hQ : Q (.inl 0) v G) : q_wp d 209 213 [.inr (.inr (.inl (some 137))), z1, z2, .inl w, z4, z5] [] v G Q := by
  have nx := s_m242 (d := d) (k := 0) (z1 := z1) (z2 := z2) (z3 := .inl w) (z4 := z4) hG (by decide) hh hy h1 h3 hQ
  have nx : q_wp d 209 242 [.inr (.inr (.inl (some 137))), z1, z2, .inl w, z4, .inl 0] [] v G Q := nx
  by_cases c : w = 1
  · simp (disch := omega) only [e_209_213, e_209_214, e_209_215, e_209_218, e_209_219, e_209_222, e_209_239, e_209_240, SHM hG, hy, ↓if_neg, ↓if_pos]
    repeat' first | (refine And.intro ?_ ?_) | exact True.intro | omega | assumption | rfl
  · simp (disch := omega) only [e_209_213, e_209_214, e_209_215, e_209_218, e_209_219, e_209_222, e_209_239, e_209_240, SHM hG, ↓if_neg, ↓if_pos]
    repeat' first | (refine And.intro ?_ ?_) | exact True.intro | omega | assumption | rfl
theorem s_m71 {y w : Int} {z1 z2 z4 : q_V} (hG : gok G) (hw : 0 ≤ w ∧ w ≤ 6) (hb : bl5 v) (hh : -1000 ≤ v 137 58 ∧ v 137 58 ≤ 1000) (hy : v 137 43 = y) (h1 : 1 ≤ y) (h3 : y ≤ 3) (hQ : Q (.inl 0) v G) : q_wp d 209 71 [.inr (.inr (.inl (some 137))), z1, z2, .inl w, z4, .inl (v 137 56 + 1)] [] v G Q := by
  have nx := s_m213 (d := d) (z1 := z1) (z2 := z2) (w := w) (z4 := z4) (z5 := .inl (v 137 56 + 1)) hG hw hh hy h1 h3 hQ
  obtain ⟨b1, b2⟩ := hb
  rw [e_209_71]
  by_cases c : v 137 56 + 1 < v 137 57
  · by_cases c5 : w = 5
    · simp (disch := omega) only [e_209_73, e_209_74, e_209_77, e_209_80, e_209_81, e_209_84, e_209_177, e_209_178, e_209_179, e_209_182, e_209_183, e_209_186, SHM hG, hy, ↓if_neg, ↓if_pos]
      repeat' first | (refine And.intro ?_ ?_) | exact True.intro | omega | assumption | rfl
    · simp (disch := omega) only [e_209_73, e_209_74, e_209_77, e_209_80, e_209_81, e_209_84, e_209_177, e_209_178, e_209_179, e_209_182, e_209_183, e_209_186, SHM hG, hy, ↓if_neg, ↓if_pos]
      repeat' first | (refine And.intro ?_ ?_) | exact True.intro | omega | assumption | rfl
  · by_cases c5 : w = 5
    · simp (disch := omega) only [e_209_73, e_209_74, e_209_77, e_209_80, e_209_81, e_209_84, e_209_177, e_209_178, e_209_179, e_209_182, e_209_183, e_209_186, SHM hG, hy, ↓if_neg, ↓if_pos]
      repeat' first | (refine And.intro ?_ ?_) | exact True.intro | omega | assumption | rfl
    · simp (disch := omega) only [e_209_73, e_209_74, e_209_77, e_209_80, e_209_81, e_209_84, e_209_177, e_209_178, e_209_179, e_209_182, e_209_183, e_209_186, SHM hG, hy, ↓if_neg, ↓if_pos]
      repeat' first | (refine And.intro ?_ ?_) | exact True.intro | omega | assumption | rfl
theorem s_mend {L : List Int} {pos : Nat} {z1 z2 z3 z4 z5 : q_V} (hG : gok G) (hl : lok L) (hL : hasL v 137 39 160 L) (h41 : v 137 41 = (pos : Int)) (h43 : v 137 43 = 0) (hpos : pos ≤ L.length) (hE : pos < L.length → Q (.inl 0) (q_up (q_up v 137 42 (pos : Int)) 137 43 1) G) (hY : ¬ pos < L.length → Q (.inl 1) v G) : q_wp (d + 1) 209 341 [.inr (.inr (.inl (some 137))), z1, z2, z3, z4, z5] [] v G Q := by
  have hL1 := hL.1
  have hll := hl.1
  by_cases c : pos < L.length
  · have fin := hE c
    simp (disch := first | assumption | omega | ((try simp (disch := omega) only [u_n, u_s]); first | assumption | omega)) only [e_209_341, e_209_342, e_209_345, e_209_348, e_209_349, e_209_352, e_209_353, e_209_356, e_209_359, e_209_360, e_209_361, e_209_364, e_209_365, e_209_368, e_209_369, e_209_372, e_209_375, e_209_376, e_209_379, e_209_380, SHM hG, h41, h43, hL1, c_wrong, u_n, u_s, ↓if_neg, ↓if_pos, q_push_I, q_push_L, q_push_P, q_push_U]
    repeat' first | exact fin | (refine And.intro ?_ ?_) | exact True.intro | omega | rfl
  · have fin := hY c
    simp (disch := first | assumption | omega | ((try simp (disch := omega) only [u_n, u_s]); first | assumption | omega)) only [e_209_341, e_209_342, e_209_345, e_209_348, e_209_349, e_209_352, e_209_353, e_209_356, e_209_368, e_209_369, e_209_372, e_209_375, e_209_376, e_209_379, e_209_380, SHM hG, h41, h43, hL1, ↓if_neg, ↓if_pos, q_push_I, q_push_L, q_push_P, q_push_U]
    repeat' first | exact fin | (refine And.intro ?_ ?_) | exact True.intro | omega | rfl
/-- rows said, without reading -/
theorem s_mrows {s : RS} {N x y : Nat} {w : Int} {RA RB : List (Int × Int)} {v0 : q_H} {z1 z2 z4 : q_V} (hG : gok G) (hw : w = 0 ∨ w = 2 ∨ w = 3 ∨ w = 5) (h43 : v0 137 43 = 0) (hR : hadR v0 RA) (hA14 : RA.length ≤ 14) (hAr : ∀ r, r ∈ RA → (0 ≤ r.1 ∧ r.1 ≤ 999) ∧ 0 ≤ r.2 ∧ r.2 ≤ 999) (h5 : w = 5 → mS v0 s ∧ rdInv N N s ∧ y ≤ 16 ∧ x < y ∧ v0 137 56 = (x : Int) ∧ v0 137 57 = (y : Int) ∧ RB = rws s.2.2.1 s.2.2.2.1 s.2.2.2.2 (y - x - 1) (x + 1) ∧ ∀ r, r ∈ RB → (0 ≤ r.1 ∧ r.1 ≤ 999) ∧ 0 ≤ r.2 ∧ r.2 ≤ 999) : ∀ (r i : Nat) (v : q_H) (T : List Int), i + r = RA.length → (∀ b, b ≠ 137 → b ≠ 159 → v b = v0 b) → (∀ j, j ≠ 37 → v 137 j = v0 137 j) → hasL v 137 37 159 T → T.length + 3 * r ≤ 64 → (∀ v' (z5 : q_V), (∀ b, b ≠ 137 → b ≠ 159 → v' b = v0 b) → (∀ j, j ≠ 37 → v' 137 j = v0 137 j) → hasL v' 137 37 159 (T ++ (if w = 5 then mat RB (RA.drop i) else mis [] (RA.drop i))) → q_wp (d + 3) 209 341 [.inr (.inr (.inl (some 137))), z1, z2, .inl w, z4, z5] [] v' G Q) → q_wp (d + 3) 209 242 [.inr (.inr (.inl (some 137))), z1, z2, .inl w, z4, .inl i] [] v G Q := by
  intro r
  induction r with
  | zero =>
    intro i v T h hf hj hT hl hC
    have e : i = RA.length := by omega
    subst e
    rw [List.drop_length] at hC
    have fin := hC v (.inl RA.length) hf hj (by
      have : (if w = 5 then mat RB [] else mis [] []) = ([] : List Int) := by split <;> rfl
      rw [this, List.append_nil]
      exact hT)
    have w58 : v 137 58 = (RA.length : Int) := by rw [hj 58 (by omega), hR.1]
    rw [e_209_242]
    simp (disch := omega) only [e_209_244, e_209_245, e_209_248, SHM hG, w58, ↓if_pos]
    repeat' first | exact fin | (refine And.intro ?_ ?_) | exact True.intro | omega | rfl
  | succ r ih =>
    intro i v T h hf hj hT hl hC
    have hi : i < RA.length := by omega
    have kr := hAr _ (List.getElem_mem hi)
    rw [List.drop_eq_getElem_cons hi] at hC
    have w58 : v 137 58 = (RA.length : Int) := by rw [hj 58 (by omega), hR.1]
    have w43 : v 137 43 = 0 := by rw [hj 43 (by omega), h43]
    have e1 : v 170 i = RA[i].1 := by rw [hf 170 (by omega) (by omega)]; exact (hR.2 i hi).1
    have e2 : v 171 i = RA[i].2 := by rw [hf 171 (by omega) (by omega)]; exact (hR.2 i hi).2
    have t1 := hT.1
    have step : ∀ (xs : List Int), xs.length ≤ 3 → (if w = 5 then mat1 RB RA[i] else mis1 [] RA[i]) = xs → q_wp (d + 3) 209 242 [.inr (.inr (.inl (some 137))), z1, z2, .inl w, z4, .inl ((i + 1 : Nat))] [] (q_apl v 137 37 159 xs) G Q := fun xs hx he => ih (i + 1) (q_apl v 137 37 159 xs) (T ++ xs) (by omega) (fun b b1 b2 => by rw [apl_r b1 b2, hf b b1 b2]) (fun j j1 => by rw [apl_n _ _ (by omega) (by omega), hj j j1]) (hasL_apl (by decide) hT) (by rw [List.length_append]; omega) (fun v' z5 h1 h2 h3 => hC v' z5 h1 h2 (by
        have : (if w = 5 then mat RB (RA[i] :: RA.drop (i + 1)) else mis [] (RA[i] :: RA.drop (i + 1))) = xs ++ (if w = 5 then mat RB (RA.drop (i + 1)) else mis [] (RA.drop (i + 1))) := by
          rw [← he]
          split <;> rfl
        rw [this, ← List.append_assoc]
        exact h3))
    rw [e_209_242]
    by_cases c5 : w = 5
    · obtain ⟨a1, a2, a3, a4, a5, a6, a7, a8⟩ := h5 c5
      have hs : mS v s := by
        obtain ⟨x1, x2, x3, x4, x5⟩ := a1
        exact ⟨by rw [hj 41 (by omega)]; exact x1, by rw [hj 43 (by omega)]; exact x2, fun j hj' => by rw [hf 161 (by omega) (by omega)]; exact x3 j hj', fun j hj' hS => by rw [hf 162 (by omega) (by omega), hf 163 (by omega) (by omega)]; exact x4 j hj' hS, fun j hj' hS => by rw [hf 164 (by omega) (by omega)]; exact x5 j hj' hS⟩
      have ev : ∀ (d' : Nat) (Q' : q_V → q_H → q_Gr → Prop), q_call (d' + 1) 207 [.inr (.inr (.inl (some 137))), .inl (RA[i].1)] v G Q' = Q' (.inl (oN (fnd RA[i].1 RB))) v G := fun d' Q' => by rw [c_vs hG hs a2 a3 a4 (by rw [hj 56 (by omega), a5]) (by rw [hj 57 (by omega), a6]) (by omega), a7]
      have nn : ∀ y, fnd RA[i].1 RB = some y → 0 ≤ y ∧ y ≤ 999 := fun y hy => (a8 _ (fnd_mem _ hy)).2
      have oR : -2147483648 ≤ oN (fnd RA[i].1 RB) ∧ oN (fnd RA[i].1 RB) ≤ 2147483647 := by
        cases hf' : fnd RA[i].1 RB with
        | none => exact ⟨by decide, by decide⟩
        | some y => have := nn y hf'; show -2147483648 ≤ y ∧ y ≤ 2147483647; omega
      have esy := syR_eq (w := w) (r := RA[i]) (RB := RB) (by omega) (fun y hy => by have := nn y hy; omega)
      rw [if_neg (by omega)] at esy
      have lm : (mat1 RB RA[i]).length ≤ 3 := by
        unfold mat1
        split <;> simp
      have nx := step (mat1 RB RA[i]) lm (by rw [if_pos c5])
      have es : ∀ (d' : Nat) (Q' : q_V → q_H → q_Gr → Prop), q_call (d' + 2) 208 [.inr (.inr (.inl (some 137))), .inl w, .inl i, .inl (oN (fnd RA[i].1 RB))] v G Q' = Q' (.inr (.inr (.inr ()))) (q_apl v 137 37 159 (mat1 RB RA[i])) G := fun d' Q' => by rw [c_sayRow hG (by omega) (by omega) oR e1 e2 (by omega) (by omega), esy]
      simp (disch := omega) only [e_209_244, e_209_245, e_209_248, e_209_251, e_209_252, e_209_255, e_209_258, e_209_259, e_209_260, e_209_263, e_209_264, e_209_265, e_209_268, e_209_269, e_209_271, e_209_300, e_209_301, e_209_304, e_209_307, e_209_308, e_209_309, e_209_311, e_209_312, e_209_313, e_209_316, e_209_317, e_209_318, e_209_321, e_209_323, e_209_324, e_209_327, e_209_330, e_209_332, e_209_335, e_209_338, SHM hG, w58, w43, e1, ev, es, Int.toNat_natCast, ↓if_neg, ↓if_pos, q_push_I, q_push_L, q_push_P, q_push_U, show (i : Int) + 1 = ((i + 1 : Nat) : Int) by omega]
      repeat' first | (refine And.intro ?_ ?_) | exact True.intro | omega | assumption | rfl
    · have nx := step (mis1 [] RA[i]) (by unfold mis1; split <;> simp) (by rw [if_neg c5])
      have es : ∀ (d' : Nat) (Q' : q_V → q_H → q_Gr → Prop), q_call (d' + 2) 208 [.inr (.inr (.inl (some 137))), .inl w, .inl i, .inl (-1000000)] v G Q' = Q' (.inr (.inr (.inr ()))) (q_apl v 137 37 159 (mis1 [] RA[i])) G := fun d' Q' => by rw [c_sayRow hG (by omega) (by omega) (by decide) e1 e2 (by omega) (by omega), syR_3 (by omega)]
      simp (disch := omega) only [e_209_244, e_209_245, e_209_248, e_209_251, e_209_252, e_209_255, e_209_258, e_209_259, e_209_260, e_209_263, e_209_264, e_209_265, e_209_268, e_209_269, e_209_271, e_209_300, e_209_301, e_209_304, e_209_307, e_209_308, e_209_309, e_209_311, e_209_312, e_209_313, e_209_316, e_209_317, e_209_318, e_209_321, e_209_323, e_209_324, e_209_327, e_209_330, e_209_332, e_209_335, e_209_338, SHM hG, w58, w43, es, Int.toNat_natCast, ↓if_neg, ↓if_pos, q_push_I, q_push_L, q_push_P, q_push_U, show (i : Int) + 1 = ((i + 1 : Nat) : Int) by omega]
      repeat' first | (refine And.intro ?_ ?_) | exact True.intro | omega | assumption | rfl
/-- rows said, each with its probe -/
theorem s_mprobes {L : List Int} {n rd b : Nat} {w sb : Int} {RA : List (Int × Int)} {v0 : q_H} {z4 : q_V} (hG : gok G) (hl : lok L) (hn : n < 12) (hrd : rd < 20) (hb : b < 3) (hvb : v0 151 n = (b : Int)) (hsb : v0 148 (4 * rd + b) = sb) (hsr : 0 ≤ sb ∧ sb ≤ 65520) (hw : w = 4 ∨ w = 6) (hA14 : RA.length ≤ 14) (hAr : ∀ r, r ∈ RA → (0 ≤ r.1 ∧ r.1 ≤ 999) ∧ 0 ≤ r.2 ∧ r.2 ≤ 999) : ∀ (r i pos : Nat) (v : q_H) (T : List Int), i + r = RA.length → mtf v v0 → hadR v RA → hasL v 137 39 160 L → v 137 41 = (pos : Int) → v 137 43 = 0 → pos ≤ L.length → hasL v 137 37 159 T → T.length + 3 * r ≤ 64 →
    (∀ v' (e : Nat) (y : Int), mprb L sb w (RA.drop i) pos T = .inl (e, y) → mtf v' v0 → v' 137 42 = (e : Int) → v' 137 43 = y → 1 ≤ y → y ≤ 3 → Q (.inl 0) v' G) →
    (∀ v' (z : Nat × List Int) (z5 : q_V), mprb L sb w (RA.drop i) pos T = .inr z → mtf v' v0 → v' 137 41 = (z.1 : Int) → v' 137 43 = 0 → z.1 ≤ L.length → hasL v' 137 37 159 z.2 → hasL v' 137 39 160 L → q_wp (d + 5) 209 341 [.inr (.inr (.inl (some 137))), .inl n, .inl rd, .inl w, z4, z5] [] v' G Q) →
    q_wp (d + 5) 209 242 [.inr (.inr (.inl (some 137))), .inl n, .inl rd, .inl w, z4, .inl i] [] v G Q := by
  intro r
  induction r with
  | zero =>
    intro i pos v T h hf hR hL h41 h43 hpos hT hl' hF hC
    have e : i = RA.length := by omega
    subst e
    rw [List.drop_length] at hC
    have fin := hC v (pos, T) (.inl RA.length) rfl hf h41 h43 hpos hT hL
    have w58 := hR.1
    rw [e_209_242]
    simp (disch := omega) only [e_209_244, e_209_245, e_209_248, SHM hG, w58, ↓if_pos]
    repeat' first | exact fin | (refine And.intro ?_ ?_) | exact True.intro | omega | rfl
  | succ r ih =>
    intro i pos v T h hf hR hL h41 h43 hpos hT hl' hF hC
    have hi : i < RA.length := by omega
    have kr := hAr _ (List.getElem_mem hi)
    rw [List.drop_eq_getElem_cons hi] at hF hC
    have w58 := hR.1
    have e1 := (hR.2 i hi).1
    have x151 : v 151 n = (b : Int) := by rw [hf.1 151 (by omega) (by omega) (by omega), hvb]
    have x148 : v 148 (4 * rd + b) = sb := by rw [hf.1 148 (by omega) (by omega) (by omega), hsb]
    have key : q_call (d + 5) 206 [.inr (.inr (.inl (some 137))), .inl 0, .inl b, .inl (RA[i].1), .inl (RA[i].1), .inl rd] v G (fun r v' G' => q_wp (d + 5) 209 300 [.inr (.inr (.inl (some 137))), .inl n, .inl rd, .inl w, z4, .inl i] (q_push r []) v' G' Q) := by
      refine m_rproof hG hl hL h41 h43 hpos hf.2.2 (by decide) hb hrd x148 hsr kr.1 (fun c => absurd c (by decide)) (fun _ => ⟨Int.le_refl _, kr.1.2⟩) (fun v' e y hr hm e1' e2' y1 y2 => ?_) (fun v1 z hr hm p1 p2 hs p3 p4 => ?_)
      · have fin := s_m242 (d := d + 5) (k := i + 1) (z1 := .inl n) (z2 := .inl rd) (z3 := .inl w) (z4 := z4) hG (by omega) (by rw [hm.2.1 58 (by omega) (by omega), w58]; omega) e2' y1 y2 (hF v' e y (by unfold mprb; rw [hr]) (mtf_tr hf (mtf_p hm)) e1' e2' y1 y2)
        simp (disch := omega) only [e_209_300, e_209_301, e_209_304, e_209_335, e_209_338, SHM hG, e2', ↓if_neg, ↓if_pos, q_push_I, q_push_L, q_push_P, q_push_U, show (i : Int) + 1 = ((i + 1 : Nat) : Int) by omega]
        repeat' first | exact fin | (refine And.intro ?_ ?_) | exact True.intro | omega | rfl
      · obtain ⟨q1, q2, q3, q4, q5, q6⟩ := rdP_inr hr
        have eo := enw_ok q2.1 q3 (by omega) (fun c => absurd c (by decide)) (fun _ => Int.le_refl _) q4
        have ok := rwP_ok (by omega) (fun c => absurd c (by decide)) (fun _ => Int.le_refl _) hr
        have y1 : v1 170 i = RA[i].1 := by rw [hm.1 170 (by omega) (by omega), e1]
        have y2 : v1 171 i = RA[i].2 := by rw [hm.1 171 (by omega) (by omega)]; exact (hR.2 i hi).2
        have ev : ∀ (d' : Nat) (Q' : q_V → q_H → q_Gr → Prop), q_call (d' + 1) 207 [.inr (.inr (.inl (some 137))), .inl (RA[i].1)] v1 G Q' = Q' (.inl (oN (fnd RA[i].1 (rwP z)))) v1 G := fun d' Q' => by
          rw [c_vs hG hs q3 (by omega) eo.1 p3 p4 (by omega)]
          rfl
        have nn : ∀ y, fnd RA[i].1 (rwP z) = some y → 0 ≤ y ∧ y ≤ 999 := fun y hy => (ok.2.2.1 _ (fnd_mem _ hy)).2
        have oR : -2147483648 ≤ oN (fnd RA[i].1 (rwP z)) ∧ oN (fnd RA[i].1 (rwP z)) ≤ 2147483647 := by
          cases hf' : fnd RA[i].1 (rwP z) with
          | none => exact ⟨by decide, by decide⟩
          | some y => have := nn y hf'; show -2147483648 ≤ y ∧ y ≤ 2147483647; omega
        have esy := syR_eq (w := w) (r := RA[i]) (RB := rwP z) (by omega) (fun y hy => by have := nn y hy; omega)
        generalize hxs : (if w = 6 then mis1 (rwP z) RA[i] else mat1 (rwP z) RA[i]) = xs at *
        have lx : xs.length ≤ 3 := by
          rw [← hxs]
          unfold mis1 mat1
          split <;> split <;> simp
        have pe : mprb L sb w (RA[i] :: RA.drop (i + 1)) pos T = mprb L sb w (RA.drop (i + 1)) z.1.1 (T ++ xs) := by
          conv => lhs; unfold mprb
          rw [hr]
          simp only
          rw [hxs]
        rw [pe] at hF hC
        have hT1 : hasL v1 137 37 159 T := ⟨by rw [hm.2.1 37 (by omega) (by omega)]; exact hT.1, fun k hk => by rw [hm.1 159 (by omega) (by omega)]; exact hT.2 k hk⟩
        have t1 := hT1.1
        have es : ∀ (d' : Nat) (Q' : q_V → q_H → q_Gr → Prop), q_call (d' + 2) 208 [.inr (.inr (.inl (some 137))), .inl w, .inl i, .inl (oN (fnd RA[i].1 (rwP z)))] v1 G Q' = Q' (.inr (.inr (.inr ()))) (q_apl v1 137 37 159 xs) G := fun d' Q' => by rw [c_sayRow hG (by omega) (by omega) oR y1 y2 (by omega) (by omega), esy]
        have aq : ∀ j, j ≠ 37 → q_apl v1 137 37 159 xs 137 j = v1 137 j := fun j hj => apl_n _ _ (by omega) (by omega)
        have ab : ∀ b, b ≠ 137 → b ≠ 159 → q_apl v1 137 37 159 xs b = v1 b := fun b b1 b2 => apl_r b1 b2
        have nx := ih (i + 1) z.1.1 (q_apl v1 137 37 159 xs) (T ++ xs) (by omega) (mtf_tr hf (mtf_tr (mtf_p hm) ⟨fun b b1 b2 _ => ab b b1 b2, fun j j1 _ _ => aq j j1, by
          unfold bl5
          rw [aq 56 (by omega), aq 57 (by omega)]
          exact hm.2.2⟩)) ⟨by rw [aq 58 (by omega), hm.2.1 58 (by omega) (by omega)]; exact w58, fun k hk => by rw [ab 170 (by omega) (by omega), ab 171 (by omega) (by omega), hm.1 170 (by omega) (by omega), hm.1 171 (by omega) (by omega)]; exact hR.2 k hk⟩ ⟨by rw [aq 39 (by omega), hm.2.1 39 (by omega) (by omega)]; exact hL.1, fun k hk => by rw [ab 160 (by omega) (by omega), hm.1 160 (by omega) (by omega)]; exact hL.2 k hk⟩ (by rw [aq 41 (by omega), p1]) (by rw [aq 43 (by omega), p2]) q6 (hasL_apl (by decide) hT1) (by rw [List.length_append]; omega) hF hC
        simp (disch := omega) only [e_209_300, e_209_301, e_209_304, e_209_307, e_209_308, e_209_309, e_209_311, e_209_312, e_209_313, e_209_316, e_209_317, e_209_318, e_209_321, e_209_323, e_209_324, e_209_327, e_209_330, e_209_332, e_209_335, e_209_338, SHM hG, p2, y1, ev, es, Int.toNat_natCast, ↓if_neg, ↓if_pos, q_push_I, q_push_L, q_push_P, q_push_U, show (i : Int) + 1 = ((i + 1 : Nat) : Int) by omega]
        repeat' first | (refine And.intro ?_ ?_) | exact True.intro | omega | assumption | rfl
    rw [e_209_242]
    by_cases c4 : w = 4
    · simp (disch := omega) only [e_209_244, e_209_245, e_209_248, e_209_251, e_209_252, e_209_255, e_209_258, e_209_259, e_209_260, e_209_263, e_209_264, e_209_265, e_209_268, e_209_269, e_209_271, e_209_274, e_209_275, e_209_276, e_209_277, e_209_280, e_209_281, e_209_282, e_209_283, e_209_286, e_209_288, e_209_289, e_209_290, e_209_293, e_209_295, e_209_296, e_209_297, SHM hG, w58, h43, e1, x151, Int.toNat_natCast, ↓if_neg, ↓if_pos]
      repeat' first | (refine And.intro ?_ ?_) | exact True.intro | omega | assumption | rfl
    · simp (disch := omega) only [e_209_244, e_209_245, e_209_248, e_209_251, e_209_252, e_209_255, e_209_258, e_209_259, e_209_260, e_209_263, e_209_264, e_209_265, e_209_268, e_209_269, e_209_271, e_209_274, e_209_275, e_209_276, e_209_277, e_209_280, e_209_281, e_209_282, e_209_283, e_209_286, e_209_288, e_209_289, e_209_290, e_209_293, e_209_295, e_209_296, e_209_297, SHM hG, w58, h43, e1, x151, Int.toNat_natCast, ↓if_neg, ↓if_pos]
      repeat' first | (refine And.intro ?_ ?_) | exact True.intro | omega | assumption | rfl
end
