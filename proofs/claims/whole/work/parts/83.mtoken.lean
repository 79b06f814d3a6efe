section
variable {d q : Nat} {v : q_H} {G : q_Gr} {Q : q_V → q_H → q_Gr → Prop}
/-- the bytes that the reference reads -/
def tpM (v : q_H) (f : Nat → Int) (N : Nat) : Prop := N ≤ 200 ∧ v 137 25 = (N : Int) ∧ ∀ k, k < N → v 154 k = f k ∧ 0 ≤ f k ∧ f k ≤ 255
theorem tpM_fr {v' : q_H} {f : Nat → Int} {N : Nat} (h1 : v' 137 25 = v 137 25) (h2 : v' 154 = v 154) (h : tpM v f N) : tpM v' f N := by
  unfold tpM
  rw [h1, h2]
  exact h
theorem m_byte {f : Nat → Int} {N i : Nat} (hG : gok G) (h : tpM v f N) (hi : i ≤ N) : q_call (d + 1) 173 [.inr (.inr (.inl (some 137))), .inl i] v G Q = Q (.inl (if i < N then f i else -1000000)) v G := by
  refine q_call_eq ?_ Q
  obtain ⟨h1, h2, h3⟩ := h
  by_cases c : i < N
  · have := (h3 i c).1
    rw [if_pos c]
    simp (disch := omega) only [E173, SHM hG, h2, this, ↓if_neg, ↓if_pos, Int.toNat_natCast]
    repeat' first | (refine And.intro ?_ ?_) | exact True.intro | omega | assumption | rfl
  · rw [if_neg c]
    simp (disch := omega) only [E173, SHM hG, h2, ↓if_neg, ↓if_pos]
    repeat' first | (refine And.intro ?_ ?_) | exact True.intro | omega | assumption | rfl
theorem m_lIs {x : Int} (hx : -2147483648 ≤ x ∧ x ≤ 2147483647) : q_call (d + 1) 174 [.inl x] v G Q = Q (.inl (if lIs x then 1 else 0)) v G := by
  refine q_call_eq ?_ Q
  simp only [E174, lIs, decide_eq_true_eq]
  repeat' first | (refine And.intro ?_ ?_) | rfl | exact True.intro | omega | split
theorem m_fIs {x : Int} (hx : -2147483648 ≤ x ∧ x ≤ 2147483647) : q_call (d + 1) 175 [.inl x] v G Q = Q (.inl (if fIs x then 1 else 0)) v G := by
  refine q_call_eq ?_ Q
  simp only [E175, fIs, decide_eq_true_eq]
  repeat' first | (refine And.intro ?_ ?_) | rfl | exact True.intro | omega | split
theorem s_mskip {f : Nat → Int} {N : Nat} {v0 : q_H} {z1 : q_V} (hG : gok G) (h : tpM v0 f N) (hC : ∀ v' (s : Nat), (∀ b, b ≠ 137 → v' b = v0 b) → (∀ j, j ≠ 26 → v' 137 j = v0 137 j) → v' 137 26 = (s : Int) → q_wp (d + 1) 176 39 [.inr (.inr (.inl (some 137))), z1] [] v' G Q → True) : ∀ (r i : Nat) (v : q_H), i + r = N → (∀ b, b ≠ 137 → v b = v0 b) → (∀ j, j ≠ 26 → v 137 j = v0 137 j) → v 137 26 = (i : Int) → (∀ v', (∀ b, b ≠ 137 → v' b = v0 b) → (∀ j, j ≠ 26 → v' 137 j = v0 137 j) → v' 137 26 = ((srch (fun k => !sIs (f k)) r i : Nat) : Int) → q_wp (d + 1) 176 39 [.inr (.inr (.inl (some 137))), z1] [] v' G Q) → q_wp (d + 1) 176 0 [.inr (.inr (.inl (some 137))), z1] [] v G Q := by
  intro r
  induction r with
  | zero =>
    intro i v he hf hj h6 hC
    have ht := tpM_fr (hj 25 (by omega)) (hf 154 (by omega)) h
    have h1 := ht.1
    rw [srch_0] at hC
    have fin := hC v hf hj h6
    have eb : ∀ (d' : Nat) (Q' : q_V → q_H → q_Gr → Prop), q_call (d' + 1) 173 [.inr (.inr (.inl (some 137))), .inl i] v G Q' = Q' (.inl (-1000000)) v G := fun d' Q' => by rw [m_byte hG ht (by omega), if_neg (by omega)]
    rw [e_176_0]
    simp (disch := omega) only [e_176_1, e_176_2, e_176_5, e_176_8, e_176_10, e_176_13, e_176_14, e_176_15, e_176_18, e_176_21, e_176_23, SHM hG, h6, eb, ↓if_neg, ↓if_pos, q_push_I, q_push_L, q_push_P, q_push_U]
    repeat' first | exact fin | (refine And.intro ?_ ?_) | exact True.intro | omega | rfl
  | succ r ih =>
    intro i v he hf hj h6 hC
    have ht := tpM_fr (hj 25 (by omega)) (hf 154 (by omega)) h
    have h1 := ht.1
    have hfe := ht.2.2 i (by omega)
    have eb : ∀ (d' : Nat) (Q' : q_V → q_H → q_Gr → Prop), q_call (d' + 1) 173 [.inr (.inr (.inl (some 137))), .inl i] v G Q' = Q' (.inl (f i)) v G := fun d' Q' => by rw [m_byte hG ht (by omega), if_pos (by omega)]
    rw [e_176_0]
    by_cases c : f i = 32 ∨ f i = 10
    · rw [srch_n (by show (!sIs (f i)) = false; rw [show sIs (f i) = true from decide_eq_true c]; rfl)] at hC
      have nx := ih (i + 1) (q_up v 137 26 ((i + 1 : Nat) : Int)) (by omega) (fun b hb => by rw [u_r hb, hf b hb]) (fun j hj' => by rw [u_n (by omega), hj j hj']) (u_s rfl rfl) hC
      by_cases c1 : f i = 32
      · simp (disch := omega) only [e_176_1, e_176_2, e_176_5, e_176_8, e_176_10, e_176_13, e_176_14, e_176_15, e_176_18, e_176_21, e_176_23, e_176_26, e_176_27, e_176_28, e_176_31, e_176_32, e_176_33, e_176_36, SHM hG, h6, eb, ↓if_neg, ↓if_pos, q_push_I, q_push_L, q_push_P, q_push_U, show (i : Int) + 1 = ((i + 1 : Nat) : Int) by omega]
        repeat' first | (refine And.intro ?_ ?_) | exact True.intro | omega | assumption | rfl
      · simp (disch := omega) only [e_176_1, e_176_2, e_176_5, e_176_8, e_176_10, e_176_13, e_176_14, e_176_15, e_176_18, e_176_21, e_176_23, e_176_26, e_176_27, e_176_28, e_176_31, e_176_32, e_176_33, e_176_36, SHM hG, h6, eb, ↓if_neg, ↓if_pos, q_push_I, q_push_L, q_push_P, q_push_U, show (i : Int) + 1 = ((i + 1 : Nat) : Int) by omega]
        repeat' first | (refine And.intro ?_ ?_) | exact True.intro | omega | assumption | rfl
    · rw [srch_y (by show (!sIs (f i)) = true; rw [show sIs (f i) = false from decide_eq_false c]; rfl)] at hC
      have fin := hC v hf hj h6
      simp (disch := omega) only [e_176_1, e_176_2, e_176_5, e_176_8, e_176_10, e_176_13, e_176_14, e_176_15, e_176_18, e_176_21, e_176_23, e_176_26, e_176_27, e_176_28, e_176_31, e_176_32, e_176_33, e_176_36, SHM hG, h6, eb, ↓if_neg, ↓if_pos, q_push_I, q_push_L, q_push_P, q_push_U]
      repeat' first | exact fin | (refine And.intro ?_ ?_) | exact True.intro | omega | rfl
theorem s_mname {f : Nat → Int} {N : Nat} {v0 : q_H} {z1 : q_V} (hG : gok G) (h : tpM v0 f N) : ∀ (r i : Nat) (v : q_H), i + r = N → (∀ b, b ≠ 137 → v b = v0 b) → (∀ j, j ≠ 26 → v 137 j = v0 137 j) → v 137 26 = (i : Int) → (∀ v', (∀ b, b ≠ 137 → v' b = v0 b) → (∀ j, j ≠ 26 → v' 137 j = v0 137 j) → v' 137 26 = ((srch (fun k => !lIs (f k)) r i : Nat) : Int) → q_wp (d + 1) 176 104 [.inr (.inr (.inl (some 137))), z1] [] v' G Q) → q_wp (d + 1) 176 77 [.inr (.inr (.inl (some 137))), z1] [] v G Q := by
  intro r
  induction r with
  | zero =>
    intro i v he hf hj h6 hC
    have ht := tpM_fr (hj 25 (by omega)) (hf 154 (by omega)) h
    have h1 := ht.1
    rw [srch_0] at hC
    have fin := hC v hf hj h6
    have eb : ∀ (d' : Nat) (Q' : q_V → q_H → q_Gr → Prop), q_call (d' + 1) 173 [.inr (.inr (.inl (some 137))), .inl i] v G Q' = Q' (.inl (-1000000)) v G := fun d' Q' => by rw [m_byte hG ht (by omega), if_neg (by omega)]
    have el : ∀ (d' : Nat) (Q' : q_V → q_H → q_Gr → Prop), q_call (d' + 1) 174 [.inl (-1000000)] v G Q' = Q' (.inl 0) v G := fun d' Q' => by
      rw [m_lIs (by decide)]
      rfl
    rw [e_176_77]
    simp (disch := omega) only [e_176_78, e_176_79, e_176_82, e_176_85, e_176_88, SHM hG, h6, eb, el, ↓if_neg, ↓if_pos, q_push_I, q_push_L, q_push_P, q_push_U]
    repeat' first | exact fin | (refine And.intro ?_ ?_) | exact True.intro | omega | rfl
  | succ r ih =>
    intro i v he hf hj h6 hC
    have ht := tpM_fr (hj 25 (by omega)) (hf 154 (by omega)) h
    have h1 := ht.1
    have hfe := ht.2.2 i (by omega)
    have eb : ∀ (d' : Nat) (Q' : q_V → q_H → q_Gr → Prop), q_call (d' + 1) 173 [.inr (.inr (.inl (some 137))), .inl i] v G Q' = Q' (.inl (f i)) v G := fun d' Q' => by rw [m_byte hG ht (by omega), if_pos (by omega)]
    have el : ∀ (d' : Nat) (Q' : q_V → q_H → q_Gr → Prop), q_call (d' + 1) 174 [.inl (f i)] v G Q' = Q' (.inl (if lIs (f i) then 1 else 0)) v G := fun d' Q' => m_lIs (by omega)
    rw [e_176_77]
    by_cases c : lIs (f i) = true
    · rw [srch_n (by show (!lIs (f i)) = false; rw [c]; rfl)] at hC
      rw [if_pos c] at el
      have nx := ih (i + 1) (q_up v 137 26 ((i + 1 : Nat) : Int)) (by omega) (fun b hb => by rw [u_r hb, hf b hb]) (fun j hj' => by rw [u_n (by omega), hj j hj']) (u_s rfl rfl) hC
      simp (disch := omega) only [e_176_78, e_176_79, e_176_82, e_176_85, e_176_88, e_176_91, e_176_92, e_176_93, e_176_96, e_176_97, e_176_98, e_176_101, SHM hG, h6, eb, el, ↓if_neg, ↓if_pos, q_push_I, q_push_L, q_push_P, q_push_U, show (i : Int) + 1 = ((i + 1 : Nat) : Int) by omega]
      repeat' first | (refine And.intro ?_ ?_) | exact True.intro | omega | assumption | rfl
    · rw [srch_y (by show (!lIs (f i)) = true; rw [Bool.eq_false_iff.mpr c]; rfl)] at hC
      rw [if_neg c] at el
      have fin := hC v hf hj h6
      simp (disch := omega) only [e_176_78, e_176_79, e_176_82, e_176_85, e_176_88, e_176_91, e_176_92, e_176_93, e_176_96, e_176_97, e_176_98, e_176_101, SHM hG, h6, eb, el, ↓if_neg, ↓if_pos, q_push_I, q_push_L, q_push_P, q_push_U]
      repeat' first | exact fin | (refine And.intro ?_ ?_) | exact True.intro | omega | rfl
theorem s_mfigs {f : Nat → Int} {N : Nat} {v0 : q_H} {z1 : q_V} (hG : gok G) (h : tpM v0 f N) : ∀ (r i : Nat) (v : q_H), i + r = N → (∀ b, b ≠ 137 → v b = v0 b) → (∀ j, j ≠ 26 → v 137 j = v0 137 j) → v 137 26 = (i : Int) → (∀ v', (∀ b, b ≠ 137 → v' b = v0 b) → (∀ j, j ≠ 26 → v' 137 j = v0 137 j) → v' 137 26 = ((srch (fun k => !fIs (f k)) r i : Nat) : Int) → q_wp (d + 1) 176 146 [.inr (.inr (.inl (some 137))), z1] [] v' G Q) → q_wp (d + 1) 176 119 [.inr (.inr (.inl (some 137))), z1] [] v G Q := by
  intro r
  induction r with
  | zero =>
    intro i v he hf hj h6 hC
    have ht := tpM_fr (hj 25 (by omega)) (hf 154 (by omega)) h
    have h1 := ht.1
    rw [srch_0] at hC
    have fin := hC v hf hj h6
    have eb : ∀ (d' : Nat) (Q' : q_V → q_H → q_Gr → Prop), q_call (d' + 1) 173 [.inr (.inr (.inl (some 137))), .inl i] v G Q' = Q' (.inl (-1000000)) v G := fun d' Q' => by rw [m_byte hG ht (by omega), if_neg (by omega)]
    have el : ∀ (d' : Nat) (Q' : q_V → q_H → q_Gr → Prop), q_call (d' + 1) 175 [.inl (-1000000)] v G Q' = Q' (.inl 0) v G := fun d' Q' => by
      rw [m_fIs (by decide)]
      rfl
    rw [e_176_119]
    simp (disch := omega) only [e_176_120, e_176_121, e_176_124, e_176_127, e_176_130, SHM hG, h6, eb, el, ↓if_neg, ↓if_pos, q_push_I, q_push_L, q_push_P, q_push_U]
    repeat' first | exact fin | (refine And.intro ?_ ?_) | exact True.intro | omega | rfl
  | succ r ih =>
    intro i v he hf hj h6 hC
    have ht := tpM_fr (hj 25 (by omega)) (hf 154 (by omega)) h
    have h1 := ht.1
    have hfe := ht.2.2 i (by omega)
    have eb : ∀ (d' : Nat) (Q' : q_V → q_H → q_Gr → Prop), q_call (d' + 1) 173 [.inr (.inr (.inl (some 137))), .inl i] v G Q' = Q' (.inl (f i)) v G := fun d' Q' => by rw [m_byte hG ht (by omega), if_pos (by omega)]
    have el : ∀ (d' : Nat) (Q' : q_V → q_H → q_Gr → Prop), q_call (d' + 1) 175 [.inl (f i)] v G Q' = Q' (.inl (if fIs (f i) then 1 else 0)) v G := fun d' Q' => m_fIs (by omega)
    rw [e_176_119]
    by_cases c : fIs (f i) = true
    · rw [srch_n (by show (!fIs (f i)) = false; rw [c]; rfl)] at hC
      rw [if_pos c] at el
      have nx := ih (i + 1) (q_up v 137 26 ((i + 1 : Nat) : Int)) (by omega) (fun b hb => by rw [u_r hb, hf b hb]) (fun j hj' => by rw [u_n (by omega), hj j hj']) (u_s rfl rfl) hC
      simp (disch := omega) only [e_176_120, e_176_121, e_176_124, e_176_127, e_176_130, e_176_133, e_176_134, e_176_135, e_176_138, e_176_139, e_176_140, e_176_143, SHM hG, h6, eb, el, ↓if_neg, ↓if_pos, q_push_I, q_push_L, q_push_P, q_push_U, show (i : Int) + 1 = ((i + 1 : Nat) : Int) by omega]
      repeat' first | (refine And.intro ?_ ?_) | exact True.intro | omega | assumption | rfl
    · rw [srch_y (by show (!fIs (f i)) = true; rw [Bool.eq_false_iff.mpr c]; rfl)] at hC
      rw [if_neg c] at el
      have fin := hC v hf hj h6
      simp (disch := omega) only [e_176_120, e_176_121, e_176_124, e_176_127, e_176_130, e_176_133, e_176_134, e_176_135, e_176_138, e_176_139, e_176_140, e_176_143, SHM hG, h6, eb, el, ↓if_neg, ↓if_pos, q_push_I, q_push_L, q_push_P, q_push_U]
      repeat' first | exact fin | (refine And.intro ?_ ?_) | exact True.intro | omega | rfl
def mkK (k : Int) : Int := if k = 4 then 0 else k + 1
/-- the reference stands at the token that begins from c on -/
def tokM (v : q_H) (f : Nat → Int) (N c : Nat) : Prop := v 137 27 = mkK (tkK f N c) ∧ v 137 28 = (tkS f N c : Int) ∧ v 137 29 = (tkE f N c : Int) ∧ v 137 26 = (tkE f N c : Int)
theorem m_step {f : Nat → Int} {N c : Nat} (hG : gok G) (h : tpM v f N) (hc : c ≤ N) (h6 : v 137 26 = (c : Int)) (hQ : ∀ v', (∀ b, b ≠ 137 → v' b = v b) → (∀ j, ¬ (26 ≤ j ∧ j ≤ 29) → v' 137 j = v 137 j) → tokM v' f N c → Q (.inr (.inr (.inr ()))) v' G) : q_call (d + 2) 176 [.inr (.inr (.inl (some 137)))] v G Q := by
  have h1 := h.1
  have hs := tkS_ok (f := f) hc
  have tks : tkK f N c = if N ≤ tkS f N c then 0 else if lIs (f (tkS f N c)) then 1 else if fIs (f (tkS f N c)) then (if tkE f N c - tkS f N c ≤ 3 then 2 else 4) else if f (tkS f N c) = 59 then 3 else 4 := rfl
  have tes : tkE f N c = if N ≤ tkS f N c then N else if lIs (f (tkS f N c)) then srch (fun k => !lIs (f k)) (N - tkS f N c) (tkS f N c) else if fIs (f (tkS f N c)) then srch (fun k => !fIs (f k)) (N - tkS f N c) (tkS f N c) else tkS f N c + 1 := rfl
  have nx := s_mskip (d := d) (G := G) (Q := Q) (z1 := .inr (.inr (.inr ()))) (v0 := v) hG h (fun _ _ _ _ _ _ => True.intro) (N - c) c v (by omega) (fun _ _ => rfl) (fun _ _ => rfl) h6 (fun v1 f1 f1q w26 => by
    have w26 : v1 137 26 = (tkS f N c : Int) := w26
    unfold tokM at hQ
    generalize tkS f N c = s at *
    generalize hv2 : q_up v1 137 28 (s : Int) = v2
    have f2 : ∀ b, b ≠ 137 → v2 b = v b := fun b hb => by rw [← hv2, u_r hb, f1 b hb]
    have f2q : ∀ j, j ≠ 26 → j ≠ 28 → v2 137 j = v 137 j := fun j j1 j2 => by rw [← hv2, u_n (by omega), f1q j j1]
    have x26 : v2 137 26 = (s : Int) := by rw [← hv2, u_n (by omega), w26]
    have x28 : v2 137 28 = (s : Int) := by rw [← hv2, u_s rfl rfl]
    have ht := tpM_fr (v := v) (v' := v2) (f2q 25 (by omega) (by omega)) (f2 154 (by omega)) h
    -- the end of every road
    have tail : ∀ (v3 : q_H) (k : Int) (e : Nat) (z1 : q_V), (∀ b, b ≠ 137 → v3 b = v2 b) → (∀ j, j ≠ 26 → v3 137 j = v2 137 j) → v3 137 26 = (e : Int) → tkK f N c = k → tkE f N c = e → q_wp (d + 1) 176 196 [.inr (.inr (.inl (some 137))), z1] [] (q_up v3 137 27 (mkK k)) G Q := fun v3 k e z1 g1 g2 g3 hk he => by
      have fin := hQ (q_up (q_up v3 137 27 (mkK k)) 137 29 (e : Int)) (fun b hb => by rw [u_r hb, u_r hb, g1 b hb, f2 b hb]) (fun j hj => by rw [u_n (by omega), u_n (by omega), g2 j (by omega), f2q j (by omega) (by omega)]) ⟨by rw [u_n (by omega), u_s rfl rfl, hk], by rw [u_n (by omega), u_n (by omega), g2 28 (by omega), x28], by rw [u_s rfl rfl, he], by rw [u_n (by omega), u_n (by omega), g3, he]⟩
      simp (disch := omega) only [e_176_196, e_176_197, e_176_198, e_176_201, e_176_204, SHM hG, g3, u_n]
      repeat' first | exact fin | (refine And.intro ?_ ?_) | exact True.intro | omega | rfl
    by_cases c1 : N ≤ s
    · rw [if_pos c1] at tks tes
      have eN : s = N := by omega
      have eb : ∀ (d' : Nat) (Q' : q_V → q_H → q_Gr → Prop), q_call (d' + 1) 173 [.inr (.inr (.inl (some 137))), .inl s] v2 G Q' = Q' (.inl (-1000000)) v2 G := fun d' Q' => by rw [m_byte hG ht (by omega), if_neg (by omega)]
      have nx := tail v2 0 N (.inl (-1000000)) (fun _ _ => rfl) (fun _ _ => rfl) (by rw [x26, eN]) tks tes
      have nx : q_wp (d + 1) 176 196 [.inr (.inr (.inl (some 137))), .inl (-1000000)] [] (q_up v2 137 27 1) G Q := nx
      simp (disch := omega) only [e_176_39, e_176_40, e_176_41, e_176_44, e_176_47, e_176_48, e_176_49, e_176_52, e_176_55, e_176_56, e_176_57, e_176_59, e_176_62, e_176_63, e_176_64, e_176_67, SHM hG, w26, hv2, x26, eb, ↓if_neg, ↓if_pos, q_push_I, q_push_L, q_push_P, q_push_U]
      repeat' first | (refine And.intro ?_ ?_) | exact True.intro | omega | assumption | rfl
    · rw [if_neg c1] at tks tes
      have hfs := h.2.2 s (by omega)
      have eb : ∀ (d' : Nat) (Q' : q_V → q_H → q_Gr → Prop), q_call (d' + 1) 173 [.inr (.inr (.inl (some 137))), .inl s] v2 G Q' = Q' (.inl (f s)) v2 G := fun d' Q' => by rw [m_byte hG ht (by omega), if_pos (by omega)]
      have el : ∀ (d' : Nat) (Q' : q_V → q_H → q_Gr → Prop), q_call (d' + 1) 174 [.inl (f s)] v2 G Q' = Q' (.inl (if lIs (f s) then 1 else 0)) v2 G := fun d' Q' => m_lIs (by omega)
      have ef : ∀ (d' : Nat) (Q' : q_V → q_H → q_Gr → Prop), q_call (d' + 1) 175 [.inl (f s)] v2 G Q' = Q' (.inl (if fIs (f s) then 1 else 0)) v2 G := fun d' Q' => m_fIs (by omega)
      by_cases c2 : lIs (f s) = true
      · rw [if_pos c2] at tks tes el
        have lp := s_mname (d := d) (Q := Q) (z1 := .inl (f s)) (v0 := v2) hG ht (N - s) s v2 (by omega) (fun _ _ => rfl) (fun _ _ => rfl) x26 (fun v3 g1 g2 g3 => by
          have nx := tail v3 1 _ (.inl (f s)) g1 g2 g3 tks tes
          have nx : q_wp (d + 1) 176 196 [.inr (.inr (.inl (some 137))), .inl (f s)] [] (q_up v3 137 27 2) G Q := nx
          simp (disch := omega) only [e_176_104, e_176_105, e_176_106, e_176_109, SHM hG]
          repeat' first | (refine And.intro ?_ ?_) | exact True.intro | omega | assumption | rfl)
        simp (disch := omega) only [e_176_39, e_176_40, e_176_41, e_176_44, e_176_47, e_176_48, e_176_49, e_176_52, e_176_55, e_176_56, e_176_57, e_176_59, e_176_62, e_176_63, e_176_64, e_176_67, e_176_70, e_176_71, e_176_74, SHM hG, w26, hv2, x26, eb, el, ↓if_neg, ↓if_pos, q_push_I, q_push_L, q_push_P, q_push_U]
        repeat' first | (refine And.intro ?_ ?_) | exact True.intro | omega | assumption | rfl
      · rw [if_neg c2] at tks tes el
        by_cases c3 : fIs (f s) = true
        · rw [if_pos c3] at tks tes ef
          have lp := s_mfigs (d := d) (Q := Q) (z1 := .inl (f s)) (v0 := v2) hG ht (N - s) s v2 (by omega) (fun _ _ => rfl) (fun _ _ => rfl) x26 (fun v3 g1 g2 g3 => by
            rw [← tes] at g3
            have te := tkE_ok (f := f) hc
            have w28 : v3 137 28 = (s : Int) := by rw [g2 28 (by omega), x28]
            have gs := srch_sp (fun k => !fIs (f k)) (N - s) s
            rw [← tes] at gs
            by_cases c4 : tkE f N c - s ≤ 3
            · rw [if_pos c4] at tks
              have nx := tail v3 2 _ (.inl (f s)) g1 g2 g3 tks rfl
              have nx : q_wp (d + 1) 176 196 [.inr (.inr (.inl (some 137))), .inl (f s)] [] (q_up v3 137 27 3) G Q := nx
              simp (disch := omega) only [e_176_146, e_176_147, e_176_148, e_176_151, e_176_152, e_176_155, e_176_156, e_176_157, e_176_160, e_176_161, e_176_164, e_176_165, e_176_168, SHM hG, g3, w28, ↓if_neg, ↓if_pos]
              repeat' first | (refine And.intro ?_ ?_) | exact True.intro | omega | assumption | rfl
            · rw [if_neg c4] at tks
              have nx := tail v3 4 _ (.inl (f s)) g1 g2 g3 tks rfl
              have nx : q_wp (d + 1) 176 196 [.inr (.inr (.inl (some 137))), .inl (f s)] [] (q_up v3 137 27 0) G Q := nx
              simp (disch := omega) only [e_176_146, e_176_147, e_176_148, e_176_151, e_176_152, e_176_155, e_176_156, e_176_157, e_176_160, e_176_161, e_176_164, e_176_165, e_176_168, SHM hG, g3, w28, ↓if_neg, ↓if_pos]
              repeat' first | (refine And.intro ?_ ?_) | exact True.intro | omega | assumption | rfl)
          simp (disch := omega) only [e_176_39, e_176_40, e_176_41, e_176_44, e_176_47, e_176_48, e_176_49, e_176_52, e_176_55, e_176_56, e_176_57, e_176_59, e_176_62, e_176_63, e_176_64, e_176_67, e_176_70, e_176_71, e_176_74, e_176_112, e_176_113, e_176_116, SHM hG, w26, hv2, x26, eb, el, ef, ↓if_neg, ↓if_pos, q_push_I, q_push_L, q_push_P, q_push_U]
          repeat' first | (refine And.intro ?_ ?_) | exact True.intro | omega | assumption | rfl
        · rw [if_neg c3] at tks tes ef
          by_cases c4 : f s = 59
          · rw [if_pos c4] at tks
            have nx := tail (q_up v2 137 26 ((s + 1 : Nat) : Int)) 3 (s + 1) (.inl (f s)) (fun b hb => by rw [u_r hb]) (fun j hj => by rw [u_n (by omega)]) (u_s rfl rfl) tks tes
            have nx : q_wp (d + 1) 176 196 [.inr (.inr (.inl (some 137))), .inl (f s)] [] (q_up (q_up v2 137 26 ((s + 1 : Nat) : Int)) 137 27 4) G Q := nx
            simp (disch := omega) only [e_176_39, e_176_40, e_176_41, e_176_44, e_176_47, e_176_48, e_176_49, e_176_52, e_176_55, e_176_56, e_176_57, e_176_59, e_176_62, e_176_63, e_176_64, e_176_67, e_176_70, e_176_71, e_176_74, e_176_112, e_176_113, e_176_116, e_176_171, e_176_172, e_176_173, e_176_176, e_176_177, e_176_178, e_176_181, e_176_182, e_176_183, e_176_185, e_176_188, e_176_189, e_176_192, e_176_193, SHM hG, w26, hv2, x26, eb, el, ef, ↓if_neg, ↓if_pos, q_push_I, q_push_L, q_push_P, q_push_U, show (s : Int) + 1 = ((s + 1 : Nat) : Int) by omega]
            repeat' first | (refine And.intro ?_ ?_) | exact True.intro | omega | assumption | rfl
          · rw [if_neg c4] at tks
            have nx := tail (q_up v2 137 26 ((s + 1 : Nat) : Int)) 4 (s + 1) (.inl (f s)) (fun b hb => by rw [u_r hb]) (fun j hj => by rw [u_n (by omega)]) (u_s rfl rfl) tks tes
            have nx : q_wp (d + 1) 176 196 [.inr (.inr (.inl (some 137))), .inl (f s)] [] (q_up (q_up v2 137 26 ((s + 1 : Nat) : Int)) 137 27 0) G Q := nx
            simp (disch := omega) only [e_176_39, e_176_40, e_176_41, e_176_44, e_176_47, e_176_48, e_176_49, e_176_52, e_176_55, e_176_56, e_176_57, e_176_59, e_176_62, e_176_63, e_176_64, e_176_67, e_176_70, e_176_71, e_176_74, e_176_112, e_176_113, e_176_116, e_176_171, e_176_172, e_176_173, e_176_176, e_176_177, e_176_178, e_176_181, e_176_182, e_176_183, e_176_185, e_176_188, e_176_189, e_176_192, e_176_193, SHM hG, w26, hv2, x26, eb, el, ef, ↓if_neg, ↓if_pos, q_push_I, q_push_L, q_push_P, q_push_U, show (s : Int) + 1 = ((s + 1 : Nat) : Int) by omega]
            repeat' first | (refine And.intro ?_ ?_) | exact True.intro | omega | assumption | rfl)
  simp only [e_176, SHM hG]
  exact ⟨True.intro, nx⟩
end
