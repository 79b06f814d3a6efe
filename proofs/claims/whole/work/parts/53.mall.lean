section
variable {d q : Nat} {v : q_H} {G : q_Gr} {Q : q_V → q_H → q_Gr → Prop}
theorem mfr_r {v' v : q_H} (h : mfr v' v) (b : Nat) (hb : b < 137 ∨ (137 < b ∧ b < 144) ∨ (147 < b ∧ b < 155) ∨ 158 < b) : v' b = v b := h.1 b (by omega) (by omega) (by omega)
theorem tbI_mfr {v' v : q_H} (h : mfr v' v) (hB : tbI v) : tbI v' := tbI_cg (fun b hb => mfr_r h b (by omega)) hB
theorem pfW_mfr {v' v : q_H} {w low high : Int} {t : Nat} (h : mfr v' v) (ht : t < 3) : pfW v' w t low high = pfW v w t low high := pfW_cg (mfr_r h _ (by omega)) (mfr_r h _ (by omega)) (mfr_r h _ (by omega)) (mfr_r h _ (by omega))
theorem s_mprob_loop {a b n e : Nat} {v0 : q_H} {w low high : Int} (hG : gok G) (ha : a < 3) (hb : b < 3) (hB : tbI v0) (hn : (v0 141 a).toNat = n) (he : e = plm v0 a n (high + 1)) (hh : 0 ≤ high) (hh2 : high ≤ 999) : ∀ (r i : Nat) (v : q_H) (L : List Int), i + r = e → mfr v v0 → hasL v 137 32 155 L → L.length + 38 * r ≤ 600 → (∀ v', mfr v' v0 → hasL v' 137 32 155 (L ++ prb v0 a b r i) → Q (.inr (.inr (.inr ()))) v' G) → q_wp (d + 4) 192 56 [.inr (.inr (.inl (some 137))), .inl w, .inl a, .inl b, .inl low, .inl high, .inl ((14 * a + i : Nat))] [] v G Q := by
  have hIa := tb_all hB a ha
  rw [hn] at hIa
  have h14 := hIa.1
  have h141 := hIa.2.1
  obtain ⟨q1, q2, q3⟩ := plm_sp (v := v0) (t := a) (n := n) (x := high + 1)
  rw [← he] at q1 q2 q3
  have i8 := hIa.2.2.2.2.2.2.2.1
  intro r
  induction r with
  | zero =>
    intro i v L hi hf hL h6 hC
    have hi : i = e := by omega
    subst hi
    have k1 : v 141 a = (n : Int) := by rw [mfr_r hf _ (by omega), h141]
    have k2 : v 142 = v0 142 := mfr_r hf _ (by omega)
    have fin := hC v hf (by unfold prb; rw [List.append_nil]; exact hL)
    rw [e_192_56]
    by_cases c : i = n
    · simp (disch := omega) only [E192, SHM hG, k1, Int.toNat_natCast, ↓if_pos]
      repeat' first | (refine And.intro ?_ ?_) | exact True.intro | omega | assumption | rfl
    · have x1 := q3 (by omega)
      have x2 := i8 i (by omega)
      simp (disch := omega) only [E192, SHM hG, k1, k2, Int.toNat_natCast, ↓if_pos, ↓if_neg]
      repeat' first | (refine And.intro ?_ ?_) | exact True.intro | omega | assumption | rfl
  | succ r ih =>
    intro i v L hi hf hL h6 hC
    have k1 : v 141 a = (n : Int) := by rw [mfr_r hf _ (by omega), h141]
    have k2 : v 142 = v0 142 := mfr_r hf _ (by omega)
    have x1 := q2 i (by omega)
    have x2 := i8 i (by omega)
    have hBv := tbI_mfr hf hB
    have hIb := tb_all hBv b hb
    have eW : pfW v 0 b (v0 142 (14 * a + i)) (v0 142 (14 * a + i)) = pfW v0 0 b (v0 142 (14 * a + i)) (v0 142 (14 * a + i)) := pfW_mfr hf hb
    have pl := pfW_plen (z := v0 142 (14 * a + i)) hIb
    have nx : q_call (d + 4) 191 [.inr (.inr (.inl (some 137))), .inl 0, .inl b, .inl (v0 142 (14 * a + i)), .inl (v0 142 (14 * a + i))] v G (fun r v' G' => q_wp (d + 4) 192 104 [.inr (.inr (.inl (some 137))), .inl w, .inl a, .inl b, .inl low, .inl high, .inl ((14 * a + i : Nat))] (q_push r []) v' G' Q) := c_mproof hG hb hIb (by omega) (by omega) (by omega) (by omega) (by omega) (by omega) hL (by omega) (fun v' g1 g2 => by
      rw [eW] at g2
      have := ih (i + 1) v' _ (by omega) (mfr_tr hf g1) g2 (by rw [List.length_append, ← eW]; omega) (fun v'' r1 r2 => hC v'' r1 (by unfold prb; rw [← List.append_assoc]; exact r2))
      simp only [e_192_104, e_192_107, q_push_I, q_push_L, q_push_P, q_push_U, show ((14 * a + i : Nat) : Int) + 1 = ((14 * a + (i + 1) : Nat) : Int) by omega]
      exact this)
    rw [e_192_56]
    have pcs : True := True.intro
    simp (disch := omega) only [e_192_58, e_192_60, e_192_61, e_192_62, e_192_63, e_192_66, e_192_67, e_192_68, e_192_69, e_192_72, e_192_73, e_192_76, e_192_78, e_192_79, e_192_81, e_192_84, e_192_85, e_192_86, e_192_87, e_192_88, e_192_91, e_192_93, e_192_94, e_192_95, e_192_98, e_192_100, e_192_101, SHM hG, k1, k2, Int.toNat_natCast, ↓if_pos, ↓if_neg]
    repeat' first | (refine And.intro ?_ ?_) | exact True.intro | omega | assumption | rfl
/-- tellAll -/
theorem c_mall {a b : Nat} {w low high : Int} (hG : gok G) (hB : tbI v) (hw0 : 0 ≤ w) (hw6 : w ≤ 6) (ha : a < 3) (hb : b < 3) (hl : 0 ≤ low) (hl2 : low ≤ 999) (hk : w = 2 → 1 ≤ high ∧ high ≤ 14) (hh : w ≠ 2 → low ≤ high ∧ high ≤ 999) (hQ : ∀ v', mfr v' v → hasL v' 137 32 155 (allP v w a b low high) → Q (.inr (.inr (.inr ()))) v' G) : q_call (d + 5) 192 [.inr (.inr (.inl (some 137))), .inl w, .inl a, .inl b, .inl low, .inl high] v G Q := by
  have hh9 : 0 ≤ high ∧ high ≤ 999 := by
    by_cases c : w = 2
    · have := hk c
      omega
    · have := hh c
      omega
  have hm0 : mfr (q_up v 137 32 0) v := ⟨fun b b1 _ _ => u_r b1, fun j _ j2 => u_n (by omega)⟩
  have hB0 := tbI_mfr hm0 hB
  have hIa0 := tb_all hB0 a ha
  have hIa := tb_all hB a ha
  have h14 := hIa.1
  have p1 := (plm_sp (v := v) (t := a) (n := (v 141 a).toNat) (x := high + 1)).1
  have p2 := (plm_sp (v := v) (t := a) (n := (v 141 a).toNat) (x := low)).1
  have l1 := pfW_len (v := v) (w := if w < 3 then w else 0) (t := a) (low := low) (high := high) (by omega)
  have hww : 0 ≤ (if w < 3 then w else 0) ∧ (if w < 3 then w else 0) ≤ 2 := by split <;> omega
  have eW : pfW (q_up v 137 32 0) (if w < 3 then w else 0) a low high = pfW v (if w < 3 then w else 0) a low high := pfW_mfr hm0 ha
  have first : q_call (d + 4) 191 [.inr (.inr (.inl (some 137))), .inl (if w < 3 then w else 0), .inl a, .inl low, .inl high] (q_up v 137 32 0) G (fun r v' G' => q_wp (d + 4) 192 24 [.inr (.inr (.inl (some 137))), .inl w, .inl a, .inl b, .inl low, .inl high, .inr (.inr (.inr ()))] (q_push r []) v' G' Q) := c_mproof (L := []) hG ha hIa0 hww.1 hww.2 hl hl2 hh9.1 hh9.2 (hasL_0 (u_s rfl rfl)) (by rw [eW]; show 0 + _ ≤ 600; omega) (fun v1 g1 g2 => by
    rw [eW, List.nil_append] at g2
    have hm1 := mfr_tr hm0 g1
    have hB1 := tbI_mfr hm1 hB
    have k141 : v1 141 = v 141 := mfr_r hm1 _ (by omega)
    have k142 : v1 142 = v 142 := mfr_r hm1 _ (by omega)
    unfold allP at hQ
    generalize hww' : (if w < 3 then w else 0) = ww at *
    simp only [q_push_I, q_push_L, q_push_P, q_push_U]
    by_cases c5 : w = 5
    · rw [if_pos c5] at hQ
      have hIb := tb_all hB1 b hb
      have eWb : pfW v1 0 b low high = pfW v 0 b low high := pfW_mfr hm1 hb
      have l2 := pfW_len (v := v1) (w := 0) (t := b) (low := low) (high := high) (by have := hIb.1; omega)
      have nx : q_call (d + 4) 191 [.inr (.inr (.inl (some 137))), .inl 0, .inl b, .inl low, .inl high] v1 G (fun r v' G' => q_wp (d + 4) 192 39 [.inr (.inr (.inl (some 137))), .inl w, .inl a, .inl b, .inl low, .inl high, .inr (.inr (.inr ()))] (q_push r []) v' G' Q) := c_mproof hG hb hIb (by omega) (by omega) hl hl2 hh9.1 hh9.2 g2 (by omega) (fun v2 r1 r2 => by
        rw [eWb] at r2
        have fin := hQ v2 (mfr_tr hm1 r1) r2
        simp only [e_192_39, e_192_110, q_push_I, q_push_L, q_push_P, q_push_U]
        exact fin)
      simp (disch := omega) only [e_192_24, e_192_25, e_192_26, e_192_29, e_192_30, e_192_31, e_192_32, e_192_34, e_192_36, ↓if_pos, ↓if_neg]
      repeat' first | (refine And.intro ?_ ?_) | exact True.intro | omega | assumption | rfl
    · rw [if_neg c5] at hQ
      by_cases c4 : w = 4 ∨ w = 6
      · rw [if_pos c4] at hQ
        have hq := hh (by omega)
        have pm := plm_mono (v := v) (t := a) (n := (v 141 a).toNat) (x := low) (y := high + 1) (by omega)
        have hIa1 := tb_all hB1 a ha
        have key := s_mprob_loop (d := d) (Q := Q) (w := w) (low := low) (e := plm v a (v 141 a).toNat (high + 1)) hG ha hb hB rfl rfl hh9.1 hh9.2 (plm v a (v 141 a).toNat (high + 1) - plm v a (v 141 a).toNat low) (plm v a (v 141 a).toNat low) v1 _ (by omega) hm1 g2 (by omega) hQ
        have ep : ∀ (d' : Nat) (Q' : q_V → q_H → q_Gr → Prop), q_call (d' + 1) 161 [.inr (.inr (.inl (some 137))), .inl a, .inl low] v1 G Q' = Q' (.inl ((14 * a + plm v a (v 141 a).toNat low : Nat))) v1 G := fun d' Q' => by
          rw [c_mplace (n := (v 141 a).toNat) hG ha (by rw [k141, hIa.2.1]; omega) h14 (fun k hk => by
            have := hIa.2.2.2.2.2.2.2.1 k hk
            rw [k142]
            omega) (by omega) (by omega), plm_cg k142]
        simp (disch := omega) only [E192, SHM hG, ep, q_push_I, q_push_L, q_push_P, q_push_U, ↓if_pos, ↓if_neg]
        repeat' first | (refine And.intro ?_ ?_) | exact True.intro | omega | assumption | rfl
      · rw [if_neg c4, List.append_nil] at hQ
        have fin := hQ v1 hm1 g2
        simp (disch := omega) only [E192, ↓if_pos, ↓if_neg]
        repeat' first | (refine And.intro ?_ ?_) | exact True.intro | omega | assumption | rfl)
  by_cases c3 : w < 3
  · rw [if_pos c3] at first
    simp (disch := omega) only [e_192, e_192_0, e_192_1, e_192_2, e_192_5, e_192_6, e_192_7, e_192_8, e_192_11, e_192_12, e_192_15, e_192_16, e_192_17, e_192_19, e_192_21, SHM hG, ↓if_pos, ↓if_neg]
    repeat' first | (refine And.intro ?_ ?_) | exact True.intro | omega | assumption | rfl
  · rw [if_neg c3] at first
    simp (disch := omega) only [e_192, e_192_0, e_192_1, e_192_2, e_192_5, e_192_6, e_192_7, e_192_8, e_192_11, e_192_12, e_192_15, e_192_16, e_192_17, e_192_19, e_192_21, SHM hG, ↓if_pos, ↓if_neg]
    repeat' first | (refine And.intro ?_ ?_) | exact True.intro | omega | assumption | rfl
end
