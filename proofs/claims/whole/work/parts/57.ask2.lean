section
variable {d q : Nat} {v : q_H} {G : q_Gr} {Q : q_V → q_H → q_Gr → Prop}
theorem c_mmark {a A : Nat} {k : Int} (hG : gok G) (ha : a < 12) (hA : A < 3) (h15 : v 150 a = (A : Int)) (hw : 0 ≤ v 149 a) (hw6 : v 149 a ≤ 6) (hk : kd (v 149 a) = k) (h0 : 0 ≤ v 137 65) (h6 : v 137 65 < 14) : q_call (d + 3) 219 [.inr (.inr (.inl (some 137))), .inl a] v G Q = Q (.inl (mkV k a (v 141 A))) (q_apl v 137 65 173 (mkL k)) G := by
  refine q_call_eq ?_ Q
  have kr := kd_rng (v 149 a)
  have ek : ∀ (d' : Nat) (Q' : q_V → q_H → q_Gr → Prop), q_call (d' + 1) 214 [.inr (.inr (.inl (some 137))), .inl a] v G Q' = Q' (.inl k) v G := fun d' Q' => by rw [c_mkind hG ha hw hw6, hk]
  rw [hk] at kr
  unfold mkV mkL
  rcases (show k = 1 ∨ k = 2 ∨ k = 3 ∨ k = 4 ∨ k = 5 ∨ k = 6 by omega) with c | c | c | c | c | c <;> subst c <;> simp (disch := first | assumption | omega | ((try simp (disch := omega) only [app_c, app_n, u_n, u_s]); omega)) only [E219, SHM hG, ek, c_misof, show isoI 1 1 = 1 from rfl, show isoI 2 1 = 1 from rfl, show isoI 3 1 = 1 from rfl, show isoI 4 1 = 1 from rfl, show isoI 5 1 = 0 from rfl, show isoI 6 1 = 0 from rfl, c_began, app_n, h15, Int.toNat_natCast, q_push_I, q_push_L, q_push_P, q_push_U, ↓if_neg, ↓if_pos] <;> repeat' first | (refine And.intro ?_ ?_) | rfl | exact True.intro | assumption | omega
theorem c_msize {a A B p : Nat} {k : Int} (hG : gok G) (hB : tbI v) (hp2 : 174 ≤ p) (hA3 : actI v p a) (ha : a < 12) (hA : A < 3) (h15 : v 150 a = (A : Int)) (hb : B < 3) (h16 : v 151 a = (B : Int)) (hk : kd (v 149 a) = k) (h0 : v 137 65 = 0) (hQ : ∀ v', (∀ b, b < 137 ∨ (137 < b ∧ b < 144) ∨ (147 < b ∧ b < 155) ∨ (158 < b ∧ b ≠ 173) → v' b = v b) → (∀ j, j ≠ 8 → j ≠ 32 → j ≠ 65 → v' 137 j = v 137 j) → hasL v' 137 65 173 (szL k) → Q (.inl (szV k a (v 141 A) (v 141 B) (actP v a).length)) v' G) : q_call (d + 7) 220 [.inr (.inr (.inl (some 137))), .inl a] v G Q := by
  have kr := kd_rng (v 149 a)
  have al := actP_len hB hA3
  have hw0 : 0 ≤ v 149 a := by have := hA3.1; have := hA3.2.2.2.2.1; omega
  have hw6 : v 149 a ≤ 6 := by have := hA3.1; have := hA3.2.2.2.2.1; omega
  have ek : ∀ (d' : Nat) (Q' : q_V → q_H → q_Gr → Prop), q_call (d' + 1) 214 [.inr (.inr (.inl (some 137))), .inl a] v G Q' = Q' (.inl k) v G := fun d' Q' => by rw [c_mkind hG ha hw0 hw6, hk]
  rw [hk] at kr
  have hL0 : hasL v 137 65 173 [] := hasL_0 h0
  have tell : ∀ (xs : List Int) (Q2 : q_V → q_H → q_Gr → Prop), (∀ v2, mfr v2 (q_apl v 137 65 173 xs) → hasL v2 137 32 155 (actP v a) → Q2 (.inr (.inr (.inr ()))) v2 G) → q_call (d + 6) 193 [.inr (.inr (.inl (some 137))), .inl a] (q_apl v 137 65 173 xs) G Q2 := fun xs Q2 hC => m_act2 (p := p) hG hB hp2 ha hA3 (fun b hb => apl_r (by omega) (by omega)) hC
  have lst : ∀ (xs ys : List Int) (v2 : q_H), mfr v2 (q_apl v 137 65 173 xs) → hasL (q_apl v2 137 65 173 ys) 137 65 173 (xs ++ ys) := fun xs ys v2 f2 => hasL_apl (by decide) (by
    have := hasL_apl (ys := xs) (show 137 ≠ 173 by decide) hL0
    exact ⟨by rw [f2.2 65 (by decide) (by decide)]; exact this.1, fun k hk => by rw [mfr_r f2 173 (by omega)]; exact this.2 k hk⟩)
  have frm : ∀ (xs ys : List Int) (v2 : q_H), mfr v2 (q_apl v 137 65 173 xs) → (∀ b, b < 137 ∨ (137 < b ∧ b < 144) ∨ (147 < b ∧ b < 155) ∨ (158 < b ∧ b ≠ 173) → q_apl v2 137 65 173 ys b = v b) ∧ (∀ j, j ≠ 8 → j ≠ 32 → j ≠ 65 → q_apl v2 137 65 173 ys 137 j = v 137 j) := fun xs ys v2 f2 => ⟨fun b hb => by rw [apl_r (by omega) (by omega), mfr_r f2 b (by omega), apl_r (by omega) (by omega)], fun j j1 j2 j3 => by rw [apl_n _ _ (by omega) (by omega), f2.2 j j1 j2, apl_n _ _ (by omega) (by omega)]⟩
  have mk : ∀ (xs : List Int) (v2 : q_H), xs.length ≤ 3 → mfr v2 (q_apl v 137 65 173 xs) → ∀ (d' : Nat) (Q' : q_V → q_H → q_Gr → Prop), q_call (d' + 3) 219 [.inr (.inr (.inl (some 137))), .inl a] v2 G Q' = Q' (.inl (mkV k a (v 141 A))) (q_apl v2 137 65 173 (mkL k)) G := fun xs v2 hx f2 d' Q' => by
    have e65 : v2 137 65 = xs.length := by rw [f2.2 65 (by decide) (by decide), apl_c, h0]; omega
    have e149 : v2 149 = v 149 := by rw [mfr_r f2 _ (by omega), apl_r (by omega) (by omega)]
    have e150 : v2 150 = v 150 := by rw [mfr_r f2 _ (by omega), apl_r (by omega) (by omega)]
    have e141 : v2 141 = v 141 := by rw [mfr_r f2 _ (by omega), apl_r (by omega) (by omega)]
    rw [c_mmark (A := A) (k := k) hG ha hA (by rw [e150, h15]) (by rw [e149]; exact hw0) (by rw [e149]; exact hw6) (by rw [e149, hk]) (by omega) (by omega), e141]
  have e141 : ∀ (xs : List Int) (v2 : q_H), mfr v2 (q_apl v 137 65 173 xs) → v2 141 = v 141 := fun xs v2 f2 => by rw [mfr_r f2 _ (by omega), apl_r (by omega) (by omega)]
  have e151 : ∀ (xs : List Int) (v2 : q_H), mfr v2 (q_apl v 137 65 173 xs) → v2 151 = v 151 := fun xs v2 f2 => by rw [mfr_r f2 _ (by omega), apl_r (by omega) (by omega)]
  unfold szV szL at hQ
  rcases (show k = 1 ∨ k = 2 ∨ k = 3 ∨ k = 4 ∨ k = 5 ∨ k = 6 by omega) with c | c | c | c | c | c
  · subst c
    have t1 := tell [11, 10] (fun r v' G' => q_wp (d + 6) 220 63 [.inr (.inr (.inl (some 137))), .inl a, .inl 1, .inr (.inr (.inr ()))] (q_push r []) v' G' Q) (fun v2 f2 l2 => by
      have fin := hQ _ (frm [11, 10] (mkL 1) v2 f2).1 (frm [11, 10] (mkL 1) v2 f2).2 (lst [11, 10] (mkL 1) v2 f2)
      have l21 := l2.1
      have mk' := mk [11, 10] v2 (by decide) f2
      simp (disch := omega) only [E220, SHM hG, mk', c_misof, show isoI 1 1 = 1 from rfl, show isoI 2 1 = 1 from rfl, show isoI 3 1 = 1 from rfl, show isoI 4 1 = 1 from rfl, show isoI 5 1 = 0 from rfl, show isoI 6 1 = 0 from rfl, l21, q_push_I, q_push_L, q_push_P, q_push_U, ↓if_neg, ↓if_pos]
      repeat' first | exact fin | (refine And.intro ?_ ?_) | exact True.intro | omega | rfl)
    simp (disch := first | assumption | omega | ((try simp (disch := omega) only [app_c, app_n, u_n, u_s]); omega)) only [e_220, e_220_0, e_220_1, e_220_2, e_220_5, e_220_6, e_220_7, e_220_8, e_220_11, e_220_12, e_220_14, e_220_17, e_220_18, e_220_19, e_220_20, e_220_23, e_220_25, e_220_28, e_220_30, e_220_33, e_220_34, e_220_35, e_220_36, e_220_39, e_220_42, e_220_44, e_220_47, e_220_49, e_220_52, e_220_53, e_220_55, e_220_58, e_220_59, e_220_60, SHM hG, ek, c_misof, show isoI 1 1 = 1 from rfl, show isoI 2 1 = 1 from rfl, show isoI 3 1 = 1 from rfl, show isoI 4 1 = 1 from rfl, show isoI 5 1 = 0 from rfl, show isoI 6 1 = 0 from rfl, c_began, q_push_I, q_push_L, q_push_P, q_push_U, ↓if_neg, ↓if_pos]
    repeat' first | (refine And.intro ?_ ?_) | rfl | exact True.intro | assumption | omega
  · subst c
    have t1 := tell [12, 11, 10] (fun r v' G' => q_wp (d + 6) 220 63 [.inr (.inr (.inl (some 137))), .inl a, .inl 2, .inr (.inr (.inr ()))] (q_push r []) v' G' Q) (fun v2 f2 l2 => by
      have fin := hQ _ (frm [12, 11, 10] (mkL 2) v2 f2).1 (frm [12, 11, 10] (mkL 2) v2 f2).2 (lst [12, 11, 10] (mkL 2) v2 f2)
      have l21 := l2.1
      have mk' := mk [12, 11, 10] v2 (by decide) f2
      simp (disch := omega) only [E220, SHM hG, mk', c_misof, show isoI 1 1 = 1 from rfl, show isoI 2 1 = 1 from rfl, show isoI 3 1 = 1 from rfl, show isoI 4 1 = 1 from rfl, show isoI 5 1 = 0 from rfl, show isoI 6 1 = 0 from rfl, l21, q_push_I, q_push_L, q_push_P, q_push_U, ↓if_neg, ↓if_pos]
      repeat' first | exact fin | (refine And.intro ?_ ?_) | exact True.intro | omega | rfl)
    simp (disch := first | assumption | omega | ((try simp (disch := omega) only [app_c, app_n, u_n, u_s]); omega)) only [e_220, e_220_0, e_220_1, e_220_2, e_220_5, e_220_6, e_220_7, e_220_8, e_220_11, e_220_12, e_220_14, e_220_17, e_220_18, e_220_19, e_220_20, e_220_23, e_220_25, e_220_28, e_220_30, e_220_33, e_220_34, e_220_35, e_220_36, e_220_39, e_220_42, e_220_44, e_220_47, e_220_49, e_220_52, e_220_53, e_220_55, e_220_58, e_220_59, e_220_60, SHM hG, ek, c_misof, show isoI 1 1 = 1 from rfl, show isoI 2 1 = 1 from rfl, show isoI 3 1 = 1 from rfl, show isoI 4 1 = 1 from rfl, show isoI 5 1 = 0 from rfl, show isoI 6 1 = 0 from rfl, c_began, q_push_I, q_push_L, q_push_P, q_push_U, ↓if_neg, ↓if_pos]
    repeat' first | (refine And.intro ?_ ?_) | rfl | exact True.intro | assumption | omega
  · subst c
    have t1 := tell [11, 10] (fun r v' G' => q_wp (d + 6) 220 63 [.inr (.inr (.inl (some 137))), .inl a, .inl 3, .inr (.inr (.inr ()))] (q_push r []) v' G' Q) (fun v2 f2 l2 => by
      have fin := hQ _ (frm [11, 10] (mkL 3) v2 f2).1 (frm [11, 10] (mkL 3) v2 f2).2 (lst [11, 10] (mkL 3) v2 f2)
      have l21 := l2.1
      have mk' := mk [11, 10] v2 (by decide) f2
      simp (disch := omega) only [E220, SHM hG, mk', c_misof, show isoI 1 1 = 1 from rfl, show isoI 2 1 = 1 from rfl, show isoI 3 1 = 1 from rfl, show isoI 4 1 = 1 from rfl, show isoI 5 1 = 0 from rfl, show isoI 6 1 = 0 from rfl, l21, q_push_I, q_push_L, q_push_P, q_push_U, ↓if_neg, ↓if_pos]
      repeat' first | exact fin | (refine And.intro ?_ ?_) | exact True.intro | omega | rfl)
    simp (disch := first | assumption | omega | ((try simp (disch := omega) only [app_c, app_n, u_n, u_s]); omega)) only [e_220, e_220_0, e_220_1, e_220_2, e_220_5, e_220_6, e_220_7, e_220_8, e_220_11, e_220_12, e_220_14, e_220_17, e_220_18, e_220_19, e_220_20, e_220_23, e_220_25, e_220_28, e_220_30, e_220_33, e_220_34, e_220_35, e_220_36, e_220_39, e_220_42, e_220_44, e_220_47, e_220_49, e_220_52, e_220_53, e_220_55, e_220_58, e_220_59, e_220_60, SHM hG, ek, c_misof, show isoI 1 1 = 1 from rfl, show isoI 2 1 = 1 from rfl, show isoI 3 1 = 1 from rfl, show isoI 4 1 = 1 from rfl, show isoI 5 1 = 0 from rfl, show isoI 6 1 = 0 from rfl, c_began, q_push_I, q_push_L, q_push_P, q_push_U, ↓if_neg, ↓if_pos]
    repeat' first | (refine And.intro ?_ ?_) | rfl | exact True.intro | assumption | omega
  · subst c
    have t1 := tell [11, 10] (fun r v' G' => q_wp (d + 6) 220 63 [.inr (.inr (.inl (some 137))), .inl a, .inl 4, .inr (.inr (.inr ()))] (q_push r []) v' G' Q) (fun v2 f2 l2 => by
      have fin := hQ _ (frm [11, 10] (mkL 4) v2 f2).1 (frm [11, 10] (mkL 4) v2 f2).2 (lst [11, 10] (mkL 4) v2 f2)
      have l21 := l2.1
      have mk' := mk [11, 10] v2 (by decide) f2
      simp (disch := omega) only [E220, SHM hG, mk', c_misof, show isoI 1 1 = 1 from rfl, show isoI 2 1 = 1 from rfl, show isoI 3 1 = 1 from rfl, show isoI 4 1 = 1 from rfl, show isoI 5 1 = 0 from rfl, show isoI 6 1 = 0 from rfl, l21, q_push_I, q_push_L, q_push_P, q_push_U, ↓if_neg, ↓if_pos]
      repeat' first | exact fin | (refine And.intro ?_ ?_) | exact True.intro | omega | rfl)
    simp (disch := first | assumption | omega | ((try simp (disch := omega) only [app_c, app_n, u_n, u_s]); omega)) only [e_220, e_220_0, e_220_1, e_220_2, e_220_5, e_220_6, e_220_7, e_220_8, e_220_11, e_220_12, e_220_14, e_220_17, e_220_18, e_220_19, e_220_20, e_220_23, e_220_25, e_220_28, e_220_30, e_220_33, e_220_34, e_220_35, e_220_36, e_220_39, e_220_42, e_220_44, e_220_47, e_220_49, e_220_52, e_220_53, e_220_55, e_220_58, e_220_59, e_220_60, SHM hG, ek, c_misof, show isoI 1 1 = 1 from rfl, show isoI 2 1 = 1 from rfl, show isoI 3 1 = 1 from rfl, show isoI 4 1 = 1 from rfl, show isoI 5 1 = 0 from rfl, show isoI 6 1 = 0 from rfl, c_began, q_push_I, q_push_L, q_push_P, q_push_U, ↓if_neg, ↓if_pos]
    repeat' first | (refine And.intro ?_ ?_) | rfl | exact True.intro | assumption | omega
  · subst c
    have t1 := tell [13, 10] (fun r v' G' => q_wp (d + 6) 220 63 [.inr (.inr (.inl (some 137))), .inl a, .inl 5, .inr (.inr (.inr ()))] (q_push r []) v' G' Q) (fun v2 f2 l2 => by
      have fin := hQ _ (frm [13, 10] [] v2 f2).1 (frm [13, 10] [] v2 f2).2 (lst [13, 10] [] v2 f2)
      have l21 := l2.1
      have x1 := e141 _ v2 f2
      have x2 := e151 _ v2 f2
      have fin : Q (.inl (((actP v a).length : Int) + v 141 B)) v2 G := fin
      simp (disch := omega) only [E220, SHM hG, c_misof, show isoI 1 1 = 1 from rfl, show isoI 2 1 = 1 from rfl, show isoI 3 1 = 1 from rfl, show isoI 4 1 = 1 from rfl, show isoI 5 1 = 0 from rfl, show isoI 6 1 = 0 from rfl, l21, x1, x2, h16, Int.toNat_natCast, q_push_I, q_push_L, q_push_P, q_push_U, ↓if_neg, ↓if_pos]
      repeat' first | exact fin | (refine And.intro ?_ ?_) | exact True.intro | omega | rfl)
    simp (disch := first | assumption | omega | ((try simp (disch := omega) only [app_c, app_n, u_n, u_s]); omega)) only [e_220, e_220_0, e_220_1, e_220_2, e_220_5, e_220_6, e_220_7, e_220_8, e_220_11, e_220_12, e_220_14, e_220_17, e_220_18, e_220_19, e_220_20, e_220_23, e_220_25, e_220_28, e_220_30, e_220_33, e_220_34, e_220_35, e_220_36, e_220_39, e_220_42, e_220_44, e_220_47, e_220_49, e_220_52, e_220_53, e_220_55, e_220_58, e_220_59, e_220_60, SHM hG, ek, c_misof, show isoI 1 1 = 1 from rfl, show isoI 2 1 = 1 from rfl, show isoI 3 1 = 1 from rfl, show isoI 4 1 = 1 from rfl, show isoI 5 1 = 0 from rfl, show isoI 6 1 = 0 from rfl, c_began, q_push_I, q_push_L, q_push_P, q_push_U, ↓if_neg, ↓if_pos]
    repeat' first | (refine And.intro ?_ ?_) | rfl | exact True.intro | assumption | omega
  · subst c
    have t1 := tell [14, 13, 10] (fun r v' G' => q_wp (d + 6) 220 63 [.inr (.inr (.inl (some 137))), .inl a, .inl 6, .inr (.inr (.inr ()))] (q_push r []) v' G' Q) (fun v2 f2 l2 => by
      have fin := hQ _ (frm [14, 13, 10] (mkL 6) v2 f2).1 (frm [14, 13, 10] (mkL 6) v2 f2).2 (lst [14, 13, 10] (mkL 6) v2 f2)
      have l21 := l2.1
      have x1 := e141 _ v2 f2
      have x2 := e151 _ v2 f2
      have mk' := mk [14, 13, 10] v2 (by decide) f2
      simp (disch := omega) only [E220, SHM hG, mk', c_misof, show isoI 1 1 = 1 from rfl, show isoI 2 1 = 1 from rfl, show isoI 3 1 = 1 from rfl, show isoI 4 1 = 1 from rfl, show isoI 5 1 = 0 from rfl, show isoI 6 1 = 0 from rfl, l21, x1, x2, h16, Int.toNat_natCast, q_push_I, q_push_L, q_push_P, q_push_U, ↓if_neg, ↓if_pos]
      repeat' first | exact fin | (refine And.intro ?_ ?_) | exact True.intro | omega | rfl)
    simp (disch := first | assumption | omega | ((try simp (disch := omega) only [app_c, app_n, u_n, u_s]); omega)) only [e_220, e_220_0, e_220_1, e_220_2, e_220_5, e_220_6, e_220_7, e_220_8, e_220_11, e_220_12, e_220_14, e_220_17, e_220_18, e_220_19, e_220_20, e_220_23, e_220_25, e_220_28, e_220_30, e_220_33, e_220_34, e_220_35, e_220_36, e_220_39, e_220_42, e_220_44, e_220_47, e_220_49, e_220_52, e_220_53, e_220_55, e_220_58, e_220_59, e_220_60, SHM hG, ek, c_misof, show isoI 1 1 = 1 from rfl, show isoI 2 1 = 1 from rfl, show isoI 3 1 = 1 from rfl, show isoI 4 1 = 1 from rfl, show isoI 5 1 = 0 from rfl, show isoI 6 1 = 0 from rfl, c_began, q_push_I, q_push_L, q_push_P, q_push_U, ↓if_neg, ↓if_pos]
    repeat' first | (refine And.intro ?_ ?_) | rfl | exact True.intro | assumption | omega
end
