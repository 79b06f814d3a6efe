def itL (f : Nat → Int) : Nat → Nat → List Int
  | 0, _ => []
  | r + 1, j => f j :: itL f r (j + 1)
theorem itL_len (f : Nat → Int) : ∀ r j, (itL f r j).length = r
  | 0, j => rfl
  | r + 1, j => by unfold itL; rw [List.length_cons, itL_len f r (j + 1)]
theorem itL_cg {f g : Nat → Int} : ∀ r j, (∀ k, j ≤ k → k < j + r → f k = g k) → itL f r j = itL g r j
  | 0, j, _ => rfl
  | r + 1, j, h => by
    unfold itL
    rw [h j (Nat.le_refl _) (by omega), itL_cg r (j + 1) (fun k k1 k2 => h k (by omega) (by omega))]
theorem itL_at (f : Nat → Int) : ∀ r j k (h : k < (itL f r j).length), (itL f r j)[k] = f (j + k)
  | 0, j, k, h => absurd h (Nat.not_lt_zero _)
  | r + 1, j, 0, _ => rfl
  | r + 1, j, k + 1, h => by
    have := itL_at f r (j + 1) k (by simpa [itL] using h)
    rw [show j + 1 + k = j + (k + 1) by omega] at this
    exact this
theorem itL_rng {f : Nat → Int} : ∀ r j, (∀ k, j ≤ k → k < j + r → -2147483648 ≤ f k ∧ f k ≤ 2147483647) → ∀ x, x ∈ itL f r j → -2147483648 ≤ x ∧ x ≤ 2147483647
  | 0, j, _, x, hx => by unfold itL at hx; cases hx
  | r + 1, j, h, x, hx => by
    unfold itL at hx
    rcases List.mem_cons.mp hx with e | hx
    · rw [e]
      exact h j (Nat.le_refl _) (by omega)
    · exact itL_rng r (j + 1) (fun k k1 k2 => h k (by omega) (by omega)) x hx
section
variable {d q : Nat} {v : q_H} {G : q_Gr} {Q : q_V → q_H → q_Gr → Prop}
theorem g_chk52 (hG : gok G) : gChk G 52 := ⟨by rw [sh_52 hG], ⟨rf_52_0 hG, rf_52_3 hG, rf_52_4 hG, rf_52_5 hG, rf_52_6 hG, rf_52_7 hG, rf_52_10 hG, rf_52_11 hG, rf_52_13 hG⟩, g_num53 hG, ⟨by rw [sh_55 hG], rf_55_0 hG, rf_55_1 hG, rf_55_2 hG, rf_55_3 hG, sh_56 hG, sh_57 hG, sh_58 hG, sh_59 hG, by decide⟩, sh_60 hG, sh_61 hG, sh_62 hG, sh_63 hG, ⟨by rw [sh_64 hG], rf_64_0 hG, rf_64_1 hG, by rw [sh_65 hG], by rw [sh_65 hG], by rw [sh_66 hG], by rw [sh_66 hG], by decide⟩, ⟨by rw [sh_67 hG], rf_67_0 hG, rf_67_1 hG, by rw [sh_68 hG], by rw [sh_68 hG], by rw [sh_69 hG], by rw [sh_69 hG], by decide⟩, g_num70 hG, by decide, by decide⟩
theorem g_chk72 (hG : gok G) : gChk G 72 := ⟨by rw [sh_72 hG], ⟨rf_72_0 hG, rf_72_3 hG, rf_72_4 hG, rf_72_5 hG, rf_72_6 hG, rf_72_7 hG, rf_72_10 hG, rf_72_11 hG, rf_72_13 hG⟩, g_num73 hG, ⟨by rw [sh_75 hG], rf_75_0 hG, rf_75_1 hG, rf_75_2 hG, rf_75_3 hG, sh_76 hG, sh_77 hG, sh_78 hG, sh_79 hG, by decide⟩, sh_80 hG, sh_81 hG, sh_82 hG, sh_83 hG, ⟨by rw [sh_84 hG], rf_84_0 hG, rf_84_1 hG, by rw [sh_85 hG], by rw [sh_85 hG], by rw [sh_86 hG], by rw [sh_86 hG], by decide⟩, ⟨by rw [sh_87 hG], rf_87_0 hG, rf_87_1 hG, by rw [sh_88 hG], by rw [sh_88 hG], by rw [sh_89 hG], by rw [sh_89 hG], by decide⟩, g_num90 hG, by decide, by decide⟩
theorem actI_Q {p n : Nat} (h : actI v p n) : actQ v p (v 149 n) (v 152 n) (v 153 n) := by
  obtain ⟨a1, a2, a3, a4, a5, a6, a7, a8, a9, a10, a11⟩ := h
  refine ⟨a1, by omega, a4, by omega, fun c => ?_, fun c => ?_⟩
  · have := a9 (by omega)
    omega
  · have := a10 (by omega)
    omega
/-- the class lays the numbers before its checker -/
theorem s_given {s i m : Nat} {v0 : q_H} {z1 z2 z5 z6 : q_V} (hG : gok G) (hs : s < 8) (hsz : v0 (94 + 2 * s) 2 ≤ 600) (him : (i : Int) + m ≤ v0 (94 + 2 * s) 2) (hC : ∀ v' (z8 : q_V), (∀ b, b ≠ 53 → b ≠ 54 → v' b = v0 b) → hasL v' 53 1 54 (itL (v0 (95 + 2 * s)) m i) → q_wp (d + 3) 133 179 [.inr (.inr (.inl (some 32))), z1, z2, .inl s, .inl i, z5, z6, .inl m, z8] [] v' G Q) : ∀ (r k : Nat) (v : q_H) (L0 : List Int), k + r = m → (∀ b, b ≠ 53 → b ≠ 54 → v b = v0 b) → hasL v 53 1 54 L0 → L0.length = k → L0 ++ itL (v0 (95 + 2 * s)) r (i + k) = itL (v0 (95 + 2 * s)) m i → q_wp (d + 3) 133 142 [.inr (.inr (.inl (some 32))), z1, z2, .inl s, .inl i, z5, z6, .inl m, .inl k] [] v G Q := by
  have hN := g_num53 hG
  obtain ⟨gs1, gs2⟩ := g_sheet hG s hs
  intro r
  induction r with
  | zero =>
    intro k v L0 h hf hL hk he
    have e0 : L0 ++ itL (v0 (95 + 2 * s)) 0 (i + k) = L0 := List.append_nil _
    rw [e0] at he
    rw [he] at hL
    have fin := hC v (.inl k) hf hL
    rw [e_133_142]
    simp (disch := omega) only [e_133_144, e_133_146, ↓if_pos]
    repeat' first | exact fin | (refine And.intro ?_ ?_) | exact True.intro | omega | rfl
  | succ r ih =>
    intro k v L0 h hf hL hk he
    have hL1 := hL.1
    have e2 : v (94 + 2 * s) 2 = v0 (94 + 2 * s) 2 := by rw [hf _ (by omega) (by omega)]
    have ei : ∀ (d' : Nat) (Q' : q_V → q_H → q_Gr → Prop), q_call (d' + 2) 93 [.inr (.inr (.inl (some (94 + 2 * s)))), .inl ((i : Int) + (k : Int))] v G Q' = Q' (.inl (v0 (95 + 2 * s) (i + k))) v G := fun d' Q' => by
      rw [c_sitem gs2 (by omega) (by omega) (by omega), show ((i : Int) + (k : Int)).toNat = i + k by omega, show 94 + 2 * s + 1 = 95 + 2 * s by omega, hf _ (by omega) (by omega)]
    have nx := ih (k + 1) (q_app v 53 1 54 (v0 (95 + 2 * s) (i + k))) (L0 ++ [v0 (95 + 2 * s) (i + k)]) (by omega) (fun b b1 b2 => by rw [app_r b1 b2, hf b b1 b2]) (by
      have := hasL_apl (q := 53) (f := 1) (i := 54) (ys := [v0 (95 + 2 * s) (i + k)]) (by decide) hL
      exact this) (by rw [List.length_append, hk]; rfl) (by
      rw [← he, List.append_assoc]
      rfl)
    have en : ∀ (x : Int) (d' : Nat) (Q' : q_V → q_H → q_Gr → Prop), q_call (d' + 1) 37 [.inr (.inr (.inl (some 53))), .inl x] v G Q' = Q' (.inr (.inr (.inr ()))) (q_app v 53 1 54 x) G := fun x d' Q' => c_nadd hN (by omega) (by omega) (by decide)
    rw [e_133_142]
    simp (disch := omega) only [e_133_144, e_133_146, e_133_149, e_133_150, e_133_153, e_133_156, e_133_157, e_133_160, e_133_161, e_133_162, e_133_164, e_133_166, e_133_167, e_133_170, e_133_173, e_133_176, E17, SHC hG, gs1, ei, en, ↓if_neg, q_push_I, q_push_L, q_push_P, q_push_U, Int.toNat_natCast, show (k : Int) + 1 = ((k + 1 : Nat) : Int) by omega]
    repeat' first | (refine And.intro ?_ ?_) | exact True.intro | omega | assumption | rfl
theorem s_mgiven {s i m : Nat} {v0 : q_H} {z1 z2 z5 z7 : q_V} (hG : gok G) (hs : s < 8) (hm : i + m ≤ 600) (h39 : v0 137 39 = (m : Int)) (hC : ∀ v' (z6 : q_V), (∀ b, b ≠ 160 → v' b = v0 b) → (∀ k, k < m → v' 160 k = v0 140 (600 * s + i + k)) → q_wp d 210 176 [.inr (.inr (.inl (some 137))), z1, z2, .inl s, .inl i, z5, z6, z7] [] v' G Q) : ∀ (r k : Nat) (v : q_H), k + r = m → (∀ b, b ≠ 160 → v b = v0 b) → (∀ j, j < k → v 160 j = v0 140 (600 * s + i + j)) → q_wp d 210 138 [.inr (.inr (.inl (some 137))), z1, z2, .inl s, .inl i, z5, .inl k, z7] [] v G Q := by
  intro r
  induction r with
  | zero =>
    intro k v h hf hv
    have e : k = m := by omega
    subst e
    have fin := hC v (.inl k) hf hv
    have w39 : v 137 39 = (k : Int) := by rw [hf 137 (by omega), h39]
    rw [e_210_138]
    simp (disch := omega) only [e_210_140, e_210_141, e_210_144, SHM hG, w39, ↓if_pos]
    repeat' first | exact fin | (refine And.intro ?_ ?_) | exact True.intro | omega | rfl
  | succ r ih =>
    intro k v h hf hv
    have w39 : v 137 39 = (m : Int) := by rw [hf 137 (by omega), h39]
    have w140 : v 140 (600 * s + i + k) = v0 140 (600 * s + i + k) := by rw [hf 140 (by omega)]
    have nx := ih (k + 1) (q_up v 160 k (v0 140 (600 * s + i + k))) (by omega) (fun b hb => by rw [u_r hb, hf b hb]) (fun j hj => by
      by_cases e : j = k
      · subst e
        rw [u_s rfl rfl]
      · rw [u_n (by omega)]
        exact hv j (by omega))
    rw [e_210_138]
    simp (disch := omega) only [e_210_140, e_210_141, e_210_144, e_210_147, e_210_148, e_210_151, e_210_153, e_210_154, e_210_157, e_210_160, e_210_161, e_210_162, e_210_164, e_210_165, e_210_167, e_210_168, e_210_169, e_210_170, e_210_173, SHM hG, w39, w140, ↓if_neg, Int.toNat_natCast, show ((600 : Int) * (s : Int) + (i : Int) + (k : Int)).toNat = 600 * s + i + k by omega, show (k : Int) + 1 = ((k + 1 : Nat) : Int) by omega]
    repeat' first | (refine And.intro ?_ ?_) | exact True.intro | omega | assumption | rfl
theorem s_mread {m : Nat} {v0 : q_H} {z1 z2 z3 z4 z5 : q_V} {is : Int} (hG : gok G) (hm : m ≤ 60) (h62 : v0 137 62 = (m : Int)) (hC : ∀ v' (z7 : q_V), (∀ b, b ≠ 172 → v' b = v0 b) → (∀ k, k < m → v' 172 k = v0 159 k) → q_wp d 210 241 [.inr (.inr (.inl (some 137))), z1, z2, z3, z4, z5, .inl is, z7] [] v' G Q) : ∀ (r k : Nat) (v : q_H), k + r = m → (∀ b, b ≠ 172 → v b = v0 b) → (∀ j, j < k → v 172 j = v0 159 j) → q_wp d 210 212 [.inr (.inr (.inl (some 137))), z1, z2, z3, z4, z5, .inl is, .inl k] [] v G Q := by
  intro r
  induction r with
  | zero =>
    intro k v h hf hv
    have e : k = m := by omega
    subst e
    have fin := hC v (.inl k) hf hv
    have w62 : v 137 62 = (k : Int) := by rw [hf 137 (by omega), h62]
    rw [e_210_212]
    simp (disch := omega) only [e_210_214, e_210_215, e_210_218, SHM hG, w62, ↓if_pos]
    repeat' first | exact fin | (refine And.intro ?_ ?_) | exact True.intro | omega | rfl
  | succ r ih =>
    intro k v h hf hv
    have w62 : v 137 62 = (m : Int) := by rw [hf 137 (by omega), h62]
    have w159 : v 159 k = v0 159 k := by rw [hf 159 (by omega)]
    have nx := ih (k + 1) (q_up v 172 k (v0 159 k)) (by omega) (fun b hb => by rw [u_r hb, hf b hb]) (fun j hj => by
      by_cases e : j = k
      · subst e
        rw [u_s rfl rfl]
      · rw [u_n (by omega)]
        exact hv j (by omega))
    rw [e_210_212]
    simp (disch := omega) only [e_210_214, e_210_215, e_210_218, e_210_221, e_210_222, e_210_225, e_210_227, e_210_228, e_210_231, e_210_233, e_210_234, e_210_235, e_210_238, SHM hG, w62, w159, ↓if_neg, Int.toNat_natCast, show (k : Int) + 1 = ((k + 1 : Nat) : Int) by omega]
    repeat' first | (refine And.intro ?_ ?_) | exact True.intro | omega | assumption | rfl
end
