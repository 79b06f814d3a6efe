section
variable {d p c M : Nat} {v vA : q_H} {G GA : q_Gr} {Q : q_V → q_H → q_Gr → Prop}
def L96 (m : Nat) : List q_Ce := [((6, 3), [some (32 + (m + 1)), some (32 + (m + 2)), none]), ((20, 16), []), ((20, 16), []), ((9, 4), [some (32 + (m + 4)), some (32 + (m + 5)), some (32 + (m + 6)), some (32 + (m + 7))]), ((20, 32), []), ((20, 32), []), ((20, 32), []), ((20, 32), [])]
def Cf (M : Nat) : Nat → List q_Ce
  | 0 => []
  | s + 1 => Cf M s ++ ((8, 2), [some (32 + (M + 9 * s + 1 + 0)), some (32 + (M + 9 * s + 1 + 3))]) :: L96 (M + 9 * s + 1)
theorem Cf_len (M : Nat) : ∀ s, (Cf M s).length = 9 * s
  | 0 => rfl
  | s + 1 => by
    show (Cf M s ++ _ :: L96 _).length = _
    rw [List.length_append, Cf_len M s]
    rfl
theorem Cf_sum (M : Nat) : ∀ s, ((Cf M s).map fun x => x.1.2).sum = 169 * s
  | 0 => rfl
  | s + 1 => by
    show (List.map (fun x : q_Ce => x.1.2) (Cf M s ++ _ :: L96 _)).sum = _
    rw [List.map_append, List.sum_append, Cf_sum M s]
    show 169 * s + 169 = _
    omega
theorem tab0_cg {v' : q_H} {q : Nat} (h : ∀ b, q ≤ b → b < q + 9 → v' b = v b) (h0 : tab0 v q) : tab0 v' q := by
  unfold tab0 treeI at *
  rw [h (q + 1) (by omega) (by omega), h (q + 2) (by omega) (by omega), h (q + 3) (by omega) (by omega), show q + 4 + 1 = q + 5 from rfl, show q + 4 + 2 = q + 6 from rfl, show q + 4 + 3 = q + 7 from rfl, show q + 4 + 4 = q + 8 from rfl, h (q + 5) (by omega) (by omega), h (q + 6) (by omega) (by omega), h (q + 7) (by omega) (by omega), h (q + 8) (by omega) (by omega)]
  exact h0
def vt (vA v : q_H) (M s : Nat) : Prop := (∀ b, b < 32 + M → v b = vA b) ∧ ∀ k, k < s → tab0 v (32 + (M + 9 * k))
theorem vt_s {v1 : q_H} {s : Nat} (h : vt vA v M s) (z1 : ∀ b, b < 32 + (M + 9 * s + 1) → v1 b = q_zr v (32 + (M + 9 * s)) b) (z2 : tab0 v1 (32 + (M + 9 * s))) : vt vA v1 M (s + 1) := by
  refine ⟨fun b hb => by rw [z1 b (by omega), zr_r (by omega), h.1 b hb], fun k hk => ?_⟩
  by_cases e : k = s
  · subst e
    exact z2
  · exact tab0_cg (fun b b1 b2 => by rw [z1 b (by omega), zr_r (by omega)]) (h.2 k (by omega))
theorem s_tables (h0 : GA.2.2.1 = M) (hp : p < 32 + M) (hc : c < 32 + M) (hpc : p ≠ c) (k1 : (GA.2.1 p).1 = 10) (k2 : GA.1 p 1 = some c) (k3 : GA.2.1 c = (38, 3)) (hr : M + 27 ≤ 600000 ∧ GA.2.2.2 + 507 ≤ 7302250) (hQ : ∀ v' G', gx M GA G' c (Cf M 3) (Rf M 9 3 3) → vt vA v' M 3 → Q (.inr (.inr (.inr ()))) v' G') : ∀ (n s : Nat) (v : q_H) (G : q_Gr), s + n = 3 → gx M GA G c (Cf M s) (Rf M 9 3 s) → vt vA v M s → q_wp (d + 7) 117 113 [.inr (.inr (.inl (some p))), .inl s] [] v G Q := by
  intro n
  induction n with
  | zero =>
    intro s v G hs g z
    have e : s = 3 := by omega
    subst e
    have fin := hQ v G g z
    clear hQ
    rw [e_117_113]
    simp (disch := omega) only [e_117_114, e_117_115, e_117_137, ↓if_pos, ↓if_neg]
    repeat' first | (refine And.intro ?_ ?_) | exact True.intro | omega | assumption | rfl
  | succ n ih =>
    intro s v G hs g z
    have bl := Cf_len M s
    have c1 : G.2.2.1 = M + 9 * s := by rw [g.2.1, bl]
    have c2 : G.2.2.2 = GA.2.2.2 + 169 * s := by rw [g.2.2.1, Cf_sum]
    have c3 : (G.2.1 p).1 = 10 := by rw [(g.2.2.2.1 p hp).1, k1]
    have c4 : G.1 p 1 = some c := by rw [(g.2.2.2.1 p hp).2 hpc, k2]
    have nw := gx_new (kd := 8) (n := 2) g
    rw [bl] at nw
    have key : q_call (d + 7) 96 [.inr (.inr (.inl (some (32 + (M + 9 * s)))))] (q_zr v (32 + (M + 9 * s))) (q_mk G 8 2) (fun r v' G' => q_wp (d + 7) 117 130 [.inr (.inr (.inl (some p))), .inl s] (q_push r [.inr (.inr (.inl (some (32 + (M + 9 * s))))), .inl s, .inr (.inr (.inl (some c)))]) v' G' Q) := by
      refine k96 (m := M + 9 * s + 1) nw.1 (congrArg Prod.fst nw.2.2) (by omega) (by omega) nw.2.1 ⟨by omega, by rw [mk_4, c2]; omega⟩ (fun v1 H h3 z3 z4 => ?_)
      have z' := vt_s z z3 z4
      have c5 : H.2.1 c = (38, 3) := by rw [(h3.2.2.2.1 c (by omega)).1, mk_2 (by omega), (g.2.2.2.1 c hc).1, k3]
      have c6 : H.2.1 (32 + (M + 9 * s)) = (8, 2) := by rw [(h3.2.2.2.1 _ (by omega)).1, nw.2.2]
      have g' := gx_sub (k := s) hc g (by rw [bl]; exact h3) (by rw [Rf_len]; omega)
      rw [bl] at g'
      have nx := ih (s + 1) _ _ (by omega) g' z'
      clear ih hQ g' h3 z' z3 z4 nw
      simp (disch := omega) only [e_117_130, e_117_131, e_117_134, c5, c6, q_push_I, q_push_L, q_push_P, q_push_U, Int.toNat_natCast, show (s : Int) + 1 = ((s + 1 : Nat) : Int) by omega]
      repeat' first | (refine And.intro ?_ ?_) | exact True.intro | omega | assumption | rfl
    clear ih hQ nw
    rw [e_117_113]
    simp (disch := omega) only [e_117_114, e_117_115, e_117_118, e_117_119, e_117_122, e_117_123, e_117_126, e_117_127, c1, c3, c4, ↓if_pos, ↓if_neg]
    repeat' first | (refine And.intro ?_ ?_) | exact True.intro | omega | assumption | rfl
end
