section
variable {d p c M : Nat} {v vA : q_H} {G GA : q_Gr} {Q : q_V → q_H → q_Gr → Prop}
def Bf (M : Nat) : Nat → List q_Ce
  | 0 => []
  | s + 1 => Bf M s ++ ((7, 3), [some (32 + (M + 2 * s + 1 + 0)), none, none]) :: [((20, 600), [])]
def Rf (M w n : Nat) : Nat → List (Option Nat)
  | 0 => List.replicate n none
  | s + 1 => (Rf M w n s).set s (some (32 + (M + w * s)))
theorem Bf_len (M : Nat) : ∀ s, (Bf M s).length = 2 * s
  | 0 => rfl
  | s + 1 => by
    show (Bf M s ++ _ :: [_]).length = _
    rw [List.length_append, Bf_len M s]
    rfl
theorem Bf_sum (M : Nat) : ∀ s, ((Bf M s).map fun x => x.1.2).sum = 603 * s
  | 0 => rfl
  | s + 1 => by
    show (List.map (fun x : q_Ce => x.1.2) (Bf M s ++ _ :: [_])).sum = _
    rw [List.map_append, List.sum_append, Bf_sum M s]
    show 603 * s + 603 = _
    omega
theorem Rf_len (M w n : Nat) : ∀ s, (Rf M w n s).length = n
  | 0 => by simp [Rf]
  | s + 1 => by
    show ((Rf M w n s).set s _).length = n
    rw [List.length_set, Rf_len M w n s]
def vb (vA v : q_H) (M s : Nat) : Prop := (∀ b, b < 32 + M → v b = vA b) ∧ ∀ k, k < s → ∀ j, v (32 + (M + 2 * k)) j = (if j = 1 then -1 else 0) ∧ v (32 + (M + 2 * k + 1)) j = 0
theorem vb_s {v1 : q_H} {s : Nat} (h : vb vA v M s) (z : vz (q_zr v (32 + (M + 2 * s))) v1 (M + 2 * s + 1) 1) : vb vA (q_up v1 (32 + (M + 2 * s)) 1 (-1)) M (s + 1) := by
  obtain ⟨a1, a2⟩ := h
  obtain ⟨b1, b2⟩ := z
  have zz : ∀ j, q_zr v (32 + (M + 2 * s)) (32 + (M + 2 * s)) j = 0 := fun j => by
    show (if 32 + (M + 2 * s) = 32 + (M + 2 * s) then (0 : Int) else _) = 0
    rw [if_pos rfl]
  refine ⟨fun b hb => by rw [u_r (by omega), b1 b (by omega), zr_r (by omega), a1 b hb], fun k hk j => ?_⟩
  by_cases e : k = s
  · subst e
    refine ⟨?_, ?_⟩
    · by_cases e1 : j = 1
      · rw [if_pos e1, u_s rfl e1]
      · rw [if_neg e1, u_n (by omega), b1 _ (by omega), zz]
    · rw [u_r (by omega), b2 _ (by omega) (by omega)]
  · have := a2 k (by omega) j
    rw [u_r (by omega), u_r (by omega), b1 _ (by omega), b1 _ (by omega), zr_r (by omega), zr_r (by omega)]
    exact this
theorem s_sheets (h0 : GA.2.2.1 = M) (hp : p < 32 + M) (hc : c < 32 + M) (hpc : p ≠ c) (k1 : (GA.2.1 p).1 = 10) (k2 : GA.1 p 0 = some c) (k3 : GA.2.1 c = (37, 8)) (hr : M + 16 ≤ 600000 ∧ GA.2.2.2 + 4824 ≤ 7302250) (hQ : ∀ v' G', gx M GA G' c (Bf M 8) (Rf M 2 8 8) → vb vA v' M 8 → q_wp (d + 2) 117 111 [.inr (.inr (.inl (some p))), .inl 8] [] v' G' Q) : ∀ (n s : Nat) (v : q_H) (G : q_Gr), s + n = 8 → gx M GA G c (Bf M s) (Rf M 2 8 s) → vb vA v M s → q_wp (d + 2) 117 86 [.inr (.inr (.inl (some p))), .inl s] [] v G Q := by
  intro n
  induction n with
  | zero =>
    intro s v G hs g z
    have e : s = 8 := by omega
    subst e
    have fin := hQ v G g z
    clear hQ
    rw [e_117_86]
    simp (disch := omega) only [e_117_87, e_117_89, ↓if_pos, ↓if_neg]
    repeat' first | (refine And.intro ?_ ?_) | exact True.intro | omega | assumption | rfl
  | succ n ih =>
    intro s v G hs g z
    have bl := Bf_len M s
    have c1 : G.2.2.1 = M + 2 * s := by rw [g.2.1, bl]
    have c2 : G.2.2.2 = GA.2.2.2 + 603 * s := by rw [g.2.2.1, Bf_sum]
    have c3 : (G.2.1 p).1 = 10 := by rw [(g.2.2.2.1 p hp).1, k1]
    have c4 : G.1 p 0 = some c := by rw [(g.2.2.2.1 p hp).2 hpc, k2]
    have nw := gx_new (kd := 7) (n := 3) g
    rw [bl] at nw
    have key : q_call (d + 2) 86 [.inr (.inr (.inl (some (32 + (M + 2 * s)))))] (q_zr v (32 + (M + 2 * s))) (q_mk G 7 3) (fun r v' G' => q_wp (d + 2) 117 104 [.inr (.inr (.inl (some p))), .inl s] (q_push r [.inr (.inr (.inl (some (32 + (M + 2 * s))))), .inl s, .inr (.inr (.inl (some c)))]) v' G' Q) := by
      refine k86 (m := M + 2 * s + 1) nw.1 (congrArg Prod.fst nw.2.2) (by omega) nw.2.1 ⟨by omega, by rw [mk_4, c2]; omega⟩ (fun v1 H h3 z3 => ?_)
      have z' := vb_s z z3
      have c5 : H.2.1 c = (37, 8) := by rw [(h3.2.2.2.1 c (by omega)).1, mk_2 (by omega), (g.2.2.2.1 c hc).1, k3]
      have c6 : H.2.1 (32 + (M + 2 * s)) = (7, 3) := by rw [(h3.2.2.2.1 _ (by omega)).1, nw.2.2]
      have g' := gx_sub (k := s) hc g (by rw [bl]; exact h3) (by rw [Rf_len]; omega)
      rw [bl] at g'
      have nx := ih (s + 1) _ _ (by omega) g' z'
      clear ih hQ g' h3 z' z3 nw
      simp (disch := omega) only [e_117_104, e_117_105, e_117_108, c5, c6, q_push_I, q_push_L, q_push_P, q_push_U, Int.toNat_natCast, show (s : Int) + 1 = ((s + 1 : Nat) : Int) by omega]
      repeat' first | (refine And.intro ?_ ?_) | exact True.intro | omega | assumption | rfl
    clear ih hQ nw
    rw [e_117_86]
    simp (disch := omega) only [e_117_87, e_117_89, e_117_92, e_117_93, e_117_96, e_117_97, e_117_100, e_117_101, c1, c3, c4, ↓if_pos, ↓if_neg]
    repeat' first | (refine And.intro ?_ ?_) | exact True.intro | omega | assumption | rfl
end
