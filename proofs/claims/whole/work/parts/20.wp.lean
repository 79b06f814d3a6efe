
/-! ===== the clean machine, backwards: what must hold here so that Q holds at the end ===== -/
theorem q_exec_le {call call' : Nat → List q_V → q_H → q_Gr → Option q_R} (hc : ∀ m as v G x, call m as v G = some x → call' m as v G = some x) : ∀ (n n' m pc : Nat) (ls st : List q_V) (v : q_H) (G : q_Gr) (x : q_R), n ≤ n' → q_exec call n m pc ls st v G = some x → q_exec call' n' m pc ls st v G = some x := by
  intro n
  induction n with
  | zero => intro n' m pc ls st v G x _ h; cases h
  | succ n ih =>
    intro n' m pc ls st v G x hn h
    cases n' with
    | zero => omega
    | succ n' =>
      simp only [q_exec] at h ⊢
      split at h
      · next hk =>
        split at h
        · next S1 S2 S3 S4 S5 hs =>
          exact ih _ _ _ _ _ _ _ _ (by omega) h
        · cases h
      · next hk =>
        split at h
        · next hq =>
          rw [if_pos hq]
          split at h
          · next r1 v1 G1 hcl =>
            simp only [hc _ _ _ _ _ hcl]
            exact ih _ _ _ _ _ _ _ _ (by omega) h
          · cases h
        · cases h
      · exact h
theorem q_run_le {N N' : Nat} (hN : N ≤ N') : ∀ (d m : Nat) (as : List q_V) (v : q_H) (G : q_Gr) (x : q_R), q_run N d m as v G = some x → q_run N' d m as v G = some x := by
  intro d
  induction d with
  | zero => intro m as v G x h; cases h
  | succ d ih =>
    intro m as v G x h
    simp only [q_run] at h ⊢
    split at h
    · next hm =>
      rw [if_pos hm]
      split at h
      · next hq =>
        rw [if_pos hq]
        exact q_exec_le (fun m as v G x => ih m as v G x) _ _ _ _ _ _ _ _ _ hN h
      · cases h
    · next hm =>
      rw [if_neg hm]
      exact h
def q_wp (d m pc : Nat) (ls st : List q_V) (v : q_H) (G : q_Gr) (Q : q_V → q_H → q_Gr → Prop) : Prop := ∃ (N n : Nat) (r : q_V) (v' : q_H) (G' : q_Gr), q_exec (q_run N d) n m pc ls st v G = some (r, v', G') ∧ Q r v' G'
def q_call (d m : Nat) (as : List q_V) (v : q_H) (G : q_Gr) (Q : q_V → q_H → q_Gr → Prop) : Prop := ∃ (N : Nat) (r : q_V) (v' : q_H) (G' : q_Gr), q_run N d m as v G = some (r, v', G') ∧ Q r v' G'
theorem q_call_mono {d m : Nat} {as : List q_V} {v : q_H} {G : q_Gr} {Q Q' : q_V → q_H → q_Gr → Prop} (h : q_call d m as v G Q) (hQ : ∀ r v' G', Q r v' G' → Q' r v' G') : q_call d m as v G Q' := by
  obtain ⟨N, r, v', G', h1, h2⟩ := h
  exact ⟨N, r, v', G', h1, hQ _ _ _ h2⟩
section QW
variable {d m pc : Nat} {ls st : List q_V} {v : q_H} {G : q_Gr} {Q : q_V → q_H → q_Gr → Prop}
theorem q_wp_mono {Q' : q_V → q_H → q_Gr → Prop} (h : q_wp d m pc ls st v G Q) (hQ : ∀ r v' G', Q r v' G' → Q' r v' G') : q_wp d m pc ls st v G Q' := by
  obtain ⟨N, n, r, v', G', h1, h2⟩ := h
  exact ⟨N, n, r, v', G', h1, hQ _ _ _ h2⟩
theorem q_wp_st {S : q_S} (hk : q_kind (q_code m pc) = 0) (h : q_step (q_code m pc) pc ls st v G = some S) : q_wp d m pc ls st v G Q = q_wp d m S.1 S.2.1 S.2.2.1 S.2.2.2.1 S.2.2.2.2 Q := by
  obtain ⟨pc', ls', st', v1, G1⟩ := S
  apply propext
  constructor
  · rintro ⟨N, n, r, v', G', h1, h2⟩
    cases n with
    | zero => cases h1
    | succ n =>
      simp only [q_exec, hk, h] at h1
      exact ⟨N, n, r, v', G', h1, h2⟩
  · rintro ⟨N, n, r, v', G', h1, h2⟩
    refine ⟨N, n + 1, r, v', G', ?_, h2⟩
    simp only [q_exec, hk, h]
    exact h1
theorem q_wp_no (hk : q_kind (q_code m pc) = 0) (h : q_step (q_code m pc) pc ls st v G = none) : q_wp d m pc ls st v G Q = False := by
  apply propext
  constructor
  · rintro ⟨N, n, r, v', G', h1, h2⟩
    cases n with
    | zero => cases h1
    | succ n =>
      simp only [q_exec, hk, h] at h1
      cases h1
  · exact False.elim
/-- a step with a guard -/
theorem q_wp_if {g : Prop} {S : q_S} [inst : Decidable g] (hk : q_kind (q_code m pc) = 0) (h : q_step (q_code m pc) pc ls st v G = if g then some S else none) : q_wp d m pc ls st v G Q = (g ∧ q_wp d m S.1 S.2.1 S.2.2.1 S.2.2.2.1 S.2.2.2.2 Q) := by
  by_cases hg : g
  · rw [if_pos hg] at h
    rw [q_wp_st hk h]
    simp [hg]
  · rw [if_neg hg] at h
    rw [q_wp_no hk h]
    simp [hg]
theorem q_wp_ca {m2 k : Nat} {as rest : List q_V} (hk : q_kind (q_code m pc) = 1) (h1 : (q_code m pc).2.2.1 = m2) (h2 : (q_code m pc).2.2.2.1 = k) (hl : as.length = k) (hr : rest.length ≤ 4) (hst : st = as.reverse ++ rest) : q_wp d m pc ls st v G Q = q_call d m2 as v G (fun r v' G' => q_wp d m (pc + 3) ls (q_push r rest) v' G' Q) := by
  subst hst
  have e1 : (as.reverse ++ rest).take k = as.reverse := by rw [List.take_append_of_le_length (by rw [List.length_reverse]; omega), List.take_of_length_le (by rw [List.length_reverse]; omega)]
  have e2 : (as.reverse ++ rest).drop k = rest := by rw [← hl, ← List.length_reverse, List.drop_left]
  have e3 : (k ≤ (as.reverse ++ rest).length ∧ rest.length ≤ 4) = True := eq_true ⟨by rw [List.length_append, List.length_reverse]; omega, hr⟩
  apply propext
  constructor
  · rintro ⟨N, n, r, v', G', g1, g2⟩
    cases n with
    | zero => cases g1
    | succ n =>
      simp only [q_exec, hk, h1, h2, e1, e2, e3, if_true, List.reverse_reverse] at g1
      split at g1
      · next hc => exact ⟨N, _, _, _, hc, N, n, r, v', G', g1, g2⟩
      · cases g1
  · rintro ⟨N, r1, v1, G1, hc, N2, n, r, v', G', g1, g2⟩
    refine ⟨max N N2, n + 1, r, v', G', ?_, g2⟩
    simp only [q_exec, hk, h1, h2, e1, e2, e3, if_true, List.reverse_reverse, q_run_le (Nat.le_max_left N N2) _ _ _ _ _ _ hc]
    exact q_exec_le (q_run_le (Nat.le_max_right N N2) d) _ _ _ _ _ _ _ _ _ (Nat.le_refl _) g1
theorem q_wp_en {r : q_V} (hk : q_kind (q_code m pc) = 2) (h : q_end m (q_code m pc) st v G = some (r, v, G)) : q_wp d m pc ls st v G Q = Q r v G := by
  apply propext
  constructor
  · rintro ⟨N, n, r', v', G', h1, h2⟩
    cases n with
    | zero => cases h1
    | succ n =>
      simp only [q_exec, hk, h] at h1
      cases h1
      exact h2
  · intro hQ
    refine ⟨0, 1, r, v, G, ?_, hQ⟩
    simp only [q_exec, hk, h]
theorem q_wp_enN (hk : q_kind (q_code m pc) = 2) (h : q_end m (q_code m pc) st v G = none) : q_wp d m pc ls st v G Q = False := by
  apply propext
  constructor
  · rintro ⟨N, n, r', v', G', h1, h2⟩
    cases n with
    | zero => cases h1
    | succ n =>
      simp only [q_exec, hk, h] at h1
      cases h1
  · exact False.elim
theorem q_call_in {as : List q_V} (hm : m < 227) (hw : q_wd as ≤ (q_m m).2.2.1) (hlg : q_lgB m (q_ent as (q_m m).2.2.1) = true) : q_call (d + 1) m as v G Q = (q_rcv m as G = true ∧ q_wp d m 0 (q_ent as (q_m m).2.2.1) [] v G Q) := by
  apply propext
  constructor
  · rintro ⟨N, r, v', G', h1, h2⟩
    simp only [q_run, if_pos hm] at h1
    split at h1
    · next hq => exact ⟨hq.1, N, N, r, v', G', h1, h2⟩
    · cases h1
  · rintro ⟨hr, N, n, r, v', G', h1, h2⟩
    refine ⟨max N n, r, v', G', ?_, h2⟩
    simp only [q_run, if_pos hm]
    rw [if_pos ⟨hr, hw, hlg⟩]
    exact q_exec_le (q_run_le (Nat.le_max_left N n) d) _ _ _ _ _ _ _ _ _ (Nat.le_max_right N n) h1
theorem q_call_str {as : List q_V} (hm : ¬ m < 227) : q_call (d + 5) m as v G Q = (∃ r, q_str m as v G = some (r, v, G) ∧ Q r v G) := by
  apply propext
  constructor
  · rintro ⟨N, r, v', G', h1, h2⟩
    simp only [q_run, if_neg hm] at h1
    split at h1
    · obtain ⟨rfl, rfl⟩ := q_str_same h1
      exact ⟨r, h1, h2⟩
    · cases h1
  · rintro ⟨r, h1, h2⟩
    refine ⟨0, r, v, G, ?_, h2⟩
    simp only [q_run, if_neg hm]
    rw [if_pos (by omega)]
    exact h1
theorem q_push_I {a : Int} : q_push (.inl a) st = .inl a :: st := rfl
theorem q_push_L {a : Int} : q_push (.inr (.inl a)) st = .inr (.inl a) :: st := rfl
theorem q_push_P {a : Option Nat} : q_push (.inr (.inr (.inl a))) st = .inr (.inr (.inl a)) :: st := rfl
theorem q_push_U : q_push (.inr (.inr (.inr ()))) st = st := rfl

theorem q_w_iconst {n x1 x2 x3 x4 : Nat} {xi : Int} {a : Int} (h : q_code m pc = (.iconst a, n, x1, x2, x3, x4, xi)) : q_wp d m pc ls (st) v G Q = q_wp d m (pc + 1) (ls) (.inl a :: st) (v) (G) Q := q_wp_st (S := (pc + 1, ls, .inl a :: st, v, G)) (by rw [h]; rfl) (by rw [h]; rfl)
theorem q_w_bipush {n x1 x2 x3 x4 : Nat} {xi : Int} {a : Int} (h : q_code m pc = (.bipush a, n, x1, x2, x3, x4, xi)) : q_wp d m pc ls (st) v G Q = ((-128 ≤ a ∧ a ≤ 127) ∧ q_wp d m (pc + 2) (ls) (.inl a :: st) (v) (G) Q) := q_wp_if (S := (pc + 2, ls, .inl a :: st, v, G)) (by rw [h]; rfl) (by rw [h]; rfl)
theorem q_w_sipush {n x1 x2 x3 x4 : Nat} {xi : Int} {a : Int} (h : q_code m pc = (.sipush a, n, x1, x2, x3, x4, xi)) : q_wp d m pc ls (st) v G Q = ((-32768 ≤ a ∧ a ≤ 32767) ∧ q_wp d m (pc + 3) (ls) (.inl a :: st) (v) (G) Q) := q_wp_if (S := (pc + 3, ls, .inl a :: st, v, G)) (by rw [h]; rfl) (by rw [h]; rfl)
theorem q_w_lconst {n x1 x2 x3 x4 : Nat} {xi : Int} {a : Fin 2} (h : q_code m pc = (.lconst a, n, x1, x2, x3, x4, xi)) : q_wp d m pc ls (st) v G Q = q_wp d m (pc + 1) (ls) (.inr (.inl ((a : Nat) : Int)) :: st) (v) (G) Q := q_wp_st (S := (pc + 1, ls, .inr (.inl ((a : Nat) : Int)) :: st, v, G)) (by rw [h]; rfl) (by rw [h]; rfl)
theorem q_w_null {n x1 x2 x3 x4 : Nat} {xi : Int}  (h : q_code m pc = (.aconst_null, n, x1, x2, x3, x4, xi)) : q_wp d m pc ls (st) v G Q = q_wp d m (pc + 1) (ls) (.inr (.inr (.inl none)) :: st) (v) (G) Q := q_wp_st (S := (pc + 1, ls, .inr (.inr (.inl none)) :: st, v, G)) (by rw [h]; rfl) (by rw [h]; rfl)
theorem q_w_ldc {n x2 x3 x4 : Nat} {xi : Int} {a : Nat} (h : q_code m pc = (.ldc a, n, 0, x2, x3, x4, xi)) : q_wp d m pc ls (st) v G Q = q_wp d m (pc + 2) (ls) (.inl xi :: st) (v) (G) Q := q_wp_st (S := (pc + 2, ls, .inl xi :: st, v, G)) (by rw [h]; rfl) (by rw [h]; rfl)
theorem q_w_ldcw {n x2 x3 x4 : Nat} {xi : Int} {a : Nat} (h : q_code m pc = (.ldc_w a, n, 0, x2, x3, x4, xi)) : q_wp d m pc ls (st) v G Q = q_wp d m (pc + 3) (ls) (.inl xi :: st) (v) (G) Q := q_wp_st (S := (pc + 3, ls, .inl xi :: st, v, G)) (by rw [h]; rfl) (by rw [h]; rfl)
theorem q_w_ldcs {n x2 x3 x4 : Nat} {xi : Int} {a : Nat} (h : q_code m pc = (.ldc a, n, 1, x2, x3, x4, xi)) : q_wp d m pc ls (st) v G Q = q_wp d m (pc + 2) (ls) (.inr (.inr (.inl (some x2))) :: st) (v) (G) Q := q_wp_st (S := (pc + 2, ls, .inr (.inr (.inl (some x2))) :: st, v, G)) (by rw [h]; rfl) (by rw [h]; rfl)
theorem q_w_ldc2 {n x1 x2 x3 x4 : Nat} {xi : Int} {a : Nat} (h : q_code m pc = (.ldc2_w a, n, x1, x2, x3, x4, xi)) : q_wp d m pc ls (st) v G Q = q_wp d m (pc + 3) (ls) (.inr (.inl xi) :: st) (v) (G) Q := q_wp_st (S := (pc + 3, ls, .inr (.inl xi) :: st, v, G)) (by rw [h]; rfl) (by rw [h]; rfl)
theorem q_w_iload_n {n x1 x2 x3 x4 : Nat} {xi : Int} {k : Fin 4} {a : Int} (h : q_code m pc = (.iload_n k, n, x1, x2, x3, x4, xi)) (hl : ls[(k : Nat)]? = some (.inl a)) : q_wp d m pc ls st v G Q = q_wp d m (pc + 1) ls (.inl a :: st) v G Q := q_wp_st (S := (pc + 1, ls, .inl a :: st, v, G)) (by rw [h]; rfl) (by rw [h]; show q_lI ls _ _ = _; unfold q_lI; rw [hl])
theorem q_w_iload {n x1 x2 x3 x4 : Nat} {xi : Int} {k : Nat} {a : Int} (h : q_code m pc = (.iload k, n, x1, x2, x3, x4, xi)) (hl : ls[(k : Nat)]? = some (.inl a)) : q_wp d m pc ls st v G Q = q_wp d m (pc + 2) ls (.inl a :: st) v G Q := q_wp_st (S := (pc + 2, ls, .inl a :: st, v, G)) (by rw [h]; rfl) (by rw [h]; show q_lI ls _ _ = _; unfold q_lI; rw [hl])
theorem q_w_lload_n {n x1 x2 x3 x4 : Nat} {xi : Int} {k : Fin 4} {a : Int} (h : q_code m pc = (.lload_n k, n, x1, x2, x3, x4, xi)) (hl : ls[(k : Nat)]? = some (.inr (.inl a))) : q_wp d m pc ls st v G Q = q_wp d m (pc + 1) ls (.inr (.inl a) :: st) v G Q := q_wp_st (S := (pc + 1, ls, .inr (.inl a) :: st, v, G)) (by rw [h]; rfl) (by rw [h]; show q_lL ls _ _ = _; unfold q_lL; rw [hl])
theorem q_w_lload {n x1 x2 x3 x4 : Nat} {xi : Int} {k : Nat} {a : Int} (h : q_code m pc = (.lload k, n, x1, x2, x3, x4, xi)) (hl : ls[(k : Nat)]? = some (.inr (.inl a))) : q_wp d m pc ls st v G Q = q_wp d m (pc + 2) ls (.inr (.inl a) :: st) v G Q := q_wp_st (S := (pc + 2, ls, .inr (.inl a) :: st, v, G)) (by rw [h]; rfl) (by rw [h]; show q_lL ls _ _ = _; unfold q_lL; rw [hl])
theorem q_w_aload_n {n x1 x2 x3 x4 : Nat} {xi : Int} {k : Fin 4} {a : Option Nat} (h : q_code m pc = (.aload_n k, n, x1, x2, x3, x4, xi)) (hl : ls[(k : Nat)]? = some (.inr (.inr (.inl a)))) : q_wp d m pc ls st v G Q = q_wp d m (pc + 1) ls (.inr (.inr (.inl a)) :: st) v G Q := q_wp_st (S := (pc + 1, ls, .inr (.inr (.inl a)) :: st, v, G)) (by rw [h]; rfl) (by rw [h]; show q_lP ls _ _ = _; unfold q_lP; rw [hl])
theorem q_w_aload {n x1 x2 x3 x4 : Nat} {xi : Int} {k : Nat} {a : Option Nat} (h : q_code m pc = (.aload k, n, x1, x2, x3, x4, xi)) (hl : ls[(k : Nat)]? = some (.inr (.inr (.inl a)))) : q_wp d m pc ls st v G Q = q_wp d m (pc + 2) ls (.inr (.inr (.inl a)) :: st) v G Q := q_wp_st (S := (pc + 2, ls, .inr (.inr (.inl a)) :: st, v, G)) (by rw [h]; rfl) (by rw [h]; show q_lP ls _ _ = _; unfold q_lP; rw [hl])
theorem q_w_istore_n {n x1 x2 x3 x4 : Nat} {xi : Int} {k : Fin 4} {a : Int} (h : q_code m pc = (.istore_n k, n, x1, x2, x3, x4, xi)) : q_wp d m pc ls (.inl a :: st) v G Q = q_wp d m (pc + 1) (ls.set k (.inl a)) st v G Q := q_wp_st (S := (pc + 1, ls.set k (.inl a), st, v, G)) (by rw [h]; rfl) (by rw [h]; rfl)
theorem q_w_istore {n x1 x2 x3 x4 : Nat} {xi : Int} {k : Nat} {a : Int} (h : q_code m pc = (.istore k, n, x1, x2, x3, x4, xi)) : q_wp d m pc ls (.inl a :: st) v G Q = q_wp d m (pc + 2) (ls.set k (.inl a)) st v G Q := q_wp_st (S := (pc + 2, ls.set k (.inl a), st, v, G)) (by rw [h]; rfl) (by rw [h]; rfl)
theorem q_w_lstore_n {n x1 x2 x3 x4 : Nat} {xi : Int} {k : Fin 4} {a : Int} (h : q_code m pc = (.lstore_n k, n, x1, x2, x3, x4, xi)) : q_wp d m pc ls (.inr (.inl a) :: st) v G Q = q_wp d m (pc + 1) ((ls.set k (.inr (.inl a))).set (k + 1) (.inr (.inr (.inr ())))) st v G Q := q_wp_st (S := (pc + 1, (ls.set k (.inr (.inl a))).set (k + 1) (.inr (.inr (.inr ()))), st, v, G)) (by rw [h]; rfl) (by rw [h]; rfl)
theorem q_w_lstore {n x1 x2 x3 x4 : Nat} {xi : Int} {k : Nat} {a : Int} (h : q_code m pc = (.lstore k, n, x1, x2, x3, x4, xi)) : q_wp d m pc ls (.inr (.inl a) :: st) v G Q = q_wp d m (pc + 2) ((ls.set k (.inr (.inl a))).set (k + 1) (.inr (.inr (.inr ())))) st v G Q := q_wp_st (S := (pc + 2, (ls.set k (.inr (.inl a))).set (k + 1) (.inr (.inr (.inr ()))), st, v, G)) (by rw [h]; rfl) (by rw [h]; rfl)
theorem q_w_astore_n {n x1 x2 x3 x4 : Nat} {xi : Int} {k : Fin 4} {a : Option Nat} (h : q_code m pc = (.astore_n k, n, x1, x2, x3, x4, xi)) : q_wp d m pc ls (.inr (.inr (.inl a)) :: st) v G Q = q_wp d m (pc + 1) (ls.set k (.inr (.inr (.inl a)))) st v G Q := q_wp_st (S := (pc + 1, ls.set k (.inr (.inr (.inl a))), st, v, G)) (by rw [h]; rfl) (by rw [h]; rfl)
theorem q_w_astore {n x1 x2 x3 x4 : Nat} {xi : Int} {k : Nat} {a : Option Nat} (h : q_code m pc = (.astore k, n, x1, x2, x3, x4, xi)) : q_wp d m pc ls (.inr (.inr (.inl a)) :: st) v G Q = q_wp d m (pc + 2) (ls.set k (.inr (.inr (.inl a)))) st v G Q := q_wp_st (S := (pc + 2, ls.set k (.inr (.inr (.inl a))), st, v, G)) (by rw [h]; rfl) (by rw [h]; rfl)
theorem q_w_iinc {n x1 x2 x3 x4 : Nat} {xi : Int} {k : Nat} {a y : Int} (h : q_code m pc = (.iinc k y, n, x1, x2, x3, x4, xi)) (hl : ls[k]? = some (.inl a)) : q_wp d m pc ls st v G Q = q_wp d m (pc + 3) (ls.set k (.inl (a + y))) st v G Q := q_wp_st (S := (pc + 3, ls.set k (.inl (a + y)), st, v, G)) (by rw [h]; rfl) (by rw [h]; show q_lI ls _ _ = _; unfold q_lI; rw [hl])
theorem q_w_iadd {n x1 x2 x3 x4 : Nat} {xi : Int} {a b : Int} (h : q_code m pc = (.iadd, n, x1, x2, x3, x4, xi)) : q_wp d m pc ls (.inl b :: .inl a :: st) v G Q = q_wp d m (pc + 1) (ls) (.inl (a + b) :: st) (v) (G) Q := q_wp_st (S := (pc + 1, ls, .inl (a + b) :: st, v, G)) (by rw [h]; rfl) (by rw [h]; rfl)
theorem q_w_isub {n x1 x2 x3 x4 : Nat} {xi : Int} {a b : Int} (h : q_code m pc = (.isub, n, x1, x2, x3, x4, xi)) : q_wp d m pc ls (.inl b :: .inl a :: st) v G Q = q_wp d m (pc + 1) (ls) (.inl (a - b) :: st) (v) (G) Q := q_wp_st (S := (pc + 1, ls, .inl (a - b) :: st, v, G)) (by rw [h]; rfl) (by rw [h]; rfl)
theorem q_w_imul {n x1 x2 x3 x4 : Nat} {xi : Int} {a b : Int} (h : q_code m pc = (.imul, n, x1, x2, x3, x4, xi)) : q_wp d m pc ls (.inl b :: .inl a :: st) v G Q = q_wp d m (pc + 1) (ls) (.inl (a * b) :: st) (v) (G) Q := q_wp_st (S := (pc + 1, ls, .inl (a * b) :: st, v, G)) (by rw [h]; rfl) (by rw [h]; rfl)
theorem q_w_idiv {n x1 x2 x3 x4 : Nat} {xi : Int} {a b : Int} (h : q_code m pc = (.idiv, n, x1, x2, x3, x4, xi)) : q_wp d m pc ls (.inl b :: .inl a :: st) v G Q = ((q_inR a ∧ 0 < b ∧ b ≤ 2147483647) ∧ q_wp d m (pc + 1) (ls) (.inl (a.tdiv b) :: st) (v) (G) Q) := q_wp_if (S := (pc + 1, ls, .inl (a.tdiv b) :: st, v, G)) (by rw [h]; rfl) (by rw [h]; rfl)
theorem q_w_irem {n x1 x2 x3 x4 : Nat} {xi : Int} {a b : Int} (h : q_code m pc = (.irem, n, x1, x2, x3, x4, xi)) : q_wp d m pc ls (.inl b :: .inl a :: st) v G Q = ((q_inR a ∧ 0 < b ∧ b ≤ 2147483647) ∧ q_wp d m (pc + 1) (ls) (.inl (a.tmod b) :: st) (v) (G) Q) := q_wp_if (S := (pc + 1, ls, .inl (a.tmod b) :: st, v, G)) (by rw [h]; rfl) (by rw [h]; rfl)
theorem q_w_iand {n x1 x2 x3 x4 : Nat} {xi : Int} {a b : Int} (h : q_code m pc = (.iand, n, x1, x2, x3, x4, xi)) : q_wp d m pc ls (.inl b :: .inl a :: st) v G Q = q_wp d m (pc + 1) (ls) (.inl (Int32.ofInt a &&& Int32.ofInt b).toInt :: st) (v) (G) Q := q_wp_st (S := (pc + 1, ls, .inl (Int32.ofInt a &&& Int32.ofInt b).toInt :: st, v, G)) (by rw [h]; rfl) (by rw [h]; rfl)
theorem q_w_i2b {n x1 x2 x3 x4 : Nat} {xi : Int} {a : Int} (h : q_code m pc = (.i2b, n, x1, x2, x3, x4, xi)) : q_wp d m pc ls (.inl a :: st) v G Q = q_wp d m (pc + 1) (ls) (.inl (Int32.ofInt a).toInt8.toInt32.toInt :: st) (v) (G) Q := q_wp_st (S := (pc + 1, ls, .inl (Int32.ofInt a).toInt8.toInt32.toInt :: st, v, G)) (by rw [h]; rfl) (by rw [h]; rfl)
theorem q_w_i2s {n x1 x2 x3 x4 : Nat} {xi : Int} {a : Int} (h : q_code m pc = (.i2s, n, x1, x2, x3, x4, xi)) : q_wp d m pc ls (.inl a :: st) v G Q = q_wp d m (pc + 1) (ls) (.inl (Int32.ofInt a).toInt16.toInt32.toInt :: st) (v) (G) Q := q_wp_st (S := (pc + 1, ls, .inl (Int32.ofInt a).toInt16.toInt32.toInt :: st, v, G)) (by rw [h]; rfl) (by rw [h]; rfl)
theorem q_w_i2l {n x1 x2 x3 x4 : Nat} {xi : Int} {a : Int} (h : q_code m pc = (.i2l, n, x1, x2, x3, x4, xi)) : q_wp d m pc ls (.inl a :: st) v G Q = ((q_inR a) ∧ q_wp d m (pc + 1) (ls) (.inr (.inl a) :: st) (v) (G) Q) := q_wp_if (S := (pc + 1, ls, .inr (.inl a) :: st, v, G)) (by rw [h]; rfl) (by rw [h]; rfl)
theorem q_w_l2i {n x1 x2 x3 x4 : Nat} {xi : Int} {a : Int} (h : q_code m pc = (.l2i, n, x1, x2, x3, x4, xi)) : q_wp d m pc ls (.inr (.inl a) :: st) v G Q = q_wp d m (pc + 1) (ls) (.inl a :: st) (v) (G) Q := q_wp_st (S := (pc + 1, ls, .inl a :: st, v, G)) (by rw [h]; rfl) (by rw [h]; rfl)
theorem q_w_ladd {n x1 x2 x3 x4 : Nat} {xi : Int} {a b : Int} (h : q_code m pc = (.ladd, n, x1, x2, x3, x4, xi)) : q_wp d m pc ls (.inr (.inl b) :: .inr (.inl a) :: st) v G Q = q_wp d m (pc + 1) (ls) (.inr (.inl (a + b)) :: st) (v) (G) Q := q_wp_st (S := (pc + 1, ls, .inr (.inl (a + b)) :: st, v, G)) (by rw [h]; rfl) (by rw [h]; rfl)
theorem q_w_lmul {n x1 x2 x3 x4 : Nat} {xi : Int} {a b : Int} (h : q_code m pc = (.lmul, n, x1, x2, x3, x4, xi)) : q_wp d m pc ls (.inr (.inl b) :: .inr (.inl a) :: st) v G Q = q_wp d m (pc + 1) (ls) (.inr (.inl (a * b)) :: st) (v) (G) Q := q_wp_st (S := (pc + 1, ls, .inr (.inl (a * b)) :: st, v, G)) (by rw [h]; rfl) (by rw [h]; rfl)
theorem q_w_land {n x1 x2 x3 x4 : Nat} {xi : Int} {a b : Int} (h : q_code m pc = (.land, n, x1, x2, x3, x4, xi)) : q_wp d m pc ls (.inr (.inl b) :: .inr (.inl a) :: st) v G Q = q_wp d m (pc + 1) (ls) (.inr (.inl ((Int64.ofInt a &&& Int64.ofInt b).toInt)) :: st) (v) (G) Q := q_wp_st (S := (pc + 1, ls, .inr (.inl ((Int64.ofInt a &&& Int64.ofInt b).toInt)) :: st, v, G)) (by rw [h]; rfl) (by rw [h]; rfl)
theorem q_w_lor {n x1 x2 x3 x4 : Nat} {xi : Int} {a b : Int} (h : q_code m pc = (.lor, n, x1, x2, x3, x4, xi)) : q_wp d m pc ls (.inr (.inl b) :: .inr (.inl a) :: st) v G Q = q_wp d m (pc + 1) (ls) (.inr (.inl ((Int64.ofInt a ||| Int64.ofInt b).toInt)) :: st) (v) (G) Q := q_wp_st (S := (pc + 1, ls, .inr (.inl ((Int64.ofInt a ||| Int64.ofInt b).toInt)) :: st, v, G)) (by rw [h]; rfl) (by rw [h]; rfl)
theorem q_w_lrem {n x1 x2 x3 x4 : Nat} {xi : Int} {a b : Int} (h : q_code m pc = (.lrem, n, x1, x2, x3, x4, xi)) : q_wp d m pc ls (.inr (.inl b) :: .inr (.inl a) :: st) v G Q = ((q_inL a ∧ 0 < b ∧ b ≤ 9223372036854775807) ∧ q_wp d m (pc + 1) (ls) (.inr (.inl (a.tmod b)) :: st) (v) (G) Q) := q_wp_if (S := (pc + 1, ls, .inr (.inl (a.tmod b)) :: st, v, G)) (by rw [h]; rfl) (by rw [h]; rfl)
theorem q_w_lshl {n x1 x2 x3 x4 : Nat} {xi : Int} {a b : Int} (h : q_code m pc = (.lshl, n, x1, x2, x3, x4, xi)) : q_wp d m pc ls (.inl b :: .inr (.inl a) :: st) v G Q = q_wp d m (pc + 1) (ls) (.inr (.inl (Int64.ofInt a <<< ((Int32.ofInt b).toInt64 &&& 63)).toInt) :: st) (v) (G) Q := q_wp_st (S := (pc + 1, ls, .inr (.inl (Int64.ofInt a <<< ((Int32.ofInt b).toInt64 &&& 63)).toInt) :: st, v, G)) (by rw [h]; rfl) (by rw [h]; rfl)
theorem q_w_lshr {n x1 x2 x3 x4 : Nat} {xi : Int} {a b : Int} (h : q_code m pc = (.lshr, n, x1, x2, x3, x4, xi)) : q_wp d m pc ls (.inl b :: .inr (.inl a) :: st) v G Q = q_wp d m (pc + 1) (ls) (.inr (.inl (Int64.ofInt a >>> ((Int32.ofInt b).toInt64 &&& 63)).toInt) :: st) (v) (G) Q := q_wp_st (S := (pc + 1, ls, .inr (.inl (Int64.ofInt a >>> ((Int32.ofInt b).toInt64 &&& 63)).toInt) :: st, v, G)) (by rw [h]; rfl) (by rw [h]; rfl)
theorem q_w_lushr {n x1 x2 x3 x4 : Nat} {xi : Int} {a b : Int} (h : q_code m pc = (.lushr, n, x1, x2, x3, x4, xi)) : q_wp d m pc ls (.inl b :: .inr (.inl a) :: st) v G Q = q_wp d m (pc + 1) (ls) (.inr (.inl ((Int64.ofInt a).toUInt64 >>> ((Int32.ofInt b).toInt64.toUInt64 &&& Int64.toUInt64 63)).toInt64.toInt) :: st) (v) (G) Q := q_wp_st (S := (pc + 1, ls, .inr (.inl ((Int64.ofInt a).toUInt64 >>> ((Int32.ofInt b).toInt64.toUInt64 &&& Int64.toUInt64 63)).toInt64.toInt) :: st, v, G)) (by rw [h]; rfl) (by rw [h]; rfl)
theorem q_w_lcmp {n x1 x2 x3 x4 : Nat} {xi : Int} {a b : Int} (h : q_code m pc = (.lcmp, n, x1, x2, x3, x4, xi)) : q_wp d m pc ls (.inr (.inl b) :: .inr (.inl a) :: st) v G Q = ((q_inL a ∧ q_inL b) ∧ q_wp d m (pc + 1) (ls) (.inl (if b < a then 1 else if a = b then 0 else -1) :: st) (v) (G) Q) := q_wp_if (S := (pc + 1, ls, .inl (if b < a then 1 else if a = b then 0 else -1) :: st, v, G)) (by rw [h]; rfl) (by rw [h]; rfl)
theorem q_w_dupI {n x1 x2 x3 x4 : Nat} {xi : Int} {a : Int} (h : q_code m pc = (.dup, n, x1, x2, x3, x4, xi)) : q_wp d m pc ls (.inl a :: st) v G Q = q_wp d m (pc + 1) (ls) (.inl a :: .inl a :: st) (v) (G) Q := q_wp_st (S := (pc + 1, ls, .inl a :: .inl a :: st, v, G)) (by rw [h]; rfl) (by rw [h]; rfl)
theorem q_w_dupP {n x1 x2 x3 x4 : Nat} {xi : Int} {a : Option Nat} (h : q_code m pc = (.dup, n, x1, x2, x3, x4, xi)) : q_wp d m pc ls (.inr (.inr (.inl a)) :: st) v G Q = q_wp d m (pc + 1) (ls) (.inr (.inr (.inl a)) :: .inr (.inr (.inl a)) :: st) (v) (G) Q := q_wp_st (S := (pc + 1, ls, .inr (.inr (.inl a)) :: .inr (.inr (.inl a)) :: st, v, G)) (by rw [h]; rfl) (by rw [h]; rfl)
theorem q_w_popI {n x1 x2 x3 x4 : Nat} {xi : Int} {a : Int} (h : q_code m pc = (.pop, n, x1, x2, x3, x4, xi)) : q_wp d m pc ls (.inl a :: st) v G Q = q_wp d m (pc + 1) (ls) (st) (v) (G) Q := q_wp_st (S := (pc + 1, ls, st, v, G)) (by rw [h]; rfl) (by rw [h]; rfl)
theorem q_w_popP {n x1 x2 x3 x4 : Nat} {xi : Int} {a : Option Nat} (h : q_code m pc = (.pop, n, x1, x2, x3, x4, xi)) : q_wp d m pc ls (.inr (.inr (.inl a)) :: st) v G Q = q_wp d m (pc + 1) (ls) (st) (v) (G) Q := q_wp_st (S := (pc + 1, ls, st, v, G)) (by rw [h]; rfl) (by rw [h]; rfl)
theorem q_w_dup2 {n x1 x2 x3 x4 : Nat} {xi : Int} {i : Int} {a : Nat} (h : q_code m pc = (.dup2, n, x1, x2, x3, x4, xi)) : q_wp d m pc ls (.inl i :: .inr (.inr (.inl (some a))) :: st) v G Q = q_wp d m (pc + 1) (ls) (.inl i :: .inr (.inr (.inl (some a))) :: .inl i :: .inr (.inr (.inl (some a))) :: st) (v) (G) Q := q_wp_st (S := (pc + 1, ls, .inl i :: .inr (.inr (.inl (some a))) :: .inl i :: .inr (.inr (.inl (some a))) :: st, v, G)) (by rw [h]; rfl) (by rw [h]; rfl)
theorem q_w_goto {n x1 x2 x3 x4 : Nat} {xi : Int} {o : Int} {t : Nat} (h : q_code m pc = (.goto o, n, x1, x2, x3, x4, xi)) (ht : (pc : Int) + o = (t : Int)) : q_wp d m pc ls st v G Q = q_wp d m t ls st v G Q := q_wp_st (S := (t, ls, st, v, G)) (by rw [h]; rfl) (by rw [h]; show q_jmp pc o ls st v G = _; unfold q_jmp; rw [if_pos (by omega), ht]; rfl)
theorem q_w_icmp_eq {n x1 x2 x3 x4 : Nat} {xi : Int} {o a b : Int} {t : Nat} (h : q_code m pc = (.if_icmp .eq o, n, x1, x2, x3, x4, xi)) (ht : (pc : Int) + o = (t : Int)) : q_wp d m pc ls (.inl b :: .inl a :: st) v G Q = ((q_inR a ∧ q_inR b) ∧ if a = b then q_wp d m t ls st v G Q else q_wp d m (pc + 3) ls st v G Q) := by
  have e := q_wp_if (d := d) (Q := Q) (g := q_inR a ∧ q_inR b) (S := (if q_cmp .eq a b then t else pc + 3, ls, st, v, G)) (m := m) (pc := pc) (ls := ls) (st := .inl b :: .inl a :: st) (v := v) (G := G) (by rw [h]; rfl) (by rw [h]; show (if q_inR a ∧ q_inR b then q_br (q_cmp .eq a b) pc o ls st v G else none) = _; unfold q_br; rw [if_pos (show 0 ≤ (pc : Int) + o by omega), ht]; rfl)
  rw [e]
  congr 1
  by_cases hc : a = b
  · rw [if_pos hc, if_pos (show q_cmp .eq a b = true by simp [q_cmp, hc])]
  · rw [if_neg hc, if_neg (show ¬ q_cmp .eq a b = true by simpa [q_cmp] using hc)]
theorem q_w_if_eq {n x1 x2 x3 x4 : Nat} {xi : Int} {o a : Int} {t : Nat} (h : q_code m pc = (.ifCond .eq o, n, x1, x2, x3, x4, xi)) (ht : (pc : Int) + o = (t : Int)) : q_wp d m pc ls (.inl a :: st) v G Q = ((q_inR a) ∧ if a = 0 then q_wp d m t ls st v G Q else q_wp d m (pc + 3) ls st v G Q) := by
  have e := q_wp_if (d := d) (Q := Q) (g := q_inR a) (S := (if q_cmp .eq a 0 then t else pc + 3, ls, st, v, G)) (m := m) (pc := pc) (ls := ls) (st := .inl a :: st) (v := v) (G := G) (by rw [h]; rfl) (by rw [h]; show (if q_inR a then q_br (q_cmp .eq a 0) pc o ls st v G else none) = _; unfold q_br; rw [if_pos (show 0 ≤ (pc : Int) + o by omega), ht]; rfl)
  rw [e]
  congr 1
  by_cases hc : a = 0
  · rw [if_pos hc, if_pos (show q_cmp .eq a 0 = true by simp [q_cmp, hc])]
  · rw [if_neg hc, if_neg (show ¬ q_cmp .eq a 0 = true by simpa [q_cmp] using hc)]
theorem q_w_icmp_ne {n x1 x2 x3 x4 : Nat} {xi : Int} {o a b : Int} {t : Nat} (h : q_code m pc = (.if_icmp .ne o, n, x1, x2, x3, x4, xi)) (ht : (pc : Int) + o = (t : Int)) : q_wp d m pc ls (.inl b :: .inl a :: st) v G Q = ((q_inR a ∧ q_inR b) ∧ if ¬ a = b then q_wp d m t ls st v G Q else q_wp d m (pc + 3) ls st v G Q) := by
  have e := q_wp_if (d := d) (Q := Q) (g := q_inR a ∧ q_inR b) (S := (if q_cmp .ne a b then t else pc + 3, ls, st, v, G)) (m := m) (pc := pc) (ls := ls) (st := .inl b :: .inl a :: st) (v := v) (G := G) (by rw [h]; rfl) (by rw [h]; show (if q_inR a ∧ q_inR b then q_br (q_cmp .ne a b) pc o ls st v G else none) = _; unfold q_br; rw [if_pos (show 0 ≤ (pc : Int) + o by omega), ht]; rfl)
  rw [e]
  congr 1
  by_cases hc : ¬ a = b
  · rw [if_pos hc, if_pos (show q_cmp .ne a b = true by simp [q_cmp, hc])]
  · rw [if_neg hc, if_neg (show ¬ q_cmp .ne a b = true by simpa [q_cmp] using hc)]
theorem q_w_if_ne {n x1 x2 x3 x4 : Nat} {xi : Int} {o a : Int} {t : Nat} (h : q_code m pc = (.ifCond .ne o, n, x1, x2, x3, x4, xi)) (ht : (pc : Int) + o = (t : Int)) : q_wp d m pc ls (.inl a :: st) v G Q = ((q_inR a) ∧ if ¬ a = 0 then q_wp d m t ls st v G Q else q_wp d m (pc + 3) ls st v G Q) := by
  have e := q_wp_if (d := d) (Q := Q) (g := q_inR a) (S := (if q_cmp .ne a 0 then t else pc + 3, ls, st, v, G)) (m := m) (pc := pc) (ls := ls) (st := .inl a :: st) (v := v) (G := G) (by rw [h]; rfl) (by rw [h]; show (if q_inR a then q_br (q_cmp .ne a 0) pc o ls st v G else none) = _; unfold q_br; rw [if_pos (show 0 ≤ (pc : Int) + o by omega), ht]; rfl)
  rw [e]
  congr 1
  by_cases hc : ¬ a = 0
  · rw [if_pos hc, if_pos (show q_cmp .ne a 0 = true by simp [q_cmp, hc])]
  · rw [if_neg hc, if_neg (show ¬ q_cmp .ne a 0 = true by simpa [q_cmp] using hc)]
theorem q_w_icmp_lt {n x1 x2 x3 x4 : Nat} {xi : Int} {o a b : Int} {t : Nat} (h : q_code m pc = (.if_icmp .lt o, n, x1, x2, x3, x4, xi)) (ht : (pc : Int) + o = (t : Int)) : q_wp d m pc ls (.inl b :: .inl a :: st) v G Q = ((q_inR a ∧ q_inR b) ∧ if a < b then q_wp d m t ls st v G Q else q_wp d m (pc + 3) ls st v G Q) := by
  have e := q_wp_if (d := d) (Q := Q) (g := q_inR a ∧ q_inR b) (S := (if q_cmp .lt a b then t else pc + 3, ls, st, v, G)) (m := m) (pc := pc) (ls := ls) (st := .inl b :: .inl a :: st) (v := v) (G := G) (by rw [h]; rfl) (by rw [h]; show (if q_inR a ∧ q_inR b then q_br (q_cmp .lt a b) pc o ls st v G else none) = _; unfold q_br; rw [if_pos (show 0 ≤ (pc : Int) + o by omega), ht]; rfl)
  rw [e]
  congr 1
  by_cases hc : a < b
  · rw [if_pos hc, if_pos (show q_cmp .lt a b = true by simp [q_cmp, hc])]
  · rw [if_neg hc, if_neg (show ¬ q_cmp .lt a b = true by simpa [q_cmp] using hc)]
theorem q_w_if_lt {n x1 x2 x3 x4 : Nat} {xi : Int} {o a : Int} {t : Nat} (h : q_code m pc = (.ifCond .lt o, n, x1, x2, x3, x4, xi)) (ht : (pc : Int) + o = (t : Int)) : q_wp d m pc ls (.inl a :: st) v G Q = ((q_inR a) ∧ if a < 0 then q_wp d m t ls st v G Q else q_wp d m (pc + 3) ls st v G Q) := by
  have e := q_wp_if (d := d) (Q := Q) (g := q_inR a) (S := (if q_cmp .lt a 0 then t else pc + 3, ls, st, v, G)) (m := m) (pc := pc) (ls := ls) (st := .inl a :: st) (v := v) (G := G) (by rw [h]; rfl) (by rw [h]; show (if q_inR a then q_br (q_cmp .lt a 0) pc o ls st v G else none) = _; unfold q_br; rw [if_pos (show 0 ≤ (pc : Int) + o by omega), ht]; rfl)
  rw [e]
  congr 1
  by_cases hc : a < 0
  · rw [if_pos hc, if_pos (show q_cmp .lt a 0 = true by simp [q_cmp, hc])]
  · rw [if_neg hc, if_neg (show ¬ q_cmp .lt a 0 = true by simpa [q_cmp] using hc)]
theorem q_w_icmp_ge {n x1 x2 x3 x4 : Nat} {xi : Int} {o a b : Int} {t : Nat} (h : q_code m pc = (.if_icmp .ge o, n, x1, x2, x3, x4, xi)) (ht : (pc : Int) + o = (t : Int)) : q_wp d m pc ls (.inl b :: .inl a :: st) v G Q = ((q_inR a ∧ q_inR b) ∧ if b ≤ a then q_wp d m t ls st v G Q else q_wp d m (pc + 3) ls st v G Q) := by
  have e := q_wp_if (d := d) (Q := Q) (g := q_inR a ∧ q_inR b) (S := (if q_cmp .ge a b then t else pc + 3, ls, st, v, G)) (m := m) (pc := pc) (ls := ls) (st := .inl b :: .inl a :: st) (v := v) (G := G) (by rw [h]; rfl) (by rw [h]; show (if q_inR a ∧ q_inR b then q_br (q_cmp .ge a b) pc o ls st v G else none) = _; unfold q_br; rw [if_pos (show 0 ≤ (pc : Int) + o by omega), ht]; rfl)
  rw [e]
  congr 1
  by_cases hc : b ≤ a
  · rw [if_pos hc, if_pos (show q_cmp .ge a b = true by simp [q_cmp, hc])]
  · rw [if_neg hc, if_neg (show ¬ q_cmp .ge a b = true by simpa [q_cmp] using hc)]
theorem q_w_if_ge {n x1 x2 x3 x4 : Nat} {xi : Int} {o a : Int} {t : Nat} (h : q_code m pc = (.ifCond .ge o, n, x1, x2, x3, x4, xi)) (ht : (pc : Int) + o = (t : Int)) : q_wp d m pc ls (.inl a :: st) v G Q = ((q_inR a) ∧ if 0 ≤ a then q_wp d m t ls st v G Q else q_wp d m (pc + 3) ls st v G Q) := by
  have e := q_wp_if (d := d) (Q := Q) (g := q_inR a) (S := (if q_cmp .ge a 0 then t else pc + 3, ls, st, v, G)) (m := m) (pc := pc) (ls := ls) (st := .inl a :: st) (v := v) (G := G) (by rw [h]; rfl) (by rw [h]; show (if q_inR a then q_br (q_cmp .ge a 0) pc o ls st v G else none) = _; unfold q_br; rw [if_pos (show 0 ≤ (pc : Int) + o by omega), ht]; rfl)
  rw [e]
  congr 1
  by_cases hc : 0 ≤ a
  · rw [if_pos hc, if_pos (show q_cmp .ge a 0 = true by simp [q_cmp, hc])]
  · rw [if_neg hc, if_neg (show ¬ q_cmp .ge a 0 = true by simpa [q_cmp] using hc)]
theorem q_w_icmp_gt {n x1 x2 x3 x4 : Nat} {xi : Int} {o a b : Int} {t : Nat} (h : q_code m pc = (.if_icmp .gt o, n, x1, x2, x3, x4, xi)) (ht : (pc : Int) + o = (t : Int)) : q_wp d m pc ls (.inl b :: .inl a :: st) v G Q = ((q_inR a ∧ q_inR b) ∧ if b < a then q_wp d m t ls st v G Q else q_wp d m (pc + 3) ls st v G Q) := by
  have e := q_wp_if (d := d) (Q := Q) (g := q_inR a ∧ q_inR b) (S := (if q_cmp .gt a b then t else pc + 3, ls, st, v, G)) (m := m) (pc := pc) (ls := ls) (st := .inl b :: .inl a :: st) (v := v) (G := G) (by rw [h]; rfl) (by rw [h]; show (if q_inR a ∧ q_inR b then q_br (q_cmp .gt a b) pc o ls st v G else none) = _; unfold q_br; rw [if_pos (show 0 ≤ (pc : Int) + o by omega), ht]; rfl)
  rw [e]
  congr 1
  by_cases hc : b < a
  · rw [if_pos hc, if_pos (show q_cmp .gt a b = true by simp [q_cmp, hc])]
  · rw [if_neg hc, if_neg (show ¬ q_cmp .gt a b = true by simpa [q_cmp] using hc)]
theorem q_w_if_gt {n x1 x2 x3 x4 : Nat} {xi : Int} {o a : Int} {t : Nat} (h : q_code m pc = (.ifCond .gt o, n, x1, x2, x3, x4, xi)) (ht : (pc : Int) + o = (t : Int)) : q_wp d m pc ls (.inl a :: st) v G Q = ((q_inR a) ∧ if 0 < a then q_wp d m t ls st v G Q else q_wp d m (pc + 3) ls st v G Q) := by
  have e := q_wp_if (d := d) (Q := Q) (g := q_inR a) (S := (if q_cmp .gt a 0 then t else pc + 3, ls, st, v, G)) (m := m) (pc := pc) (ls := ls) (st := .inl a :: st) (v := v) (G := G) (by rw [h]; rfl) (by rw [h]; show (if q_inR a then q_br (q_cmp .gt a 0) pc o ls st v G else none) = _; unfold q_br; rw [if_pos (show 0 ≤ (pc : Int) + o by omega), ht]; rfl)
  rw [e]
  congr 1
  by_cases hc : 0 < a
  · rw [if_pos hc, if_pos (show q_cmp .gt a 0 = true by simp [q_cmp, hc])]
  · rw [if_neg hc, if_neg (show ¬ q_cmp .gt a 0 = true by simpa [q_cmp] using hc)]
theorem q_w_icmp_le {n x1 x2 x3 x4 : Nat} {xi : Int} {o a b : Int} {t : Nat} (h : q_code m pc = (.if_icmp .le o, n, x1, x2, x3, x4, xi)) (ht : (pc : Int) + o = (t : Int)) : q_wp d m pc ls (.inl b :: .inl a :: st) v G Q = ((q_inR a ∧ q_inR b) ∧ if a ≤ b then q_wp d m t ls st v G Q else q_wp d m (pc + 3) ls st v G Q) := by
  have e := q_wp_if (d := d) (Q := Q) (g := q_inR a ∧ q_inR b) (S := (if q_cmp .le a b then t else pc + 3, ls, st, v, G)) (m := m) (pc := pc) (ls := ls) (st := .inl b :: .inl a :: st) (v := v) (G := G) (by rw [h]; rfl) (by rw [h]; show (if q_inR a ∧ q_inR b then q_br (q_cmp .le a b) pc o ls st v G else none) = _; unfold q_br; rw [if_pos (show 0 ≤ (pc : Int) + o by omega), ht]; rfl)
  rw [e]
  congr 1
  by_cases hc : a ≤ b
  · rw [if_pos hc, if_pos (show q_cmp .le a b = true by simp [q_cmp, hc])]
  · rw [if_neg hc, if_neg (show ¬ q_cmp .le a b = true by simpa [q_cmp] using hc)]
theorem q_w_if_le {n x1 x2 x3 x4 : Nat} {xi : Int} {o a : Int} {t : Nat} (h : q_code m pc = (.ifCond .le o, n, x1, x2, x3, x4, xi)) (ht : (pc : Int) + o = (t : Int)) : q_wp d m pc ls (.inl a :: st) v G Q = ((q_inR a) ∧ if a ≤ 0 then q_wp d m t ls st v G Q else q_wp d m (pc + 3) ls st v G Q) := by
  have e := q_wp_if (d := d) (Q := Q) (g := q_inR a) (S := (if q_cmp .le a 0 then t else pc + 3, ls, st, v, G)) (m := m) (pc := pc) (ls := ls) (st := .inl a :: st) (v := v) (G := G) (by rw [h]; rfl) (by rw [h]; show (if q_inR a then q_br (q_cmp .le a 0) pc o ls st v G else none) = _; unfold q_br; rw [if_pos (show 0 ≤ (pc : Int) + o by omega), ht]; rfl)
  rw [e]
  congr 1
  by_cases hc : a ≤ 0
  · rw [if_pos hc, if_pos (show q_cmp .le a 0 = true by simp [q_cmp, hc])]
  · rw [if_neg hc, if_neg (show ¬ q_cmp .le a 0 = true by simpa [q_cmp] using hc)]
theorem q_w_ifnull_N {n x1 x2 x3 x4 : Nat} {xi : Int} {o : Int} {a t : Nat} (h : q_code m pc = (.ifnull o, n, x1, x2, x3, x4, xi)) (ht : (pc : Int) + o = (t : Int)) : q_wp d m pc ls (.inr (.inr (.inl none)) :: st) v G Q = q_wp d m t ls st v G Q := q_wp_st (S := (t, ls, st, v, G)) (by rw [h]; rfl) (by rw [h]; show q_jmp pc o ls st v G = _; unfold q_jmp; rw [if_pos (by omega), ht]; rfl)
theorem q_w_ifnull_S {n x1 x2 x3 x4 : Nat} {xi : Int} {o : Int} {a t : Nat} (h : q_code m pc = (.ifnull o, n, x1, x2, x3, x4, xi)) (ht : (pc : Int) + o = (t : Int)) : q_wp d m pc ls (.inr (.inr (.inl (some a))) :: st) v G Q = q_wp d m (pc + 3) ls st v G Q := q_wp_st (S := (pc + 3, ls, st, v, G)) (by rw [h]; rfl) (by rw [h]; rfl)
theorem q_w_ifnonnull_N {n x1 x2 x3 x4 : Nat} {xi : Int} {o : Int} {a t : Nat} (h : q_code m pc = (.ifnonnull o, n, x1, x2, x3, x4, xi)) (ht : (pc : Int) + o = (t : Int)) : q_wp d m pc ls (.inr (.inr (.inl none)) :: st) v G Q = q_wp d m (pc + 3) ls st v G Q := q_wp_st (S := (pc + 3, ls, st, v, G)) (by rw [h]; rfl) (by rw [h]; rfl)
theorem q_w_ifnonnull_S {n x1 x2 x3 x4 : Nat} {xi : Int} {o : Int} {a t : Nat} (h : q_code m pc = (.ifnonnull o, n, x1, x2, x3, x4, xi)) (ht : (pc : Int) + o = (t : Int)) : q_wp d m pc ls (.inr (.inr (.inl (some a))) :: st) v G Q = q_wp d m t ls st v G Q := q_wp_st (S := (t, ls, st, v, G)) (by rw [h]; rfl) (by rw [h]; show q_jmp pc o ls st v G = _; unfold q_jmp; rw [if_pos (by omega), ht]; rfl)
theorem q_w_getI {n x1 x2 x4 : Nat} {xi : Int} {i a : Nat} (h : q_code m pc = (.getfield i, n, x1, x2, 0, x4, xi)) : q_wp d m pc ls (.inr (.inr (.inl (some a))) :: st) v G Q = (((G.2.1 a).1 = x1) ∧ q_wp d m (pc + 3) (ls) (.inl (v a x2) :: st) (v) (G) Q) := q_wp_if (S := (pc + 3, ls, .inl (v a x2) :: st, v, G)) (by rw [h]; rfl) (by rw [h]; rfl)
theorem q_w_getP {n x1 x2 x4 : Nat} {xi : Int} {i a : Nat} (h : q_code m pc = (.getfield i, n, x1, x2, 1, x4, xi)) : q_wp d m pc ls (.inr (.inr (.inl (some a))) :: st) v G Q = (((G.2.1 a).1 = x1) ∧ q_wp d m (pc + 3) (ls) (.inr (.inr (.inl (G.1 a x2))) :: st) (v) (G) Q) := q_wp_if (S := (pc + 3, ls, .inr (.inr (.inl (G.1 a x2))) :: st, v, G)) (by rw [h]; rfl) (by rw [h]; rfl)
theorem q_w_putI {n x1 x2 x4 : Nat} {xi : Int} {i a : Nat} {y : Int} (h : q_code m pc = (.putfield i, n, x1, x2, 0, x4, xi)) : q_wp d m pc ls (.inl y :: .inr (.inr (.inl (some a))) :: st) v G Q = (((G.2.1 a).1 = x1) ∧ q_wp d m (pc + 3) (ls) (st) (q_up v a x2 y) (G) Q) := q_wp_if (S := (pc + 3, ls, st, q_up v a x2 y, G)) (by rw [h]; rfl) (by rw [h]; rfl)
theorem q_w_putP {n x1 x2 x4 : Nat} {xi : Int} {i a : Nat} {y : Option Nat} (h : q_code m pc = (.putfield i, n, x1, x2, 1, x4, xi)) : q_wp d m pc ls (.inr (.inr (.inl y)) :: .inr (.inr (.inl (some a))) :: st) v G Q = (((G.2.1 a).1 = x1) ∧ q_wp d m (pc + 3) (ls) (st) (v) ((q_upr G.1 a x2 y, G.2)) Q) := q_wp_if (S := (pc + 3, ls, st, v, (q_upr G.1 a x2 y, G.2))) (by rw [h]; rfl) (by rw [h]; rfl)
theorem q_w_gets {n x1 x2 x3 x4 : Nat} {xi : Int} {i : Nat} (h : q_code m pc = (.getstatic i, n, x1, x2, x3, x4, xi)) : q_wp d m pc ls (st) v G Q = q_wp d m (pc + 3) (ls) (.inr (.inr (.inl (some (x1 + 1)))) :: st) (v) (G) Q := q_wp_st (S := (pc + 3, ls, .inr (.inr (.inl (some (x1 + 1)))) :: st, v, G)) (by rw [h]; rfl) (by rw [h]; rfl)
theorem q_w_iald {n x1 x2 x3 x4 : Nat} {xi : Int} {a : Nat} {i : Int} (h : q_code m pc = (.iaload, n, x1, x2, x3, x4, xi)) : q_wp d m pc ls (.inl i :: .inr (.inr (.inl (some a))) :: st) v G Q = (((G.2.1 a).1 = 20 ∧ 0 ≤ i ∧ i < (G.2.1 a).2) ∧ q_wp d m (pc + 1) (ls) (.inl (v a i.toNat) :: st) (v) (G) Q) := q_wp_if (S := (pc + 1, ls, .inl (v a i.toNat) :: st, v, G)) (by rw [h]; rfl) (by rw [h]; rfl)
theorem q_w_bald {n x1 x2 x3 x4 : Nat} {xi : Int} {a : Nat} {i : Int} (h : q_code m pc = (.baload, n, x1, x2, x3, x4, xi)) : q_wp d m pc ls (.inl i :: .inr (.inr (.inl (some a))) :: st) v G Q = (((G.2.1 a).1 = 21 ∧ 0 ≤ i ∧ i < (G.2.1 a).2) ∧ q_wp d m (pc + 1) (ls) (.inl (v a i.toNat) :: st) (v) (G) Q) := q_wp_if (S := (pc + 1, ls, .inl (v a i.toNat) :: st, v, G)) (by rw [h]; rfl) (by rw [h]; rfl)
theorem q_w_aald {n x1 x2 x3 x4 : Nat} {xi : Int} {a : Nat} {i : Int} (h : q_code m pc = (.aaload, n, x1, x2, x3, x4, xi)) : q_wp d m pc ls (.inl i :: .inr (.inr (.inl (some a))) :: st) v G Q = ((30 ≤ (G.2.1 a).1 ∧ (G.2.1 a).1 < 42 ∧ 0 ≤ i ∧ i < (G.2.1 a).2) ∧ q_wp d m (pc + 1) (ls) (.inr (.inr (.inl (G.1 a i.toNat))) :: st) (v) (G) Q) := q_wp_if (S := (pc + 1, ls, .inr (.inr (.inl (G.1 a i.toNat))) :: st, v, G)) (by rw [h]; rfl) (by rw [h]; rfl)
theorem q_w_iast {n x1 x2 x3 x4 : Nat} {xi : Int} {a : Nat} {i y : Int} (h : q_code m pc = (.iastore, n, x1, x2, x3, x4, xi)) : q_wp d m pc ls (.inl y :: .inl i :: .inr (.inr (.inl (some a))) :: st) v G Q = (((G.2.1 a).1 = 20 ∧ 32 ≤ a ∧ 0 ≤ i ∧ i < (G.2.1 a).2) ∧ q_wp d m (pc + 1) (ls) (st) (q_up v a i.toNat y) (G) Q) := q_wp_if (S := (pc + 1, ls, st, q_up v a i.toNat y, G)) (by rw [h]; rfl) (by rw [h]; rfl)
theorem q_w_bast {n x1 x2 x3 x4 : Nat} {xi : Int} {a : Nat} {i y : Int} (h : q_code m pc = (.bastore, n, x1, x2, x3, x4, xi)) : q_wp d m pc ls (.inl y :: .inl i :: .inr (.inr (.inl (some a))) :: st) v G Q = (((G.2.1 a).1 = 21 ∧ 32 ≤ a ∧ (0 ≤ y ∧ y ≤ 1) ∧ 0 ≤ i ∧ i < (G.2.1 a).2) ∧ q_wp d m (pc + 1) (ls) (st) (q_up v a i.toNat y) (G) Q) := q_wp_if (S := (pc + 1, ls, st, q_up v a i.toNat y, G)) (by rw [h]; rfl) (by rw [h]; rfl)
theorem q_w_aast {n x1 x2 x3 x4 : Nat} {xi : Int} {a b : Nat} {i : Int} (h : q_code m pc = (.aastore, n, x1, x2, x3, x4, xi)) : q_wp d m pc ls (.inr (.inr (.inl (some b))) :: .inl i :: .inr (.inr (.inl (some a))) :: st) v G Q = (((G.2.1 b).1 < 12 ∧ (G.2.1 a).1 = 30 + (G.2.1 b).1 ∧ 0 ≤ i ∧ i < (G.2.1 a).2) ∧ q_wp d m (pc + 1) (ls) (st) (v) ((q_upr G.1 a i.toNat (some b), G.2)) Q) := q_wp_if (S := (pc + 1, ls, st, v, (q_upr G.1 a i.toNat (some b), G.2))) (by rw [h]; rfl) (by rw [h]; rfl)
theorem q_w_alen {n x1 x2 x3 x4 : Nat} {xi : Int} {a : Nat} (h : q_code m pc = (.arraylength, n, x1, x2, x3, x4, xi)) : q_wp d m pc ls (.inr (.inr (.inl (some a))) :: st) v G Q = (((G.2.1 a).1 = 20 ∨ (G.2.1 a).1 = 21) ∧ q_wp d m (pc + 1) (ls) (.inl ((G.2.1 a).2 : Int) :: st) (v) (G) Q) := q_wp_if (S := (pc + 1, ls, .inl ((G.2.1 a).2 : Int) :: st, v, G)) (by rw [h]; rfl) (by rw [h]; rfl)
theorem q_w_new {n x1 x2 x3 x4 : Nat} {xi : Int} {i : Nat} (h : q_code m pc = (.new i, n, x1, x2, x3, x4, xi)) : q_wp d m pc ls (st) v G Q = ((q_room G x2) ∧ q_wp d m (pc + 3) (ls) (.inr (.inr (.inl (some (32 + G.2.2.1)))) :: st) (q_zr v (32 + G.2.2.1)) (q_mk G x1 x2) Q) := q_wp_if (S := (pc + 3, ls, .inr (.inr (.inl (some (32 + G.2.2.1)))) :: st, q_zr v (32 + G.2.2.1), q_mk G x1 x2)) (by rw [h]; rfl) (by rw [h]; rfl)
theorem q_w_newI {n x1 x2 x3 x4 : Nat} {xi : Int} {k : Int} (h : q_code m pc = (.newarray .int, n, x1, x2, x3, x4, xi)) : q_wp d m pc ls (.inl k :: st) v G Q = ((0 ≤ k ∧ q_room G k.toNat) ∧ q_wp d m (pc + 2) (ls) (.inr (.inr (.inl (some (32 + G.2.2.1)))) :: st) (q_zr v (32 + G.2.2.1)) (q_mk G 20 k.toNat) Q) := q_wp_if (S := (pc + 2, ls, .inr (.inr (.inl (some (32 + G.2.2.1)))) :: st, q_zr v (32 + G.2.2.1), q_mk G 20 k.toNat)) (by rw [h]; rfl) (by rw [h]; rfl)
theorem q_w_newZ {n x1 x2 x3 x4 : Nat} {xi : Int} {k : Int} (h : q_code m pc = (.newarray .boolean, n, x1, x2, x3, x4, xi)) : q_wp d m pc ls (.inl k :: st) v G Q = ((0 ≤ k ∧ q_room G k.toNat) ∧ q_wp d m (pc + 2) (ls) (.inr (.inr (.inl (some (32 + G.2.2.1)))) :: st) (q_zr v (32 + G.2.2.1)) (q_mk G 21 k.toNat) Q) := q_wp_if (S := (pc + 2, ls, .inr (.inr (.inl (some (32 + G.2.2.1)))) :: st, q_zr v (32 + G.2.2.1), q_mk G 21 k.toNat)) (by rw [h]; rfl) (by rw [h]; rfl)
theorem q_w_anew {n x1 x2 x3 x4 : Nat} {xi : Int} {i : Nat} {k : Int} (h : q_code m pc = (.anewarray i, n, x1, x2, x3, x4, xi)) : q_wp d m pc ls (.inl k :: st) v G Q = ((0 ≤ k ∧ q_room G k.toNat) ∧ q_wp d m (pc + 3) (ls) (.inr (.inr (.inl (some (32 + G.2.2.1)))) :: st) (q_zr v (32 + G.2.2.1)) (q_mk G (30 + x1) k.toNat) Q) := q_wp_if (S := (pc + 3, ls, .inr (.inr (.inl (some (32 + G.2.2.1)))) :: st, q_zr v (32 + G.2.2.1), q_mk G (30 + x1) k.toNat)) (by rw [h]; rfl) (by rw [h]; rfl)
theorem q_w_obj {n x2 x3 x4 i a : Nat} {xi : Int} (h : q_code m pc = (.invokespecial i, n, 1000, x2, x3, x4, xi)) (hl : st.length ≤ 4) : q_wp d m pc ls (.inr (.inr (.inl (some a))) :: st) v G Q = q_wp d m (pc + 3) ls st v G Q := q_wp_st (S := (pc + 3, ls, st, v, G)) (by rw [h]; rfl) (by rw [h]; show (if 1000 = 1000 ∧ st.length ≤ 4 then _ else _) = _; rw [if_pos ⟨rfl, hl⟩])
theorem q_w_max {n x2 x3 x4 i : Nat} {xi a b : Int} (h : q_code m pc = (.invokestatic i, n, 1004, x2, x3, x4, xi)) (hl : st.length ≤ 4) : q_wp d m pc ls (.inl b :: .inl a :: st) v G Q = ((q_inR a ∧ q_inR b) ∧ q_wp d m (pc + 3) ls (.inl (if a < b then b else a) :: st) v G Q) := q_wp_if (S := (pc + 3, ls, .inl (if a < b then b else a) :: st, v, G)) (by rw [h]; rfl) (by rw [h]; show (if q_inR a ∧ q_inR b ∧ st.length ≤ 4 then _ else _) = _; simp only [hl, and_true])
theorem q_w_min {n x2 x3 x4 i : Nat} {xi a b : Int} (h : q_code m pc = (.invokestatic i, n, 1005, x2, x3, x4, xi)) (hl : st.length ≤ 4) : q_wp d m pc ls (.inl b :: .inl a :: st) v G Q = ((q_inR a ∧ q_inR b) ∧ q_wp d m (pc + 3) ls (.inl (if b < a then b else a) :: st) v G Q) := q_wp_if (S := (pc + 3, ls, .inl (if b < a then b else a) :: st, v, G)) (by rw [h]; rfl) (by rw [h]; show (if q_inR a ∧ q_inR b ∧ st.length ≤ 4 then _ else _) = _; simp only [hl, and_true])
theorem q_w_copy {n x2 x3 x4 ix a b : Nat} {xi i j k : Int} (h : q_code m pc = (.invokestatic ix, n, 1001, x2, x3, x4, xi)) (hl : st.length ≤ 4) : q_wp d m pc ls (.inl k :: .inl j :: .inr (.inr (.inl (some b))) :: .inl i :: .inr (.inr (.inl (some a))) :: st) v G Q = (((G.2.1 a).1 = 20 ∧ (G.2.1 b).1 = 20 ∧ 32 ≤ a ∧ 32 ≤ b ∧ 0 ≤ i ∧ 0 ≤ j ∧ 0 ≤ k ∧ i + k ≤ (G.2.1 a).2 ∧ j + k ≤ (G.2.1 b).2) ∧ q_wp d m (pc + 3) ls st (q_cp v a i.toNat b j.toNat k.toNat) G Q) := q_wp_if (S := (pc + 3, ls, st, q_cp v a i.toNat b j.toNat k.toNat, G)) (by rw [h]; rfl) (by rw [h]; show (if 1001 = 1001 ∧ st.length ≤ 4 ∧ _ then _ else _) = _; simp only [hl, true_and])
theorem q_w_table {n x1 x2 x3 x4 : Nat} {xi a dflt lo hi : Int} {offs : Array Int} (h : q_code m pc = (.tableswitch dflt lo hi offs, n, x1, x2, x3, x4, xi)) : q_wp d m pc ls (.inl a :: st) v G Q = (q_inR a ∧ ∃ S, (if a < lo ∨ hi < a then q_jmp pc dflt ls st v G else match offs[(a - lo).toNat]? with
    | some off => q_jmp pc off ls st v G
    | none => none) = some S ∧ q_wp d m S.1 S.2.1 S.2.2.1 S.2.2.2.1 S.2.2.2.2 Q) := by
  by_cases hr : q_inR a
  · cases hs : (if a < lo ∨ hi < a then q_jmp pc dflt ls st v G else match offs[(a - lo).toNat]? with
    | some off => q_jmp pc off ls st v G
    | none => none) with
    | none =>
      rw [q_wp_no (by rw [h]; rfl) (by rw [h]; show (if q_inR a then _ else none) = none; rw [if_pos hr]; exact hs)]
      simp
    | some S =>
      rw [q_wp_st (S := S) (by rw [h]; rfl) (by rw [h]; show (if q_inR a then _ else none) = _; rw [if_pos hr]; exact hs)]
      apply propext
      constructor
      · intro q
        exact ⟨hr, S, rfl, q⟩
      · rintro ⟨-, S', e, q⟩
        cases e
        exact q
  · rw [q_wp_no (by rw [h]; rfl) (by rw [h]; show (if q_inR a then _ else none) = none; rw [if_neg hr])]
    simp [hr]
theorem q_w_ireturn {n x1 x2 x3 x4 : Nat} {xi a : Int} (h : q_code m pc = (.ireturn, n, x1, x2, x3, x4, xi)) (hr : (q_m m).2.2.2.1 = some .int) : q_wp d m pc ls [.inl a] v G Q = Q (.inl a) v G := q_wp_en (by rw [h]; rfl) (by rw [h]; simp only [q_end, hr])
theorem q_w_zreturn {n x1 x2 x3 x4 : Nat} {xi a : Int} (h : q_code m pc = (.ireturn, n, x1, x2, x3, x4, xi)) (hr : (q_m m).2.2.2.1 = some .boolean) : q_wp d m pc ls [.inl a] v G Q = ((0 ≤ a ∧ a ≤ 1) ∧ Q (.inl a) v G) := by
  by_cases hq : 0 ≤ a ∧ a ≤ 1
  · rw [q_wp_en (r := .inl a) (by rw [h]; rfl) (by rw [h]; simp only [q_end, hr, if_pos hq])]
    simp [hq]
  · rw [q_wp_enN (by rw [h]; rfl) (by rw [h]; simp only [q_end, hr, if_neg hq])]
    simp [hq]
theorem q_w_lreturn {n x1 x2 x3 x4 : Nat} {xi a : Int} (h : q_code m pc = (.lreturn, n, x1, x2, x3, x4, xi)) (hr : (q_m m).2.2.2.1 = some .long) : q_wp d m pc ls [.inr (.inl a)] v G Q = Q (.inr (.inl a)) v G := q_wp_en (by rw [h]; rfl) (by rw [h]; simp only [q_end, hr, if_true])
theorem q_w_areturn {n x1 x2 x3 x4 : Nat} {xi : Int} {a : Option Nat} (h : q_code m pc = (.areturn, n, x1, x2, x3, x4, xi)) (hr : ∃ C, (q_m m).2.2.2.1 = some (.object C)) : q_wp d m pc ls [.inr (.inr (.inl a))] v G Q = Q (.inr (.inr (.inl a))) v G := by
  obtain ⟨C, hr⟩ := hr
  exact q_wp_en (by rw [h]; rfl) (by rw [h]; simp only [q_end, hr])
theorem q_w_return {n x1 x2 x3 x4 : Nat} {xi : Int} (h : q_code m pc = (.return_, n, x1, x2, x3, x4, xi)) (hr : (q_m m).2.2.2.1 = none) : q_wp d m pc ls [] v G Q = Q (.inr (.inr (.inr ()))) v G := q_wp_en (by rw [h]; rfl) (by rw [h]; simp only [q_end, hr, if_true])
end QW
