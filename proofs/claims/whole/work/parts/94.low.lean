/-! ===== the cells that stood before: nobody writes them ===== -/
def q_pf (x : q_I) : Bool := match x.1 with
  | .putfield _ => decide (x.2.2.1 < 12)
  | _ => true
theorem q_pfC : (q_C.all fun l => l.all q_pf) = true := by decide +kernel
theorem q_pf_all (m pc : Nat) : q_pf (q_code m pc) = true := by
  have h := q_pfC
  rw [List.all_eq_true] at h
  unfold q_code
  by_cases hm : m < q_C.length
  · have h1 := h _ (List.getElem_mem hm)
    rw [List.all_eq_true] at h1
    rw [show q_C.getD m [] = q_C[m] by simp [hm]]
    by_cases hp : pc < q_C[m].length
    · have h2 := h1 _ (List.getElem_mem hp)
      rw [show q_C[m].getD pc q_0 = q_C[m][pc] by simp [hp]]
      exact h2
    · rw [show q_C[m].getD pc q_0 = q_0 by simp [hp]]
      rfl
  · rw [show q_C.getD m [] = [] by simp [hm]]
    rfl
def q_lw (v : q_H) (G : q_Gr) (v' : q_H) (G' : q_Gr) : Prop := ∀ b, b < 32 → v' b = v b ∧ G'.2.1 b = G.2.1 b
def q_lk (G : q_Gr) : Prop := ∀ b, b < 32 → 12 ≤ (G.2.1 b).1
theorem lw_up {v : q_H} {G : q_Gr} {a k : Nat} {y : Int} (h : 32 ≤ a) : q_lw v G (q_up v a k y) G := fun b hb => ⟨by
  funext j
  show (if b = a ∧ j = k then y else v b j) = v b j
  rw [if_neg (by omega)], rfl⟩
theorem lw_mk {v : q_H} {G : q_Gr} {kd n : Nat} : q_lw v G (q_zr v (32 + G.2.2.1)) (q_mk G kd n) := fun b hb => ⟨by
  funext j
  show (if b = 32 + G.2.2.1 then 0 else v b j) = v b j
  rw [if_neg (by omega)], by
  show (if b = 32 + G.2.2.1 then (kd, n) else G.2.1 b) = G.2.1 b
  rw [if_neg (by omega)]⟩
theorem lw_cp {v : q_H} {G : q_Gr} {a i b j n : Nat} (h : 32 ≤ b) : q_lw v G (q_cp v a i b j n) G := fun c hc => ⟨by
  funext k
  show (if c = b ∧ j ≤ k ∧ k < j + n then v a (i + (k - j)) else v c k) = v c k
  rw [if_neg (by omega)], rfl⟩
theorem lk_ge {G : q_Gr} {a x1 : Nat} (hk : q_lk G) (h : (G.2.1 a).1 = x1) (hx : decide (x1 < 12) = true) : 32 ≤ a := by
  have hx := of_decide_eq_true hx
  rcases Nat.lt_or_ge a 32 with c | c
  · have := hk a c
    omega
  · exact c
theorem q_step_low {x : q_I} {pc : Nat} {ls st : List q_V} {v : q_H} {G : q_Gr} {S : q_S} (h : q_step x pc ls st v G = some S) (hx : q_pf x = true) (hk : q_lk G) : q_lw v G S.2.2.2.1 S.2.2.2.2 := by
  obtain ⟨i, n, x1, x2, x3, x4, xi⟩ := x
  unfold q_step at h
  dsimp only at h
  have hr : q_lw v G v G := fun _ _ => ⟨rfl, rfl⟩
  cases i <;> dsimp only at h <;> first
    | (cases h; done)
    | (cases h; exact hr)
    | ((try simp only [q_1I, q_2I, q_1L, q_2L, q_LI, q_1P, q_1A, q_IA, q_IIA, q_AIA, q_IO, q_PO, q_5, q_lI, q_lL, q_lP, q_jmp, q_br] at h)
       repeat' split at h
       all_goals first | (cases h; done) | (cases h; exact hr) | (cases h; exact fun _ _ => ⟨rfl, rfl⟩) | (cases h; exact lw_mk) | (next hh => cases h; exact lw_up (lk_ge hk hh hx)) | (next hh => cases h; exact lw_up hh.2.1) | (next hh => cases h; exact lw_cp (by omega)))
theorem lw_tr {v v1 v2 : q_H} {G G1 G2 : q_Gr} (h1 : q_lw v G v1 G1) (h2 : q_lw v1 G1 v2 G2) : q_lw v G v2 G2 := fun b hb => ⟨by rw [(h2 b hb).1, (h1 b hb).1], by rw [(h2 b hb).2, (h1 b hb).2]⟩
theorem lk_tr {v v1 : q_H} {G G1 : q_Gr} (h1 : q_lw v G v1 G1) (h : q_lk G) : q_lk G1 := fun b hb => by rw [(h1 b hb).2]; exact h b hb
theorem q_exec_low {call : Nat → List q_V → q_H → q_Gr → Option q_R} (hcall : ∀ m as v G r v' G', call m as v G = some (r, v', G') → q_lk G → q_lw v G v' G') : ∀ (n m pc : Nat) (ls st : List q_V) (v : q_H) (G : q_Gr) (r : q_V) (v' : q_H) (G' : q_Gr), q_exec call n m pc ls st v G = some (r, v', G') → q_lk G → q_lw v G v' G' := by
  intro n
  induction n with
  | zero => intro m pc ls st v G r v' G' h; cases h
  | succ n ih =>
    intro m pc ls st v G r v' G' h h0
    simp only [q_exec] at h
    split at h
    · split at h
      · next S1 S2 S3 S4 S5 hs =>
        have g := q_step_low hs (q_pf_all _ _) h0
        exact lw_tr g (ih _ _ _ _ _ _ _ _ _ h (lk_tr g h0))
      · cases h
    · split at h
      · split at h
        · next r1 v1 G1 hc =>
          have g := hcall _ _ _ _ _ _ _ hc h0
          exact lw_tr g (ih _ _ _ _ _ _ _ _ _ h (lk_tr g h0))
        · cases h
      · cases h
    · have := q_end_same h
      rw [this.1, this.2]
      exact fun _ _ => ⟨rfl, rfl⟩
theorem q_run_low (N : Nat) : ∀ (d m : Nat) (as : List q_V) (v : q_H) (G : q_Gr) (r : q_V) (v' : q_H) (G' : q_Gr), q_run N d m as v G = some (r, v', G') → q_lk G → q_lw v G v' G' := by
  intro d
  induction d with
  | zero => intro m as v G r v' G' h; cases h
  | succ d ih =>
    intro m as v G r v' G' h h0
    simp only [q_run] at h
    split at h
    · split at h
      · exact q_exec_low ih _ _ _ _ _ _ _ _ _ _ h h0
      · cases h
    · split at h
      · have := q_str_same h
        rw [this.1, this.2]
        exact fun _ _ => ⟨rfl, rfl⟩
      · cases h
/-- a call of both, with what stands between them -/
theorem twin_mid {d mc mm : Nat} {as : List q_V} {v : q_H} {G : q_Gr} {P : q_H → q_Gr → Prop} (hk : q_lk G) (h : twin d mc mm as v G P) : q_call d mc (.inr (.inr (.inl (some 32))) :: as) v G (fun r v1 G1 => q_lw v G v1 G1 ∧ ∃ z : Int, r = .inl z ∧ -2147483648 ≤ z ∧ z ≤ 2147483647 ∧ q_call d mm (.inr (.inr (.inl (some 137))) :: as) v1 G1 (fun r2 v2 G2 => r2 = .inl z ∧ P v2 G2 ∧ G2.2.2.1 ≤ G.2.2.1 + 12 ∧ G2.2.2.2 ≤ G.2.2.2 + 72 ∧ q_lw v G v2 G2)) := by
  unfold twin at h
  obtain ⟨N, r, v1, G1, hr, M, r2, v2, G2, hr2, z, e1, e2, z1, z2, hP, c1, c2, c3, c4⟩ := h
  have l1 := q_run_low N _ _ _ _ _ _ _ _ hr hk
  have l2 := q_run_low M _ _ _ _ _ _ _ _ hr2 (lk_tr l1 hk)
  exact ⟨N, r, v1, G1, hr, l1, z, e1, z1, z2, M, r2, v2, G2, hr2, e2, hP, c1, c2, lw_tr l1 l2⟩
