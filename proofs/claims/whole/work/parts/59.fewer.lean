section
variable {d q : Nat} {v : q_H} {G : q_Gr} {Q : q_V → q_H → q_Gr → Prop}
/-! ===== new acts ===== -/
theorem mk_1 {kd n a : Nat} (h : a ≠ 32 + G.2.2.1) : (q_mk G kd n).1 a = G.1 a := by
  funext k
  show (if a = 32 + G.2.2.1 then none else G.1 a k) = _
  rw [if_neg h]
theorem mk_2 {kd n a : Nat} (h : a ≠ 32 + G.2.2.1) : (q_mk G kd n).2.1 a = G.2.1 a := by
  show (if a = 32 + G.2.2.1 then _ else G.2.1 a) = _
  rw [if_neg h]
theorem mk_2n {kd n : Nat} : (q_mk G kd n).2.1 (32 + G.2.2.1) = (kd, n) := by
  show (if 32 + G.2.2.1 = 32 + G.2.2.1 then (kd, n) else _) = _
  rw [if_pos rfl]
theorem mk_3 {kd n : Nat} : (q_mk G kd n).2.2.1 = G.2.2.1 + 1 := rfl
theorem mk_4 {kd n : Nat} : (q_mk G kd n).2.2.2 = G.2.2.2 + n := rfl
theorem gok_mk {kd n : Nat} (h : gok G) : gok (q_mk G kd n) := by
  obtain ⟨h1, h2, h3, h4, h5⟩ := h
  refine ⟨fun a a1 a2 => ?_, fun a k a1 a2 a3 => ?_, fun a a1 a2 => ?_, fun a a1 a2 => ?_, ?_⟩
  · rw [mk_2 (by omega), h1 a a1 a2]
  · rw [mk_1 (by omega), h2 a k a1 a2 a3]
  · rw [mk_2 (by omega), h3 a a1 a2]
  · rw [mk_2 (by omega), h4 a a1 a2]
  · rw [mk_3]
    omega
/-- the object grows by cells that nobody counts on yet -/
theorem Inv_grow {v' : q_H} {G' : q_Gr} (hi : Inv v G) (hG : gok G') (h : ∀ b j, cr b j → b < 32 + G.2.2.1 → v' b j = v b j) (h1 : G'.1 38 = G.1 38) (h2 : ∀ p, p < 32 + G.2.2.1 → G'.2.1 p = G.2.1 p) (h3 : G.2.2.1 ≤ G'.2.2.1) : Inv v' G' := by
  obtain ⟨i1, i2, i3, i4, i5, i6, i7, i8, i9⟩ := hi
  have h142 := i1.2.2.2.2
  refine ⟨hG, shI_c (fun b j hb => h b j (Or.inl hb) (by omega)) i2, stI_c (fun b j hb => h b j (Or.inr (Or.inl hb)) (by omega)) i3, rdI_c (fun b j hb => h b j (Or.inr (Or.inr (Or.inl hb))) (by omega)) i4, tpI_c (fun b j hb => h b j (Or.inr (Or.inr (Or.inr (Or.inl hb)))) (by omega)) i5, ?_, ckI_c (fun b j hb => h b j (Or.inr (Or.inr (Or.inr (Or.inr (Or.inr (Or.inl hb)))))) (by omega)) i7, asI_c (fun b j hb => h b j (Or.inr (Or.inr (Or.inr (Or.inr (Or.inr (Or.inr (Or.inl hb))))))) (by omega)) i8, tbI_c (fun b j hb => h b j (Or.inr (Or.inr (Or.inr (Or.inr (Or.inr (Or.inr (Or.inr hb))))))) (by omega)) i9⟩
  obtain ⟨a1, a2, a3, a4⟩ := i6
  have ha : ∀ b j, acC b j → b < 32 + G.2.2.1 → v' b j = v b j := fun b j hb => h b j (Or.inr (Or.inr (Or.inr (Or.inr (Or.inl hb)))))
  have e36 : v' 36 3 = v 36 3 := ha _ _ (by omega) (by omega)
  refine ⟨by rw [e36, ha 137 15 (by omega) (by omega)]; exact a1, by rw [e36]; exact a2, by rw [e36]; exact a3, fun a hlt => ?_⟩
  rw [e36] at hlt
  obtain ⟨p, p1, p2, p3, p4, p5⟩ := a4 a hlt
  exact ⟨p, by rw [h1]; exact p1, p2, by omega, by rw [h2 p p3]; exact p4, actI_cg (by funext j; exact ha p j (by omega) p3) (fun b b1 b2 => by funext j; exact ha b j (by omega) (by omega)) p5⟩
/-- an act's cell, filled -/
def actW (v : q_H) (p : Nat) (w a b lo hi k : Int) : q_H := q_up (q_up (q_up (q_up (q_up (q_up v p 0 w) p 1 a) p 2 b) p 3 lo) p 4 hi) p 5 k
theorem actW_r {p b : Nat} {w a b' lo hi k : Int} (h : b ≠ p) : actW v p w a b' lo hi k b = v b := by
  unfold actW
  rw [u_r h, u_r h, u_r h, u_r h, u_r h, u_r h]
theorem actW_f {p : Nat} {w a b lo hi k : Int} : actW v p w a b lo hi k p 0 = w ∧ actW v p w a b lo hi k p 1 = a ∧ actW v p w a b lo hi k p 2 = b ∧ actW v p w a b lo hi k p 3 = lo ∧ actW v p w a b lo hi k p 4 = hi ∧ actW v p w a b lo hi k p 5 = k := by
  unfold actW
  refine ⟨?_, ?_, ?_, ?_, ?_, ?_⟩ <;> simp (disch := omega) only [u_n, u_s]
theorem c_actnew {p : Nat} {w a b lo hi k : Int} (h : (G.2.1 p).1 = 0) : q_call (d + 1) 0 [.inr (.inr (.inl (some p))), .inl w, .inl a, .inl b, .inl lo, .inl hi, .inl k] v G Q = Q (.inr (.inr (.inr ()))) (actW v p w a b lo hi k) G := by
  refine q_call_eq ?_ Q
  unfold actW
  simp (disch := omega) only [E0, h]
  repeat' first | (refine And.intro ?_ ?_) | rfl | exact True.intro | assumption | omega
theorem zr_r {a b : Nat} (h : b ≠ a) : q_zr v a b = v b := by
  funext j
  show (if b = a then 0 else v b j) = v b j
  rw [if_neg h]
end
