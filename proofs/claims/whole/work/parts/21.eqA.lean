/-! ProvenRows$Act.<init>(IIIIII)V -/
theorem c_0_0 : q_code 0 0 = (.aload_n 0, 1, 0, 0, 0, 0, 0) := by decide +kernel
theorem e_0_0 (d : Nat) (a : Option Nat) (z1 z2 z3 z4 z5 z6 : q_V) (st : List q_V) (v : q_H) (G : q_Gr) (Q : q_V → q_H → q_Gr → Prop) : q_wp d 0 0 [.inr (.inr (.inl a)), z1, z2, z3, z4, z5, z6] st v G Q = q_wp d 0 1 [.inr (.inr (.inl a)), z1, z2, z3, z4, z5, z6] (.inr (.inr (.inl a)) :: st) v G Q := q_w_aload_n c_0_0 rfl
theorem c_0_1 : q_code 0 1 = (.invokespecial 3, 3, 1000, 1, 0, 596, 0) := by decide +kernel
theorem e_0_1 (d : Nat) (a : Nat) (z0 z1 z2 z3 z4 z5 z6 : q_V) (v : q_H) (G : q_Gr) (Q : q_V → q_H → q_Gr → Prop) : q_wp d 0 1 [z0, z1, z2, z3, z4, z5, z6] [.inr (.inr (.inl (some a)))] v G Q = q_wp d 0 4 [z0, z1, z2, z3, z4, z5, z6] [] v G Q := q_w_obj c_0_1 (Nat.le_of_ble_eq_true rfl)
theorem c_0_4 : q_code 0 4 = (.aload_n 0, 1, 0, 0, 0, 0, 0) := by decide +kernel
theorem e_0_4 (d : Nat) (a : Option Nat) (z1 z2 z3 z4 z5 z6 : q_V) (st : List q_V) (v : q_H) (G : q_Gr) (Q : q_V → q_H → q_Gr → Prop) : q_wp d 0 4 [.inr (.inr (.inl a)), z1, z2, z3, z4, z5, z6] st v G Q = q_wp d 0 5 [.inr (.inr (.inl a)), z1, z2, z3, z4, z5, z6] (.inr (.inr (.inl a)) :: st) v G Q := q_w_aload_n c_0_4 rfl
theorem c_0_5 : q_code 0 5 = (.iload_n 1, 1, 0, 0, 0, 0, 0) := by decide +kernel
theorem e_0_5 (d : Nat) (a : Int) (z0 z2 z3 z4 z5 z6 : q_V) (st : List q_V) (v : q_H) (G : q_Gr) (Q : q_V → q_H → q_Gr → Prop) : q_wp d 0 5 [z0, .inl a, z2, z3, z4, z5, z6] st v G Q = q_wp d 0 6 [z0, .inl a, z2, z3, z4, z5, z6] (.inl a :: st) v G Q := q_w_iload_n c_0_5 rfl
theorem c_0_6 : q_code 0 6 = (.putfield 9, 3, 0, 0, 0, 597, 0) := by decide +kernel
theorem e_0_6 (d : Nat) (a : Nat) (b : Int) (z0 z1 z2 z3 z4 z5 z6 : q_V) (st : List q_V) (v : q_H) (G : q_Gr) (Q : q_V → q_H → q_Gr → Prop) : q_wp d 0 6 [z0, z1, z2, z3, z4, z5, z6] (.inl b :: .inr (.inr (.inl (some a))) :: st) v G Q = (((G.2.1 a).1 = 0) ∧ q_wp d 0 9 [z0, z1, z2, z3, z4, z5, z6] st (q_up v a 0 b) G Q) := q_w_putI c_0_6
theorem c_0_9 : q_code 0 9 = (.aload_n 0, 1, 0, 0, 0, 0, 0) := by decide +kernel
theorem e_0_9 (d : Nat) (a : Option Nat) (z1 z2 z3 z4 z5 z6 : q_V) (st : List q_V) (v : q_H) (G : q_Gr) (Q : q_V → q_H → q_Gr → Prop) : q_wp d 0 9 [.inr (.inr (.inl a)), z1, z2, z3, z4, z5, z6] st v G Q = q_wp d 0 10 [.inr (.inr (.inl a)), z1, z2, z3, z4, z5, z6] (.inr (.inr (.inl a)) :: st) v G Q := q_w_aload_n c_0_9 rfl
theorem c_0_10 : q_code 0 10 = (.iload_n 2, 1, 0, 0, 0, 0, 0) := by decide +kernel
theorem e_0_10 (d : Nat) (a : Int) (z0 z1 z3 z4 z5 z6 : q_V) (st : List q_V) (v : q_H) (G : q_Gr) (Q : q_V → q_H → q_Gr → Prop) : q_wp d 0 10 [z0, z1, .inl a, z3, z4, z5, z6] st v G Q = q_wp d 0 11 [z0, z1, .inl a, z3, z4, z5, z6] (.inl a :: st) v G Q := q_w_iload_n c_0_10 rfl
theorem c_0_11 : q_code 0 11 = (.putfield 15, 3, 0, 1, 0, 600, 0) := by decide +kernel
theorem e_0_11 (d : Nat) (a : Nat) (b : Int) (z0 z1 z2 z3 z4 z5 z6 : q_V) (st : List q_V) (v : q_H) (G : q_Gr) (Q : q_V → q_H → q_Gr → Prop) : q_wp d 0 11 [z0, z1, z2, z3, z4, z5, z6] (.inl b :: .inr (.inr (.inl (some a))) :: st) v G Q = (((G.2.1 a).1 = 0) ∧ q_wp d 0 14 [z0, z1, z2, z3, z4, z5, z6] st (q_up v a 1 b) G Q) := q_w_putI c_0_11
theorem c_0_14 : q_code 0 14 = (.aload_n 0, 1, 0, 0, 0, 0, 0) := by decide +kernel
theorem e_0_14 (d : Nat) (a : Option Nat) (z1 z2 z3 z4 z5 z6 : q_V) (st : List q_V) (v : q_H) (G : q_Gr) (Q : q_V → q_H → q_Gr → Prop) : q_wp d 0 14 [.inr (.inr (.inl a)), z1, z2, z3, z4, z5, z6] st v G Q = q_wp d 0 15 [.inr (.inr (.inl a)), z1, z2, z3, z4, z5, z6] (.inr (.inr (.inl a)) :: st) v G Q := q_w_aload_n c_0_14 rfl
theorem c_0_15 : q_code 0 15 = (.iload_n 3, 1, 0, 0, 0, 0, 0) := by decide +kernel
theorem e_0_15 (d : Nat) (a : Int) (z0 z1 z2 z4 z5 z6 : q_V) (st : List q_V) (v : q_H) (G : q_Gr) (Q : q_V → q_H → q_Gr → Prop) : q_wp d 0 15 [z0, z1, z2, .inl a, z4, z5, z6] st v G Q = q_wp d 0 16 [z0, z1, z2, .inl a, z4, z5, z6] (.inl a :: st) v G Q := q_w_iload_n c_0_15 rfl
theorem c_0_16 : q_code 0 16 = (.putfield 18, 3, 0, 2, 0, 603, 0) := by decide +kernel
theorem e_0_16 (d : Nat) (a : Nat) (b : Int) (z0 z1 z2 z3 z4 z5 z6 : q_V) (st : List q_V) (v : q_H) (G : q_Gr) (Q : q_V → q_H → q_Gr → Prop) : q_wp d 0 16 [z0, z1, z2, z3, z4, z5, z6] (.inl b :: .inr (.inr (.inl (some a))) :: st) v G Q = (((G.2.1 a).1 = 0) ∧ q_wp d 0 19 [z0, z1, z2, z3, z4, z5, z6] st (q_up v a 2 b) G Q) := q_w_putI c_0_16
theorem c_0_19 : q_code 0 19 = (.aload_n 0, 1, 0, 0, 0, 0, 0) := by decide +kernel
theorem e_0_19 (d : Nat) (a : Option Nat) (z1 z2 z3 z4 z5 z6 : q_V) (st : List q_V) (v : q_H) (G : q_Gr) (Q : q_V → q_H → q_Gr → Prop) : q_wp d 0 19 [.inr (.inr (.inl a)), z1, z2, z3, z4, z5, z6] st v G Q = q_wp d 0 20 [.inr (.inr (.inl a)), z1, z2, z3, z4, z5, z6] (.inr (.inr (.inl a)) :: st) v G Q := q_w_aload_n c_0_19 rfl
theorem c_0_20 : q_code 0 20 = (.iload 4, 2, 0, 0, 0, 0, 0) := by decide +kernel
theorem e_0_20 (d : Nat) (a : Int) (z0 z1 z2 z3 z5 z6 : q_V) (st : List q_V) (v : q_H) (G : q_Gr) (Q : q_V → q_H → q_Gr → Prop) : q_wp d 0 20 [z0, z1, z2, z3, .inl a, z5, z6] st v G Q = q_wp d 0 22 [z0, z1, z2, z3, .inl a, z5, z6] (.inl a :: st) v G Q := q_w_iload c_0_20 rfl
theorem c_0_22 : q_code 0 22 = (.putfield 21, 3, 0, 3, 0, 606, 0) := by decide +kernel
theorem e_0_22 (d : Nat) (a : Nat) (b : Int) (z0 z1 z2 z3 z4 z5 z6 : q_V) (st : List q_V) (v : q_H) (G : q_Gr) (Q : q_V → q_H → q_Gr → Prop) : q_wp d 0 22 [z0, z1, z2, z3, z4, z5, z6] (.inl b :: .inr (.inr (.inl (some a))) :: st) v G Q = (((G.2.1 a).1 = 0) ∧ q_wp d 0 25 [z0, z1, z2, z3, z4, z5, z6] st (q_up v a 3 b) G Q) := q_w_putI c_0_22
theorem c_0_25 : q_code 0 25 = (.aload_n 0, 1, 0, 0, 0, 0, 0) := by decide +kernel
theorem e_0_25 (d : Nat) (a : Option Nat) (z1 z2 z3 z4 z5 z6 : q_V) (st : List q_V) (v : q_H) (G : q_Gr) (Q : q_V → q_H → q_Gr → Prop) : q_wp d 0 25 [.inr (.inr (.inl a)), z1, z2, z3, z4, z5, z6] st v G Q = q_wp d 0 26 [.inr (.inr (.inl a)), z1, z2, z3, z4, z5, z6] (.inr (.inr (.inl a)) :: st) v G Q := q_w_aload_n c_0_25 rfl
theorem c_0_26 : q_code 0 26 = (.iload 5, 2, 0, 0, 0, 0, 0) := by decide +kernel
theorem e_0_26 (d : Nat) (a : Int) (z0 z1 z2 z3 z4 z6 : q_V) (st : List q_V) (v : q_H) (G : q_Gr) (Q : q_V → q_H → q_Gr → Prop) : q_wp d 0 26 [z0, z1, z2, z3, z4, .inl a, z6] st v G Q = q_wp d 0 28 [z0, z1, z2, z3, z4, .inl a, z6] (.inl a :: st) v G Q := q_w_iload c_0_26 rfl
theorem c_0_28 : q_code 0 28 = (.putfield 24, 3, 0, 4, 0, 609, 0) := by decide +kernel
theorem e_0_28 (d : Nat) (a : Nat) (b : Int) (z0 z1 z2 z3 z4 z5 z6 : q_V) (st : List q_V) (v : q_H) (G : q_Gr) (Q : q_V → q_H → q_Gr → Prop) : q_wp d 0 28 [z0, z1, z2, z3, z4, z5, z6] (.inl b :: .inr (.inr (.inl (some a))) :: st) v G Q = (((G.2.1 a).1 = 0) ∧ q_wp d 0 31 [z0, z1, z2, z3, z4, z5, z6] st (q_up v a 4 b) G Q) := q_w_putI c_0_28
theorem c_0_31 : q_code 0 31 = (.aload_n 0, 1, 0, 0, 0, 0, 0) := by decide +kernel
theorem e_0_31 (d : Nat) (a : Option Nat) (z1 z2 z3 z4 z5 z6 : q_V) (st : List q_V) (v : q_H) (G : q_Gr) (Q : q_V → q_H → q_Gr → Prop) : q_wp d 0 31 [.inr (.inr (.inl a)), z1, z2, z3, z4, z5, z6] st v G Q = q_wp d 0 32 [.inr (.inr (.inl a)), z1, z2, z3, z4, z5, z6] (.inr (.inr (.inl a)) :: st) v G Q := q_w_aload_n c_0_31 rfl
theorem c_0_32 : q_code 0 32 = (.iload 6, 2, 0, 0, 0, 0, 0) := by decide +kernel
theorem e_0_32 (d : Nat) (a : Int) (z0 z1 z2 z3 z4 z5 : q_V) (st : List q_V) (v : q_H) (G : q_Gr) (Q : q_V → q_H → q_Gr → Prop) : q_wp d 0 32 [z0, z1, z2, z3, z4, z5, .inl a] st v G Q = q_wp d 0 34 [z0, z1, z2, z3, z4, z5, .inl a] (.inl a :: st) v G Q := q_w_iload c_0_32 rfl
theorem c_0_34 : q_code 0 34 = (.putfield 27, 3, 0, 5, 0, 612, 0) := by decide +kernel
theorem e_0_34 (d : Nat) (a : Nat) (b : Int) (z0 z1 z2 z3 z4 z5 z6 : q_V) (st : List q_V) (v : q_H) (G : q_Gr) (Q : q_V → q_H → q_Gr → Prop) : q_wp d 0 34 [z0, z1, z2, z3, z4, z5, z6] (.inl b :: .inr (.inr (.inl (some a))) :: st) v G Q = (((G.2.1 a).1 = 0) ∧ q_wp d 0 37 [z0, z1, z2, z3, z4, z5, z6] st (q_up v a 5 b) G Q) := q_w_putI c_0_34
theorem c_0_37 : q_code 0 37 = (.return_, 1, 0, 0, 0, 0, 0) := by decide +kernel
theorem e_0_37 (d : Nat)  (z0 z1 z2 z3 z4 z5 z6 : q_V) (v : q_H) (G : q_Gr) (Q : q_V → q_H → q_Gr → Prop) : q_wp d 0 37 [z0, z1, z2, z3, z4, z5, z6] [] v G Q = Q (.inr (.inr (.inr ()))) v G := q_w_return c_0_37 rfl
theorem e_0 (d : Nat) (a0 : Nat) (a1 : Int) (a2 : Int) (a3 : Int) (a4 : Int) (a5 : Int) (a6 : Int) (v : q_H) (G : q_Gr) (Q : q_V → q_H → q_Gr → Prop) : q_call (d + 1) 0 [.inr (.inr (.inl (some a0))), .inl a1, .inl a2, .inl a3, .inl a4, .inl a5, .inl a6] v G Q = ((G.2.1 a0).1 = 0 ∧ q_wp d 0 0 [.inr (.inr (.inl (some a0))), .inl a1, .inl a2, .inl a3, .inl a4, .inl a5, .inl a6] [] v G Q) := by
  rw [q_call_in (by decide) (Nat.le_of_ble_eq_true rfl) rfl]
  exact congrArg (· ∧ _) (propext beq_iff_eq)
/-- all but the heads of loops: [] -/
def E0 := And.intro @e_0 (And.intro @e_0_0 (And.intro @e_0_1 (And.intro @e_0_4 (And.intro @e_0_5 (And.intro @e_0_6 (And.intro @e_0_9 (And.intro @e_0_10 (And.intro @e_0_11 (And.intro @e_0_14 (And.intro @e_0_15 (And.intro @e_0_16 (And.intro @e_0_19 (And.intro @e_0_20 (And.intro @e_0_22 (And.intro @e_0_25 (And.intro @e_0_26 (And.intro @e_0_28 (And.intro @e_0_31 (And.intro @e_0_32 (And.intro @e_0_34 (@e_0_37)))))))))))))))))))))
/-! ProvenRows$Act.ownKind()I -/
theorem c_1_0 : q_code 1 0 = (.aload_n 0, 1, 0, 0, 0, 0, 0) := by decide +kernel
theorem e_1_0 (d : Nat) (a : Option Nat) (st : List q_V) (v : q_H) (G : q_Gr) (Q : q_V → q_H → q_Gr → Prop) : q_wp d 1 0 [.inr (.inr (.inl a))] st v G Q = q_wp d 1 1 [.inr (.inr (.inl a))] (.inr (.inr (.inl a)) :: st) v G Q := q_w_aload_n c_1_0 rfl
theorem c_1_1 : q_code 1 1 = (.getfield 9, 3, 0, 0, 0, 597, 0) := by decide +kernel
theorem e_1_1 (d : Nat) (a : Nat) (z0 : q_V) (st : List q_V) (v : q_H) (G : q_Gr) (Q : q_V → q_H → q_Gr → Prop) : q_wp d 1 1 [z0] (.inr (.inr (.inl (some a))) :: st) v G Q = (((G.2.1 a).1 = 0) ∧ q_wp d 1 4 [z0] (.inl (v a 0) :: st) v G Q) := q_w_getI c_1_1
theorem c_1_4 : q_code 1 4 = (.bipush 7, 2, 0, 0, 0, 0, 0) := by decide +kernel
theorem e_1_4 (d : Nat)  (z0 : q_V) (st : List q_V) (v : q_H) (G : q_Gr) (Q : q_V → q_H → q_Gr → Prop) : q_wp d 1 4 [z0] st v G Q = q_wp d 1 6 [z0] (.inl 7 :: st) v G Q := (q_w_bipush c_1_4).trans (by simp only [show ((-128 : Int) ≤ 7 ∧ (7 : Int) ≤ 127) = True by decide, true_and])
theorem c_1_6 : q_code 1 6 = (.invokestatic 30, 3, 144, 2, 1, 15, 1) := by decide +kernel
theorem e_1_6 (d : Nat) (x0 x1 : q_V) (z0 : q_V) (v : q_H) (G : q_Gr) (Q : q_V → q_H → q_Gr → Prop) : q_wp d 1 6 [z0] [x1, x0] v G Q = q_call d 144 [x0, x1] v G (fun r v G => q_wp d 1 9 [z0] (q_push r []) v G Q) := q_wp_ca (m2 := 144) (k := 2) (as := [x0, x1]) (rest := []) (congrArg q_kind c_1_6) (congrArg (fun w => w.2.2.1) c_1_6) (congrArg (fun w => w.2.2.2.1) c_1_6) rfl (Nat.le_of_ble_eq_true rfl) rfl
theorem c_1_9 : q_code 1 9 = (.ifCond .eq 14, 3, 0, 0, 0, 0, 0) := by decide +kernel
theorem e_1_9 (d : Nat) (a : Int) (z0 : q_V) (st : List q_V) (v : q_H) (G : q_Gr) (Q : q_V → q_H → q_Gr → Prop) : q_wp d 1 9 [z0] (.inl a :: st) v G Q = ((q_inR a) ∧ if a = 0 then q_wp d 1 23 [z0] st v G Q else q_wp d 1 12 [z0] st v G Q) := q_w_if_eq c_1_9 (by decide)
theorem c_1_12 : q_code 1 12 = (.getstatic 34, 3, 0, 0, 0, 739, 0) := by decide +kernel
theorem e_1_12 (d : Nat)  (z0 : q_V) (st : List q_V) (v : q_H) (G : q_Gr) (Q : q_V → q_H → q_Gr → Prop) : q_wp d 1 12 [z0] st v G Q = q_wp d 1 15 [z0] (.inr (.inr (.inl (some 1))) :: st) v G Q := q_w_gets c_1_12
theorem c_1_15 : q_code 1 15 = (.aload_n 0, 1, 0, 0, 0, 0, 0) := by decide +kernel
theorem e_1_15 (d : Nat) (a : Option Nat) (st : List q_V) (v : q_H) (G : q_Gr) (Q : q_V → q_H → q_Gr → Prop) : q_wp d 1 15 [.inr (.inr (.inl a))] st v G Q = q_wp d 1 16 [.inr (.inr (.inl a))] (.inr (.inr (.inl a)) :: st) v G Q := q_w_aload_n c_1_15 rfl
theorem c_1_16 : q_code 1 16 = (.getfield 9, 3, 0, 0, 0, 597, 0) := by decide +kernel
theorem e_1_16 (d : Nat) (a : Nat) (z0 : q_V) (st : List q_V) (v : q_H) (G : q_Gr) (Q : q_V → q_H → q_Gr → Prop) : q_wp d 1 16 [z0] (.inr (.inr (.inl (some a))) :: st) v G Q = (((G.2.1 a).1 = 0) ∧ q_wp d 1 19 [z0] (.inl (v a 0) :: st) v G Q) := q_w_getI c_1_16
theorem c_1_19 : q_code 1 19 = (.iaload, 1, 0, 0, 0, 0, 0) := by decide +kernel
theorem e_1_19 (d : Nat) (a : Nat) (i : Int) (z0 : q_V) (st : List q_V) (v : q_H) (G : q_Gr) (Q : q_V → q_H → q_Gr → Prop) : q_wp d 1 19 [z0] (.inl i :: .inr (.inr (.inl (some a))) :: st) v G Q = (((G.2.1 a).1 = 20 ∧ 0 ≤ i ∧ i < (G.2.1 a).2) ∧ q_wp d 1 20 [z0] (.inl (v a i.toNat) :: st) v G Q) := q_w_iald c_1_19
theorem c_1_20 : q_code 1 20 = (.goto 4, 3, 0, 0, 0, 0, 0) := by decide +kernel
theorem e_1_20 (d : Nat)  (z0 : q_V) (st : List q_V) (v : q_H) (G : q_Gr) (Q : q_V → q_H → q_Gr → Prop) : q_wp d 1 20 [z0] st v G Q = q_wp d 1 24 [z0] st v G Q := q_w_goto c_1_20 (by decide)
theorem c_1_23 : q_code 1 23 = (.iconst 0, 1, 0, 0, 0, 0, 0) := by decide +kernel
theorem e_1_23 (d : Nat)  (z0 : q_V) (st : List q_V) (v : q_H) (G : q_Gr) (Q : q_V → q_H → q_Gr → Prop) : q_wp d 1 23 [z0] st v G Q = q_wp d 1 24 [z0] (.inl 0 :: st) v G Q := q_w_iconst c_1_23
theorem c_1_24 : q_code 1 24 = (.ireturn, 1, 0, 0, 0, 0, 0) := by decide +kernel
theorem e_1_24 (d : Nat) (a : Int) (z0 : q_V) (v : q_H) (G : q_Gr) (Q : q_V → q_H → q_Gr → Prop) : q_wp d 1 24 [z0] [.inl a] v G Q = Q (.inl a) v G := q_w_ireturn c_1_24 rfl
theorem e_1 (d : Nat) (a0 : Nat) (v : q_H) (G : q_Gr) (Q : q_V → q_H → q_Gr → Prop) : q_call (d + 1) 1 [.inr (.inr (.inl (some a0)))] v G Q = ((G.2.1 a0).1 = 0 ∧ q_wp d 1 0 [.inr (.inr (.inl (some a0)))] [] v G Q) := by
  rw [q_call_in (by decide) (Nat.le_of_ble_eq_true rfl) rfl]
  exact congrArg (· ∧ _) (propext beq_iff_eq)
/-- all but the heads of loops: [] -/
def E1 := And.intro @e_1 (And.intro @e_1_0 (And.intro @e_1_1 (And.intro @e_1_4 (And.intro @e_1_6 (And.intro @e_1_9 (And.intro @e_1_12 (And.intro @e_1_15 (And.intro @e_1_16 (And.intro @e_1_19 (And.intro @e_1_20 (And.intro @e_1_23 (@e_1_24))))))))))))
/-! ProvenRows$Act.isOf(I)Z -/
theorem c_2_0 : q_code 2 0 = (.aload_n 0, 1, 0, 0, 0, 0, 0) := by decide +kernel
theorem e_2_0 (d : Nat) (a : Option Nat) (z1 z2 z3 : q_V) (st : List q_V) (v : q_H) (G : q_Gr) (Q : q_V → q_H → q_Gr → Prop) : q_wp d 2 0 [.inr (.inr (.inl a)), z1, z2, z3] st v G Q = q_wp d 2 1 [.inr (.inr (.inl a)), z1, z2, z3] (.inr (.inr (.inl a)) :: st) v G Q := q_w_aload_n c_2_0 rfl
theorem c_2_1 : q_code 2 1 = (.invokevirtual 38, 3, 1, 1, 0, 735, 1) := by decide +kernel
theorem e_2_1 (d : Nat) (x0 : q_V) (z0 z1 z2 z3 : q_V) (v : q_H) (G : q_Gr) (Q : q_V → q_H → q_Gr → Prop) : q_wp d 2 1 [z0, z1, z2, z3] [x0] v G Q = q_call d 1 [x0] v G (fun r v G => q_wp d 2 4 [z0, z1, z2, z3] (q_push r []) v G Q) := q_wp_ca (m2 := 1) (k := 1) (as := [x0]) (rest := []) (congrArg q_kind c_2_1) (congrArg (fun w => w.2.2.1) c_2_1) (congrArg (fun w => w.2.2.2.1) c_2_1) rfl (Nat.le_of_ble_eq_true rfl) rfl
theorem c_2_4 : q_code 2 4 = (.istore_n 2, 1, 0, 0, 0, 0, 0) := by decide +kernel
theorem e_2_4 (d : Nat) (a : Int) (z0 z1 z2 z3 : q_V) (st : List q_V) (v : q_H) (G : q_Gr) (Q : q_V → q_H → q_Gr → Prop) : q_wp d 2 4 [z0, z1, z2, z3] (.inl a :: st) v G Q = q_wp d 2 5 [z0, z1, .inl a, z3] st v G Q := q_w_istore_n c_2_4
theorem c_2_5 : q_code 2 5 = (.iconst 0, 1, 0, 0, 0, 0, 0) := by decide +kernel
theorem e_2_5 (d : Nat)  (z0 z1 z2 z3 : q_V) (st : List q_V) (v : q_H) (G : q_Gr) (Q : q_V → q_H → q_Gr → Prop) : q_wp d 2 5 [z0, z1, z2, z3] st v G Q = q_wp d 2 6 [z0, z1, z2, z3] (.inl 0 :: st) v G Q := q_w_iconst c_2_5
theorem c_2_6 : q_code 2 6 = (.istore_n 3, 1, 0, 0, 0, 0, 0) := by decide +kernel
theorem e_2_6 (d : Nat) (a : Int) (z0 z1 z2 z3 : q_V) (st : List q_V) (v : q_H) (G : q_Gr) (Q : q_V → q_H → q_Gr → Prop) : q_wp d 2 6 [z0, z1, z2, z3] (.inl a :: st) v G Q = q_wp d 2 7 [z0, z1, z2, .inl a] st v G Q := q_w_istore_n c_2_6
theorem c_2_7 : q_code 2 7 = (.iload_n 3, 1, 0, 0, 0, 0, 0) := by decide +kernel
theorem e_2_7 (d : Nat) (a : Int) (z0 z1 z2 : q_V) (st : List q_V) (v : q_H) (G : q_Gr) (Q : q_V → q_H → q_Gr → Prop) : q_wp d 2 7 [z0, z1, z2, .inl a] st v G Q = q_wp d 2 8 [z0, z1, z2, .inl a] (.inl a :: st) v G Q := q_w_iload_n c_2_7 rfl
theorem c_2_8 : q_code 2 8 = (.bipush 7, 2, 0, 0, 0, 0, 0) := by decide +kernel
theorem e_2_8 (d : Nat)  (z0 z1 z2 z3 : q_V) (st : List q_V) (v : q_H) (G : q_Gr) (Q : q_V → q_H → q_Gr → Prop) : q_wp d 2 8 [z0, z1, z2, z3] st v G Q = q_wp d 2 10 [z0, z1, z2, z3] (.inl 7 :: st) v G Q := (q_w_bipush c_2_8).trans (by simp only [show ((-128 : Int) ≤ 7 ∧ (7 : Int) ≤ 127) = True by decide, true_and])
theorem c_2_10 : q_code 2 10 = (.if_icmp .ge 31, 3, 0, 0, 0, 0, 0) := by decide +kernel
theorem e_2_10 (d : Nat) (a b : Int) (z0 z1 z2 z3 : q_V) (st : List q_V) (v : q_H) (G : q_Gr) (Q : q_V → q_H → q_Gr → Prop) : q_wp d 2 10 [z0, z1, z2, z3] (.inl b :: .inl a :: st) v G Q = ((q_inR a ∧ q_inR b) ∧ if b ≤ a then q_wp d 2 41 [z0, z1, z2, z3] st v G Q else q_wp d 2 13 [z0, z1, z2, z3] st v G Q) := q_w_icmp_ge c_2_10 (by decide)
theorem c_2_13 : q_code 2 13 = (.iload_n 2, 1, 0, 0, 0, 0, 0) := by decide +kernel
theorem e_2_13 (d : Nat) (a : Int) (z0 z1 z3 : q_V) (st : List q_V) (v : q_H) (G : q_Gr) (Q : q_V → q_H → q_Gr → Prop) : q_wp d 2 13 [z0, z1, .inl a, z3] st v G Q = q_wp d 2 14 [z0, z1, .inl a, z3] (.inl a :: st) v G Q := q_w_iload_n c_2_13 rfl
theorem c_2_14 : q_code 2 14 = (.bipush 7, 2, 0, 0, 0, 0, 0) := by decide +kernel
theorem e_2_14 (d : Nat)  (z0 z1 z2 z3 : q_V) (st : List q_V) (v : q_H) (G : q_Gr) (Q : q_V → q_H → q_Gr → Prop) : q_wp d 2 14 [z0, z1, z2, z3] st v G Q = q_wp d 2 16 [z0, z1, z2, z3] (.inl 7 :: st) v G Q := (q_w_bipush c_2_14).trans (by simp only [show ((-128 : Int) ≤ 7 ∧ (7 : Int) ≤ 127) = True by decide, true_and])
theorem c_2_16 : q_code 2 16 = (.invokestatic 30, 3, 144, 2, 1, 15, 1) := by decide +kernel
theorem e_2_16 (d : Nat) (x0 x1 : q_V) (z0 z1 z2 z3 : q_V) (v : q_H) (G : q_Gr) (Q : q_V → q_H → q_Gr → Prop) : q_wp d 2 16 [z0, z1, z2, z3] [x1, x0] v G Q = q_call d 144 [x0, x1] v G (fun r v G => q_wp d 2 19 [z0, z1, z2, z3] (q_push r []) v G Q) := q_wp_ca (m2 := 144) (k := 2) (as := [x0, x1]) (rest := []) (congrArg q_kind c_2_16) (congrArg (fun w => w.2.2.1) c_2_16) (congrArg (fun w => w.2.2.2.1) c_2_16) rfl (Nat.le_of_ble_eq_true rfl) rfl
theorem c_2_19 : q_code 2 19 = (.ifCond .eq 22, 3, 0, 0, 0, 0, 0) := by decide +kernel
theorem e_2_19 (d : Nat) (a : Int) (z0 z1 z2 z3 : q_V) (st : List q_V) (v : q_H) (G : q_Gr) (Q : q_V → q_H → q_Gr → Prop) : q_wp d 2 19 [z0, z1, z2, z3] (.inl a :: st) v G Q = ((q_inR a) ∧ if a = 0 then q_wp d 2 41 [z0, z1, z2, z3] st v G Q else q_wp d 2 22 [z0, z1, z2, z3] st v G Q) := q_w_if_eq c_2_19 (by decide)
theorem c_2_22 : q_code 2 22 = (.iload_n 2, 1, 0, 0, 0, 0, 0) := by decide +kernel
theorem e_2_22 (d : Nat) (a : Int) (z0 z1 z3 : q_V) (st : List q_V) (v : q_H) (G : q_Gr) (Q : q_V → q_H → q_Gr → Prop) : q_wp d 2 22 [z0, z1, .inl a, z3] st v G Q = q_wp d 2 23 [z0, z1, .inl a, z3] (.inl a :: st) v G Q := q_w_iload_n c_2_22 rfl
theorem c_2_23 : q_code 2 23 = (.iload_n 1, 1, 0, 0, 0, 0, 0) := by decide +kernel
theorem e_2_23 (d : Nat) (a : Int) (z0 z2 z3 : q_V) (st : List q_V) (v : q_H) (G : q_Gr) (Q : q_V → q_H → q_Gr → Prop) : q_wp d 2 23 [z0, .inl a, z2, z3] st v G Q = q_wp d 2 24 [z0, .inl a, z2, z3] (.inl a :: st) v G Q := q_w_iload_n c_2_23 rfl
theorem c_2_24 : q_code 2 24 = (.if_icmp .ne 5, 3, 0, 0, 0, 0, 0) := by decide +kernel
theorem e_2_24 (d : Nat) (a b : Int) (z0 z1 z2 z3 : q_V) (st : List q_V) (v : q_H) (G : q_Gr) (Q : q_V → q_H → q_Gr → Prop) : q_wp d 2 24 [z0, z1, z2, z3] (.inl b :: .inl a :: st) v G Q = ((q_inR a ∧ q_inR b) ∧ if ¬ a = b then q_wp d 2 29 [z0, z1, z2, z3] st v G Q else q_wp d 2 27 [z0, z1, z2, z3] st v G Q) := q_w_icmp_ne c_2_24 (by decide)
theorem c_2_27 : q_code 2 27 = (.iconst 1, 1, 0, 0, 0, 0, 0) := by decide +kernel
theorem e_2_27 (d : Nat)  (z0 z1 z2 z3 : q_V) (st : List q_V) (v : q_H) (G : q_Gr) (Q : q_V → q_H → q_Gr → Prop) : q_wp d 2 27 [z0, z1, z2, z3] st v G Q = q_wp d 2 28 [z0, z1, z2, z3] (.inl 1 :: st) v G Q := q_w_iconst c_2_27
theorem c_2_28 : q_code 2 28 = (.ireturn, 1, 0, 0, 0, 0, 0) := by decide +kernel
theorem e_2_28 (d : Nat) (a : Int) (z0 z1 z2 z3 : q_V) (v : q_H) (G : q_Gr) (Q : q_V → q_H → q_Gr → Prop) : q_wp d 2 28 [z0, z1, z2, z3] [.inl a] v G Q = ((0 ≤ a ∧ a ≤ 1) ∧ Q (.inl a) v G) := q_w_zreturn c_2_28 rfl
theorem c_2_29 : q_code 2 29 = (.getstatic 42, 3, 1, 0, 0, 740, 0) := by decide +kernel
theorem e_2_29 (d : Nat)  (z0 z1 z2 z3 : q_V) (st : List q_V) (v : q_H) (G : q_Gr) (Q : q_V → q_H → q_Gr → Prop) : q_wp d 2 29 [z0, z1, z2, z3] st v G Q = q_wp d 2 32 [z0, z1, z2, z3] (.inr (.inr (.inl (some 2))) :: st) v G Q := q_w_gets c_2_29
theorem c_2_32 : q_code 2 32 = (.iload_n 2, 1, 0, 0, 0, 0, 0) := by decide +kernel
theorem e_2_32 (d : Nat) (a : Int) (z0 z1 z3 : q_V) (st : List q_V) (v : q_H) (G : q_Gr) (Q : q_V → q_H → q_Gr → Prop) : q_wp d 2 32 [z0, z1, .inl a, z3] st v G Q = q_wp d 2 33 [z0, z1, .inl a, z3] (.inl a :: st) v G Q := q_w_iload_n c_2_32 rfl
theorem c_2_33 : q_code 2 33 = (.iaload, 1, 0, 0, 0, 0, 0) := by decide +kernel
theorem e_2_33 (d : Nat) (a : Nat) (i : Int) (z0 z1 z2 z3 : q_V) (st : List q_V) (v : q_H) (G : q_Gr) (Q : q_V → q_H → q_Gr → Prop) : q_wp d 2 33 [z0, z1, z2, z3] (.inl i :: .inr (.inr (.inl (some a))) :: st) v G Q = (((G.2.1 a).1 = 20 ∧ 0 ≤ i ∧ i < (G.2.1 a).2) ∧ q_wp d 2 34 [z0, z1, z2, z3] (.inl (v a i.toNat) :: st) v G Q) := q_w_iald c_2_33
theorem c_2_34 : q_code 2 34 = (.istore_n 2, 1, 0, 0, 0, 0, 0) := by decide +kernel
theorem e_2_34 (d : Nat) (a : Int) (z0 z1 z2 z3 : q_V) (st : List q_V) (v : q_H) (G : q_Gr) (Q : q_V → q_H → q_Gr → Prop) : q_wp d 2 34 [z0, z1, z2, z3] (.inl a :: st) v G Q = q_wp d 2 35 [z0, z1, .inl a, z3] st v G Q := q_w_istore_n c_2_34
theorem c_2_35 : q_code 2 35 = (.iinc 3 1, 3, 0, 0, 0, 0, 0) := by decide +kernel
theorem e_2_35 (d : Nat) (a : Int) (z0 z1 z2 : q_V) (st : List q_V) (v : q_H) (G : q_Gr) (Q : q_V → q_H → q_Gr → Prop) : q_wp d 2 35 [z0, z1, z2, .inl a] st v G Q = q_wp d 2 38 [z0, z1, z2, .inl (a + 1)] st v G Q := q_w_iinc c_2_35 rfl
theorem c_2_38 : q_code 2 38 = (.goto (-31), 3, 0, 0, 0, 0, 0) := by decide +kernel
theorem e_2_38 (d : Nat)  (z0 z1 z2 z3 : q_V) (st : List q_V) (v : q_H) (G : q_Gr) (Q : q_V → q_H → q_Gr → Prop) : q_wp d 2 38 [z0, z1, z2, z3] st v G Q = q_wp d 2 7 [z0, z1, z2, z3] st v G Q := q_w_goto c_2_38 (by decide)
theorem c_2_41 : q_code 2 41 = (.iconst 0, 1, 0, 0, 0, 0, 0) := by decide +kernel
theorem e_2_41 (d : Nat)  (z0 z1 z2 z3 : q_V) (st : List q_V) (v : q_H) (G : q_Gr) (Q : q_V → q_H → q_Gr → Prop) : q_wp d 2 41 [z0, z1, z2, z3] st v G Q = q_wp d 2 42 [z0, z1, z2, z3] (.inl 0 :: st) v G Q := q_w_iconst c_2_41
theorem c_2_42 : q_code 2 42 = (.ireturn, 1, 0, 0, 0, 0, 0) := by decide +kernel
theorem e_2_42 (d : Nat) (a : Int) (z0 z1 z2 z3 : q_V) (v : q_H) (G : q_Gr) (Q : q_V → q_H → q_Gr → Prop) : q_wp d 2 42 [z0, z1, z2, z3] [.inl a] v G Q = ((0 ≤ a ∧ a ≤ 1) ∧ Q (.inl a) v G) := q_w_zreturn c_2_42 rfl
theorem e_2 (d : Nat) (a0 : Nat) (a1 : Int) (v : q_H) (G : q_Gr) (Q : q_V → q_H → q_Gr → Prop) : q_call (d + 1) 2 [.inr (.inr (.inl (some a0))), .inl a1] v G Q = ((G.2.1 a0).1 = 0 ∧ q_wp d 2 0 [.inr (.inr (.inl (some a0))), .inl a1, .inr (.inr (.inr ())), .inr (.inr (.inr ()))] [] v G Q) := by
  rw [q_call_in (by decide) (Nat.le_of_ble_eq_true rfl) rfl]
  exact congrArg (· ∧ _) (propext beq_iff_eq)
/-- all but the heads of loops: [7] -/
def E2 := And.intro @e_2 (And.intro @e_2_0 (And.intro @e_2_1 (And.intro @e_2_4 (And.intro @e_2_5 (And.intro @e_2_6 (And.intro @e_2_8 (And.intro @e_2_10 (And.intro @e_2_13 (And.intro @e_2_14 (And.intro @e_2_16 (And.intro @e_2_19 (And.intro @e_2_22 (And.intro @e_2_23 (And.intro @e_2_24 (And.intro @e_2_27 (And.intro @e_2_28 (And.intro @e_2_29 (And.intro @e_2_32 (And.intro @e_2_33 (And.intro @e_2_34 (And.intro @e_2_35 (And.intro @e_2_38 (And.intro @e_2_41 (@e_2_42))))))))))))))))))))))))
/-! ProvenRows$Act.hasProbes()Z -/
theorem c_3_0 : q_code 3 0 = (.aload_n 0, 1, 0, 0, 0, 0, 0) := by decide +kernel
theorem e_3_0 (d : Nat) (a : Option Nat) (st : List q_V) (v : q_H) (G : q_Gr) (Q : q_V → q_H → q_Gr → Prop) : q_wp d 3 0 [.inr (.inr (.inl a))] st v G Q = q_wp d 3 1 [.inr (.inr (.inl a))] (.inr (.inr (.inl a)) :: st) v G Q := q_w_aload_n c_3_0 rfl
theorem c_3_1 : q_code 3 1 = (.getfield 9, 3, 0, 0, 0, 597, 0) := by decide +kernel
theorem e_3_1 (d : Nat) (a : Nat) (z0 : q_V) (st : List q_V) (v : q_H) (G : q_Gr) (Q : q_V → q_H → q_Gr → Prop) : q_wp d 3 1 [z0] (.inr (.inr (.inl (some a))) :: st) v G Q = (((G.2.1 a).1 = 0) ∧ q_wp d 3 4 [z0] (.inl (v a 0) :: st) v G Q) := q_w_getI c_3_1
theorem c_3_4 : q_code 3 4 = (.iconst 4, 1, 0, 0, 0, 0, 0) := by decide +kernel
theorem e_3_4 (d : Nat)  (z0 : q_V) (st : List q_V) (v : q_H) (G : q_Gr) (Q : q_V → q_H → q_Gr → Prop) : q_wp d 3 4 [z0] st v G Q = q_wp d 3 5 [z0] (.inl 4 :: st) v G Q := q_w_iconst c_3_4
theorem c_3_5 : q_code 3 5 = (.if_icmp .eq 12, 3, 0, 0, 0, 0, 0) := by decide +kernel
theorem e_3_5 (d : Nat) (a b : Int) (z0 : q_V) (st : List q_V) (v : q_H) (G : q_Gr) (Q : q_V → q_H → q_Gr → Prop) : q_wp d 3 5 [z0] (.inl b :: .inl a :: st) v G Q = ((q_inR a ∧ q_inR b) ∧ if a = b then q_wp d 3 17 [z0] st v G Q else q_wp d 3 8 [z0] st v G Q) := q_w_icmp_eq c_3_5 (by decide)
theorem c_3_8 : q_code 3 8 = (.aload_n 0, 1, 0, 0, 0, 0, 0) := by decide +kernel
theorem e_3_8 (d : Nat) (a : Option Nat) (st : List q_V) (v : q_H) (G : q_Gr) (Q : q_V → q_H → q_Gr → Prop) : q_wp d 3 8 [.inr (.inr (.inl a))] st v G Q = q_wp d 3 9 [.inr (.inr (.inl a))] (.inr (.inr (.inl a)) :: st) v G Q := q_w_aload_n c_3_8 rfl
theorem c_3_9 : q_code 3 9 = (.getfield 9, 3, 0, 0, 0, 597, 0) := by decide +kernel
theorem e_3_9 (d : Nat) (a : Nat) (z0 : q_V) (st : List q_V) (v : q_H) (G : q_Gr) (Q : q_V → q_H → q_Gr → Prop) : q_wp d 3 9 [z0] (.inr (.inr (.inl (some a))) :: st) v G Q = (((G.2.1 a).1 = 0) ∧ q_wp d 3 12 [z0] (.inl (v a 0) :: st) v G Q) := q_w_getI c_3_9
theorem c_3_12 : q_code 3 12 = (.bipush 6, 2, 0, 0, 0, 0, 0) := by decide +kernel
theorem e_3_12 (d : Nat)  (z0 : q_V) (st : List q_V) (v : q_H) (G : q_Gr) (Q : q_V → q_H → q_Gr → Prop) : q_wp d 3 12 [z0] st v G Q = q_wp d 3 14 [z0] (.inl 6 :: st) v G Q := (q_w_bipush c_3_12).trans (by simp only [show ((-128 : Int) ≤ 6 ∧ (6 : Int) ≤ 127) = True by decide, true_and])
theorem c_3_14 : q_code 3 14 = (.if_icmp .ne 7, 3, 0, 0, 0, 0, 0) := by decide +kernel
theorem e_3_14 (d : Nat) (a b : Int) (z0 : q_V) (st : List q_V) (v : q_H) (G : q_Gr) (Q : q_V → q_H → q_Gr → Prop) : q_wp d 3 14 [z0] (.inl b :: .inl a :: st) v G Q = ((q_inR a ∧ q_inR b) ∧ if ¬ a = b then q_wp d 3 21 [z0] st v G Q else q_wp d 3 17 [z0] st v G Q) := q_w_icmp_ne c_3_14 (by decide)
theorem c_3_17 : q_code 3 17 = (.iconst 1, 1, 0, 0, 0, 0, 0) := by decide +kernel
theorem e_3_17 (d : Nat)  (z0 : q_V) (st : List q_V) (v : q_H) (G : q_Gr) (Q : q_V → q_H → q_Gr → Prop) : q_wp d 3 17 [z0] st v G Q = q_wp d 3 18 [z0] (.inl 1 :: st) v G Q := q_w_iconst c_3_17
theorem c_3_18 : q_code 3 18 = (.goto 4, 3, 0, 0, 0, 0, 0) := by decide +kernel
theorem e_3_18 (d : Nat)  (z0 : q_V) (st : List q_V) (v : q_H) (G : q_Gr) (Q : q_V → q_H → q_Gr → Prop) : q_wp d 3 18 [z0] st v G Q = q_wp d 3 22 [z0] st v G Q := q_w_goto c_3_18 (by decide)
theorem c_3_21 : q_code 3 21 = (.iconst 0, 1, 0, 0, 0, 0, 0) := by decide +kernel
theorem e_3_21 (d : Nat)  (z0 : q_V) (st : List q_V) (v : q_H) (G : q_Gr) (Q : q_V → q_H → q_Gr → Prop) : q_wp d 3 21 [z0] st v G Q = q_wp d 3 22 [z0] (.inl 0 :: st) v G Q := q_w_iconst c_3_21
theorem c_3_22 : q_code 3 22 = (.ireturn, 1, 0, 0, 0, 0, 0) := by decide +kernel
theorem e_3_22 (d : Nat) (a : Int) (z0 : q_V) (v : q_H) (G : q_Gr) (Q : q_V → q_H → q_Gr → Prop) : q_wp d 3 22 [z0] [.inl a] v G Q = ((0 ≤ a ∧ a ≤ 1) ∧ Q (.inl a) v G) := q_w_zreturn c_3_22 rfl
theorem e_3 (d : Nat) (a0 : Nat) (v : q_H) (G : q_Gr) (Q : q_V → q_H → q_Gr → Prop) : q_call (d + 1) 3 [.inr (.inr (.inl (some a0)))] v G Q = ((G.2.1 a0).1 = 0 ∧ q_wp d 3 0 [.inr (.inr (.inl (some a0)))] [] v G Q) := by
  rw [q_call_in (by decide) (Nat.le_of_ble_eq_true rfl) rfl]
  exact congrArg (· ∧ _) (propext beq_iff_eq)
/-- all but the heads of loops: [] -/
def E3 := And.intro @e_3 (And.intro @e_3_0 (And.intro @e_3_1 (And.intro @e_3_4 (And.intro @e_3_5 (And.intro @e_3_8 (And.intro @e_3_9 (And.intro @e_3_12 (And.intro @e_3_14 (And.intro @e_3_17 (And.intro @e_3_18 (And.intro @e_3_21 (@e_3_22))))))))))))
/-! ProvenRows$Act.isPair()Z -/
theorem c_4_0 : q_code 4 0 = (.aload_n 0, 1, 0, 0, 0, 0, 0) := by decide +kernel
theorem e_4_0 (d : Nat) (a : Option Nat) (st : List q_V) (v : q_H) (G : q_Gr) (Q : q_V → q_H → q_Gr → Prop) : q_wp d 4 0 [.inr (.inr (.inl a))] st v G Q = q_wp d 4 1 [.inr (.inr (.inl a))] (.inr (.inr (.inl a)) :: st) v G Q := q_w_aload_n c_4_0 rfl
theorem c_4_1 : q_code 4 1 = (.iconst 5, 1, 0, 0, 0, 0, 0) := by decide +kernel
theorem e_4_1 (d : Nat)  (z0 : q_V) (st : List q_V) (v : q_H) (G : q_Gr) (Q : q_V → q_H → q_Gr → Prop) : q_wp d 4 1 [z0] st v G Q = q_wp d 4 2 [z0] (.inl 5 :: st) v G Q := q_w_iconst c_4_1
theorem c_4_2 : q_code 4 2 = (.invokevirtual 45, 3, 2, 2, 0, 731, 1) := by decide +kernel
theorem e_4_2 (d : Nat) (x0 x1 : q_V) (z0 : q_V) (v : q_H) (G : q_Gr) (Q : q_V → q_H → q_Gr → Prop) : q_wp d 4 2 [z0] [x1, x0] v G Q = q_call d 2 [x0, x1] v G (fun r v G => q_wp d 4 5 [z0] (q_push r []) v G Q) := q_wp_ca (m2 := 2) (k := 2) (as := [x0, x1]) (rest := []) (congrArg q_kind c_4_2) (congrArg (fun w => w.2.2.1) c_4_2) (congrArg (fun w => w.2.2.2.1) c_4_2) rfl (Nat.le_of_ble_eq_true rfl) rfl
theorem c_4_5 : q_code 4 5 = (.ireturn, 1, 0, 0, 0, 0, 0) := by decide +kernel
theorem e_4_5 (d : Nat) (a : Int) (z0 : q_V) (v : q_H) (G : q_Gr) (Q : q_V → q_H → q_Gr → Prop) : q_wp d 4 5 [z0] [.inl a] v G Q = ((0 ≤ a ∧ a ≤ 1) ∧ Q (.inl a) v G) := q_w_zreturn c_4_5 rfl
theorem e_4 (d : Nat) (a0 : Nat) (v : q_H) (G : q_Gr) (Q : q_V → q_H → q_Gr → Prop) : q_call (d + 1) 4 [.inr (.inr (.inl (some a0)))] v G Q = ((G.2.1 a0).1 = 0 ∧ q_wp d 4 0 [.inr (.inr (.inl (some a0)))] [] v G Q) := by
  rw [q_call_in (by decide) (Nat.le_of_ble_eq_true rfl) rfl]
  exact congrArg (· ∧ _) (propext beq_iff_eq)
/-- all but the heads of loops: [] -/
def E4 := And.intro @e_4 (And.intro @e_4_0 (And.intro @e_4_1 (And.intro @e_4_2 (@e_4_5))))
/-! ProvenRows$Act.answerInto(LProvenRows$Numbers;LProvenRows$Rows;LProvenRows$Rows;I)V -/
theorem c_5_0 : q_code 5 0 = (.aload_n 1, 1, 0, 0, 0, 0, 0) := by decide +kernel
theorem e_5_0 (d : Nat) (a : Option Nat) (z0 z2 z3 z4 : q_V) (st : List q_V) (v : q_H) (G : q_Gr) (Q : q_V → q_H → q_Gr → Prop) : q_wp d 5 0 [z0, .inr (.inr (.inl a)), z2, z3, z4] st v G Q = q_wp d 5 1 [z0, .inr (.inr (.inl a)), z2, z3, z4] (.inr (.inr (.inl a)) :: st) v G Q := q_w_aload_n c_5_0 rfl
theorem c_5_1 : q_code 5 1 = (.invokevirtual 49, 3, 36, 1, 0, 745, 0) := by decide +kernel
theorem e_5_1 (d : Nat) (x0 : q_V) (z0 z1 z2 z3 z4 : q_V) (v : q_H) (G : q_Gr) (Q : q_V → q_H → q_Gr → Prop) : q_wp d 5 1 [z0, z1, z2, z3, z4] [x0] v G Q = q_call d 36 [x0] v G (fun r v G => q_wp d 5 4 [z0, z1, z2, z3, z4] (q_push r []) v G Q) := q_wp_ca (m2 := 36) (k := 1) (as := [x0]) (rest := []) (congrArg q_kind c_5_1) (congrArg (fun w => w.2.2.1) c_5_1) (congrArg (fun w => w.2.2.2.1) c_5_1) rfl (Nat.le_of_ble_eq_true rfl) rfl
theorem c_5_4 : q_code 5 4 = (.aload_n 0, 1, 0, 0, 0, 0, 0) := by decide +kernel
theorem e_5_4 (d : Nat) (a : Option Nat) (z1 z2 z3 z4 : q_V) (st : List q_V) (v : q_H) (G : q_Gr) (Q : q_V → q_H → q_Gr → Prop) : q_wp d 5 4 [.inr (.inr (.inl a)), z1, z2, z3, z4] st v G Q = q_wp d 5 5 [.inr (.inr (.inl a)), z1, z2, z3, z4] (.inr (.inr (.inl a)) :: st) v G Q := q_w_aload_n c_5_4 rfl
theorem c_5_5 : q_code 5 5 = (.getfield 9, 3, 0, 0, 0, 597, 0) := by decide +kernel
theorem e_5_5 (d : Nat) (a : Nat) (z0 z1 z2 z3 z4 : q_V) (st : List q_V) (v : q_H) (G : q_Gr) (Q : q_V → q_H → q_Gr → Prop) : q_wp d 5 5 [z0, z1, z2, z3, z4] (.inr (.inr (.inl (some a))) :: st) v G Q = (((G.2.1 a).1 = 0) ∧ q_wp d 5 8 [z0, z1, z2, z3, z4] (.inl (v a 0) :: st) v G Q) := q_w_getI c_5_5
theorem c_5_8 : q_code 5 8 = (.iconst 1, 1, 0, 0, 0, 0, 0) := by decide +kernel
theorem e_5_8 (d : Nat)  (z0 z1 z2 z3 z4 : q_V) (st : List q_V) (v : q_H) (G : q_Gr) (Q : q_V → q_H → q_Gr → Prop) : q_wp d 5 8 [z0, z1, z2, z3, z4] st v G Q = q_wp d 5 9 [z0, z1, z2, z3, z4] (.inl 1 :: st) v G Q := q_w_iconst c_5_8
theorem c_5_9 : q_code 5 9 = (.if_icmp .ne 20, 3, 0, 0, 0, 0, 0) := by decide +kernel
theorem e_5_9 (d : Nat) (a b : Int) (z0 z1 z2 z3 z4 : q_V) (st : List q_V) (v : q_H) (G : q_Gr) (Q : q_V → q_H → q_Gr → Prop) : q_wp d 5 9 [z0, z1, z2, z3, z4] (.inl b :: .inl a :: st) v G Q = ((q_inR a ∧ q_inR b) ∧ if ¬ a = b then q_wp d 5 29 [z0, z1, z2, z3, z4] st v G Q else q_wp d 5 12 [z0, z1, z2, z3, z4] st v G Q) := q_w_icmp_ne c_5_9 (by decide)
theorem c_5_12 : q_code 5 12 = (.aload_n 1, 1, 0, 0, 0, 0, 0) := by decide +kernel
theorem e_5_12 (d : Nat) (a : Option Nat) (z0 z2 z3 z4 : q_V) (st : List q_V) (v : q_H) (G : q_Gr) (Q : q_V → q_H → q_Gr → Prop) : q_wp d 5 12 [z0, .inr (.inr (.inl a)), z2, z3, z4] st v G Q = q_wp d 5 13 [z0, .inr (.inr (.inl a)), z2, z3, z4] (.inr (.inr (.inl a)) :: st) v G Q := q_w_aload_n c_5_12 rfl
theorem c_5_13 : q_code 5 13 = (.aload_n 2, 1, 0, 0, 0, 0, 0) := by decide +kernel
theorem e_5_13 (d : Nat) (a : Option Nat) (z0 z1 z3 z4 : q_V) (st : List q_V) (v : q_H) (G : q_Gr) (Q : q_V → q_H → q_Gr → Prop) : q_wp d 5 13 [z0, z1, .inr (.inr (.inl a)), z3, z4] st v G Q = q_wp d 5 14 [z0, z1, .inr (.inr (.inl a)), z3, z4] (.inr (.inr (.inl a)) :: st) v G Q := q_w_aload_n c_5_13 rfl
theorem c_5_14 : q_code 5 14 = (.invokevirtual 54, 3, 82, 1, 0, 746, 1) := by decide +kernel
theorem e_5_14 (d : Nat) (x0 y0 : q_V) (z0 z1 z2 z3 z4 : q_V) (v : q_H) (G : q_Gr) (Q : q_V → q_H → q_Gr → Prop) : q_wp d 5 14 [z0, z1, z2, z3, z4] [x0, y0] v G Q = q_call d 82 [x0] v G (fun r v G => q_wp d 5 17 [z0, z1, z2, z3, z4] (q_push r [y0]) v G Q) := q_wp_ca (m2 := 82) (k := 1) (as := [x0]) (rest := [y0]) (congrArg q_kind c_5_14) (congrArg (fun w => w.2.2.1) c_5_14) (congrArg (fun w => w.2.2.2.1) c_5_14) rfl (Nat.le_of_ble_eq_true rfl) rfl
theorem c_5_17 : q_code 5 17 = (.invokevirtual 59, 3, 37, 2, 0, 747, 0) := by decide +kernel
theorem e_5_17 (d : Nat) (x0 x1 : q_V) (z0 z1 z2 z3 z4 : q_V) (v : q_H) (G : q_Gr) (Q : q_V → q_H → q_Gr → Prop) : q_wp d 5 17 [z0, z1, z2, z3, z4] [x1, x0] v G Q = q_call d 37 [x0, x1] v G (fun r v G => q_wp d 5 20 [z0, z1, z2, z3, z4] (q_push r []) v G Q) := q_wp_ca (m2 := 37) (k := 2) (as := [x0, x1]) (rest := []) (congrArg q_kind c_5_17) (congrArg (fun w => w.2.2.1) c_5_17) (congrArg (fun w => w.2.2.2.1) c_5_17) rfl (Nat.le_of_ble_eq_true rfl) rfl
theorem c_5_20 : q_code 5 20 = (.aload_n 1, 1, 0, 0, 0, 0, 0) := by decide +kernel
theorem e_5_20 (d : Nat) (a : Option Nat) (z0 z2 z3 z4 : q_V) (st : List q_V) (v : q_H) (G : q_Gr) (Q : q_V → q_H → q_Gr → Prop) : q_wp d 5 20 [z0, .inr (.inr (.inl a)), z2, z3, z4] st v G Q = q_wp d 5 21 [z0, .inr (.inr (.inl a)), z2, z3, z4] (.inr (.inr (.inl a)) :: st) v G Q := q_w_aload_n c_5_20 rfl
theorem c_5_21 : q_code 5 21 = (.iload 4, 2, 0, 0, 0, 0, 0) := by decide +kernel
theorem e_5_21 (d : Nat) (a : Int) (z0 z1 z2 z3 : q_V) (st : List q_V) (v : q_H) (G : q_Gr) (Q : q_V → q_H → q_Gr → Prop) : q_wp d 5 21 [z0, z1, z2, z3, .inl a] st v G Q = q_wp d 5 23 [z0, z1, z2, z3, .inl a] (.inl a :: st) v G Q := q_w_iload c_5_21 rfl
theorem c_5_23 : q_code 5 23 = (.invokevirtual 59, 3, 37, 2, 0, 747, 0) := by decide +kernel
theorem e_5_23 (d : Nat) (x0 x1 : q_V) (z0 z1 z2 z3 z4 : q_V) (v : q_H) (G : q_Gr) (Q : q_V → q_H → q_Gr → Prop) : q_wp d 5 23 [z0, z1, z2, z3, z4] [x1, x0] v G Q = q_call d 37 [x0, x1] v G (fun r v G => q_wp d 5 26 [z0, z1, z2, z3, z4] (q_push r []) v G Q) := q_wp_ca (m2 := 37) (k := 2) (as := [x0, x1]) (rest := []) (congrArg q_kind c_5_23) (congrArg (fun w => w.2.2.1) c_5_23) (congrArg (fun w => w.2.2.2.1) c_5_23) rfl (Nat.le_of_ble_eq_true rfl) rfl
theorem c_5_26 : q_code 5 26 = (.goto 34, 3, 0, 0, 0, 0, 0) := by decide +kernel
theorem e_5_26 (d : Nat)  (z0 z1 z2 z3 z4 : q_V) (st : List q_V) (v : q_H) (G : q_Gr) (Q : q_V → q_H → q_Gr → Prop) : q_wp d 5 26 [z0, z1, z2, z3, z4] st v G Q = q_wp d 5 60 [z0, z1, z2, z3, z4] st v G Q := q_w_goto c_5_26 (by decide)
theorem c_5_29 : q_code 5 29 = (.aload_n 0, 1, 0, 0, 0, 0, 0) := by decide +kernel
theorem e_5_29 (d : Nat) (a : Option Nat) (z1 z2 z3 z4 : q_V) (st : List q_V) (v : q_H) (G : q_Gr) (Q : q_V → q_H → q_Gr → Prop) : q_wp d 5 29 [.inr (.inr (.inl a)), z1, z2, z3, z4] st v G Q = q_wp d 5 30 [.inr (.inr (.inl a)), z1, z2, z3, z4] (.inr (.inr (.inl a)) :: st) v G Q := q_w_aload_n c_5_29 rfl
theorem c_5_30 : q_code 5 30 = (.getfield 9, 3, 0, 0, 0, 597, 0) := by decide +kernel
theorem e_5_30 (d : Nat) (a : Nat) (z0 z1 z2 z3 z4 : q_V) (st : List q_V) (v : q_H) (G : q_Gr) (Q : q_V → q_H → q_Gr → Prop) : q_wp d 5 30 [z0, z1, z2, z3, z4] (.inr (.inr (.inl (some a))) :: st) v G Q = (((G.2.1 a).1 = 0) ∧ q_wp d 5 33 [z0, z1, z2, z3, z4] (.inl (v a 0) :: st) v G Q) := q_w_getI c_5_30
theorem c_5_33 : q_code 5 33 = (.iconst 4, 1, 0, 0, 0, 0, 0) := by decide +kernel
theorem e_5_33 (d : Nat)  (z0 z1 z2 z3 z4 : q_V) (st : List q_V) (v : q_H) (G : q_Gr) (Q : q_V → q_H → q_Gr → Prop) : q_wp d 5 33 [z0, z1, z2, z3, z4] st v G Q = q_wp d 5 34 [z0, z1, z2, z3, z4] (.inl 4 :: st) v G Q := q_w_iconst c_5_33
theorem c_5_34 : q_code 5 34 = (.if_icmp .eq 11, 3, 0, 0, 0, 0, 0) := by decide +kernel
theorem e_5_34 (d : Nat) (a b : Int) (z0 z1 z2 z3 z4 : q_V) (st : List q_V) (v : q_H) (G : q_Gr) (Q : q_V → q_H → q_Gr → Prop) : q_wp d 5 34 [z0, z1, z2, z3, z4] (.inl b :: .inl a :: st) v G Q = ((q_inR a ∧ q_inR b) ∧ if a = b then q_wp d 5 45 [z0, z1, z2, z3, z4] st v G Q else q_wp d 5 37 [z0, z1, z2, z3, z4] st v G Q) := q_w_icmp_eq c_5_34 (by decide)
theorem c_5_37 : q_code 5 37 = (.aload_n 0, 1, 0, 0, 0, 0, 0) := by decide +kernel
theorem e_5_37 (d : Nat) (a : Option Nat) (z1 z2 z3 z4 : q_V) (st : List q_V) (v : q_H) (G : q_Gr) (Q : q_V → q_H → q_Gr → Prop) : q_wp d 5 37 [.inr (.inr (.inl a)), z1, z2, z3, z4] st v G Q = q_wp d 5 38 [.inr (.inr (.inl a)), z1, z2, z3, z4] (.inr (.inr (.inl a)) :: st) v G Q := q_w_aload_n c_5_37 rfl
theorem c_5_38 : q_code 5 38 = (.getfield 9, 3, 0, 0, 0, 597, 0) := by decide +kernel
theorem e_5_38 (d : Nat) (a : Nat) (z0 z1 z2 z3 z4 : q_V) (st : List q_V) (v : q_H) (G : q_Gr) (Q : q_V → q_H → q_Gr → Prop) : q_wp d 5 38 [z0, z1, z2, z3, z4] (.inr (.inr (.inl (some a))) :: st) v G Q = (((G.2.1 a).1 = 0) ∧ q_wp d 5 41 [z0, z1, z2, z3, z4] (.inl (v a 0) :: st) v G Q) := q_w_getI c_5_38
theorem c_5_41 : q_code 5 41 = (.iconst 5, 1, 0, 0, 0, 0, 0) := by decide +kernel
theorem e_5_41 (d : Nat)  (z0 z1 z2 z3 z4 : q_V) (st : List q_V) (v : q_H) (G : q_Gr) (Q : q_V → q_H → q_Gr → Prop) : q_wp d 5 41 [z0, z1, z2, z3, z4] st v G Q = q_wp d 5 42 [z0, z1, z2, z3, z4] (.inl 5 :: st) v G Q := q_w_iconst c_5_41
theorem c_5_42 : q_code 5 42 = (.if_icmp .ne 12, 3, 0, 0, 0, 0, 0) := by decide +kernel
theorem e_5_42 (d : Nat) (a b : Int) (z0 z1 z2 z3 z4 : q_V) (st : List q_V) (v : q_H) (G : q_Gr) (Q : q_V → q_H → q_Gr → Prop) : q_wp d 5 42 [z0, z1, z2, z3, z4] (.inl b :: .inl a :: st) v G Q = ((q_inR a ∧ q_inR b) ∧ if ¬ a = b then q_wp d 5 54 [z0, z1, z2, z3, z4] st v G Q else q_wp d 5 45 [z0, z1, z2, z3, z4] st v G Q) := q_w_icmp_ne c_5_42 (by decide)
theorem c_5_45 : q_code 5 45 = (.aload_n 1, 1, 0, 0, 0, 0, 0) := by decide +kernel
theorem e_5_45 (d : Nat) (a : Option Nat) (z0 z2 z3 z4 : q_V) (st : List q_V) (v : q_H) (G : q_Gr) (Q : q_V → q_H → q_Gr → Prop) : q_wp d 5 45 [z0, .inr (.inr (.inl a)), z2, z3, z4] st v G Q = q_wp d 5 46 [z0, .inr (.inr (.inl a)), z2, z3, z4] (.inr (.inr (.inl a)) :: st) v G Q := q_w_aload_n c_5_45 rfl
theorem c_5_46 : q_code 5 46 = (.aload_n 2, 1, 0, 0, 0, 0, 0) := by decide +kernel
theorem e_5_46 (d : Nat) (a : Option Nat) (z0 z1 z3 z4 : q_V) (st : List q_V) (v : q_H) (G : q_Gr) (Q : q_V → q_H → q_Gr → Prop) : q_wp d 5 46 [z0, z1, .inr (.inr (.inl a)), z3, z4] st v G Q = q_wp d 5 47 [z0, z1, .inr (.inr (.inl a)), z3, z4] (.inr (.inr (.inl a)) :: st) v G Q := q_w_aload_n c_5_46 rfl
theorem c_5_47 : q_code 5 47 = (.aload_n 3, 1, 0, 0, 0, 0, 0) := by decide +kernel
theorem e_5_47 (d : Nat) (a : Option Nat) (z0 z1 z2 z4 : q_V) (st : List q_V) (v : q_H) (G : q_Gr) (Q : q_V → q_H → q_Gr → Prop) : q_wp d 5 47 [z0, z1, z2, .inr (.inr (.inl a)), z4] st v G Q = q_wp d 5 48 [z0, z1, z2, .inr (.inr (.inl a)), z4] (.inr (.inr (.inl a)) :: st) v G Q := q_w_aload_n c_5_47 rfl
theorem c_5_48 : q_code 5 48 = (.invokestatic 63, 3, 6, 3, 0, 748, 0) := by decide +kernel
theorem e_5_48 (d : Nat) (x0 x1 x2 : q_V) (z0 z1 z2 z3 z4 : q_V) (v : q_H) (G : q_Gr) (Q : q_V → q_H → q_Gr → Prop) : q_wp d 5 48 [z0, z1, z2, z3, z4] [x2, x1, x0] v G Q = q_call d 6 [x0, x1, x2] v G (fun r v G => q_wp d 5 51 [z0, z1, z2, z3, z4] (q_push r []) v G Q) := q_wp_ca (m2 := 6) (k := 3) (as := [x0, x1, x2]) (rest := []) (congrArg q_kind c_5_48) (congrArg (fun w => w.2.2.1) c_5_48) (congrArg (fun w => w.2.2.2.1) c_5_48) rfl (Nat.le_of_ble_eq_true rfl) rfl
theorem c_5_51 : q_code 5 51 = (.goto 9, 3, 0, 0, 0, 0, 0) := by decide +kernel
theorem e_5_51 (d : Nat)  (z0 z1 z2 z3 z4 : q_V) (st : List q_V) (v : q_H) (G : q_Gr) (Q : q_V → q_H → q_Gr → Prop) : q_wp d 5 51 [z0, z1, z2, z3, z4] st v G Q = q_wp d 5 60 [z0, z1, z2, z3, z4] st v G Q := q_w_goto c_5_51 (by decide)
theorem c_5_54 : q_code 5 54 = (.aload_n 1, 1, 0, 0, 0, 0, 0) := by decide +kernel
theorem e_5_54 (d : Nat) (a : Option Nat) (z0 z2 z3 z4 : q_V) (st : List q_V) (v : q_H) (G : q_Gr) (Q : q_V → q_H → q_Gr → Prop) : q_wp d 5 54 [z0, .inr (.inr (.inl a)), z2, z3, z4] st v G Q = q_wp d 5 55 [z0, .inr (.inr (.inl a)), z2, z3, z4] (.inr (.inr (.inl a)) :: st) v G Q := q_w_aload_n c_5_54 rfl
theorem c_5_55 : q_code 5 55 = (.aload_n 2, 1, 0, 0, 0, 0, 0) := by decide +kernel
theorem e_5_55 (d : Nat) (a : Option Nat) (z0 z1 z3 z4 : q_V) (st : List q_V) (v : q_H) (G : q_Gr) (Q : q_V → q_H → q_Gr → Prop) : q_wp d 5 55 [z0, z1, .inr (.inr (.inl a)), z3, z4] st v G Q = q_wp d 5 56 [z0, z1, .inr (.inr (.inl a)), z3, z4] (.inr (.inr (.inl a)) :: st) v G Q := q_w_aload_n c_5_55 rfl
theorem c_5_56 : q_code 5 56 = (.aload_n 3, 1, 0, 0, 0, 0, 0) := by decide +kernel
theorem e_5_56 (d : Nat) (a : Option Nat) (z0 z1 z2 z4 : q_V) (st : List q_V) (v : q_H) (G : q_Gr) (Q : q_V → q_H → q_Gr → Prop) : q_wp d 5 56 [z0, z1, z2, .inr (.inr (.inl a)), z4] st v G Q = q_wp d 5 57 [z0, z1, z2, .inr (.inr (.inl a)), z4] (.inr (.inr (.inl a)) :: st) v G Q := q_w_aload_n c_5_56 rfl
theorem c_5_57 : q_code 5 57 = (.invokestatic 67, 3, 7, 3, 0, 754, 0) := by decide +kernel
theorem e_5_57 (d : Nat) (x0 x1 x2 : q_V) (z0 z1 z2 z3 z4 : q_V) (v : q_H) (G : q_Gr) (Q : q_V → q_H → q_Gr → Prop) : q_wp d 5 57 [z0, z1, z2, z3, z4] [x2, x1, x0] v G Q = q_call d 7 [x0, x1, x2] v G (fun r v G => q_wp d 5 60 [z0, z1, z2, z3, z4] (q_push r []) v G Q) := q_wp_ca (m2 := 7) (k := 3) (as := [x0, x1, x2]) (rest := []) (congrArg q_kind c_5_57) (congrArg (fun w => w.2.2.1) c_5_57) (congrArg (fun w => w.2.2.2.1) c_5_57) rfl (Nat.le_of_ble_eq_true rfl) rfl
theorem c_5_60 : q_code 5 60 = (.return_, 1, 0, 0, 0, 0, 0) := by decide +kernel
theorem e_5_60 (d : Nat)  (z0 z1 z2 z3 z4 : q_V) (v : q_H) (G : q_Gr) (Q : q_V → q_H → q_Gr → Prop) : q_wp d 5 60 [z0, z1, z2, z3, z4] [] v G Q = Q (.inr (.inr (.inr ()))) v G := q_w_return c_5_60 rfl
theorem e_5 (d : Nat) (a0 : Nat) (a1 : Option Nat) (a2 : Option Nat) (a3 : Option Nat) (a4 : Int) (v : q_H) (G : q_Gr) (Q : q_V → q_H → q_Gr → Prop) : q_call (d + 1) 5 [.inr (.inr (.inl (some a0))), .inr (.inr (.inl a1)), .inr (.inr (.inl a2)), .inr (.inr (.inl a3)), .inl a4] v G Q = ((G.2.1 a0).1 = 0 ∧ q_wp d 5 0 [.inr (.inr (.inl (some a0))), .inr (.inr (.inl a1)), .inr (.inr (.inl a2)), .inr (.inr (.inl a3)), .inl a4] [] v G Q) := by
  rw [q_call_in (by decide) (Nat.le_of_ble_eq_true rfl) rfl]
  exact congrArg (· ∧ _) (propext beq_iff_eq)
/-- all but the heads of loops: [] -/
def E5 := And.intro @e_5 (And.intro @e_5_0 (And.intro @e_5_1 (And.intro @e_5_4 (And.intro @e_5_5 (And.intro @e_5_8 (And.intro @e_5_9 (And.intro @e_5_12 (And.intro @e_5_13 (And.intro @e_5_14 (And.intro @e_5_17 (And.intro @e_5_20 (And.intro @e_5_21 (And.intro @e_5_23 (And.intro @e_5_26 (And.intro @e_5_29 (And.intro @e_5_30 (And.intro @e_5_33 (And.intro @e_5_34 (And.intro @e_5_37 (And.intro @e_5_38 (And.intro @e_5_41 (And.intro @e_5_42 (And.intro @e_5_45 (And.intro @e_5_46 (And.intro @e_5_47 (And.intro @e_5_48 (And.intro @e_5_51 (And.intro @e_5_54 (And.intro @e_5_55 (And.intro @e_5_56 (And.intro @e_5_57 (@e_5_60))))))))))))))))))))))))))))))))
/-! ProvenRows$Act.matchesInto(LProvenRows$Numbers;LProvenRows$Rows;LProvenRows$Rows;)V -/
theorem c_6_0 : q_code 6 0 = (.iconst 0, 1, 0, 0, 0, 0, 0) := by decide +kernel
theorem e_6_0 (d : Nat)  (z0 z1 z2 z3 z4 : q_V) (st : List q_V) (v : q_H) (G : q_Gr) (Q : q_V → q_H → q_Gr → Prop) : q_wp d 6 0 [z0, z1, z2, z3, z4] st v G Q = q_wp d 6 1 [z0, z1, z2, z3, z4] (.inl 0 :: st) v G Q := q_w_iconst c_6_0
theorem c_6_1 : q_code 6 1 = (.istore_n 3, 1, 0, 0, 0, 0, 0) := by decide +kernel
theorem e_6_1 (d : Nat) (a : Int) (z0 z1 z2 z3 z4 : q_V) (st : List q_V) (v : q_H) (G : q_Gr) (Q : q_V → q_H → q_Gr → Prop) : q_wp d 6 1 [z0, z1, z2, z3, z4] (.inl a :: st) v G Q = q_wp d 6 2 [z0, z1, z2, .inl a, z4] st v G Q := q_w_istore_n c_6_1
theorem c_6_2 : q_code 6 2 = (.iload_n 3, 1, 0, 0, 0, 0, 0) := by decide +kernel
theorem e_6_2 (d : Nat) (a : Int) (z0 z1 z2 z4 : q_V) (st : List q_V) (v : q_H) (G : q_Gr) (Q : q_V → q_H → q_Gr → Prop) : q_wp d 6 2 [z0, z1, z2, .inl a, z4] st v G Q = q_wp d 6 3 [z0, z1, z2, .inl a, z4] (.inl a :: st) v G Q := q_w_iload_n c_6_2 rfl
theorem c_6_3 : q_code 6 3 = (.aload_n 1, 1, 0, 0, 0, 0, 0) := by decide +kernel
theorem e_6_3 (d : Nat) (a : Option Nat) (z0 z2 z3 z4 : q_V) (st : List q_V) (v : q_H) (G : q_Gr) (Q : q_V → q_H → q_Gr → Prop) : q_wp d 6 3 [z0, .inr (.inr (.inl a)), z2, z3, z4] st v G Q = q_wp d 6 4 [z0, .inr (.inr (.inl a)), z2, z3, z4] (.inr (.inr (.inl a)) :: st) v G Q := q_w_aload_n c_6_3 rfl
theorem c_6_4 : q_code 6 4 = (.invokevirtual 54, 3, 82, 1, 0, 746, 1) := by decide +kernel
theorem e_6_4 (d : Nat) (x0 y0 : q_V) (z0 z1 z2 z3 z4 : q_V) (v : q_H) (G : q_Gr) (Q : q_V → q_H → q_Gr → Prop) : q_wp d 6 4 [z0, z1, z2, z3, z4] [x0, y0] v G Q = q_call d 82 [x0] v G (fun r v G => q_wp d 6 7 [z0, z1, z2, z3, z4] (q_push r [y0]) v G Q) := q_wp_ca (m2 := 82) (k := 1) (as := [x0]) (rest := [y0]) (congrArg q_kind c_6_4) (congrArg (fun w => w.2.2.1) c_6_4) (congrArg (fun w => w.2.2.2.1) c_6_4) rfl (Nat.le_of_ble_eq_true rfl) rfl
theorem c_6_7 : q_code 6 7 = (.if_icmp .ge 53, 3, 0, 0, 0, 0, 0) := by decide +kernel
theorem e_6_7 (d : Nat) (a b : Int) (z0 z1 z2 z3 z4 : q_V) (st : List q_V) (v : q_H) (G : q_Gr) (Q : q_V → q_H → q_Gr → Prop) : q_wp d 6 7 [z0, z1, z2, z3, z4] (.inl b :: .inl a :: st) v G Q = ((q_inR a ∧ q_inR b) ∧ if b ≤ a then q_wp d 6 60 [z0, z1, z2, z3, z4] st v G Q else q_wp d 6 10 [z0, z1, z2, z3, z4] st v G Q) := q_w_icmp_ge c_6_7 (by decide)
theorem c_6_10 : q_code 6 10 = (.aload_n 2, 1, 0, 0, 0, 0, 0) := by decide +kernel
theorem e_6_10 (d : Nat) (a : Option Nat) (z0 z1 z3 z4 : q_V) (st : List q_V) (v : q_H) (G : q_Gr) (Q : q_V → q_H → q_Gr → Prop) : q_wp d 6 10 [z0, z1, .inr (.inr (.inl a)), z3, z4] st v G Q = q_wp d 6 11 [z0, z1, .inr (.inr (.inl a)), z3, z4] (.inr (.inr (.inl a)) :: st) v G Q := q_w_aload_n c_6_10 rfl
theorem c_6_11 : q_code 6 11 = (.aload_n 1, 1, 0, 0, 0, 0, 0) := by decide +kernel
theorem e_6_11 (d : Nat) (a : Option Nat) (z0 z2 z3 z4 : q_V) (st : List q_V) (v : q_H) (G : q_Gr) (Q : q_V → q_H → q_Gr → Prop) : q_wp d 6 11 [z0, .inr (.inr (.inl a)), z2, z3, z4] st v G Q = q_wp d 6 12 [z0, .inr (.inr (.inl a)), z2, z3, z4] (.inr (.inr (.inl a)) :: st) v G Q := q_w_aload_n c_6_11 rfl
theorem c_6_12 : q_code 6 12 = (.iload_n 3, 1, 0, 0, 0, 0, 0) := by decide +kernel
theorem e_6_12 (d : Nat) (a : Int) (z0 z1 z2 z4 : q_V) (st : List q_V) (v : q_H) (G : q_Gr) (Q : q_V → q_H → q_Gr → Prop) : q_wp d 6 12 [z0, z1, z2, .inl a, z4] st v G Q = q_wp d 6 13 [z0, z1, z2, .inl a, z4] (.inl a :: st) v G Q := q_w_iload_n c_6_12 rfl
theorem c_6_13 : q_code 6 13 = (.invokevirtual 70, 3, 83, 2, 0, 751, 1) := by decide +kernel
theorem e_6_13 (d : Nat) (x0 x1 y0 : q_V) (z0 z1 z2 z3 z4 : q_V) (v : q_H) (G : q_Gr) (Q : q_V → q_H → q_Gr → Prop) : q_wp d 6 13 [z0, z1, z2, z3, z4] [x1, x0, y0] v G Q = q_call d 83 [x0, x1] v G (fun r v G => q_wp d 6 16 [z0, z1, z2, z3, z4] (q_push r [y0]) v G Q) := q_wp_ca (m2 := 83) (k := 2) (as := [x0, x1]) (rest := [y0]) (congrArg q_kind c_6_13) (congrArg (fun w => w.2.2.1) c_6_13) (congrArg (fun w => w.2.2.2.1) c_6_13) rfl (Nat.le_of_ble_eq_true rfl) rfl
theorem c_6_16 : q_code 6 16 = (.invokevirtual 74, 3, 85, 2, 0, 752, 1) := by decide +kernel
theorem e_6_16 (d : Nat) (x0 x1 : q_V) (z0 z1 z2 z3 z4 : q_V) (v : q_H) (G : q_Gr) (Q : q_V → q_H → q_Gr → Prop) : q_wp d 6 16 [z0, z1, z2, z3, z4] [x1, x0] v G Q = q_call d 85 [x0, x1] v G (fun r v G => q_wp d 6 19 [z0, z1, z2, z3, z4] (q_push r []) v G Q) := q_wp_ca (m2 := 85) (k := 2) (as := [x0, x1]) (rest := []) (congrArg q_kind c_6_16) (congrArg (fun w => w.2.2.1) c_6_16) (congrArg (fun w => w.2.2.2.1) c_6_16) rfl (Nat.le_of_ble_eq_true rfl) rfl
theorem c_6_19 : q_code 6 19 = (.istore 4, 2, 0, 0, 0, 0, 0) := by decide +kernel
theorem e_6_19 (d : Nat) (a : Int) (z0 z1 z2 z3 z4 : q_V) (st : List q_V) (v : q_H) (G : q_Gr) (Q : q_V → q_H → q_Gr → Prop) : q_wp d 6 19 [z0, z1, z2, z3, z4] (.inl a :: st) v G Q = q_wp d 6 21 [z0, z1, z2, z3, .inl a] st v G Q := q_w_istore c_6_19
theorem c_6_21 : q_code 6 21 = (.iload 4, 2, 0, 0, 0, 0, 0) := by decide +kernel
theorem e_6_21 (d : Nat) (a : Int) (z0 z1 z2 z3 : q_V) (st : List q_V) (v : q_H) (G : q_Gr) (Q : q_V → q_H → q_Gr → Prop) : q_wp d 6 21 [z0, z1, z2, z3, .inl a] st v G Q = q_wp d 6 23 [z0, z1, z2, z3, .inl a] (.inl a :: st) v G Q := q_w_iload c_6_21 rfl
theorem c_6_23 : q_code 6 23 = (.ifCond .lt 31, 3, 0, 0, 0, 0, 0) := by decide +kernel
theorem e_6_23 (d : Nat) (a : Int) (z0 z1 z2 z3 z4 : q_V) (st : List q_V) (v : q_H) (G : q_Gr) (Q : q_V → q_H → q_Gr → Prop) : q_wp d 6 23 [z0, z1, z2, z3, z4] (.inl a :: st) v G Q = ((q_inR a) ∧ if a < 0 then q_wp d 6 54 [z0, z1, z2, z3, z4] st v G Q else q_wp d 6 26 [z0, z1, z2, z3, z4] st v G Q) := q_w_if_lt c_6_23 (by decide)
theorem c_6_26 : q_code 6 26 = (.aload_n 0, 1, 0, 0, 0, 0, 0) := by decide +kernel
theorem e_6_26 (d : Nat) (a : Option Nat) (z1 z2 z3 z4 : q_V) (st : List q_V) (v : q_H) (G : q_Gr) (Q : q_V → q_H → q_Gr → Prop) : q_wp d 6 26 [.inr (.inr (.inl a)), z1, z2, z3, z4] st v G Q = q_wp d 6 27 [.inr (.inr (.inl a)), z1, z2, z3, z4] (.inr (.inr (.inl a)) :: st) v G Q := q_w_aload_n c_6_26 rfl
theorem c_6_27 : q_code 6 27 = (.aload_n 1, 1, 0, 0, 0, 0, 0) := by decide +kernel
theorem e_6_27 (d : Nat) (a : Option Nat) (z0 z2 z3 z4 : q_V) (st : List q_V) (v : q_H) (G : q_Gr) (Q : q_V → q_H → q_Gr → Prop) : q_wp d 6 27 [z0, .inr (.inr (.inl a)), z2, z3, z4] st v G Q = q_wp d 6 28 [z0, .inr (.inr (.inl a)), z2, z3, z4] (.inr (.inr (.inl a)) :: st) v G Q := q_w_aload_n c_6_27 rfl
theorem c_6_28 : q_code 6 28 = (.iload_n 3, 1, 0, 0, 0, 0, 0) := by decide +kernel
theorem e_6_28 (d : Nat) (a : Int) (z0 z1 z2 z4 : q_V) (st : List q_V) (v : q_H) (G : q_Gr) (Q : q_V → q_H → q_Gr → Prop) : q_wp d 6 28 [z0, z1, z2, .inl a, z4] st v G Q = q_wp d 6 29 [z0, z1, z2, .inl a, z4] (.inl a :: st) v G Q := q_w_iload_n c_6_28 rfl
theorem c_6_29 : q_code 6 29 = (.invokevirtual 70, 3, 83, 2, 0, 751, 1) := by decide +kernel
theorem e_6_29 (d : Nat) (x0 x1 y0 : q_V) (z0 z1 z2 z3 z4 : q_V) (v : q_H) (G : q_Gr) (Q : q_V → q_H → q_Gr → Prop) : q_wp d 6 29 [z0, z1, z2, z3, z4] [x1, x0, y0] v G Q = q_call d 83 [x0, x1] v G (fun r v G => q_wp d 6 32 [z0, z1, z2, z3, z4] (q_push r [y0]) v G Q) := q_wp_ca (m2 := 83) (k := 2) (as := [x0, x1]) (rest := [y0]) (congrArg q_kind c_6_29) (congrArg (fun w => w.2.2.1) c_6_29) (congrArg (fun w => w.2.2.2.1) c_6_29) rfl (Nat.le_of_ble_eq_true rfl) rfl
theorem c_6_32 : q_code 6 32 = (.invokevirtual 59, 3, 37, 2, 0, 747, 0) := by decide +kernel
theorem e_6_32 (d : Nat) (x0 x1 : q_V) (z0 z1 z2 z3 z4 : q_V) (v : q_H) (G : q_Gr) (Q : q_V → q_H → q_Gr → Prop) : q_wp d 6 32 [z0, z1, z2, z3, z4] [x1, x0] v G Q = q_call d 37 [x0, x1] v G (fun r v G => q_wp d 6 35 [z0, z1, z2, z3, z4] (q_push r []) v G Q) := q_wp_ca (m2 := 37) (k := 2) (as := [x0, x1]) (rest := []) (congrArg q_kind c_6_32) (congrArg (fun w => w.2.2.1) c_6_32) (congrArg (fun w => w.2.2.2.1) c_6_32) rfl (Nat.le_of_ble_eq_true rfl) rfl
theorem c_6_35 : q_code 6 35 = (.aload_n 0, 1, 0, 0, 0, 0, 0) := by decide +kernel
theorem e_6_35 (d : Nat) (a : Option Nat) (z1 z2 z3 z4 : q_V) (st : List q_V) (v : q_H) (G : q_Gr) (Q : q_V → q_H → q_Gr → Prop) : q_wp d 6 35 [.inr (.inr (.inl a)), z1, z2, z3, z4] st v G Q = q_wp d 6 36 [.inr (.inr (.inl a)), z1, z2, z3, z4] (.inr (.inr (.inl a)) :: st) v G Q := q_w_aload_n c_6_35 rfl
theorem c_6_36 : q_code 6 36 = (.aload_n 1, 1, 0, 0, 0, 0, 0) := by decide +kernel
theorem e_6_36 (d : Nat) (a : Option Nat) (z0 z2 z3 z4 : q_V) (st : List q_V) (v : q_H) (G : q_Gr) (Q : q_V → q_H → q_Gr → Prop) : q_wp d 6 36 [z0, .inr (.inr (.inl a)), z2, z3, z4] st v G Q = q_wp d 6 37 [z0, .inr (.inr (.inl a)), z2, z3, z4] (.inr (.inr (.inl a)) :: st) v G Q := q_w_aload_n c_6_36 rfl
theorem c_6_37 : q_code 6 37 = (.iload_n 3, 1, 0, 0, 0, 0, 0) := by decide +kernel
theorem e_6_37 (d : Nat) (a : Int) (z0 z1 z2 z4 : q_V) (st : List q_V) (v : q_H) (G : q_Gr) (Q : q_V → q_H → q_Gr → Prop) : q_wp d 6 37 [z0, z1, z2, .inl a, z4] st v G Q = q_wp d 6 38 [z0, z1, z2, .inl a, z4] (.inl a :: st) v G Q := q_w_iload_n c_6_37 rfl
theorem c_6_38 : q_code 6 38 = (.invokevirtual 77, 3, 84, 2, 0, 753, 1) := by decide +kernel
theorem e_6_38 (d : Nat) (x0 x1 y0 : q_V) (z0 z1 z2 z3 z4 : q_V) (v : q_H) (G : q_Gr) (Q : q_V → q_H → q_Gr → Prop) : q_wp d 6 38 [z0, z1, z2, z3, z4] [x1, x0, y0] v G Q = q_call d 84 [x0, x1] v G (fun r v G => q_wp d 6 41 [z0, z1, z2, z3, z4] (q_push r [y0]) v G Q) := q_wp_ca (m2 := 84) (k := 2) (as := [x0, x1]) (rest := [y0]) (congrArg q_kind c_6_38) (congrArg (fun w => w.2.2.1) c_6_38) (congrArg (fun w => w.2.2.2.1) c_6_38) rfl (Nat.le_of_ble_eq_true rfl) rfl
theorem c_6_41 : q_code 6 41 = (.invokevirtual 59, 3, 37, 2, 0, 747, 0) := by decide +kernel
theorem e_6_41 (d : Nat) (x0 x1 : q_V) (z0 z1 z2 z3 z4 : q_V) (v : q_H) (G : q_Gr) (Q : q_V → q_H → q_Gr → Prop) : q_wp d 6 41 [z0, z1, z2, z3, z4] [x1, x0] v G Q = q_call d 37 [x0, x1] v G (fun r v G => q_wp d 6 44 [z0, z1, z2, z3, z4] (q_push r []) v G Q) := q_wp_ca (m2 := 37) (k := 2) (as := [x0, x1]) (rest := []) (congrArg q_kind c_6_41) (congrArg (fun w => w.2.2.1) c_6_41) (congrArg (fun w => w.2.2.2.1) c_6_41) rfl (Nat.le_of_ble_eq_true rfl) rfl
theorem c_6_44 : q_code 6 44 = (.aload_n 0, 1, 0, 0, 0, 0, 0) := by decide +kernel
theorem e_6_44 (d : Nat) (a : Option Nat) (z1 z2 z3 z4 : q_V) (st : List q_V) (v : q_H) (G : q_Gr) (Q : q_V → q_H → q_Gr → Prop) : q_wp d 6 44 [.inr (.inr (.inl a)), z1, z2, z3, z4] st v G Q = q_wp d 6 45 [.inr (.inr (.inl a)), z1, z2, z3, z4] (.inr (.inr (.inl a)) :: st) v G Q := q_w_aload_n c_6_44 rfl
theorem c_6_45 : q_code 6 45 = (.aload_n 2, 1, 0, 0, 0, 0, 0) := by decide +kernel
theorem e_6_45 (d : Nat) (a : Option Nat) (z0 z1 z3 z4 : q_V) (st : List q_V) (v : q_H) (G : q_Gr) (Q : q_V → q_H → q_Gr → Prop) : q_wp d 6 45 [z0, z1, .inr (.inr (.inl a)), z3, z4] st v G Q = q_wp d 6 46 [z0, z1, .inr (.inr (.inl a)), z3, z4] (.inr (.inr (.inl a)) :: st) v G Q := q_w_aload_n c_6_45 rfl
theorem c_6_46 : q_code 6 46 = (.iload 4, 2, 0, 0, 0, 0, 0) := by decide +kernel
theorem e_6_46 (d : Nat) (a : Int) (z0 z1 z2 z3 : q_V) (st : List q_V) (v : q_H) (G : q_Gr) (Q : q_V → q_H → q_Gr → Prop) : q_wp d 6 46 [z0, z1, z2, z3, .inl a] st v G Q = q_wp d 6 48 [z0, z1, z2, z3, .inl a] (.inl a :: st) v G Q := q_w_iload c_6_46 rfl
theorem c_6_48 : q_code 6 48 = (.invokevirtual 77, 3, 84, 2, 0, 753, 1) := by decide +kernel
theorem e_6_48 (d : Nat) (x0 x1 y0 : q_V) (z0 z1 z2 z3 z4 : q_V) (v : q_H) (G : q_Gr) (Q : q_V → q_H → q_Gr → Prop) : q_wp d 6 48 [z0, z1, z2, z3, z4] [x1, x0, y0] v G Q = q_call d 84 [x0, x1] v G (fun r v G => q_wp d 6 51 [z0, z1, z2, z3, z4] (q_push r [y0]) v G Q) := q_wp_ca (m2 := 84) (k := 2) (as := [x0, x1]) (rest := [y0]) (congrArg q_kind c_6_48) (congrArg (fun w => w.2.2.1) c_6_48) (congrArg (fun w => w.2.2.2.1) c_6_48) rfl (Nat.le_of_ble_eq_true rfl) rfl
theorem c_6_51 : q_code 6 51 = (.invokevirtual 59, 3, 37, 2, 0, 747, 0) := by decide +kernel
theorem e_6_51 (d : Nat) (x0 x1 : q_V) (z0 z1 z2 z3 z4 : q_V) (v : q_H) (G : q_Gr) (Q : q_V → q_H → q_Gr → Prop) : q_wp d 6 51 [z0, z1, z2, z3, z4] [x1, x0] v G Q = q_call d 37 [x0, x1] v G (fun r v G => q_wp d 6 54 [z0, z1, z2, z3, z4] (q_push r []) v G Q) := q_wp_ca (m2 := 37) (k := 2) (as := [x0, x1]) (rest := []) (congrArg q_kind c_6_51) (congrArg (fun w => w.2.2.1) c_6_51) (congrArg (fun w => w.2.2.2.1) c_6_51) rfl (Nat.le_of_ble_eq_true rfl) rfl
theorem c_6_54 : q_code 6 54 = (.iinc 3 1, 3, 0, 0, 0, 0, 0) := by decide +kernel
theorem e_6_54 (d : Nat) (a : Int) (z0 z1 z2 z4 : q_V) (st : List q_V) (v : q_H) (G : q_Gr) (Q : q_V → q_H → q_Gr → Prop) : q_wp d 6 54 [z0, z1, z2, .inl a, z4] st v G Q = q_wp d 6 57 [z0, z1, z2, .inl (a + 1), z4] st v G Q := q_w_iinc c_6_54 rfl
theorem c_6_57 : q_code 6 57 = (.goto (-55), 3, 0, 0, 0, 0, 0) := by decide +kernel
theorem e_6_57 (d : Nat)  (z0 z1 z2 z3 z4 : q_V) (st : List q_V) (v : q_H) (G : q_Gr) (Q : q_V → q_H → q_Gr → Prop) : q_wp d 6 57 [z0, z1, z2, z3, z4] st v G Q = q_wp d 6 2 [z0, z1, z2, z3, z4] st v G Q := q_w_goto c_6_57 (by decide)
theorem c_6_60 : q_code 6 60 = (.return_, 1, 0, 0, 0, 0, 0) := by decide +kernel
theorem e_6_60 (d : Nat)  (z0 z1 z2 z3 z4 : q_V) (v : q_H) (G : q_Gr) (Q : q_V → q_H → q_Gr → Prop) : q_wp d 6 60 [z0, z1, z2, z3, z4] [] v G Q = Q (.inr (.inr (.inr ()))) v G := q_w_return c_6_60 rfl
theorem e_6 (d : Nat) (a0 : Option Nat) (a1 : Option Nat) (a2 : Option Nat) (v : q_H) (G : q_Gr) (Q : q_V → q_H → q_Gr → Prop) : q_call (d + 1) 6 [.inr (.inr (.inl a0)), .inr (.inr (.inl a1)), .inr (.inr (.inl a2))] v G Q = q_wp d 6 0 [.inr (.inr (.inl a0)), .inr (.inr (.inl a1)), .inr (.inr (.inl a2)), .inr (.inr (.inr ())), .inr (.inr (.inr ()))] [] v G Q := by
  rw [q_call_in (by decide) (Nat.le_of_ble_eq_true rfl) rfl]
  show (true = true ∧ _) = _
  simp only [true_and]
  rfl
/-- all but the heads of loops: [2] -/
def E6 := And.intro @e_6 (And.intro @e_6_0 (And.intro @e_6_1 (And.intro @e_6_3 (And.intro @e_6_4 (And.intro @e_6_7 (And.intro @e_6_10 (And.intro @e_6_11 (And.intro @e_6_12 (And.intro @e_6_13 (And.intro @e_6_16 (And.intro @e_6_19 (And.intro @e_6_21 (And.intro @e_6_23 (And.intro @e_6_26 (And.intro @e_6_27 (And.intro @e_6_28 (And.intro @e_6_29 (And.intro @e_6_32 (And.intro @e_6_35 (And.intro @e_6_36 (And.intro @e_6_37 (And.intro @e_6_38 (And.intro @e_6_41 (And.intro @e_6_44 (And.intro @e_6_45 (And.intro @e_6_46 (And.intro @e_6_48 (And.intro @e_6_51 (And.intro @e_6_54 (And.intro @e_6_57 (@e_6_60)))))))))))))))))))))))))))))))
/-! ProvenRows$Act.missesInto(LProvenRows$Numbers;LProvenRows$Rows;LProvenRows$Rows;)V -/
theorem c_7_0 : q_code 7 0 = (.iconst 0, 1, 0, 0, 0, 0, 0) := by decide +kernel
theorem e_7_0 (d : Nat)  (z0 z1 z2 z3 : q_V) (st : List q_V) (v : q_H) (G : q_Gr) (Q : q_V → q_H → q_Gr → Prop) : q_wp d 7 0 [z0, z1, z2, z3] st v G Q = q_wp d 7 1 [z0, z1, z2, z3] (.inl 0 :: st) v G Q := q_w_iconst c_7_0
theorem c_7_1 : q_code 7 1 = (.istore_n 3, 1, 0, 0, 0, 0, 0) := by decide +kernel
theorem e_7_1 (d : Nat) (a : Int) (z0 z1 z2 z3 : q_V) (st : List q_V) (v : q_H) (G : q_Gr) (Q : q_V → q_H → q_Gr → Prop) : q_wp d 7 1 [z0, z1, z2, z3] (.inl a :: st) v G Q = q_wp d 7 2 [z0, z1, z2, .inl a] st v G Q := q_w_istore_n c_7_1
theorem c_7_2 : q_code 7 2 = (.iload_n 3, 1, 0, 0, 0, 0, 0) := by decide +kernel
theorem e_7_2 (d : Nat) (a : Int) (z0 z1 z2 : q_V) (st : List q_V) (v : q_H) (G : q_Gr) (Q : q_V → q_H → q_Gr → Prop) : q_wp d 7 2 [z0, z1, z2, .inl a] st v G Q = q_wp d 7 3 [z0, z1, z2, .inl a] (.inl a :: st) v G Q := q_w_iload_n c_7_2 rfl
theorem c_7_3 : q_code 7 3 = (.aload_n 1, 1, 0, 0, 0, 0, 0) := by decide +kernel
theorem e_7_3 (d : Nat) (a : Option Nat) (z0 z2 z3 : q_V) (st : List q_V) (v : q_H) (G : q_Gr) (Q : q_V → q_H → q_Gr → Prop) : q_wp d 7 3 [z0, .inr (.inr (.inl a)), z2, z3] st v G Q = q_wp d 7 4 [z0, .inr (.inr (.inl a)), z2, z3] (.inr (.inr (.inl a)) :: st) v G Q := q_w_aload_n c_7_3 rfl
theorem c_7_4 : q_code 7 4 = (.invokevirtual 54, 3, 82, 1, 0, 746, 1) := by decide +kernel
theorem e_7_4 (d : Nat) (x0 y0 : q_V) (z0 z1 z2 z3 : q_V) (v : q_H) (G : q_Gr) (Q : q_V → q_H → q_Gr → Prop) : q_wp d 7 4 [z0, z1, z2, z3] [x0, y0] v G Q = q_call d 82 [x0] v G (fun r v G => q_wp d 7 7 [z0, z1, z2, z3] (q_push r [y0]) v G Q) := q_wp_ca (m2 := 82) (k := 1) (as := [x0]) (rest := [y0]) (congrArg q_kind c_7_4) (congrArg (fun w => w.2.2.1) c_7_4) (congrArg (fun w => w.2.2.2.1) c_7_4) rfl (Nat.le_of_ble_eq_true rfl) rfl
theorem c_7_7 : q_code 7 7 = (.if_icmp .ge 39, 3, 0, 0, 0, 0, 0) := by decide +kernel
theorem e_7_7 (d : Nat) (a b : Int) (z0 z1 z2 z3 : q_V) (st : List q_V) (v : q_H) (G : q_Gr) (Q : q_V → q_H → q_Gr → Prop) : q_wp d 7 7 [z0, z1, z2, z3] (.inl b :: .inl a :: st) v G Q = ((q_inR a ∧ q_inR b) ∧ if b ≤ a then q_wp d 7 46 [z0, z1, z2, z3] st v G Q else q_wp d 7 10 [z0, z1, z2, z3] st v G Q) := q_w_icmp_ge c_7_7 (by decide)
theorem c_7_10 : q_code 7 10 = (.aload_n 2, 1, 0, 0, 0, 0, 0) := by decide +kernel
theorem e_7_10 (d : Nat) (a : Option Nat) (z0 z1 z3 : q_V) (st : List q_V) (v : q_H) (G : q_Gr) (Q : q_V → q_H → q_Gr → Prop) : q_wp d 7 10 [z0, z1, .inr (.inr (.inl a)), z3] st v G Q = q_wp d 7 11 [z0, z1, .inr (.inr (.inl a)), z3] (.inr (.inr (.inl a)) :: st) v G Q := q_w_aload_n c_7_10 rfl
theorem c_7_11 : q_code 7 11 = (.aload_n 1, 1, 0, 0, 0, 0, 0) := by decide +kernel
theorem e_7_11 (d : Nat) (a : Option Nat) (z0 z2 z3 : q_V) (st : List q_V) (v : q_H) (G : q_Gr) (Q : q_V → q_H → q_Gr → Prop) : q_wp d 7 11 [z0, .inr (.inr (.inl a)), z2, z3] st v G Q = q_wp d 7 12 [z0, .inr (.inr (.inl a)), z2, z3] (.inr (.inr (.inl a)) :: st) v G Q := q_w_aload_n c_7_11 rfl
theorem c_7_12 : q_code 7 12 = (.iload_n 3, 1, 0, 0, 0, 0, 0) := by decide +kernel
theorem e_7_12 (d : Nat) (a : Int) (z0 z1 z2 : q_V) (st : List q_V) (v : q_H) (G : q_Gr) (Q : q_V → q_H → q_Gr → Prop) : q_wp d 7 12 [z0, z1, z2, .inl a] st v G Q = q_wp d 7 13 [z0, z1, z2, .inl a] (.inl a :: st) v G Q := q_w_iload_n c_7_12 rfl
theorem c_7_13 : q_code 7 13 = (.invokevirtual 70, 3, 83, 2, 0, 751, 1) := by decide +kernel
theorem e_7_13 (d : Nat) (x0 x1 y0 : q_V) (z0 z1 z2 z3 : q_V) (v : q_H) (G : q_Gr) (Q : q_V → q_H → q_Gr → Prop) : q_wp d 7 13 [z0, z1, z2, z3] [x1, x0, y0] v G Q = q_call d 83 [x0, x1] v G (fun r v G => q_wp d 7 16 [z0, z1, z2, z3] (q_push r [y0]) v G Q) := q_wp_ca (m2 := 83) (k := 2) (as := [x0, x1]) (rest := [y0]) (congrArg q_kind c_7_13) (congrArg (fun w => w.2.2.1) c_7_13) (congrArg (fun w => w.2.2.2.1) c_7_13) rfl (Nat.le_of_ble_eq_true rfl) rfl
theorem c_7_16 : q_code 7 16 = (.invokevirtual 74, 3, 85, 2, 0, 752, 1) := by decide +kernel
theorem e_7_16 (d : Nat) (x0 x1 : q_V) (z0 z1 z2 z3 : q_V) (v : q_H) (G : q_Gr) (Q : q_V → q_H → q_Gr → Prop) : q_wp d 7 16 [z0, z1, z2, z3] [x1, x0] v G Q = q_call d 85 [x0, x1] v G (fun r v G => q_wp d 7 19 [z0, z1, z2, z3] (q_push r []) v G Q) := q_wp_ca (m2 := 85) (k := 2) (as := [x0, x1]) (rest := []) (congrArg q_kind c_7_16) (congrArg (fun w => w.2.2.1) c_7_16) (congrArg (fun w => w.2.2.2.1) c_7_16) rfl (Nat.le_of_ble_eq_true rfl) rfl
theorem c_7_19 : q_code 7 19 = (.ifCond .ge 21, 3, 0, 0, 0, 0, 0) := by decide +kernel
theorem e_7_19 (d : Nat) (a : Int) (z0 z1 z2 z3 : q_V) (st : List q_V) (v : q_H) (G : q_Gr) (Q : q_V → q_H → q_Gr → Prop) : q_wp d 7 19 [z0, z1, z2, z3] (.inl a :: st) v G Q = ((q_inR a) ∧ if 0 ≤ a then q_wp d 7 40 [z0, z1, z2, z3] st v G Q else q_wp d 7 22 [z0, z1, z2, z3] st v G Q) := q_w_if_ge c_7_19 (by decide)
theorem c_7_22 : q_code 7 22 = (.aload_n 0, 1, 0, 0, 0, 0, 0) := by decide +kernel
theorem e_7_22 (d : Nat) (a : Option Nat) (z1 z2 z3 : q_V) (st : List q_V) (v : q_H) (G : q_Gr) (Q : q_V → q_H → q_Gr → Prop) : q_wp d 7 22 [.inr (.inr (.inl a)), z1, z2, z3] st v G Q = q_wp d 7 23 [.inr (.inr (.inl a)), z1, z2, z3] (.inr (.inr (.inl a)) :: st) v G Q := q_w_aload_n c_7_22 rfl
theorem c_7_23 : q_code 7 23 = (.aload_n 1, 1, 0, 0, 0, 0, 0) := by decide +kernel
theorem e_7_23 (d : Nat) (a : Option Nat) (z0 z2 z3 : q_V) (st : List q_V) (v : q_H) (G : q_Gr) (Q : q_V → q_H → q_Gr → Prop) : q_wp d 7 23 [z0, .inr (.inr (.inl a)), z2, z3] st v G Q = q_wp d 7 24 [z0, .inr (.inr (.inl a)), z2, z3] (.inr (.inr (.inl a)) :: st) v G Q := q_w_aload_n c_7_23 rfl
theorem c_7_24 : q_code 7 24 = (.iload_n 3, 1, 0, 0, 0, 0, 0) := by decide +kernel
theorem e_7_24 (d : Nat) (a : Int) (z0 z1 z2 : q_V) (st : List q_V) (v : q_H) (G : q_Gr) (Q : q_V → q_H → q_Gr → Prop) : q_wp d 7 24 [z0, z1, z2, .inl a] st v G Q = q_wp d 7 25 [z0, z1, z2, .inl a] (.inl a :: st) v G Q := q_w_iload_n c_7_24 rfl
theorem c_7_25 : q_code 7 25 = (.invokevirtual 70, 3, 83, 2, 0, 751, 1) := by decide +kernel
theorem e_7_25 (d : Nat) (x0 x1 y0 : q_V) (z0 z1 z2 z3 : q_V) (v : q_H) (G : q_Gr) (Q : q_V → q_H → q_Gr → Prop) : q_wp d 7 25 [z0, z1, z2, z3] [x1, x0, y0] v G Q = q_call d 83 [x0, x1] v G (fun r v G => q_wp d 7 28 [z0, z1, z2, z3] (q_push r [y0]) v G Q) := q_wp_ca (m2 := 83) (k := 2) (as := [x0, x1]) (rest := [y0]) (congrArg q_kind c_7_25) (congrArg (fun w => w.2.2.1) c_7_25) (congrArg (fun w => w.2.2.2.1) c_7_25) rfl (Nat.le_of_ble_eq_true rfl) rfl
theorem c_7_28 : q_code 7 28 = (.invokevirtual 59, 3, 37, 2, 0, 747, 0) := by decide +kernel
theorem e_7_28 (d : Nat) (x0 x1 : q_V) (z0 z1 z2 z3 : q_V) (v : q_H) (G : q_Gr) (Q : q_V → q_H → q_Gr → Prop) : q_wp d 7 28 [z0, z1, z2, z3] [x1, x0] v G Q = q_call d 37 [x0, x1] v G (fun r v G => q_wp d 7 31 [z0, z1, z2, z3] (q_push r []) v G Q) := q_wp_ca (m2 := 37) (k := 2) (as := [x0, x1]) (rest := []) (congrArg q_kind c_7_28) (congrArg (fun w => w.2.2.1) c_7_28) (congrArg (fun w => w.2.2.2.1) c_7_28) rfl (Nat.le_of_ble_eq_true rfl) rfl
theorem c_7_31 : q_code 7 31 = (.aload_n 0, 1, 0, 0, 0, 0, 0) := by decide +kernel
theorem e_7_31 (d : Nat) (a : Option Nat) (z1 z2 z3 : q_V) (st : List q_V) (v : q_H) (G : q_Gr) (Q : q_V → q_H → q_Gr → Prop) : q_wp d 7 31 [.inr (.inr (.inl a)), z1, z2, z3] st v G Q = q_wp d 7 32 [.inr (.inr (.inl a)), z1, z2, z3] (.inr (.inr (.inl a)) :: st) v G Q := q_w_aload_n c_7_31 rfl
theorem c_7_32 : q_code 7 32 = (.aload_n 1, 1, 0, 0, 0, 0, 0) := by decide +kernel
theorem e_7_32 (d : Nat) (a : Option Nat) (z0 z2 z3 : q_V) (st : List q_V) (v : q_H) (G : q_Gr) (Q : q_V → q_H → q_Gr → Prop) : q_wp d 7 32 [z0, .inr (.inr (.inl a)), z2, z3] st v G Q = q_wp d 7 33 [z0, .inr (.inr (.inl a)), z2, z3] (.inr (.inr (.inl a)) :: st) v G Q := q_w_aload_n c_7_32 rfl
theorem c_7_33 : q_code 7 33 = (.iload_n 3, 1, 0, 0, 0, 0, 0) := by decide +kernel
theorem e_7_33 (d : Nat) (a : Int) (z0 z1 z2 : q_V) (st : List q_V) (v : q_H) (G : q_Gr) (Q : q_V → q_H → q_Gr → Prop) : q_wp d 7 33 [z0, z1, z2, .inl a] st v G Q = q_wp d 7 34 [z0, z1, z2, .inl a] (.inl a :: st) v G Q := q_w_iload_n c_7_33 rfl
theorem c_7_34 : q_code 7 34 = (.invokevirtual 77, 3, 84, 2, 0, 753, 1) := by decide +kernel
theorem e_7_34 (d : Nat) (x0 x1 y0 : q_V) (z0 z1 z2 z3 : q_V) (v : q_H) (G : q_Gr) (Q : q_V → q_H → q_Gr → Prop) : q_wp d 7 34 [z0, z1, z2, z3] [x1, x0, y0] v G Q = q_call d 84 [x0, x1] v G (fun r v G => q_wp d 7 37 [z0, z1, z2, z3] (q_push r [y0]) v G Q) := q_wp_ca (m2 := 84) (k := 2) (as := [x0, x1]) (rest := [y0]) (congrArg q_kind c_7_34) (congrArg (fun w => w.2.2.1) c_7_34) (congrArg (fun w => w.2.2.2.1) c_7_34) rfl (Nat.le_of_ble_eq_true rfl) rfl
theorem c_7_37 : q_code 7 37 = (.invokevirtual 59, 3, 37, 2, 0, 747, 0) := by decide +kernel
theorem e_7_37 (d : Nat) (x0 x1 : q_V) (z0 z1 z2 z3 : q_V) (v : q_H) (G : q_Gr) (Q : q_V → q_H → q_Gr → Prop) : q_wp d 7 37 [z0, z1, z2, z3] [x1, x0] v G Q = q_call d 37 [x0, x1] v G (fun r v G => q_wp d 7 40 [z0, z1, z2, z3] (q_push r []) v G Q) := q_wp_ca (m2 := 37) (k := 2) (as := [x0, x1]) (rest := []) (congrArg q_kind c_7_37) (congrArg (fun w => w.2.2.1) c_7_37) (congrArg (fun w => w.2.2.2.1) c_7_37) rfl (Nat.le_of_ble_eq_true rfl) rfl
theorem c_7_40 : q_code 7 40 = (.iinc 3 1, 3, 0, 0, 0, 0, 0) := by decide +kernel
theorem e_7_40 (d : Nat) (a : Int) (z0 z1 z2 : q_V) (st : List q_V) (v : q_H) (G : q_Gr) (Q : q_V → q_H → q_Gr → Prop) : q_wp d 7 40 [z0, z1, z2, .inl a] st v G Q = q_wp d 7 43 [z0, z1, z2, .inl (a + 1)] st v G Q := q_w_iinc c_7_40 rfl
theorem c_7_43 : q_code 7 43 = (.goto (-41), 3, 0, 0, 0, 0, 0) := by decide +kernel
theorem e_7_43 (d : Nat)  (z0 z1 z2 z3 : q_V) (st : List q_V) (v : q_H) (G : q_Gr) (Q : q_V → q_H → q_Gr → Prop) : q_wp d 7 43 [z0, z1, z2, z3] st v G Q = q_wp d 7 2 [z0, z1, z2, z3] st v G Q := q_w_goto c_7_43 (by decide)
theorem c_7_46 : q_code 7 46 = (.return_, 1, 0, 0, 0, 0, 0) := by decide +kernel
theorem e_7_46 (d : Nat)  (z0 z1 z2 z3 : q_V) (v : q_H) (G : q_Gr) (Q : q_V → q_H → q_Gr → Prop) : q_wp d 7 46 [z0, z1, z2, z3] [] v G Q = Q (.inr (.inr (.inr ()))) v G := q_w_return c_7_46 rfl
theorem e_7 (d : Nat) (a0 : Option Nat) (a1 : Option Nat) (a2 : Option Nat) (v : q_H) (G : q_Gr) (Q : q_V → q_H → q_Gr → Prop) : q_call (d + 1) 7 [.inr (.inr (.inl a0)), .inr (.inr (.inl a1)), .inr (.inr (.inl a2))] v G Q = q_wp d 7 0 [.inr (.inr (.inl a0)), .inr (.inr (.inl a1)), .inr (.inr (.inl a2)), .inr (.inr (.inr ()))] [] v G Q := by
  rw [q_call_in (by decide) (Nat.le_of_ble_eq_true rfl) rfl]
  show (true = true ∧ _) = _
  simp only [true_and]
  rfl
/-- all but the heads of loops: [2] -/
def E7 := And.intro @e_7 (And.intro @e_7_0 (And.intro @e_7_1 (And.intro @e_7_3 (And.intro @e_7_4 (And.intro @e_7_7 (And.intro @e_7_10 (And.intro @e_7_11 (And.intro @e_7_12 (And.intro @e_7_13 (And.intro @e_7_16 (And.intro @e_7_19 (And.intro @e_7_22 (And.intro @e_7_23 (And.intro @e_7_24 (And.intro @e_7_25 (And.intro @e_7_28 (And.intro @e_7_31 (And.intro @e_7_32 (And.intro @e_7_33 (And.intro @e_7_34 (And.intro @e_7_37 (And.intro @e_7_40 (And.intro @e_7_43 (@e_7_46))))))))))))))))))))))))
/-! ProvenRows$Asks.<init>()V -/
theorem c_8_0 : q_code 8 0 = (.aload_n 0, 1, 0, 0, 0, 0, 0) := by decide +kernel
theorem e_8_0 (d : Nat) (a : Option Nat) (st : List q_V) (v : q_H) (G : q_Gr) (Q : q_V → q_H → q_Gr → Prop) : q_wp d 8 0 [.inr (.inr (.inl a))] st v G Q = q_wp d 8 1 [.inr (.inr (.inl a))] (.inr (.inr (.inl a)) :: st) v G Q := q_w_aload_n c_8_0 rfl
theorem c_8_1 : q_code 8 1 = (.invokespecial 3, 3, 1000, 1, 0, 227, 0) := by decide +kernel
theorem e_8_1 (d : Nat) (a : Nat) (z0 : q_V) (v : q_H) (G : q_Gr) (Q : q_V → q_H → q_Gr → Prop) : q_wp d 8 1 [z0] [.inr (.inr (.inl (some a)))] v G Q = q_wp d 8 4 [z0] [] v G Q := q_w_obj c_8_1 (Nat.le_of_ble_eq_true rfl)
theorem c_8_4 : q_code 8 4 = (.aload_n 0, 1, 0, 0, 0, 0, 0) := by decide +kernel
theorem e_8_4 (d : Nat) (a : Option Nat) (st : List q_V) (v : q_H) (G : q_Gr) (Q : q_V → q_H → q_Gr → Prop) : q_wp d 8 4 [.inr (.inr (.inl a))] st v G Q = q_wp d 8 5 [.inr (.inr (.inl a))] (.inr (.inr (.inl a)) :: st) v G Q := q_w_aload_n c_8_4 rfl
theorem c_8_5 : q_code 8 5 = (.bipush 16, 2, 0, 0, 0, 0, 0) := by decide +kernel
theorem e_8_5 (d : Nat)  (z0 : q_V) (st : List q_V) (v : q_H) (G : q_Gr) (Q : q_V → q_H → q_Gr → Prop) : q_wp d 8 5 [z0] st v G Q = q_wp d 8 7 [z0] (.inl 16 :: st) v G Q := (q_w_bipush c_8_5).trans (by simp only [show ((-128 : Int) ≤ 16 ∧ (16 : Int) ≤ 127) = True by decide, true_and])
theorem c_8_7 : q_code 8 7 = (.newarray .int, 2, 0, 0, 0, 0, 0) := by decide +kernel
theorem e_8_7 (d : Nat) (a : Int) (z0 : q_V) (st : List q_V) (v : q_H) (G : q_Gr) (Q : q_V → q_H → q_Gr → Prop) : q_wp d 8 7 [z0] (.inl a :: st) v G Q = ((0 ≤ a ∧ q_room G a.toNat) ∧ q_wp d 8 9 [z0] (.inr (.inr (.inl (some (32 + G.2.2.1)))) :: st) (q_zr v (32 + G.2.2.1)) (q_mk G 20 a.toNat) Q) := q_w_newI c_8_7
theorem c_8_9 : q_code 8 9 = (.putfield 11, 3, 1, 0, 1, 228, 0) := by decide +kernel
theorem e_8_9 (d : Nat) (a : Nat) (b : Option Nat) (z0 : q_V) (st : List q_V) (v : q_H) (G : q_Gr) (Q : q_V → q_H → q_Gr → Prop) : q_wp d 8 9 [z0] (.inr (.inr (.inl b)) :: .inr (.inr (.inl (some a))) :: st) v G Q = (((G.2.1 a).1 = 1) ∧ q_wp d 8 12 [z0] st v (q_upr G.1 a 0 b, G.2) Q) := q_w_putP c_8_9
theorem c_8_12 : q_code 8 12 = (.return_, 1, 0, 0, 0, 0, 0) := by decide +kernel
theorem e_8_12 (d : Nat)  (z0 : q_V) (v : q_H) (G : q_Gr) (Q : q_V → q_H → q_Gr → Prop) : q_wp d 8 12 [z0] [] v G Q = Q (.inr (.inr (.inr ()))) v G := q_w_return c_8_12 rfl
theorem e_8 (d : Nat) (a0 : Nat) (v : q_H) (G : q_Gr) (Q : q_V → q_H → q_Gr → Prop) : q_call (d + 1) 8 [.inr (.inr (.inl (some a0)))] v G Q = ((G.2.1 a0).1 = 1 ∧ q_wp d 8 0 [.inr (.inr (.inl (some a0)))] [] v G Q) := by
  rw [q_call_in (by decide) (Nat.le_of_ble_eq_true rfl) rfl]
  exact congrArg (· ∧ _) (propext beq_iff_eq)
/-- all but the heads of loops: [] -/
def E8 := And.intro @e_8 (And.intro @e_8_0 (And.intro @e_8_1 (And.intro @e_8_4 (And.intro @e_8_5 (And.intro @e_8_7 (And.intro @e_8_9 (@e_8_12)))))))
/-! ProvenRows$Asks.begin(III)V -/
theorem c_9_0 : q_code 9 0 = (.aload_n 0, 1, 0, 0, 0, 0, 0) := by decide +kernel
theorem e_9_0 (d : Nat) (a : Option Nat) (z1 z2 z3 : q_V) (st : List q_V) (v : q_H) (G : q_Gr) (Q : q_V → q_H → q_Gr → Prop) : q_wp d 9 0 [.inr (.inr (.inl a)), z1, z2, z3] st v G Q = q_wp d 9 1 [.inr (.inr (.inl a)), z1, z2, z3] (.inr (.inr (.inl a)) :: st) v G Q := q_w_aload_n c_9_0 rfl
theorem c_9_1 : q_code 9 1 = (.iconst 0, 1, 0, 0, 0, 0, 0) := by decide +kernel
theorem e_9_1 (d : Nat)  (z0 z1 z2 z3 : q_V) (st : List q_V) (v : q_H) (G : q_Gr) (Q : q_V → q_H → q_Gr → Prop) : q_wp d 9 1 [z0, z1, z2, z3] st v G Q = q_wp d 9 2 [z0, z1, z2, z3] (.inl 0 :: st) v G Q := q_w_iconst c_9_1
theorem c_9_2 : q_code 9 2 = (.putfield 15, 3, 1, 1, 0, 229, 0) := by decide +kernel
theorem e_9_2 (d : Nat) (a : Nat) (b : Int) (z0 z1 z2 z3 : q_V) (st : List q_V) (v : q_H) (G : q_Gr) (Q : q_V → q_H → q_Gr → Prop) : q_wp d 9 2 [z0, z1, z2, z3] (.inl b :: .inr (.inr (.inl (some a))) :: st) v G Q = (((G.2.1 a).1 = 1) ∧ q_wp d 9 5 [z0, z1, z2, z3] st (q_up v a 1 b) G Q) := q_w_putI c_9_2
theorem c_9_5 : q_code 9 5 = (.aload_n 0, 1, 0, 0, 0, 0, 0) := by decide +kernel
theorem e_9_5 (d : Nat) (a : Option Nat) (z1 z2 z3 : q_V) (st : List q_V) (v : q_H) (G : q_Gr) (Q : q_V → q_H → q_Gr → Prop) : q_wp d 9 5 [.inr (.inr (.inl a)), z1, z2, z3] st v G Q = q_wp d 9 6 [.inr (.inr (.inl a)), z1, z2, z3] (.inr (.inr (.inl a)) :: st) v G Q := q_w_aload_n c_9_5 rfl
theorem c_9_6 : q_code 9 6 = (.iload_n 1, 1, 0, 0, 0, 0, 0) := by decide +kernel
theorem e_9_6 (d : Nat) (a : Int) (z0 z2 z3 : q_V) (st : List q_V) (v : q_H) (G : q_Gr) (Q : q_V → q_H → q_Gr → Prop) : q_wp d 9 6 [z0, .inl a, z2, z3] st v G Q = q_wp d 9 7 [z0, .inl a, z2, z3] (.inl a :: st) v G Q := q_w_iload_n c_9_6 rfl
theorem c_9_7 : q_code 9 7 = (.putfield 19, 3, 1, 2, 0, 230, 0) := by decide +kernel
theorem e_9_7 (d : Nat) (a : Nat) (b : Int) (z0 z1 z2 z3 : q_V) (st : List q_V) (v : q_H) (G : q_Gr) (Q : q_V → q_H → q_Gr → Prop) : q_wp d 9 7 [z0, z1, z2, z3] (.inl b :: .inr (.inr (.inl (some a))) :: st) v G Q = (((G.2.1 a).1 = 1) ∧ q_wp d 9 10 [z0, z1, z2, z3] st (q_up v a 2 b) G Q) := q_w_putI c_9_7
theorem c_9_10 : q_code 9 10 = (.aload_n 0, 1, 0, 0, 0, 0, 0) := by decide +kernel
theorem e_9_10 (d : Nat) (a : Option Nat) (z1 z2 z3 : q_V) (st : List q_V) (v : q_H) (G : q_Gr) (Q : q_V → q_H → q_Gr → Prop) : q_wp d 9 10 [.inr (.inr (.inl a)), z1, z2, z3] st v G Q = q_wp d 9 11 [.inr (.inr (.inl a)), z1, z2, z3] (.inr (.inr (.inl a)) :: st) v G Q := q_w_aload_n c_9_10 rfl
theorem c_9_11 : q_code 9 11 = (.iload_n 2, 1, 0, 0, 0, 0, 0) := by decide +kernel
theorem e_9_11 (d : Nat) (a : Int) (z0 z1 z3 : q_V) (st : List q_V) (v : q_H) (G : q_Gr) (Q : q_V → q_H → q_Gr → Prop) : q_wp d 9 11 [z0, z1, .inl a, z3] st v G Q = q_wp d 9 12 [z0, z1, .inl a, z3] (.inl a :: st) v G Q := q_w_iload_n c_9_11 rfl
theorem c_9_12 : q_code 9 12 = (.bipush 7, 2, 0, 0, 0, 0, 0) := by decide +kernel
theorem e_9_12 (d : Nat)  (z0 z1 z2 z3 : q_V) (st : List q_V) (v : q_H) (G : q_Gr) (Q : q_V → q_H → q_Gr → Prop) : q_wp d 9 12 [z0, z1, z2, z3] st v G Q = q_wp d 9 14 [z0, z1, z2, z3] (.inl 7 :: st) v G Q := (q_w_bipush c_9_12).trans (by simp only [show ((-128 : Int) ≤ 7 ∧ (7 : Int) ≤ 127) = True by decide, true_and])
theorem c_9_14 : q_code 9 14 = (.invokestatic 22, 3, 144, 2, 1, 18, 1) := by decide +kernel
theorem e_9_14 (d : Nat) (x0 x1 y0 : q_V) (z0 z1 z2 z3 : q_V) (v : q_H) (G : q_Gr) (Q : q_V → q_H → q_Gr → Prop) : q_wp d 9 14 [z0, z1, z2, z3] [x1, x0, y0] v G Q = q_call d 144 [x0, x1] v G (fun r v G => q_wp d 9 17 [z0, z1, z2, z3] (q_push r [y0]) v G Q) := q_wp_ca (m2 := 144) (k := 2) (as := [x0, x1]) (rest := [y0]) (congrArg q_kind c_9_14) (congrArg (fun w => w.2.2.1) c_9_14) (congrArg (fun w => w.2.2.2.1) c_9_14) rfl (Nat.le_of_ble_eq_true rfl) rfl
theorem c_9_17 : q_code 9 17 = (.ifCond .eq 7, 3, 0, 0, 0, 0, 0) := by decide +kernel
theorem e_9_17 (d : Nat) (a : Int) (z0 z1 z2 z3 : q_V) (st : List q_V) (v : q_H) (G : q_Gr) (Q : q_V → q_H → q_Gr → Prop) : q_wp d 9 17 [z0, z1, z2, z3] (.inl a :: st) v G Q = ((q_inR a) ∧ if a = 0 then q_wp d 9 24 [z0, z1, z2, z3] st v G Q else q_wp d 9 20 [z0, z1, z2, z3] st v G Q) := q_w_if_eq c_9_17 (by decide)
theorem c_9_20 : q_code 9 20 = (.iload_n 2, 1, 0, 0, 0, 0, 0) := by decide +kernel
theorem e_9_20 (d : Nat) (a : Int) (z0 z1 z3 : q_V) (st : List q_V) (v : q_H) (G : q_Gr) (Q : q_V → q_H → q_Gr → Prop) : q_wp d 9 20 [z0, z1, .inl a, z3] st v G Q = q_wp d 9 21 [z0, z1, .inl a, z3] (.inl a :: st) v G Q := q_w_iload_n c_9_20 rfl
theorem c_9_21 : q_code 9 21 = (.goto 4, 3, 0, 0, 0, 0, 0) := by decide +kernel
theorem e_9_21 (d : Nat)  (z0 z1 z2 z3 : q_V) (st : List q_V) (v : q_H) (G : q_Gr) (Q : q_V → q_H → q_Gr → Prop) : q_wp d 9 21 [z0, z1, z2, z3] st v G Q = q_wp d 9 25 [z0, z1, z2, z3] st v G Q := q_w_goto c_9_21 (by decide)
theorem c_9_24 : q_code 9 24 = (.iconst 0, 1, 0, 0, 0, 0, 0) := by decide +kernel
theorem e_9_24 (d : Nat)  (z0 z1 z2 z3 : q_V) (st : List q_V) (v : q_H) (G : q_Gr) (Q : q_V → q_H → q_Gr → Prop) : q_wp d 9 24 [z0, z1, z2, z3] st v G Q = q_wp d 9 25 [z0, z1, z2, z3] (.inl 0 :: st) v G Q := q_w_iconst c_9_24
theorem c_9_25 : q_code 9 25 = (.putfield 28, 3, 1, 3, 0, 231, 0) := by decide +kernel
theorem e_9_25 (d : Nat) (a : Nat) (b : Int) (z0 z1 z2 z3 : q_V) (st : List q_V) (v : q_H) (G : q_Gr) (Q : q_V → q_H → q_Gr → Prop) : q_wp d 9 25 [z0, z1, z2, z3] (.inl b :: .inr (.inr (.inl (some a))) :: st) v G Q = (((G.2.1 a).1 = 1) ∧ q_wp d 9 28 [z0, z1, z2, z3] st (q_up v a 3 b) G Q) := q_w_putI c_9_25
theorem c_9_28 : q_code 9 28 = (.aload_n 0, 1, 0, 0, 0, 0, 0) := by decide +kernel
theorem e_9_28 (d : Nat) (a : Option Nat) (z1 z2 z3 : q_V) (st : List q_V) (v : q_H) (G : q_Gr) (Q : q_V → q_H → q_Gr → Prop) : q_wp d 9 28 [.inr (.inr (.inl a)), z1, z2, z3] st v G Q = q_wp d 9 29 [.inr (.inr (.inl a)), z1, z2, z3] (.inr (.inr (.inl a)) :: st) v G Q := q_w_aload_n c_9_28 rfl
theorem c_9_29 : q_code 9 29 = (.iload_n 3, 1, 0, 0, 0, 0, 0) := by decide +kernel
theorem e_9_29 (d : Nat) (a : Int) (z0 z1 z2 : q_V) (st : List q_V) (v : q_H) (G : q_Gr) (Q : q_V → q_H → q_Gr → Prop) : q_wp d 9 29 [z0, z1, z2, .inl a] st v G Q = q_wp d 9 30 [z0, z1, z2, .inl a] (.inl a :: st) v G Q := q_w_iload_n c_9_29 rfl
theorem c_9_30 : q_code 9 30 = (.putfield 31, 3, 1, 4, 0, 232, 0) := by decide +kernel
theorem e_9_30 (d : Nat) (a : Nat) (b : Int) (z0 z1 z2 z3 : q_V) (st : List q_V) (v : q_H) (G : q_Gr) (Q : q_V → q_H → q_Gr → Prop) : q_wp d 9 30 [z0, z1, z2, z3] (.inl b :: .inr (.inr (.inl (some a))) :: st) v G Q = (((G.2.1 a).1 = 1) ∧ q_wp d 9 33 [z0, z1, z2, z3] st (q_up v a 4 b) G Q) := q_w_putI c_9_30
theorem c_9_33 : q_code 9 33 = (.return_, 1, 0, 0, 0, 0, 0) := by decide +kernel
theorem e_9_33 (d : Nat)  (z0 z1 z2 z3 : q_V) (v : q_H) (G : q_Gr) (Q : q_V → q_H → q_Gr → Prop) : q_wp d 9 33 [z0, z1, z2, z3] [] v G Q = Q (.inr (.inr (.inr ()))) v G := q_w_return c_9_33 rfl
theorem e_9 (d : Nat) (a0 : Nat) (a1 : Int) (a2 : Int) (a3 : Int) (v : q_H) (G : q_Gr) (Q : q_V → q_H → q_Gr → Prop) : q_call (d + 1) 9 [.inr (.inr (.inl (some a0))), .inl a1, .inl a2, .inl a3] v G Q = ((G.2.1 a0).1 = 1 ∧ q_wp d 9 0 [.inr (.inr (.inl (some a0))), .inl a1, .inl a2, .inl a3] [] v G Q) := by
  rw [q_call_in (by decide) (Nat.le_of_ble_eq_true rfl) rfl]
  exact congrArg (· ∧ _) (propext beq_iff_eq)
/-- all but the heads of loops: [] -/
def E9 := And.intro @e_9 (And.intro @e_9_0 (And.intro @e_9_1 (And.intro @e_9_2 (And.intro @e_9_5 (And.intro @e_9_6 (And.intro @e_9_7 (And.intro @e_9_10 (And.intro @e_9_11 (And.intro @e_9_12 (And.intro @e_9_14 (And.intro @e_9_17 (And.intro @e_9_20 (And.intro @e_9_21 (And.intro @e_9_24 (And.intro @e_9_25 (And.intro @e_9_28 (And.intro @e_9_29 (And.intro @e_9_30 (@e_9_33)))))))))))))))))))
/-! ProvenRows$Asks.beginRows(II)V -/
theorem c_10_0 : q_code 10 0 = (.aload_n 0, 1, 0, 0, 0, 0, 0) := by decide +kernel
theorem e_10_0 (d : Nat) (a : Option Nat) (z1 z2 : q_V) (st : List q_V) (v : q_H) (G : q_Gr) (Q : q_V → q_H → q_Gr → Prop) : q_wp d 10 0 [.inr (.inr (.inl a)), z1, z2] st v G Q = q_wp d 10 1 [.inr (.inr (.inl a)), z1, z2] (.inr (.inr (.inl a)) :: st) v G Q := q_w_aload_n c_10_0 rfl
theorem c_10_1 : q_code 10 1 = (.iload_n 1, 1, 0, 0, 0, 0, 0) := by decide +kernel
theorem e_10_1 (d : Nat) (a : Int) (z0 z2 : q_V) (st : List q_V) (v : q_H) (G : q_Gr) (Q : q_V → q_H → q_Gr → Prop) : q_wp d 10 1 [z0, .inl a, z2] st v G Q = q_wp d 10 2 [z0, .inl a, z2] (.inl a :: st) v G Q := q_w_iload_n c_10_1 rfl
theorem c_10_2 : q_code 10 2 = (.putfield 34, 3, 1, 5, 0, 233, 0) := by decide +kernel
theorem e_10_2 (d : Nat) (a : Nat) (b : Int) (z0 z1 z2 : q_V) (st : List q_V) (v : q_H) (G : q_Gr) (Q : q_V → q_H → q_Gr → Prop) : q_wp d 10 2 [z0, z1, z2] (.inl b :: .inr (.inr (.inl (some a))) :: st) v G Q = (((G.2.1 a).1 = 1) ∧ q_wp d 10 5 [z0, z1, z2] st (q_up v a 5 b) G Q) := q_w_putI c_10_2
theorem c_10_5 : q_code 10 5 = (.aload_n 0, 1, 0, 0, 0, 0, 0) := by decide +kernel
theorem e_10_5 (d : Nat) (a : Option Nat) (z1 z2 : q_V) (st : List q_V) (v : q_H) (G : q_Gr) (Q : q_V → q_H → q_Gr → Prop) : q_wp d 10 5 [.inr (.inr (.inl a)), z1, z2] st v G Q = q_wp d 10 6 [.inr (.inr (.inl a)), z1, z2] (.inr (.inr (.inl a)) :: st) v G Q := q_w_aload_n c_10_5 rfl
theorem c_10_6 : q_code 10 6 = (.iload_n 2, 1, 0, 0, 0, 0, 0) := by decide +kernel
theorem e_10_6 (d : Nat) (a : Int) (z0 z1 : q_V) (st : List q_V) (v : q_H) (G : q_Gr) (Q : q_V → q_H → q_Gr → Prop) : q_wp d 10 6 [z0, z1, .inl a] st v G Q = q_wp d 10 7 [z0, z1, .inl a] (.inl a :: st) v G Q := q_w_iload_n c_10_6 rfl
theorem c_10_7 : q_code 10 7 = (.putfield 37, 3, 1, 6, 0, 234, 0) := by decide +kernel
theorem e_10_7 (d : Nat) (a : Nat) (b : Int) (z0 z1 z2 : q_V) (st : List q_V) (v : q_H) (G : q_Gr) (Q : q_V → q_H → q_Gr → Prop) : q_wp d 10 7 [z0, z1, z2] (.inl b :: .inr (.inr (.inl (some a))) :: st) v G Q = (((G.2.1 a).1 = 1) ∧ q_wp d 10 10 [z0, z1, z2] st (q_up v a 6 b) G Q) := q_w_putI c_10_7
theorem c_10_10 : q_code 10 10 = (.return_, 1, 0, 0, 0, 0, 0) := by decide +kernel
theorem e_10_10 (d : Nat)  (z0 z1 z2 : q_V) (v : q_H) (G : q_Gr) (Q : q_V → q_H → q_Gr → Prop) : q_wp d 10 10 [z0, z1, z2] [] v G Q = Q (.inr (.inr (.inr ()))) v G := q_w_return c_10_10 rfl
theorem e_10 (d : Nat) (a0 : Nat) (a1 : Int) (a2 : Int) (v : q_H) (G : q_Gr) (Q : q_V → q_H → q_Gr → Prop) : q_call (d + 1) 10 [.inr (.inr (.inl (some a0))), .inl a1, .inl a2] v G Q = ((G.2.1 a0).1 = 1 ∧ q_wp d 10 0 [.inr (.inr (.inl (some a0))), .inl a1, .inl a2] [] v G Q) := by
  rw [q_call_in (by decide) (Nat.le_of_ble_eq_true rfl) rfl]
  exact congrArg (· ∧ _) (propext beq_iff_eq)
/-- all but the heads of loops: [] -/
def E10 := And.intro @e_10 (And.intro @e_10_0 (And.intro @e_10_1 (And.intro @e_10_2 (And.intro @e_10_5 (And.intro @e_10_6 (And.intro @e_10_7 (@e_10_10)))))))
/-! ProvenRows$Asks.sizeOfAct()I -/
theorem c_11_0 : q_code 11 0 = (.aload_n 0, 1, 0, 0, 0, 0, 0) := by decide +kernel
theorem e_11_0 (d : Nat) (a : Option Nat) (st : List q_V) (v : q_H) (G : q_Gr) (Q : q_V → q_H → q_Gr → Prop) : q_wp d 11 0 [.inr (.inr (.inl a))] st v G Q = q_wp d 11 1 [.inr (.inr (.inl a))] (.inr (.inr (.inl a)) :: st) v G Q := q_w_aload_n c_11_0 rfl
theorem c_11_1 : q_code 11 1 = (.getstatic 40, 3, 2, 0, 0, 911, 0) := by decide +kernel
theorem e_11_1 (d : Nat)  (z0 : q_V) (st : List q_V) (v : q_H) (G : q_Gr) (Q : q_V → q_H → q_Gr → Prop) : q_wp d 11 1 [z0] st v G Q = q_wp d 11 4 [z0] (.inr (.inr (.inl (some 3))) :: st) v G Q := q_w_gets c_11_1
theorem c_11_4 : q_code 11 4 = (.aload_n 0, 1, 0, 0, 0, 0, 0) := by decide +kernel
theorem e_11_4 (d : Nat) (a : Option Nat) (st : List q_V) (v : q_H) (G : q_Gr) (Q : q_V → q_H → q_Gr → Prop) : q_wp d 11 4 [.inr (.inr (.inl a))] st v G Q = q_wp d 11 5 [.inr (.inr (.inl a))] (.inr (.inr (.inl a)) :: st) v G Q := q_w_aload_n c_11_4 rfl
theorem c_11_5 : q_code 11 5 = (.getfield 28, 3, 1, 3, 0, 231, 0) := by decide +kernel
theorem e_11_5 (d : Nat) (a : Nat) (z0 : q_V) (st : List q_V) (v : q_H) (G : q_Gr) (Q : q_V → q_H → q_Gr → Prop) : q_wp d 11 5 [z0] (.inr (.inr (.inl (some a))) :: st) v G Q = (((G.2.1 a).1 = 1) ∧ q_wp d 11 8 [z0] (.inl (v a 3) :: st) v G Q) := q_w_getI c_11_5
theorem c_11_8 : q_code 11 8 = (.iaload, 1, 0, 0, 0, 0, 0) := by decide +kernel
theorem e_11_8 (d : Nat) (a : Nat) (i : Int) (z0 : q_V) (st : List q_V) (v : q_H) (G : q_Gr) (Q : q_V → q_H → q_Gr → Prop) : q_wp d 11 8 [z0] (.inl i :: .inr (.inr (.inl (some a))) :: st) v G Q = (((G.2.1 a).1 = 20 ∧ 0 ≤ i ∧ i < (G.2.1 a).2) ∧ q_wp d 11 9 [z0] (.inl (v a i.toNat) :: st) v G Q) := q_w_iald c_11_8
theorem c_11_9 : q_code 11 9 = (.iconst 0, 1, 0, 0, 0, 0, 0) := by decide +kernel
theorem e_11_9 (d : Nat)  (z0 : q_V) (st : List q_V) (v : q_H) (G : q_Gr) (Q : q_V → q_H → q_Gr → Prop) : q_wp d 11 9 [z0] st v G Q = q_wp d 11 10 [z0] (.inl 0 :: st) v G Q := q_w_iconst c_11_9
theorem c_11_10 : q_code 11 10 = (.invokevirtual 43, 3, 14, 3, 0, 912, 1) := by decide +kernel
theorem e_11_10 (d : Nat) (x0 x1 x2 : q_V) (z0 : q_V) (v : q_H) (G : q_Gr) (Q : q_V → q_H → q_Gr → Prop) : q_wp d 11 10 [z0] [x2, x1, x0] v G Q = q_call d 14 [x0, x1, x2] v G (fun r v G => q_wp d 11 13 [z0] (q_push r []) v G Q) := q_wp_ca (m2 := 14) (k := 3) (as := [x0, x1, x2]) (rest := []) (congrArg q_kind c_11_10) (congrArg (fun w => w.2.2.1) c_11_10) (congrArg (fun w => w.2.2.2.1) c_11_10) rfl (Nat.le_of_ble_eq_true rfl) rfl
theorem c_11_13 : q_code 11 13 = (.ireturn, 1, 0, 0, 0, 0, 0) := by decide +kernel
theorem e_11_13 (d : Nat) (a : Int) (z0 : q_V) (v : q_H) (G : q_Gr) (Q : q_V → q_H → q_Gr → Prop) : q_wp d 11 13 [z0] [.inl a] v G Q = Q (.inl a) v G := q_w_ireturn c_11_13 rfl
theorem e_11 (d : Nat) (a0 : Nat) (v : q_H) (G : q_Gr) (Q : q_V → q_H → q_Gr → Prop) : q_call (d + 1) 11 [.inr (.inr (.inl (some a0)))] v G Q = ((G.2.1 a0).1 = 1 ∧ q_wp d 11 0 [.inr (.inr (.inl (some a0)))] [] v G Q) := by
  rw [q_call_in (by decide) (Nat.le_of_ble_eq_true rfl) rfl]
  exact congrArg (· ∧ _) (propext beq_iff_eq)
/-- all but the heads of loops: [] -/
def E11 := And.intro @e_11 (And.intro @e_11_0 (And.intro @e_11_1 (And.intro @e_11_4 (And.intro @e_11_5 (And.intro @e_11_8 (And.intro @e_11_9 (And.intro @e_11_10 (@e_11_13))))))))
/-! ProvenRows$Asks.markOfAct()I -/
theorem c_12_0 : q_code 12 0 = (.aload_n 0, 1, 0, 0, 0, 0, 0) := by decide +kernel
theorem e_12_0 (d : Nat) (a : Option Nat) (st : List q_V) (v : q_H) (G : q_Gr) (Q : q_V → q_H → q_Gr → Prop) : q_wp d 12 0 [.inr (.inr (.inl a))] st v G Q = q_wp d 12 1 [.inr (.inr (.inl a))] (.inr (.inr (.inl a)) :: st) v G Q := q_w_aload_n c_12_0 rfl
theorem c_12_1 : q_code 12 1 = (.getstatic 47, 3, 3, 0, 0, 918, 0) := by decide +kernel
theorem e_12_1 (d : Nat)  (z0 : q_V) (st : List q_V) (v : q_H) (G : q_Gr) (Q : q_V → q_H → q_Gr → Prop) : q_wp d 12 1 [z0] st v G Q = q_wp d 12 4 [z0] (.inr (.inr (.inl (some 4))) :: st) v G Q := q_w_gets c_12_1
theorem c_12_4 : q_code 12 4 = (.aload_n 0, 1, 0, 0, 0, 0, 0) := by decide +kernel
theorem e_12_4 (d : Nat) (a : Option Nat) (st : List q_V) (v : q_H) (G : q_Gr) (Q : q_V → q_H → q_Gr → Prop) : q_wp d 12 4 [.inr (.inr (.inl a))] st v G Q = q_wp d 12 5 [.inr (.inr (.inl a))] (.inr (.inr (.inl a)) :: st) v G Q := q_w_aload_n c_12_4 rfl
theorem c_12_5 : q_code 12 5 = (.getfield 28, 3, 1, 3, 0, 231, 0) := by decide +kernel
theorem e_12_5 (d : Nat) (a : Nat) (z0 : q_V) (st : List q_V) (v : q_H) (G : q_Gr) (Q : q_V → q_H → q_Gr → Prop) : q_wp d 12 5 [z0] (.inr (.inr (.inl (some a))) :: st) v G Q = (((G.2.1 a).1 = 1) ∧ q_wp d 12 8 [z0] (.inl (v a 3) :: st) v G Q) := q_w_getI c_12_5
theorem c_12_8 : q_code 12 8 = (.iaload, 1, 0, 0, 0, 0, 0) := by decide +kernel
theorem e_12_8 (d : Nat) (a : Nat) (i : Int) (z0 : q_V) (st : List q_V) (v : q_H) (G : q_Gr) (Q : q_V → q_H → q_Gr → Prop) : q_wp d 12 8 [z0] (.inl i :: .inr (.inr (.inl (some a))) :: st) v G Q = (((G.2.1 a).1 = 20 ∧ 0 ≤ i ∧ i < (G.2.1 a).2) ∧ q_wp d 12 9 [z0] (.inl (v a i.toNat) :: st) v G Q) := q_w_iald c_12_8
theorem c_12_9 : q_code 12 9 = (.iconst 0, 1, 0, 0, 0, 0, 0) := by decide +kernel
theorem e_12_9 (d : Nat)  (z0 : q_V) (st : List q_V) (v : q_H) (G : q_Gr) (Q : q_V → q_H → q_Gr → Prop) : q_wp d 12 9 [z0] st v G Q = q_wp d 12 10 [z0] (.inl 0 :: st) v G Q := q_w_iconst c_12_9
theorem c_12_10 : q_code 12 10 = (.invokevirtual 43, 3, 14, 3, 0, 912, 1) := by decide +kernel
theorem e_12_10 (d : Nat) (x0 x1 x2 : q_V) (z0 : q_V) (v : q_H) (G : q_Gr) (Q : q_V → q_H → q_Gr → Prop) : q_wp d 12 10 [z0] [x2, x1, x0] v G Q = q_call d 14 [x0, x1, x2] v G (fun r v G => q_wp d 12 13 [z0] (q_push r []) v G Q) := q_wp_ca (m2 := 14) (k := 3) (as := [x0, x1, x2]) (rest := []) (congrArg q_kind c_12_10) (congrArg (fun w => w.2.2.1) c_12_10) (congrArg (fun w => w.2.2.2.1) c_12_10) rfl (Nat.le_of_ble_eq_true rfl) rfl
theorem c_12_13 : q_code 12 13 = (.ireturn, 1, 0, 0, 0, 0, 0) := by decide +kernel
theorem e_12_13 (d : Nat) (a : Int) (z0 : q_V) (v : q_H) (G : q_Gr) (Q : q_V → q_H → q_Gr → Prop) : q_wp d 12 13 [z0] [.inl a] v G Q = Q (.inl a) v G := q_w_ireturn c_12_13 rfl
theorem e_12 (d : Nat) (a0 : Nat) (v : q_H) (G : q_Gr) (Q : q_V → q_H → q_Gr → Prop) : q_call (d + 1) 12 [.inr (.inr (.inl (some a0)))] v G Q = ((G.2.1 a0).1 = 1 ∧ q_wp d 12 0 [.inr (.inr (.inl (some a0)))] [] v G Q) := by
  rw [q_call_in (by decide) (Nat.le_of_ble_eq_true rfl) rfl]
  exact congrArg (· ∧ _) (propext beq_iff_eq)
/-- all but the heads of loops: [] -/
def E12 := And.intro @e_12 (And.intro @e_12_0 (And.intro @e_12_1 (And.intro @e_12_4 (And.intro @e_12_5 (And.intro @e_12_8 (And.intro @e_12_9 (And.intro @e_12_10 (@e_12_13))))))))
/-! ProvenRows$Asks.traced(I)I -/
theorem c_13_0 : q_code 13 0 = (.iload_n 1, 1, 0, 0, 0, 0, 0) := by decide +kernel
theorem e_13_0 (d : Nat) (a : Int) (z0 : q_V) (st : List q_V) (v : q_H) (G : q_Gr) (Q : q_V → q_H → q_Gr → Prop) : q_wp d 13 0 [z0, .inl a] st v G Q = q_wp d 13 1 [z0, .inl a] (.inl a :: st) v G Q := q_w_iload_n c_13_0 rfl
theorem c_13_1 : q_code 13 1 = (.aload_n 0, 1, 0, 0, 0, 0, 0) := by decide +kernel
theorem e_13_1 (d : Nat) (a : Option Nat) (z1 : q_V) (st : List q_V) (v : q_H) (G : q_Gr) (Q : q_V → q_H → q_Gr → Prop) : q_wp d 13 1 [.inr (.inr (.inl a)), z1] st v G Q = q_wp d 13 2 [.inr (.inr (.inl a)), z1] (.inr (.inr (.inl a)) :: st) v G Q := q_w_aload_n c_13_1 rfl
theorem c_13_2 : q_code 13 2 = (.getfield 15, 3, 1, 1, 0, 229, 0) := by decide +kernel
theorem e_13_2 (d : Nat) (a : Nat) (z0 z1 : q_V) (st : List q_V) (v : q_H) (G : q_Gr) (Q : q_V → q_H → q_Gr → Prop) : q_wp d 13 2 [z0, z1] (.inr (.inr (.inl (some a))) :: st) v G Q = (((G.2.1 a).1 = 1) ∧ q_wp d 13 5 [z0, z1] (.inl (v a 1) :: st) v G Q) := q_w_getI c_13_2
theorem c_13_5 : q_code 13 5 = (.invokestatic 22, 3, 144, 2, 1, 18, 1) := by decide +kernel
theorem e_13_5 (d : Nat) (x0 x1 : q_V) (z0 z1 : q_V) (v : q_H) (G : q_Gr) (Q : q_V → q_H → q_Gr → Prop) : q_wp d 13 5 [z0, z1] [x1, x0] v G Q = q_call d 144 [x0, x1] v G (fun r v G => q_wp d 13 8 [z0, z1] (q_push r []) v G Q) := q_wp_ca (m2 := 144) (k := 2) (as := [x0, x1]) (rest := []) (congrArg q_kind c_13_5) (congrArg (fun w => w.2.2.1) c_13_5) (congrArg (fun w => w.2.2.2.1) c_13_5) rfl (Nat.le_of_ble_eq_true rfl) rfl
theorem c_13_8 : q_code 13 8 = (.ifCond .eq 12, 3, 0, 0, 0, 0, 0) := by decide +kernel
theorem e_13_8 (d : Nat) (a : Int) (z0 z1 : q_V) (st : List q_V) (v : q_H) (G : q_Gr) (Q : q_V → q_H → q_Gr → Prop) : q_wp d 13 8 [z0, z1] (.inl a :: st) v G Q = ((q_inR a) ∧ if a = 0 then q_wp d 13 20 [z0, z1] st v G Q else q_wp d 13 11 [z0, z1] st v G Q) := q_w_if_eq c_13_8 (by decide)
theorem c_13_11 : q_code 13 11 = (.aload_n 0, 1, 0, 0, 0, 0, 0) := by decide +kernel
theorem e_13_11 (d : Nat) (a : Option Nat) (z1 : q_V) (st : List q_V) (v : q_H) (G : q_Gr) (Q : q_V → q_H → q_Gr → Prop) : q_wp d 13 11 [.inr (.inr (.inl a)), z1] st v G Q = q_wp d 13 12 [.inr (.inr (.inl a)), z1] (.inr (.inr (.inl a)) :: st) v G Q := q_w_aload_n c_13_11 rfl
theorem c_13_12 : q_code 13 12 = (.getfield 11, 3, 1, 0, 1, 228, 0) := by decide +kernel
theorem e_13_12 (d : Nat) (a : Nat) (z0 z1 : q_V) (st : List q_V) (v : q_H) (G : q_Gr) (Q : q_V → q_H → q_Gr → Prop) : q_wp d 13 12 [z0, z1] (.inr (.inr (.inl (some a))) :: st) v G Q = (((G.2.1 a).1 = 1) ∧ q_wp d 13 15 [z0, z1] (.inr (.inr (.inl (G.1 a 0))) :: st) v G Q) := q_w_getP c_13_12
theorem c_13_15 : q_code 13 15 = (.iload_n 1, 1, 0, 0, 0, 0, 0) := by decide +kernel
theorem e_13_15 (d : Nat) (a : Int) (z0 : q_V) (st : List q_V) (v : q_H) (G : q_Gr) (Q : q_V → q_H → q_Gr → Prop) : q_wp d 13 15 [z0, .inl a] st v G Q = q_wp d 13 16 [z0, .inl a] (.inl a :: st) v G Q := q_w_iload_n c_13_15 rfl
theorem c_13_16 : q_code 13 16 = (.iaload, 1, 0, 0, 0, 0, 0) := by decide +kernel
theorem e_13_16 (d : Nat) (a : Nat) (i : Int) (z0 z1 : q_V) (st : List q_V) (v : q_H) (G : q_Gr) (Q : q_V → q_H → q_Gr → Prop) : q_wp d 13 16 [z0, z1] (.inl i :: .inr (.inr (.inl (some a))) :: st) v G Q = (((G.2.1 a).1 = 20 ∧ 0 ≤ i ∧ i < (G.2.1 a).2) ∧ q_wp d 13 17 [z0, z1] (.inl (v a i.toNat) :: st) v G Q) := q_w_iald c_13_16
theorem c_13_17 : q_code 13 17 = (.goto 5, 3, 0, 0, 0, 0, 0) := by decide +kernel
theorem e_13_17 (d : Nat)  (z0 z1 : q_V) (st : List q_V) (v : q_H) (G : q_Gr) (Q : q_V → q_H → q_Gr → Prop) : q_wp d 13 17 [z0, z1] st v G Q = q_wp d 13 22 [z0, z1] st v G Q := q_w_goto c_13_17 (by decide)
theorem c_13_20 : q_code 13 20 = (.ldc 50, 2, 0, 0, 0, 931, (-1000000)) := by decide +kernel
theorem e_13_20 (d : Nat)  (z0 z1 : q_V) (st : List q_V) (v : q_H) (G : q_Gr) (Q : q_V → q_H → q_Gr → Prop) : q_wp d 13 20 [z0, z1] st v G Q = q_wp d 13 22 [z0, z1] (.inl (-1000000) :: st) v G Q := q_w_ldc c_13_20
theorem c_13_22 : q_code 13 22 = (.ireturn, 1, 0, 0, 0, 0, 0) := by decide +kernel
theorem e_13_22 (d : Nat) (a : Int) (z0 z1 : q_V) (v : q_H) (G : q_Gr) (Q : q_V → q_H → q_Gr → Prop) : q_wp d 13 22 [z0, z1] [.inl a] v G Q = Q (.inl a) v G := q_w_ireturn c_13_22 rfl
theorem e_13 (d : Nat) (a0 : Nat) (a1 : Int) (v : q_H) (G : q_Gr) (Q : q_V → q_H → q_Gr → Prop) : q_call (d + 1) 13 [.inr (.inr (.inl (some a0))), .inl a1] v G Q = ((G.2.1 a0).1 = 1 ∧ q_wp d 13 0 [.inr (.inr (.inl (some a0))), .inl a1] [] v G Q) := by
  rw [q_call_in (by decide) (Nat.le_of_ble_eq_true rfl) rfl]
  exact congrArg (· ∧ _) (propext beq_iff_eq)
/-- all but the heads of loops: [] -/
def E13 := And.intro @e_13 (And.intro @e_13_0 (And.intro @e_13_1 (And.intro @e_13_2 (And.intro @e_13_5 (And.intro @e_13_8 (And.intro @e_13_11 (And.intro @e_13_12 (And.intro @e_13_15 (And.intro @e_13_16 (And.intro @e_13_17 (And.intro @e_13_20 (@e_13_22))))))))))))
/-! ProvenRows$Asks.body(II)I -/
theorem c_14_0 : q_code 14 0 = (.iload_n 2, 1, 0, 0, 0, 0, 0) := by decide +kernel
theorem e_14_0 (d : Nat) (a : Int) (z0 z1 z3 : q_V) (st : List q_V) (v : q_H) (G : q_Gr) (Q : q_V → q_H → q_Gr → Prop) : q_wp d 14 0 [z0, z1, .inl a, z3] st v G Q = q_wp d 14 1 [z0, z1, .inl a, z3] (.inl a :: st) v G Q := q_w_iload_n c_14_0 rfl
theorem c_14_1 : q_code 14 1 = (.bipush 8, 2, 0, 0, 0, 0, 0) := by decide +kernel
theorem e_14_1 (d : Nat)  (z0 z1 z2 z3 : q_V) (st : List q_V) (v : q_H) (G : q_Gr) (Q : q_V → q_H → q_Gr → Prop) : q_wp d 14 1 [z0, z1, z2, z3] st v G Q = q_wp d 14 3 [z0, z1, z2, z3] (.inl 8 :: st) v G Q := (q_w_bipush c_14_1).trans (by simp only [show ((-128 : Int) ≤ 8 ∧ (8 : Int) ≤ 127) = True by decide, true_and])
theorem c_14_3 : q_code 14 3 = (.if_icmp .le 5, 3, 0, 0, 0, 0, 0) := by decide +kernel
theorem e_14_3 (d : Nat) (a b : Int) (z0 z1 z2 z3 : q_V) (st : List q_V) (v : q_H) (G : q_Gr) (Q : q_V → q_H → q_Gr → Prop) : q_wp d 14 3 [z0, z1, z2, z3] (.inl b :: .inl a :: st) v G Q = ((q_inR a ∧ q_inR b) ∧ if a ≤ b then q_wp d 14 8 [z0, z1, z2, z3] st v G Q else q_wp d 14 6 [z0, z1, z2, z3] st v G Q) := q_w_icmp_le c_14_3 (by decide)
theorem c_14_6 : q_code 14 6 = (.iconst 0, 1, 0, 0, 0, 0, 0) := by decide +kernel
theorem e_14_6 (d : Nat)  (z0 z1 z2 z3 : q_V) (st : List q_V) (v : q_H) (G : q_Gr) (Q : q_V → q_H → q_Gr → Prop) : q_wp d 14 6 [z0, z1, z2, z3] st v G Q = q_wp d 14 7 [z0, z1, z2, z3] (.inl 0 :: st) v G Q := q_w_iconst c_14_6
theorem c_14_7 : q_code 14 7 = (.ireturn, 1, 0, 0, 0, 0, 0) := by decide +kernel
theorem e_14_7 (d : Nat) (a : Int) (z0 z1 z2 z3 : q_V) (v : q_H) (G : q_Gr) (Q : q_V → q_H → q_Gr → Prop) : q_wp d 14 7 [z0, z1, z2, z3] [.inl a] v G Q = Q (.inl a) v G := q_w_ireturn c_14_7 rfl
theorem c_14_8 : q_code 14 8 = (.aload_n 0, 1, 0, 0, 0, 0, 0) := by decide +kernel
theorem e_14_8 (d : Nat) (a : Option Nat) (z1 z2 z3 : q_V) (st : List q_V) (v : q_H) (G : q_Gr) (Q : q_V → q_H → q_Gr → Prop) : q_wp d 14 8 [.inr (.inr (.inl a)), z1, z2, z3] st v G Q = q_wp d 14 9 [.inr (.inr (.inl a)), z1, z2, z3] (.inr (.inr (.inl a)) :: st) v G Q := q_w_aload_n c_14_8 rfl
theorem c_14_9 : q_code 14 9 = (.iload_n 1, 1, 0, 0, 0, 0, 0) := by decide +kernel
theorem e_14_9 (d : Nat) (a : Int) (z0 z2 z3 : q_V) (st : List q_V) (v : q_H) (G : q_Gr) (Q : q_V → q_H → q_Gr → Prop) : q_wp d 14 9 [z0, .inl a, z2, z3] st v G Q = q_wp d 14 10 [z0, .inl a, z2, z3] (.inl a :: st) v G Q := q_w_iload_n c_14_9 rfl
theorem c_14_10 : q_code 14 10 = (.invokevirtual 51, 3, 15, 2, 0, 915, 0) := by decide +kernel
theorem e_14_10 (d : Nat) (x0 x1 : q_V) (z0 z1 z2 z3 : q_V) (v : q_H) (G : q_Gr) (Q : q_V → q_H → q_Gr → Prop) : q_wp d 14 10 [z0, z1, z2, z3] [x1, x0] v G Q = q_call d 15 [x0, x1] v G (fun r v G => q_wp d 14 13 [z0, z1, z2, z3] (q_push r []) v G Q) := q_wp_ca (m2 := 15) (k := 2) (as := [x0, x1]) (rest := []) (congrArg q_kind c_14_10) (congrArg (fun w => w.2.2.1) c_14_10) (congrArg (fun w => w.2.2.2.1) c_14_10) rfl (Nat.le_of_ble_eq_true rfl) rfl
theorem c_14_13 : q_code 14 13 = (.getstatic 47, 3, 3, 0, 0, 918, 0) := by decide +kernel
theorem e_14_13 (d : Nat)  (z0 z1 z2 z3 : q_V) (st : List q_V) (v : q_H) (G : q_Gr) (Q : q_V → q_H → q_Gr → Prop) : q_wp d 14 13 [z0, z1, z2, z3] st v G Q = q_wp d 14 16 [z0, z1, z2, z3] (.inr (.inr (.inl (some 4))) :: st) v G Q := q_w_gets c_14_13
theorem c_14_16 : q_code 14 16 = (.aload_n 0, 1, 0, 0, 0, 0, 0) := by decide +kernel
theorem e_14_16 (d : Nat) (a : Option Nat) (z1 z2 z3 : q_V) (st : List q_V) (v : q_H) (G : q_Gr) (Q : q_V → q_H → q_Gr → Prop) : q_wp d 14 16 [.inr (.inr (.inl a)), z1, z2, z3] st v G Q = q_wp d 14 17 [.inr (.inr (.inl a)), z1, z2, z3] (.inr (.inr (.inl a)) :: st) v G Q := q_w_aload_n c_14_16 rfl
theorem c_14_17 : q_code 14 17 = (.getfield 28, 3, 1, 3, 0, 231, 0) := by decide +kernel
theorem e_14_17 (d : Nat) (a : Nat) (z0 z1 z2 z3 : q_V) (st : List q_V) (v : q_H) (G : q_Gr) (Q : q_V → q_H → q_Gr → Prop) : q_wp d 14 17 [z0, z1, z2, z3] (.inr (.inr (.inl (some a))) :: st) v G Q = (((G.2.1 a).1 = 1) ∧ q_wp d 14 20 [z0, z1, z2, z3] (.inl (v a 3) :: st) v G Q) := q_w_getI c_14_17
theorem c_14_20 : q_code 14 20 = (.iaload, 1, 0, 0, 0, 0, 0) := by decide +kernel
theorem e_14_20 (d : Nat) (a : Nat) (i : Int) (z0 z1 z2 z3 : q_V) (st : List q_V) (v : q_H) (G : q_Gr) (Q : q_V → q_H → q_Gr → Prop) : q_wp d 14 20 [z0, z1, z2, z3] (.inl i :: .inr (.inr (.inl (some a))) :: st) v G Q = (((G.2.1 a).1 = 20 ∧ 0 ≤ i ∧ i < (G.2.1 a).2) ∧ q_wp d 14 21 [z0, z1, z2, z3] (.inl (v a i.toNat) :: st) v G Q) := q_w_iald c_14_20
theorem c_14_21 : q_code 14 21 = (.istore_n 3, 1, 0, 0, 0, 0, 0) := by decide +kernel
theorem e_14_21 (d : Nat) (a : Int) (z0 z1 z2 z3 : q_V) (st : List q_V) (v : q_H) (G : q_Gr) (Q : q_V → q_H → q_Gr → Prop) : q_wp d 14 21 [z0, z1, z2, z3] (.inl a :: st) v G Q = q_wp d 14 22 [z0, z1, z2, .inl a] st v G Q := q_w_istore_n c_14_21
theorem c_14_22 : q_code 14 22 = (.iload_n 1, 1, 0, 0, 0, 0, 0) := by decide +kernel
theorem e_14_22 (d : Nat) (a : Int) (z0 z2 z3 : q_V) (st : List q_V) (v : q_H) (G : q_Gr) (Q : q_V → q_H → q_Gr → Prop) : q_wp d 14 22 [z0, .inl a, z2, z3] st v G Q = q_wp d 14 23 [z0, .inl a, z2, z3] (.inl a :: st) v G Q := q_w_iload_n c_14_22 rfl
theorem c_14_23 : q_code 14 23 = (.tableswitch 175 11 23 #[65, 84, 96, 111, 175, 175, 175, 175, 175, 130, 135, 150, 162], 65, 0, 0, 0, 0, 0) := by decide +kernel
theorem e_14_23 (d : Nat) (a : Int) (z0 z1 z2 z3 : q_V) (st : List q_V) (v : q_H) (G : q_Gr) (Q : q_V → q_H → q_Gr → Prop) : q_wp d 14 23 [z0, z1, z2, z3] (.inl a :: st) v G Q = (q_inR a ∧ if a = 11 then q_wp d 14 88 [z0, z1, z2, z3] st v G Q else if a = 12 then q_wp d 14 107 [z0, z1, z2, z3] st v G Q else if a = 13 then q_wp d 14 119 [z0, z1, z2, z3] st v G Q else if a = 14 then q_wp d 14 134 [z0, z1, z2, z3] st v G Q else if a = 15 then q_wp d 14 198 [z0, z1, z2, z3] st v G Q else if a = 16 then q_wp d 14 198 [z0, z1, z2, z3] st v G Q else if a = 17 then q_wp d 14 198 [z0, z1, z2, z3] st v G Q else if a = 18 then q_wp d 14 198 [z0, z1, z2, z3] st v G Q else if a = 19 then q_wp d 14 198 [z0, z1, z2, z3] st v G Q else if a = 20 then q_wp d 14 153 [z0, z1, z2, z3] st v G Q else if a = 21 then q_wp d 14 158 [z0, z1, z2, z3] st v G Q else if a = 22 then q_wp d 14 173 [z0, z1, z2, z3] st v G Q else if a = 23 then q_wp d 14 185 [z0, z1, z2, z3] st v G Q else q_wp d 14 198 [z0, z1, z2, z3] st v G Q) := by
  rw [q_w_table c_14_23]
  congr 1
  by_cases hr : a < 11 ∨ 23 < a
  · simp only [if_pos hr, q_jmp]
    rw [if_pos (by decide)]
    rw [if_neg (show ¬ a = 11 by omega)]
    rw [if_neg (show ¬ a = 12 by omega)]
    rw [if_neg (show ¬ a = 13 by omega)]
    rw [if_neg (show ¬ a = 14 by omega)]
    rw [if_neg (show ¬ a = 15 by omega)]
    rw [if_neg (show ¬ a = 16 by omega)]
    rw [if_neg (show ¬ a = 17 by omega)]
    rw [if_neg (show ¬ a = 18 by omega)]
    rw [if_neg (show ¬ a = 19 by omega)]
    rw [if_neg (show ¬ a = 20 by omega)]
    rw [if_neg (show ¬ a = 21 by omega)]
    rw [if_neg (show ¬ a = 22 by omega)]
    rw [if_neg (show ¬ a = 23 by omega)]
    simp
  · have : a = 11 ∨ a = 12 ∨ a = 13 ∨ a = 14 ∨ a = 15 ∨ a = 16 ∨ a = 17 ∨ a = 18 ∨ a = 19 ∨ a = 20 ∨ a = 21 ∨ a = 22 ∨ a = 23 := by omega
    rcases this with rfl | rfl | rfl | rfl | rfl | rfl | rfl | rfl | rfl | rfl | rfl | rfl | rfl
    all_goals simp [q_jmp]
theorem c_14_88 : q_code 14 88 = (.aload_n 0, 1, 0, 0, 0, 0, 0) := by decide +kernel
theorem e_14_88 (d : Nat) (a : Option Nat) (z1 z2 z3 : q_V) (st : List q_V) (v : q_H) (G : q_Gr) (Q : q_V → q_H → q_Gr → Prop) : q_wp d 14 88 [.inr (.inr (.inl a)), z1, z2, z3] st v G Q = q_wp d 14 89 [.inr (.inr (.inl a)), z1, z2, z3] (.inr (.inr (.inl a)) :: st) v G Q := q_w_aload_n c_14_88 rfl
theorem c_14_89 : q_code 14 89 = (.bipush 10, 2, 0, 0, 0, 0, 0) := by decide +kernel
theorem e_14_89 (d : Nat)  (z0 z1 z2 z3 : q_V) (st : List q_V) (v : q_H) (G : q_Gr) (Q : q_V → q_H → q_Gr → Prop) : q_wp d 14 89 [z0, z1, z2, z3] st v G Q = q_wp d 14 91 [z0, z1, z2, z3] (.inl 10 :: st) v G Q := (q_w_bipush c_14_89).trans (by simp only [show ((-128 : Int) ≤ 10 ∧ (10 : Int) ≤ 127) = True by decide, true_and])
theorem c_14_91 : q_code 14 91 = (.iload_n 2, 1, 0, 0, 0, 0, 0) := by decide +kernel
theorem e_14_91 (d : Nat) (a : Int) (z0 z1 z3 : q_V) (st : List q_V) (v : q_H) (G : q_Gr) (Q : q_V → q_H → q_Gr → Prop) : q_wp d 14 91 [z0, z1, .inl a, z3] st v G Q = q_wp d 14 92 [z0, z1, .inl a, z3] (.inl a :: st) v G Q := q_w_iload_n c_14_91 rfl
theorem c_14_92 : q_code 14 92 = (.iconst 1, 1, 0, 0, 0, 0, 0) := by decide +kernel
theorem e_14_92 (d : Nat)  (z0 z1 z2 z3 : q_V) (st : List q_V) (v : q_H) (G : q_Gr) (Q : q_V → q_H → q_Gr → Prop) : q_wp d 14 92 [z0, z1, z2, z3] st v G Q = q_wp d 14 93 [z0, z1, z2, z3] (.inl 1 :: st) v G Q := q_w_iconst c_14_92
theorem c_14_93 : q_code 14 93 = (.iadd, 1, 0, 0, 0, 0, 0) := by decide +kernel
theorem e_14_93 (d : Nat) (a b : Int) (z0 z1 z2 z3 : q_V) (st : List q_V) (v : q_H) (G : q_Gr) (Q : q_V → q_H → q_Gr → Prop) : q_wp d 14 93 [z0, z1, z2, z3] (.inl b :: .inl a :: st) v G Q = q_wp d 14 94 [z0, z1, z2, z3] (.inl (a + b) :: st) v G Q := q_w_iadd c_14_93
theorem c_14_94 : q_code 14 94 = (.invokevirtual 43, 3, 14, 3, 0, 912, 1) := by decide +kernel
theorem e_14_94 (d : Nat) (x0 x1 x2 : q_V) (z0 z1 z2 z3 : q_V) (v : q_H) (G : q_Gr) (Q : q_V → q_H → q_Gr → Prop) : q_wp d 14 94 [z0, z1, z2, z3] [x2, x1, x0] v G Q = q_call d 14 [x0, x1, x2] v G (fun r v G => q_wp d 14 97 [z0, z1, z2, z3] (q_push r []) v G Q) := q_wp_ca (m2 := 14) (k := 3) (as := [x0, x1, x2]) (rest := []) (congrArg q_kind c_14_94) (congrArg (fun w => w.2.2.1) c_14_94) (congrArg (fun w => w.2.2.2.1) c_14_94) rfl (Nat.le_of_ble_eq_true rfl) rfl
theorem c_14_97 : q_code 14 97 = (.aload_n 0, 1, 0, 0, 0, 0, 0) := by decide +kernel
theorem e_14_97 (d : Nat) (a : Option Nat) (z1 z2 z3 : q_V) (st : List q_V) (v : q_H) (G : q_Gr) (Q : q_V → q_H → q_Gr → Prop) : q_wp d 14 97 [.inr (.inr (.inl a)), z1, z2, z3] st v G Q = q_wp d 14 98 [.inr (.inr (.inl a)), z1, z2, z3] (.inr (.inr (.inl a)) :: st) v G Q := q_w_aload_n c_14_97 rfl
theorem c_14_98 : q_code 14 98 = (.iload_n 3, 1, 0, 0, 0, 0, 0) := by decide +kernel
theorem e_14_98 (d : Nat) (a : Int) (z0 z1 z2 : q_V) (st : List q_V) (v : q_H) (G : q_Gr) (Q : q_V → q_H → q_Gr → Prop) : q_wp d 14 98 [z0, z1, z2, .inl a] st v G Q = q_wp d 14 99 [z0, z1, z2, .inl a] (.inl a :: st) v G Q := q_w_iload_n c_14_98 rfl
theorem c_14_99 : q_code 14 99 = (.iload_n 2, 1, 0, 0, 0, 0, 0) := by decide +kernel
theorem e_14_99 (d : Nat) (a : Int) (z0 z1 z3 : q_V) (st : List q_V) (v : q_H) (G : q_Gr) (Q : q_V → q_H → q_Gr → Prop) : q_wp d 14 99 [z0, z1, .inl a, z3] st v G Q = q_wp d 14 100 [z0, z1, .inl a, z3] (.inl a :: st) v G Q := q_w_iload_n c_14_99 rfl
theorem c_14_100 : q_code 14 100 = (.iconst 1, 1, 0, 0, 0, 0, 0) := by decide +kernel
theorem e_14_100 (d : Nat)  (z0 z1 z2 z3 : q_V) (st : List q_V) (v : q_H) (G : q_Gr) (Q : q_V → q_H → q_Gr → Prop) : q_wp d 14 100 [z0, z1, z2, z3] st v G Q = q_wp d 14 101 [z0, z1, z2, z3] (.inl 1 :: st) v G Q := q_w_iconst c_14_100
theorem c_14_101 : q_code 14 101 = (.iadd, 1, 0, 0, 0, 0, 0) := by decide +kernel
theorem e_14_101 (d : Nat) (a b : Int) (z0 z1 z2 z3 : q_V) (st : List q_V) (v : q_H) (G : q_Gr) (Q : q_V → q_H → q_Gr → Prop) : q_wp d 14 101 [z0, z1, z2, z3] (.inl b :: .inl a :: st) v G Q = q_wp d 14 102 [z0, z1, z2, z3] (.inl (a + b) :: st) v G Q := q_w_iadd c_14_101
theorem c_14_102 : q_code 14 102 = (.invokevirtual 43, 3, 14, 3, 0, 912, 1) := by decide +kernel
theorem e_14_102 (d : Nat) (x0 x1 x2 y0 : q_V) (z0 z1 z2 z3 : q_V) (v : q_H) (G : q_Gr) (Q : q_V → q_H → q_Gr → Prop) : q_wp d 14 102 [z0, z1, z2, z3] [x2, x1, x0, y0] v G Q = q_call d 14 [x0, x1, x2] v G (fun r v G => q_wp d 14 105 [z0, z1, z2, z3] (q_push r [y0]) v G Q) := q_wp_ca (m2 := 14) (k := 3) (as := [x0, x1, x2]) (rest := [y0]) (congrArg q_kind c_14_102) (congrArg (fun w => w.2.2.1) c_14_102) (congrArg (fun w => w.2.2.2.1) c_14_102) rfl (Nat.le_of_ble_eq_true rfl) rfl
theorem c_14_105 : q_code 14 105 = (.iadd, 1, 0, 0, 0, 0, 0) := by decide +kernel
theorem e_14_105 (d : Nat) (a b : Int) (z0 z1 z2 z3 : q_V) (st : List q_V) (v : q_H) (G : q_Gr) (Q : q_V → q_H → q_Gr → Prop) : q_wp d 14 105 [z0, z1, z2, z3] (.inl b :: .inl a :: st) v G Q = q_wp d 14 106 [z0, z1, z2, z3] (.inl (a + b) :: st) v G Q := q_w_iadd c_14_105
theorem c_14_106 : q_code 14 106 = (.ireturn, 1, 0, 0, 0, 0, 0) := by decide +kernel
theorem e_14_106 (d : Nat) (a : Int) (z0 z1 z2 z3 : q_V) (v : q_H) (G : q_Gr) (Q : q_V → q_H → q_Gr → Prop) : q_wp d 14 106 [z0, z1, z2, z3] [.inl a] v G Q = Q (.inl a) v G := q_w_ireturn c_14_106 rfl
theorem c_14_107 : q_code 14 107 = (.iconst 2, 1, 0, 0, 0, 0, 0) := by decide +kernel
theorem e_14_107 (d : Nat)  (z0 z1 z2 z3 : q_V) (st : List q_V) (v : q_H) (G : q_Gr) (Q : q_V → q_H → q_Gr → Prop) : q_wp d 14 107 [z0, z1, z2, z3] st v G Q = q_wp d 14 108 [z0, z1, z2, z3] (.inl 2 :: st) v G Q := q_w_iconst c_14_107
theorem c_14_108 : q_code 14 108 = (.aload_n 0, 1, 0, 0, 0, 0, 0) := by decide +kernel
theorem e_14_108 (d : Nat) (a : Option Nat) (z1 z2 z3 : q_V) (st : List q_V) (v : q_H) (G : q_Gr) (Q : q_V → q_H → q_Gr → Prop) : q_wp d 14 108 [.inr (.inr (.inl a)), z1, z2, z3] st v G Q = q_wp d 14 109 [.inr (.inr (.inl a)), z1, z2, z3] (.inr (.inr (.inl a)) :: st) v G Q := q_w_aload_n c_14_108 rfl
theorem c_14_109 : q_code 14 109 = (.bipush 11, 2, 0, 0, 0, 0, 0) := by decide +kernel
theorem e_14_109 (d : Nat)  (z0 z1 z2 z3 : q_V) (st : List q_V) (v : q_H) (G : q_Gr) (Q : q_V → q_H → q_Gr → Prop) : q_wp d 14 109 [z0, z1, z2, z3] st v G Q = q_wp d 14 111 [z0, z1, z2, z3] (.inl 11 :: st) v G Q := (q_w_bipush c_14_109).trans (by simp only [show ((-128 : Int) ≤ 11 ∧ (11 : Int) ≤ 127) = True by decide, true_and])
theorem c_14_111 : q_code 14 111 = (.iload_n 2, 1, 0, 0, 0, 0, 0) := by decide +kernel
theorem e_14_111 (d : Nat) (a : Int) (z0 z1 z3 : q_V) (st : List q_V) (v : q_H) (G : q_Gr) (Q : q_V → q_H → q_Gr → Prop) : q_wp d 14 111 [z0, z1, .inl a, z3] st v G Q = q_wp d 14 112 [z0, z1, .inl a, z3] (.inl a :: st) v G Q := q_w_iload_n c_14_111 rfl
theorem c_14_112 : q_code 14 112 = (.iconst 1, 1, 0, 0, 0, 0, 0) := by decide +kernel
theorem e_14_112 (d : Nat)  (z0 z1 z2 z3 : q_V) (st : List q_V) (v : q_H) (G : q_Gr) (Q : q_V → q_H → q_Gr → Prop) : q_wp d 14 112 [z0, z1, z2, z3] st v G Q = q_wp d 14 113 [z0, z1, z2, z3] (.inl 1 :: st) v G Q := q_w_iconst c_14_112
theorem c_14_113 : q_code 14 113 = (.iadd, 1, 0, 0, 0, 0, 0) := by decide +kernel
theorem e_14_113 (d : Nat) (a b : Int) (z0 z1 z2 z3 : q_V) (st : List q_V) (v : q_H) (G : q_Gr) (Q : q_V → q_H → q_Gr → Prop) : q_wp d 14 113 [z0, z1, z2, z3] (.inl b :: .inl a :: st) v G Q = q_wp d 14 114 [z0, z1, z2, z3] (.inl (a + b) :: st) v G Q := q_w_iadd c_14_113
theorem c_14_114 : q_code 14 114 = (.invokevirtual 43, 3, 14, 3, 0, 912, 1) := by decide +kernel
theorem e_14_114 (d : Nat) (x0 x1 x2 y0 : q_V) (z0 z1 z2 z3 : q_V) (v : q_H) (G : q_Gr) (Q : q_V → q_H → q_Gr → Prop) : q_wp d 14 114 [z0, z1, z2, z3] [x2, x1, x0, y0] v G Q = q_call d 14 [x0, x1, x2] v G (fun r v G => q_wp d 14 117 [z0, z1, z2, z3] (q_push r [y0]) v G Q) := q_wp_ca (m2 := 14) (k := 3) (as := [x0, x1, x2]) (rest := [y0]) (congrArg q_kind c_14_114) (congrArg (fun w => w.2.2.1) c_14_114) (congrArg (fun w => w.2.2.2.1) c_14_114) rfl (Nat.le_of_ble_eq_true rfl) rfl
theorem c_14_117 : q_code 14 117 = (.imul, 1, 0, 0, 0, 0, 0) := by decide +kernel
theorem e_14_117 (d : Nat) (a b : Int) (z0 z1 z2 z3 : q_V) (st : List q_V) (v : q_H) (G : q_Gr) (Q : q_V → q_H → q_Gr → Prop) : q_wp d 14 117 [z0, z1, z2, z3] (.inl b :: .inl a :: st) v G Q = q_wp d 14 118 [z0, z1, z2, z3] (.inl (a * b) :: st) v G Q := q_w_imul c_14_117
theorem c_14_118 : q_code 14 118 = (.ireturn, 1, 0, 0, 0, 0, 0) := by decide +kernel
theorem e_14_118 (d : Nat) (a : Int) (z0 z1 z2 z3 : q_V) (v : q_H) (G : q_Gr) (Q : q_V → q_H → q_Gr → Prop) : q_wp d 14 118 [z0, z1, z2, z3] [.inl a] v G Q = Q (.inl a) v G := q_w_ireturn c_14_118 rfl
theorem c_14_119 : q_code 14 119 = (.aload_n 0, 1, 0, 0, 0, 0, 0) := by decide +kernel
theorem e_14_119 (d : Nat) (a : Option Nat) (z1 z2 z3 : q_V) (st : List q_V) (v : q_H) (G : q_Gr) (Q : q_V → q_H → q_Gr → Prop) : q_wp d 14 119 [.inr (.inr (.inl a)), z1, z2, z3] st v G Q = q_wp d 14 120 [.inr (.inr (.inl a)), z1, z2, z3] (.inr (.inr (.inl a)) :: st) v G Q := q_w_aload_n c_14_119 rfl
theorem c_14_120 : q_code 14 120 = (.bipush 10, 2, 0, 0, 0, 0, 0) := by decide +kernel
theorem e_14_120 (d : Nat)  (z0 z1 z2 z3 : q_V) (st : List q_V) (v : q_H) (G : q_Gr) (Q : q_V → q_H → q_Gr → Prop) : q_wp d 14 120 [z0, z1, z2, z3] st v G Q = q_wp d 14 122 [z0, z1, z2, z3] (.inl 10 :: st) v G Q := (q_w_bipush c_14_120).trans (by simp only [show ((-128 : Int) ≤ 10 ∧ (10 : Int) ≤ 127) = True by decide, true_and])
theorem c_14_122 : q_code 14 122 = (.iload_n 2, 1, 0, 0, 0, 0, 0) := by decide +kernel
theorem e_14_122 (d : Nat) (a : Int) (z0 z1 z3 : q_V) (st : List q_V) (v : q_H) (G : q_Gr) (Q : q_V → q_H → q_Gr → Prop) : q_wp d 14 122 [z0, z1, .inl a, z3] st v G Q = q_wp d 14 123 [z0, z1, .inl a, z3] (.inl a :: st) v G Q := q_w_iload_n c_14_122 rfl
theorem c_14_123 : q_code 14 123 = (.iconst 1, 1, 0, 0, 0, 0, 0) := by decide +kernel
theorem e_14_123 (d : Nat)  (z0 z1 z2 z3 : q_V) (st : List q_V) (v : q_H) (G : q_Gr) (Q : q_V → q_H → q_Gr → Prop) : q_wp d 14 123 [z0, z1, z2, z3] st v G Q = q_wp d 14 124 [z0, z1, z2, z3] (.inl 1 :: st) v G Q := q_w_iconst c_14_123
theorem c_14_124 : q_code 14 124 = (.iadd, 1, 0, 0, 0, 0, 0) := by decide +kernel
theorem e_14_124 (d : Nat) (a b : Int) (z0 z1 z2 z3 : q_V) (st : List q_V) (v : q_H) (G : q_Gr) (Q : q_V → q_H → q_Gr → Prop) : q_wp d 14 124 [z0, z1, z2, z3] (.inl b :: .inl a :: st) v G Q = q_wp d 14 125 [z0, z1, z2, z3] (.inl (a + b) :: st) v G Q := q_w_iadd c_14_124
theorem c_14_125 : q_code 14 125 = (.invokevirtual 43, 3, 14, 3, 0, 912, 1) := by decide +kernel
theorem e_14_125 (d : Nat) (x0 x1 x2 : q_V) (z0 z1 z2 z3 : q_V) (v : q_H) (G : q_Gr) (Q : q_V → q_H → q_Gr → Prop) : q_wp d 14 125 [z0, z1, z2, z3] [x2, x1, x0] v G Q = q_call d 14 [x0, x1, x2] v G (fun r v G => q_wp d 14 128 [z0, z1, z2, z3] (q_push r []) v G Q) := q_wp_ca (m2 := 14) (k := 3) (as := [x0, x1, x2]) (rest := []) (congrArg q_kind c_14_125) (congrArg (fun w => w.2.2.1) c_14_125) (congrArg (fun w => w.2.2.2.1) c_14_125) rfl (Nat.le_of_ble_eq_true rfl) rfl
theorem c_14_128 : q_code 14 128 = (.aload_n 0, 1, 0, 0, 0, 0, 0) := by decide +kernel
theorem e_14_128 (d : Nat) (a : Option Nat) (z1 z2 z3 : q_V) (st : List q_V) (v : q_H) (G : q_Gr) (Q : q_V → q_H → q_Gr → Prop) : q_wp d 14 128 [.inr (.inr (.inl a)), z1, z2, z3] st v G Q = q_wp d 14 129 [.inr (.inr (.inl a)), z1, z2, z3] (.inr (.inr (.inl a)) :: st) v G Q := q_w_aload_n c_14_128 rfl
theorem c_14_129 : q_code 14 129 = (.getfield 37, 3, 1, 6, 0, 234, 0) := by decide +kernel
theorem e_14_129 (d : Nat) (a : Nat) (z0 z1 z2 z3 : q_V) (st : List q_V) (v : q_H) (G : q_Gr) (Q : q_V → q_H → q_Gr → Prop) : q_wp d 14 129 [z0, z1, z2, z3] (.inr (.inr (.inl (some a))) :: st) v G Q = (((G.2.1 a).1 = 1) ∧ q_wp d 14 132 [z0, z1, z2, z3] (.inl (v a 6) :: st) v G Q) := q_w_getI c_14_129
theorem c_14_132 : q_code 14 132 = (.iadd, 1, 0, 0, 0, 0, 0) := by decide +kernel
theorem e_14_132 (d : Nat) (a b : Int) (z0 z1 z2 z3 : q_V) (st : List q_V) (v : q_H) (G : q_Gr) (Q : q_V → q_H → q_Gr → Prop) : q_wp d 14 132 [z0, z1, z2, z3] (.inl b :: .inl a :: st) v G Q = q_wp d 14 133 [z0, z1, z2, z3] (.inl (a + b) :: st) v G Q := q_w_iadd c_14_132
theorem c_14_133 : q_code 14 133 = (.ireturn, 1, 0, 0, 0, 0, 0) := by decide +kernel
theorem e_14_133 (d : Nat) (a : Int) (z0 z1 z2 z3 : q_V) (v : q_H) (G : q_Gr) (Q : q_V → q_H → q_Gr → Prop) : q_wp d 14 133 [z0, z1, z2, z3] [.inl a] v G Q = Q (.inl a) v G := q_w_ireturn c_14_133 rfl
theorem c_14_134 : q_code 14 134 = (.aload_n 0, 1, 0, 0, 0, 0, 0) := by decide +kernel
theorem e_14_134 (d : Nat) (a : Option Nat) (z1 z2 z3 : q_V) (st : List q_V) (v : q_H) (G : q_Gr) (Q : q_V → q_H → q_Gr → Prop) : q_wp d 14 134 [.inr (.inr (.inl a)), z1, z2, z3] st v G Q = q_wp d 14 135 [.inr (.inr (.inl a)), z1, z2, z3] (.inr (.inr (.inl a)) :: st) v G Q := q_w_aload_n c_14_134 rfl
theorem c_14_135 : q_code 14 135 = (.bipush 13, 2, 0, 0, 0, 0, 0) := by decide +kernel
theorem e_14_135 (d : Nat)  (z0 z1 z2 z3 : q_V) (st : List q_V) (v : q_H) (G : q_Gr) (Q : q_V → q_H → q_Gr → Prop) : q_wp d 14 135 [z0, z1, z2, z3] st v G Q = q_wp d 14 137 [z0, z1, z2, z3] (.inl 13 :: st) v G Q := (q_w_bipush c_14_135).trans (by simp only [show ((-128 : Int) ≤ 13 ∧ (13 : Int) ≤ 127) = True by decide, true_and])
theorem c_14_137 : q_code 14 137 = (.iload_n 2, 1, 0, 0, 0, 0, 0) := by decide +kernel
theorem e_14_137 (d : Nat) (a : Int) (z0 z1 z3 : q_V) (st : List q_V) (v : q_H) (G : q_Gr) (Q : q_V → q_H → q_Gr → Prop) : q_wp d 14 137 [z0, z1, .inl a, z3] st v G Q = q_wp d 14 138 [z0, z1, .inl a, z3] (.inl a :: st) v G Q := q_w_iload_n c_14_137 rfl
theorem c_14_138 : q_code 14 138 = (.iconst 1, 1, 0, 0, 0, 0, 0) := by decide +kernel
theorem e_14_138 (d : Nat)  (z0 z1 z2 z3 : q_V) (st : List q_V) (v : q_H) (G : q_Gr) (Q : q_V → q_H → q_Gr → Prop) : q_wp d 14 138 [z0, z1, z2, z3] st v G Q = q_wp d 14 139 [z0, z1, z2, z3] (.inl 1 :: st) v G Q := q_w_iconst c_14_138
theorem c_14_139 : q_code 14 139 = (.iadd, 1, 0, 0, 0, 0, 0) := by decide +kernel
theorem e_14_139 (d : Nat) (a b : Int) (z0 z1 z2 z3 : q_V) (st : List q_V) (v : q_H) (G : q_Gr) (Q : q_V → q_H → q_Gr → Prop) : q_wp d 14 139 [z0, z1, z2, z3] (.inl b :: .inl a :: st) v G Q = q_wp d 14 140 [z0, z1, z2, z3] (.inl (a + b) :: st) v G Q := q_w_iadd c_14_139
theorem c_14_140 : q_code 14 140 = (.invokevirtual 43, 3, 14, 3, 0, 912, 1) := by decide +kernel
theorem e_14_140 (d : Nat) (x0 x1 x2 : q_V) (z0 z1 z2 z3 : q_V) (v : q_H) (G : q_Gr) (Q : q_V → q_H → q_Gr → Prop) : q_wp d 14 140 [z0, z1, z2, z3] [x2, x1, x0] v G Q = q_call d 14 [x0, x1, x2] v G (fun r v G => q_wp d 14 143 [z0, z1, z2, z3] (q_push r []) v G Q) := q_wp_ca (m2 := 14) (k := 3) (as := [x0, x1, x2]) (rest := []) (congrArg q_kind c_14_140) (congrArg (fun w => w.2.2.1) c_14_140) (congrArg (fun w => w.2.2.2.1) c_14_140) rfl (Nat.le_of_ble_eq_true rfl) rfl
theorem c_14_143 : q_code 14 143 = (.aload_n 0, 1, 0, 0, 0, 0, 0) := by decide +kernel
theorem e_14_143 (d : Nat) (a : Option Nat) (z1 z2 z3 : q_V) (st : List q_V) (v : q_H) (G : q_Gr) (Q : q_V → q_H → q_Gr → Prop) : q_wp d 14 143 [.inr (.inr (.inl a)), z1, z2, z3] st v G Q = q_wp d 14 144 [.inr (.inr (.inl a)), z1, z2, z3] (.inr (.inr (.inl a)) :: st) v G Q := q_w_aload_n c_14_143 rfl
theorem c_14_144 : q_code 14 144 = (.iload_n 3, 1, 0, 0, 0, 0, 0) := by decide +kernel
theorem e_14_144 (d : Nat) (a : Int) (z0 z1 z2 : q_V) (st : List q_V) (v : q_H) (G : q_Gr) (Q : q_V → q_H → q_Gr → Prop) : q_wp d 14 144 [z0, z1, z2, .inl a] st v G Q = q_wp d 14 145 [z0, z1, z2, .inl a] (.inl a :: st) v G Q := q_w_iload_n c_14_144 rfl
theorem c_14_145 : q_code 14 145 = (.iload_n 2, 1, 0, 0, 0, 0, 0) := by decide +kernel
theorem e_14_145 (d : Nat) (a : Int) (z0 z1 z3 : q_V) (st : List q_V) (v : q_H) (G : q_Gr) (Q : q_V → q_H → q_Gr → Prop) : q_wp d 14 145 [z0, z1, .inl a, z3] st v G Q = q_wp d 14 146 [z0, z1, .inl a, z3] (.inl a :: st) v G Q := q_w_iload_n c_14_145 rfl
theorem c_14_146 : q_code 14 146 = (.iconst 1, 1, 0, 0, 0, 0, 0) := by decide +kernel
theorem e_14_146 (d : Nat)  (z0 z1 z2 z3 : q_V) (st : List q_V) (v : q_H) (G : q_Gr) (Q : q_V → q_H → q_Gr → Prop) : q_wp d 14 146 [z0, z1, z2, z3] st v G Q = q_wp d 14 147 [z0, z1, z2, z3] (.inl 1 :: st) v G Q := q_w_iconst c_14_146
theorem c_14_147 : q_code 14 147 = (.iadd, 1, 0, 0, 0, 0, 0) := by decide +kernel
theorem e_14_147 (d : Nat) (a b : Int) (z0 z1 z2 z3 : q_V) (st : List q_V) (v : q_H) (G : q_Gr) (Q : q_V → q_H → q_Gr → Prop) : q_wp d 14 147 [z0, z1, z2, z3] (.inl b :: .inl a :: st) v G Q = q_wp d 14 148 [z0, z1, z2, z3] (.inl (a + b) :: st) v G Q := q_w_iadd c_14_147
theorem c_14_148 : q_code 14 148 = (.invokevirtual 43, 3, 14, 3, 0, 912, 1) := by decide +kernel
theorem e_14_148 (d : Nat) (x0 x1 x2 y0 : q_V) (z0 z1 z2 z3 : q_V) (v : q_H) (G : q_Gr) (Q : q_V → q_H → q_Gr → Prop) : q_wp d 14 148 [z0, z1, z2, z3] [x2, x1, x0, y0] v G Q = q_call d 14 [x0, x1, x2] v G (fun r v G => q_wp d 14 151 [z0, z1, z2, z3] (q_push r [y0]) v G Q) := q_wp_ca (m2 := 14) (k := 3) (as := [x0, x1, x2]) (rest := [y0]) (congrArg q_kind c_14_148) (congrArg (fun w => w.2.2.1) c_14_148) (congrArg (fun w => w.2.2.2.1) c_14_148) rfl (Nat.le_of_ble_eq_true rfl) rfl
theorem c_14_151 : q_code 14 151 = (.isub, 1, 0, 0, 0, 0, 0) := by decide +kernel
theorem e_14_151 (d : Nat) (a b : Int) (z0 z1 z2 z3 : q_V) (st : List q_V) (v : q_H) (G : q_Gr) (Q : q_V → q_H → q_Gr → Prop) : q_wp d 14 151 [z0, z1, z2, z3] (.inl b :: .inl a :: st) v G Q = q_wp d 14 152 [z0, z1, z2, z3] (.inl (a - b) :: st) v G Q := q_w_isub c_14_151
theorem c_14_152 : q_code 14 152 = (.ireturn, 1, 0, 0, 0, 0, 0) := by decide +kernel
theorem e_14_152 (d : Nat) (a : Int) (z0 z1 z2 z3 : q_V) (v : q_H) (G : q_Gr) (Q : q_V → q_H → q_Gr → Prop) : q_wp d 14 152 [z0, z1, z2, z3] [.inl a] v G Q = Q (.inl a) v G := q_w_ireturn c_14_152 rfl
theorem c_14_153 : q_code 14 153 = (.aload_n 0, 1, 0, 0, 0, 0, 0) := by decide +kernel
theorem e_14_153 (d : Nat) (a : Option Nat) (z1 z2 z3 : q_V) (st : List q_V) (v : q_H) (G : q_Gr) (Q : q_V → q_H → q_Gr → Prop) : q_wp d 14 153 [.inr (.inr (.inl a)), z1, z2, z3] st v G Q = q_wp d 14 154 [.inr (.inr (.inl a)), z1, z2, z3] (.inr (.inr (.inl a)) :: st) v G Q := q_w_aload_n c_14_153 rfl
theorem c_14_154 : q_code 14 154 = (.getfield 19, 3, 1, 2, 0, 230, 0) := by decide +kernel
theorem e_14_154 (d : Nat) (a : Nat) (z0 z1 z2 z3 : q_V) (st : List q_V) (v : q_H) (G : q_Gr) (Q : q_V → q_H → q_Gr → Prop) : q_wp d 14 154 [z0, z1, z2, z3] (.inr (.inr (.inl (some a))) :: st) v G Q = (((G.2.1 a).1 = 1) ∧ q_wp d 14 157 [z0, z1, z2, z3] (.inl (v a 2) :: st) v G Q) := q_w_getI c_14_154
theorem c_14_157 : q_code 14 157 = (.ireturn, 1, 0, 0, 0, 0, 0) := by decide +kernel
theorem e_14_157 (d : Nat) (a : Int) (z0 z1 z2 z3 : q_V) (v : q_H) (G : q_Gr) (Q : q_V → q_H → q_Gr → Prop) : q_wp d 14 157 [z0, z1, z2, z3] [.inl a] v G Q = Q (.inl a) v G := q_w_ireturn c_14_157 rfl
theorem c_14_158 : q_code 14 158 = (.aload_n 0, 1, 0, 0, 0, 0, 0) := by decide +kernel
theorem e_14_158 (d : Nat) (a : Option Nat) (z1 z2 z3 : q_V) (st : List q_V) (v : q_H) (G : q_Gr) (Q : q_V → q_H → q_Gr → Prop) : q_wp d 14 158 [.inr (.inr (.inl a)), z1, z2, z3] st v G Q = q_wp d 14 159 [.inr (.inr (.inl a)), z1, z2, z3] (.inr (.inr (.inl a)) :: st) v G Q := q_w_aload_n c_14_158 rfl
theorem c_14_159 : q_code 14 159 = (.bipush 20, 2, 0, 0, 0, 0, 0) := by decide +kernel
theorem e_14_159 (d : Nat)  (z0 z1 z2 z3 : q_V) (st : List q_V) (v : q_H) (G : q_Gr) (Q : q_V → q_H → q_Gr → Prop) : q_wp d 14 159 [z0, z1, z2, z3] st v G Q = q_wp d 14 161 [z0, z1, z2, z3] (.inl 20 :: st) v G Q := (q_w_bipush c_14_159).trans (by simp only [show ((-128 : Int) ≤ 20 ∧ (20 : Int) ≤ 127) = True by decide, true_and])
theorem c_14_161 : q_code 14 161 = (.iload_n 2, 1, 0, 0, 0, 0, 0) := by decide +kernel
theorem e_14_161 (d : Nat) (a : Int) (z0 z1 z3 : q_V) (st : List q_V) (v : q_H) (G : q_Gr) (Q : q_V → q_H → q_Gr → Prop) : q_wp d 14 161 [z0, z1, .inl a, z3] st v G Q = q_wp d 14 162 [z0, z1, .inl a, z3] (.inl a :: st) v G Q := q_w_iload_n c_14_161 rfl
theorem c_14_162 : q_code 14 162 = (.iconst 1, 1, 0, 0, 0, 0, 0) := by decide +kernel
theorem e_14_162 (d : Nat)  (z0 z1 z2 z3 : q_V) (st : List q_V) (v : q_H) (G : q_Gr) (Q : q_V → q_H → q_Gr → Prop) : q_wp d 14 162 [z0, z1, z2, z3] st v G Q = q_wp d 14 163 [z0, z1, z2, z3] (.inl 1 :: st) v G Q := q_w_iconst c_14_162
theorem c_14_163 : q_code 14 163 = (.iadd, 1, 0, 0, 0, 0, 0) := by decide +kernel
theorem e_14_163 (d : Nat) (a b : Int) (z0 z1 z2 z3 : q_V) (st : List q_V) (v : q_H) (G : q_Gr) (Q : q_V → q_H → q_Gr → Prop) : q_wp d 14 163 [z0, z1, z2, z3] (.inl b :: .inl a :: st) v G Q = q_wp d 14 164 [z0, z1, z2, z3] (.inl (a + b) :: st) v G Q := q_w_iadd c_14_163
theorem c_14_164 : q_code 14 164 = (.invokevirtual 43, 3, 14, 3, 0, 912, 1) := by decide +kernel
theorem e_14_164 (d : Nat) (x0 x1 x2 : q_V) (z0 z1 z2 z3 : q_V) (v : q_H) (G : q_Gr) (Q : q_V → q_H → q_Gr → Prop) : q_wp d 14 164 [z0, z1, z2, z3] [x2, x1, x0] v G Q = q_call d 14 [x0, x1, x2] v G (fun r v G => q_wp d 14 167 [z0, z1, z2, z3] (q_push r []) v G Q) := q_wp_ca (m2 := 14) (k := 3) (as := [x0, x1, x2]) (rest := []) (congrArg q_kind c_14_164) (congrArg (fun w => w.2.2.1) c_14_164) (congrArg (fun w => w.2.2.2.1) c_14_164) rfl (Nat.le_of_ble_eq_true rfl) rfl
theorem c_14_167 : q_code 14 167 = (.aload_n 0, 1, 0, 0, 0, 0, 0) := by decide +kernel
theorem e_14_167 (d : Nat) (a : Option Nat) (z1 z2 z3 : q_V) (st : List q_V) (v : q_H) (G : q_Gr) (Q : q_V → q_H → q_Gr → Prop) : q_wp d 14 167 [.inr (.inr (.inl a)), z1, z2, z3] st v G Q = q_wp d 14 168 [.inr (.inr (.inl a)), z1, z2, z3] (.inr (.inr (.inl a)) :: st) v G Q := q_w_aload_n c_14_167 rfl
theorem c_14_168 : q_code 14 168 = (.getfield 34, 3, 1, 5, 0, 233, 0) := by decide +kernel
theorem e_14_168 (d : Nat) (a : Nat) (z0 z1 z2 z3 : q_V) (st : List q_V) (v : q_H) (G : q_Gr) (Q : q_V → q_H → q_Gr → Prop) : q_wp d 14 168 [z0, z1, z2, z3] (.inr (.inr (.inl (some a))) :: st) v G Q = (((G.2.1 a).1 = 1) ∧ q_wp d 14 171 [z0, z1, z2, z3] (.inl (v a 5) :: st) v G Q) := q_w_getI c_14_168
theorem c_14_171 : q_code 14 171 = (.iadd, 1, 0, 0, 0, 0, 0) := by decide +kernel
theorem e_14_171 (d : Nat) (a b : Int) (z0 z1 z2 z3 : q_V) (st : List q_V) (v : q_H) (G : q_Gr) (Q : q_V → q_H → q_Gr → Prop) : q_wp d 14 171 [z0, z1, z2, z3] (.inl b :: .inl a :: st) v G Q = q_wp d 14 172 [z0, z1, z2, z3] (.inl (a + b) :: st) v G Q := q_w_iadd c_14_171
theorem c_14_172 : q_code 14 172 = (.ireturn, 1, 0, 0, 0, 0, 0) := by decide +kernel
theorem e_14_172 (d : Nat) (a : Int) (z0 z1 z2 z3 : q_V) (v : q_H) (G : q_Gr) (Q : q_V → q_H → q_Gr → Prop) : q_wp d 14 172 [z0, z1, z2, z3] [.inl a] v G Q = Q (.inl a) v G := q_w_ireturn c_14_172 rfl
theorem c_14_173 : q_code 14 173 = (.iconst 2, 1, 0, 0, 0, 0, 0) := by decide +kernel
theorem e_14_173 (d : Nat)  (z0 z1 z2 z3 : q_V) (st : List q_V) (v : q_H) (G : q_Gr) (Q : q_V → q_H → q_Gr → Prop) : q_wp d 14 173 [z0, z1, z2, z3] st v G Q = q_wp d 14 174 [z0, z1, z2, z3] (.inl 2 :: st) v G Q := q_w_iconst c_14_173
theorem c_14_174 : q_code 14 174 = (.aload_n 0, 1, 0, 0, 0, 0, 0) := by decide +kernel
theorem e_14_174 (d : Nat) (a : Option Nat) (z1 z2 z3 : q_V) (st : List q_V) (v : q_H) (G : q_Gr) (Q : q_V → q_H → q_Gr → Prop) : q_wp d 14 174 [.inr (.inr (.inl a)), z1, z2, z3] st v G Q = q_wp d 14 175 [.inr (.inr (.inl a)), z1, z2, z3] (.inr (.inr (.inl a)) :: st) v G Q := q_w_aload_n c_14_174 rfl
theorem c_14_175 : q_code 14 175 = (.bipush 21, 2, 0, 0, 0, 0, 0) := by decide +kernel
theorem e_14_175 (d : Nat)  (z0 z1 z2 z3 : q_V) (st : List q_V) (v : q_H) (G : q_Gr) (Q : q_V → q_H → q_Gr → Prop) : q_wp d 14 175 [z0, z1, z2, z3] st v G Q = q_wp d 14 177 [z0, z1, z2, z3] (.inl 21 :: st) v G Q := (q_w_bipush c_14_175).trans (by simp only [show ((-128 : Int) ≤ 21 ∧ (21 : Int) ≤ 127) = True by decide, true_and])
theorem c_14_177 : q_code 14 177 = (.iload_n 2, 1, 0, 0, 0, 0, 0) := by decide +kernel
theorem e_14_177 (d : Nat) (a : Int) (z0 z1 z3 : q_V) (st : List q_V) (v : q_H) (G : q_Gr) (Q : q_V → q_H → q_Gr → Prop) : q_wp d 14 177 [z0, z1, .inl a, z3] st v G Q = q_wp d 14 178 [z0, z1, .inl a, z3] (.inl a :: st) v G Q := q_w_iload_n c_14_177 rfl
theorem c_14_178 : q_code 14 178 = (.iconst 1, 1, 0, 0, 0, 0, 0) := by decide +kernel
theorem e_14_178 (d : Nat)  (z0 z1 z2 z3 : q_V) (st : List q_V) (v : q_H) (G : q_Gr) (Q : q_V → q_H → q_Gr → Prop) : q_wp d 14 178 [z0, z1, z2, z3] st v G Q = q_wp d 14 179 [z0, z1, z2, z3] (.inl 1 :: st) v G Q := q_w_iconst c_14_178
theorem c_14_179 : q_code 14 179 = (.iadd, 1, 0, 0, 0, 0, 0) := by decide +kernel
theorem e_14_179 (d : Nat) (a b : Int) (z0 z1 z2 z3 : q_V) (st : List q_V) (v : q_H) (G : q_Gr) (Q : q_V → q_H → q_Gr → Prop) : q_wp d 14 179 [z0, z1, z2, z3] (.inl b :: .inl a :: st) v G Q = q_wp d 14 180 [z0, z1, z2, z3] (.inl (a + b) :: st) v G Q := q_w_iadd c_14_179
theorem c_14_180 : q_code 14 180 = (.invokevirtual 43, 3, 14, 3, 0, 912, 1) := by decide +kernel
theorem e_14_180 (d : Nat) (x0 x1 x2 y0 : q_V) (z0 z1 z2 z3 : q_V) (v : q_H) (G : q_Gr) (Q : q_V → q_H → q_Gr → Prop) : q_wp d 14 180 [z0, z1, z2, z3] [x2, x1, x0, y0] v G Q = q_call d 14 [x0, x1, x2] v G (fun r v G => q_wp d 14 183 [z0, z1, z2, z3] (q_push r [y0]) v G Q) := q_wp_ca (m2 := 14) (k := 3) (as := [x0, x1, x2]) (rest := [y0]) (congrArg q_kind c_14_180) (congrArg (fun w => w.2.2.1) c_14_180) (congrArg (fun w => w.2.2.2.1) c_14_180) rfl (Nat.le_of_ble_eq_true rfl) rfl
theorem c_14_183 : q_code 14 183 = (.imul, 1, 0, 0, 0, 0, 0) := by decide +kernel
theorem e_14_183 (d : Nat) (a b : Int) (z0 z1 z2 z3 : q_V) (st : List q_V) (v : q_H) (G : q_Gr) (Q : q_V → q_H → q_Gr → Prop) : q_wp d 14 183 [z0, z1, z2, z3] (.inl b :: .inl a :: st) v G Q = q_wp d 14 184 [z0, z1, z2, z3] (.inl (a * b) :: st) v G Q := q_w_imul c_14_183
theorem c_14_184 : q_code 14 184 = (.ireturn, 1, 0, 0, 0, 0, 0) := by decide +kernel
theorem e_14_184 (d : Nat) (a : Int) (z0 z1 z2 z3 : q_V) (v : q_H) (G : q_Gr) (Q : q_V → q_H → q_Gr → Prop) : q_wp d 14 184 [z0, z1, z2, z3] [.inl a] v G Q = Q (.inl a) v G := q_w_ireturn c_14_184 rfl
theorem c_14_185 : q_code 14 185 = (.aload_n 0, 1, 0, 0, 0, 0, 0) := by decide +kernel
theorem e_14_185 (d : Nat) (a : Option Nat) (z1 z2 z3 : q_V) (st : List q_V) (v : q_H) (G : q_Gr) (Q : q_V → q_H → q_Gr → Prop) : q_wp d 14 185 [.inr (.inr (.inl a)), z1, z2, z3] st v G Q = q_wp d 14 186 [.inr (.inr (.inl a)), z1, z2, z3] (.inr (.inr (.inl a)) :: st) v G Q := q_w_aload_n c_14_185 rfl
theorem c_14_186 : q_code 14 186 = (.bipush 20, 2, 0, 0, 0, 0, 0) := by decide +kernel
theorem e_14_186 (d : Nat)  (z0 z1 z2 z3 : q_V) (st : List q_V) (v : q_H) (G : q_Gr) (Q : q_V → q_H → q_Gr → Prop) : q_wp d 14 186 [z0, z1, z2, z3] st v G Q = q_wp d 14 188 [z0, z1, z2, z3] (.inl 20 :: st) v G Q := (q_w_bipush c_14_186).trans (by simp only [show ((-128 : Int) ≤ 20 ∧ (20 : Int) ≤ 127) = True by decide, true_and])
theorem c_14_188 : q_code 14 188 = (.iload_n 2, 1, 0, 0, 0, 0, 0) := by decide +kernel
theorem e_14_188 (d : Nat) (a : Int) (z0 z1 z3 : q_V) (st : List q_V) (v : q_H) (G : q_Gr) (Q : q_V → q_H → q_Gr → Prop) : q_wp d 14 188 [z0, z1, .inl a, z3] st v G Q = q_wp d 14 189 [z0, z1, .inl a, z3] (.inl a :: st) v G Q := q_w_iload_n c_14_188 rfl
theorem c_14_189 : q_code 14 189 = (.iconst 1, 1, 0, 0, 0, 0, 0) := by decide +kernel
theorem e_14_189 (d : Nat)  (z0 z1 z2 z3 : q_V) (st : List q_V) (v : q_H) (G : q_Gr) (Q : q_V → q_H → q_Gr → Prop) : q_wp d 14 189 [z0, z1, z2, z3] st v G Q = q_wp d 14 190 [z0, z1, z2, z3] (.inl 1 :: st) v G Q := q_w_iconst c_14_189
theorem c_14_190 : q_code 14 190 = (.iadd, 1, 0, 0, 0, 0, 0) := by decide +kernel
theorem e_14_190 (d : Nat) (a b : Int) (z0 z1 z2 z3 : q_V) (st : List q_V) (v : q_H) (G : q_Gr) (Q : q_V → q_H → q_Gr → Prop) : q_wp d 14 190 [z0, z1, z2, z3] (.inl b :: .inl a :: st) v G Q = q_wp d 14 191 [z0, z1, z2, z3] (.inl (a + b) :: st) v G Q := q_w_iadd c_14_190
theorem c_14_191 : q_code 14 191 = (.invokevirtual 43, 3, 14, 3, 0, 912, 1) := by decide +kernel
theorem e_14_191 (d : Nat) (x0 x1 x2 : q_V) (z0 z1 z2 z3 : q_V) (v : q_H) (G : q_Gr) (Q : q_V → q_H → q_Gr → Prop) : q_wp d 14 191 [z0, z1, z2, z3] [x2, x1, x0] v G Q = q_call d 14 [x0, x1, x2] v G (fun r v G => q_wp d 14 194 [z0, z1, z2, z3] (q_push r []) v G Q) := q_wp_ca (m2 := 14) (k := 3) (as := [x0, x1, x2]) (rest := []) (congrArg q_kind c_14_191) (congrArg (fun w => w.2.2.1) c_14_191) (congrArg (fun w => w.2.2.2.1) c_14_191) rfl (Nat.le_of_ble_eq_true rfl) rfl
theorem c_14_194 : q_code 14 194 = (.bipush 100, 2, 0, 0, 0, 0, 0) := by decide +kernel
theorem e_14_194 (d : Nat)  (z0 z1 z2 z3 : q_V) (st : List q_V) (v : q_H) (G : q_Gr) (Q : q_V → q_H → q_Gr → Prop) : q_wp d 14 194 [z0, z1, z2, z3] st v G Q = q_wp d 14 196 [z0, z1, z2, z3] (.inl 100 :: st) v G Q := (q_w_bipush c_14_194).trans (by simp only [show ((-128 : Int) ≤ 100 ∧ (100 : Int) ≤ 127) = True by decide, true_and])
theorem c_14_196 : q_code 14 196 = (.iadd, 1, 0, 0, 0, 0, 0) := by decide +kernel
theorem e_14_196 (d : Nat) (a b : Int) (z0 z1 z2 z3 : q_V) (st : List q_V) (v : q_H) (G : q_Gr) (Q : q_V → q_H → q_Gr → Prop) : q_wp d 14 196 [z0, z1, z2, z3] (.inl b :: .inl a :: st) v G Q = q_wp d 14 197 [z0, z1, z2, z3] (.inl (a + b) :: st) v G Q := q_w_iadd c_14_196
theorem c_14_197 : q_code 14 197 = (.ireturn, 1, 0, 0, 0, 0, 0) := by decide +kernel
theorem e_14_197 (d : Nat) (a : Int) (z0 z1 z2 z3 : q_V) (v : q_H) (G : q_Gr) (Q : q_V → q_H → q_Gr → Prop) : q_wp d 14 197 [z0, z1, z2, z3] [.inl a] v G Q = Q (.inl a) v G := q_w_ireturn c_14_197 rfl
theorem c_14_198 : q_code 14 198 = (.aload_n 0, 1, 0, 0, 0, 0, 0) := by decide +kernel
theorem e_14_198 (d : Nat) (a : Option Nat) (z1 z2 z3 : q_V) (st : List q_V) (v : q_H) (G : q_Gr) (Q : q_V → q_H → q_Gr → Prop) : q_wp d 14 198 [.inr (.inr (.inl a)), z1, z2, z3] st v G Q = q_wp d 14 199 [.inr (.inr (.inl a)), z1, z2, z3] (.inr (.inr (.inl a)) :: st) v G Q := q_w_aload_n c_14_198 rfl
theorem c_14_199 : q_code 14 199 = (.getfield 31, 3, 1, 4, 0, 232, 0) := by decide +kernel
theorem e_14_199 (d : Nat) (a : Nat) (z0 z1 z2 z3 : q_V) (st : List q_V) (v : q_H) (G : q_Gr) (Q : q_V → q_H → q_Gr → Prop) : q_wp d 14 199 [z0, z1, z2, z3] (.inr (.inr (.inl (some a))) :: st) v G Q = (((G.2.1 a).1 = 1) ∧ q_wp d 14 202 [z0, z1, z2, z3] (.inl (v a 4) :: st) v G Q) := q_w_getI c_14_199
theorem c_14_202 : q_code 14 202 = (.ireturn, 1, 0, 0, 0, 0, 0) := by decide +kernel
theorem e_14_202 (d : Nat) (a : Int) (z0 z1 z2 z3 : q_V) (v : q_H) (G : q_Gr) (Q : q_V → q_H → q_Gr → Prop) : q_wp d 14 202 [z0, z1, z2, z3] [.inl a] v G Q = Q (.inl a) v G := q_w_ireturn c_14_202 rfl
theorem e_14 (d : Nat) (a0 : Nat) (a1 : Int) (a2 : Int) (v : q_H) (G : q_Gr) (Q : q_V → q_H → q_Gr → Prop) : q_call (d + 1) 14 [.inr (.inr (.inl (some a0))), .inl a1, .inl a2] v G Q = ((G.2.1 a0).1 = 1 ∧ q_wp d 14 0 [.inr (.inr (.inl (some a0))), .inl a1, .inl a2, .inr (.inr (.inr ()))] [] v G Q) := by
  rw [q_call_in (by decide) (Nat.le_of_ble_eq_true rfl) rfl]
  exact congrArg (· ∧ _) (propext beq_iff_eq)
/-- all but the heads of loops: [] -/
def E14 := And.intro @e_14 (And.intro @e_14_0 (And.intro @e_14_1 (And.intro @e_14_3 (And.intro @e_14_6 (And.intro @e_14_7 (And.intro @e_14_8 (And.intro @e_14_9 (And.intro @e_14_10 (And.intro @e_14_13 (And.intro @e_14_16 (And.intro @e_14_17 (And.intro @e_14_20 (And.intro @e_14_21 (And.intro @e_14_22 (And.intro @e_14_23 (And.intro @e_14_88 (And.intro @e_14_89 (And.intro @e_14_91 (And.intro @e_14_92 (And.intro @e_14_93 (And.intro @e_14_94 (And.intro @e_14_97 (And.intro @e_14_98 (And.intro @e_14_99 (And.intro @e_14_100 (And.intro @e_14_101 (And.intro @e_14_102 (And.intro @e_14_105 (And.intro @e_14_106 (And.intro @e_14_107 (And.intro @e_14_108 (And.intro @e_14_109 (And.intro @e_14_111 (And.intro @e_14_112 (And.intro @e_14_113 (And.intro @e_14_114 (And.intro @e_14_117 (And.intro @e_14_118 (And.intro @e_14_119 (And.intro @e_14_120 (And.intro @e_14_122 (And.intro @e_14_123 (And.intro @e_14_124 (And.intro @e_14_125 (And.intro @e_14_128 (And.intro @e_14_129 (And.intro @e_14_132 (And.intro @e_14_133 (And.intro @e_14_134 (And.intro @e_14_135 (And.intro @e_14_137 (And.intro @e_14_138 (And.intro @e_14_139 (And.intro @e_14_140 (And.intro @e_14_143 (And.intro @e_14_144 (And.intro @e_14_145 (And.intro @e_14_146 (And.intro @e_14_147 (And.intro @e_14_148 (And.intro @e_14_151 (And.intro @e_14_152 (And.intro @e_14_153 (And.intro @e_14_154 (And.intro @e_14_157 (And.intro @e_14_158 (And.intro @e_14_159 (And.intro @e_14_161 (And.intro @e_14_162 (And.intro @e_14_163 (And.intro @e_14_164 (And.intro @e_14_167 (And.intro @e_14_168 (And.intro @e_14_171 (And.intro @e_14_172 (And.intro @e_14_173 (And.intro @e_14_174 (And.intro @e_14_175 (And.intro @e_14_177 (And.intro @e_14_178 (And.intro @e_14_179 (And.intro @e_14_180 (And.intro @e_14_183 (And.intro @e_14_184 (And.intro @e_14_185 (And.intro @e_14_186 (And.intro @e_14_188 (And.intro @e_14_189 (And.intro @e_14_190 (And.intro @e_14_191 (And.intro @e_14_194 (And.intro @e_14_196 (And.intro @e_14_197 (And.intro @e_14_198 (And.intro @e_14_199 (@e_14_202))))))))))))))))))))))))))))))))))))))))))))))))))))))))))))))))))))))))))))))))))))))))))))))))
/-! ProvenRows$Asks.leave(I)V -/
theorem c_15_0 : q_code 15 0 = (.aload_n 0, 1, 0, 0, 0, 0, 0) := by decide +kernel
theorem e_15_0 (d : Nat) (a : Option Nat) (z1 : q_V) (st : List q_V) (v : q_H) (G : q_Gr) (Q : q_V → q_H → q_Gr → Prop) : q_wp d 15 0 [.inr (.inr (.inl a)), z1] st v G Q = q_wp d 15 1 [.inr (.inr (.inl a)), z1] (.inr (.inr (.inl a)) :: st) v G Q := q_w_aload_n c_15_0 rfl
theorem c_15_1 : q_code 15 1 = (.getfield 15, 3, 1, 1, 0, 229, 0) := by decide +kernel
theorem e_15_1 (d : Nat) (a : Nat) (z0 z1 : q_V) (st : List q_V) (v : q_H) (G : q_Gr) (Q : q_V → q_H → q_Gr → Prop) : q_wp d 15 1 [z0, z1] (.inr (.inr (.inl (some a))) :: st) v G Q = (((G.2.1 a).1 = 1) ∧ q_wp d 15 4 [z0, z1] (.inl (v a 1) :: st) v G Q) := q_w_getI c_15_1
theorem c_15_4 : q_code 15 4 = (.bipush 16, 2, 0, 0, 0, 0, 0) := by decide +kernel
theorem e_15_4 (d : Nat)  (z0 z1 : q_V) (st : List q_V) (v : q_H) (G : q_Gr) (Q : q_V → q_H → q_Gr → Prop) : q_wp d 15 4 [z0, z1] st v G Q = q_wp d 15 6 [z0, z1] (.inl 16 :: st) v G Q := (q_w_bipush c_15_4).trans (by simp only [show ((-128 : Int) ≤ 16 ∧ (16 : Int) ≤ 127) = True by decide, true_and])
theorem c_15_6 : q_code 15 6 = (.if_icmp .ge 23, 3, 0, 0, 0, 0, 0) := by decide +kernel
theorem e_15_6 (d : Nat) (a b : Int) (z0 z1 : q_V) (st : List q_V) (v : q_H) (G : q_Gr) (Q : q_V → q_H → q_Gr → Prop) : q_wp d 15 6 [z0, z1] (.inl b :: .inl a :: st) v G Q = ((q_inR a ∧ q_inR b) ∧ if b ≤ a then q_wp d 15 29 [z0, z1] st v G Q else q_wp d 15 9 [z0, z1] st v G Q) := q_w_icmp_ge c_15_6 (by decide)
theorem c_15_9 : q_code 15 9 = (.aload_n 0, 1, 0, 0, 0, 0, 0) := by decide +kernel
theorem e_15_9 (d : Nat) (a : Option Nat) (z1 : q_V) (st : List q_V) (v : q_H) (G : q_Gr) (Q : q_V → q_H → q_Gr → Prop) : q_wp d 15 9 [.inr (.inr (.inl a)), z1] st v G Q = q_wp d 15 10 [.inr (.inr (.inl a)), z1] (.inr (.inr (.inl a)) :: st) v G Q := q_w_aload_n c_15_9 rfl
theorem c_15_10 : q_code 15 10 = (.getfield 11, 3, 1, 0, 1, 228, 0) := by decide +kernel
theorem e_15_10 (d : Nat) (a : Nat) (z0 z1 : q_V) (st : List q_V) (v : q_H) (G : q_Gr) (Q : q_V → q_H → q_Gr → Prop) : q_wp d 15 10 [z0, z1] (.inr (.inr (.inl (some a))) :: st) v G Q = (((G.2.1 a).1 = 1) ∧ q_wp d 15 13 [z0, z1] (.inr (.inr (.inl (G.1 a 0))) :: st) v G Q) := q_w_getP c_15_10
theorem c_15_13 : q_code 15 13 = (.aload_n 0, 1, 0, 0, 0, 0, 0) := by decide +kernel
theorem e_15_13 (d : Nat) (a : Option Nat) (z1 : q_V) (st : List q_V) (v : q_H) (G : q_Gr) (Q : q_V → q_H → q_Gr → Prop) : q_wp d 15 13 [.inr (.inr (.inl a)), z1] st v G Q = q_wp d 15 14 [.inr (.inr (.inl a)), z1] (.inr (.inr (.inl a)) :: st) v G Q := q_w_aload_n c_15_13 rfl
theorem c_15_14 : q_code 15 14 = (.getfield 15, 3, 1, 1, 0, 229, 0) := by decide +kernel
theorem e_15_14 (d : Nat) (a : Nat) (z0 z1 : q_V) (st : List q_V) (v : q_H) (G : q_Gr) (Q : q_V → q_H → q_Gr → Prop) : q_wp d 15 14 [z0, z1] (.inr (.inr (.inl (some a))) :: st) v G Q = (((G.2.1 a).1 = 1) ∧ q_wp d 15 17 [z0, z1] (.inl (v a 1) :: st) v G Q) := q_w_getI c_15_14
theorem c_15_17 : q_code 15 17 = (.iload_n 1, 1, 0, 0, 0, 0, 0) := by decide +kernel
theorem e_15_17 (d : Nat) (a : Int) (z0 : q_V) (st : List q_V) (v : q_H) (G : q_Gr) (Q : q_V → q_H → q_Gr → Prop) : q_wp d 15 17 [z0, .inl a] st v G Q = q_wp d 15 18 [z0, .inl a] (.inl a :: st) v G Q := q_w_iload_n c_15_17 rfl
theorem c_15_18 : q_code 15 18 = (.iastore, 1, 0, 0, 0, 0, 0) := by decide +kernel
theorem e_15_18 (d : Nat) (a : Nat) (i b : Int) (z0 z1 : q_V) (st : List q_V) (v : q_H) (G : q_Gr) (Q : q_V → q_H → q_Gr → Prop) : q_wp d 15 18 [z0, z1] (.inl b :: .inl i :: .inr (.inr (.inl (some a))) :: st) v G Q = (((G.2.1 a).1 = 20 ∧ 32 ≤ a ∧ 0 ≤ i ∧ i < (G.2.1 a).2) ∧ q_wp d 15 19 [z0, z1] st (q_up v a i.toNat b) G Q) := q_w_iast c_15_18
theorem c_15_19 : q_code 15 19 = (.aload_n 0, 1, 0, 0, 0, 0, 0) := by decide +kernel
theorem e_15_19 (d : Nat) (a : Option Nat) (z1 : q_V) (st : List q_V) (v : q_H) (G : q_Gr) (Q : q_V → q_H → q_Gr → Prop) : q_wp d 15 19 [.inr (.inr (.inl a)), z1] st v G Q = q_wp d 15 20 [.inr (.inr (.inl a)), z1] (.inr (.inr (.inl a)) :: st) v G Q := q_w_aload_n c_15_19 rfl
theorem c_15_20 : q_code 15 20 = (.dup, 1, 0, 0, 0, 0, 0) := by decide +kernel
theorem e_15_20 (d : Nat) (a : Option Nat) (z0 z1 : q_V) (st : List q_V) (v : q_H) (G : q_Gr) (Q : q_V → q_H → q_Gr → Prop) : q_wp d 15 20 [z0, z1] (.inr (.inr (.inl a)) :: st) v G Q = q_wp d 15 21 [z0, z1] (.inr (.inr (.inl a)) :: .inr (.inr (.inl a)) :: st) v G Q := q_w_dupP c_15_20
theorem c_15_21 : q_code 15 21 = (.getfield 15, 3, 1, 1, 0, 229, 0) := by decide +kernel
theorem e_15_21 (d : Nat) (a : Nat) (z0 z1 : q_V) (st : List q_V) (v : q_H) (G : q_Gr) (Q : q_V → q_H → q_Gr → Prop) : q_wp d 15 21 [z0, z1] (.inr (.inr (.inl (some a))) :: st) v G Q = (((G.2.1 a).1 = 1) ∧ q_wp d 15 24 [z0, z1] (.inl (v a 1) :: st) v G Q) := q_w_getI c_15_21
theorem c_15_24 : q_code 15 24 = (.iconst 1, 1, 0, 0, 0, 0, 0) := by decide +kernel
theorem e_15_24 (d : Nat)  (z0 z1 : q_V) (st : List q_V) (v : q_H) (G : q_Gr) (Q : q_V → q_H → q_Gr → Prop) : q_wp d 15 24 [z0, z1] st v G Q = q_wp d 15 25 [z0, z1] (.inl 1 :: st) v G Q := q_w_iconst c_15_24
theorem c_15_25 : q_code 15 25 = (.iadd, 1, 0, 0, 0, 0, 0) := by decide +kernel
theorem e_15_25 (d : Nat) (a b : Int) (z0 z1 : q_V) (st : List q_V) (v : q_H) (G : q_Gr) (Q : q_V → q_H → q_Gr → Prop) : q_wp d 15 25 [z0, z1] (.inl b :: .inl a :: st) v G Q = q_wp d 15 26 [z0, z1] (.inl (a + b) :: st) v G Q := q_w_iadd c_15_25
theorem c_15_26 : q_code 15 26 = (.putfield 15, 3, 1, 1, 0, 229, 0) := by decide +kernel
theorem e_15_26 (d : Nat) (a : Nat) (b : Int) (z0 z1 : q_V) (st : List q_V) (v : q_H) (G : q_Gr) (Q : q_V → q_H → q_Gr → Prop) : q_wp d 15 26 [z0, z1] (.inl b :: .inr (.inr (.inl (some a))) :: st) v G Q = (((G.2.1 a).1 = 1) ∧ q_wp d 15 29 [z0, z1] st (q_up v a 1 b) G Q) := q_w_putI c_15_26
theorem c_15_29 : q_code 15 29 = (.return_, 1, 0, 0, 0, 0, 0) := by decide +kernel
theorem e_15_29 (d : Nat)  (z0 z1 : q_V) (v : q_H) (G : q_Gr) (Q : q_V → q_H → q_Gr → Prop) : q_wp d 15 29 [z0, z1] [] v G Q = Q (.inr (.inr (.inr ()))) v G := q_w_return c_15_29 rfl
theorem e_15 (d : Nat) (a0 : Nat) (a1 : Int) (v : q_H) (G : q_Gr) (Q : q_V → q_H → q_Gr → Prop) : q_call (d + 1) 15 [.inr (.inr (.inl (some a0))), .inl a1] v G Q = ((G.2.1 a0).1 = 1 ∧ q_wp d 15 0 [.inr (.inr (.inl (some a0))), .inl a1] [] v G Q) := by
  rw [q_call_in (by decide) (Nat.le_of_ble_eq_true rfl) rfl]
  exact congrArg (· ∧ _) (propext beq_iff_eq)
/-- all but the heads of loops: [] -/
def E15 := And.intro @e_15 (And.intro @e_15_0 (And.intro @e_15_1 (And.intro @e_15_4 (And.intro @e_15_6 (And.intro @e_15_9 (And.intro @e_15_10 (And.intro @e_15_13 (And.intro @e_15_14 (And.intro @e_15_17 (And.intro @e_15_18 (And.intro @e_15_19 (And.intro @e_15_20 (And.intro @e_15_21 (And.intro @e_15_24 (And.intro @e_15_25 (And.intro @e_15_26 (@e_15_29)))))))))))))))))
/-! ProvenRows$Checker.<init>()V -/
theorem c_16_0 : q_code 16 0 = (.aload_n 0, 1, 0, 0, 0, 0, 0) := by decide +kernel
theorem e_16_0 (d : Nat) (a : Option Nat) (st : List q_V) (v : q_H) (G : q_Gr) (Q : q_V → q_H → q_Gr → Prop) : q_wp d 16 0 [.inr (.inr (.inl a))] st v G Q = q_wp d 16 1 [.inr (.inr (.inl a))] (.inr (.inr (.inl a)) :: st) v G Q := q_w_aload_n c_16_0 rfl
theorem c_16_1 : q_code 16 1 = (.invokespecial 3, 3, 1000, 1, 0, 178, 0) := by decide +kernel
theorem e_16_1 (d : Nat) (a : Nat) (z0 : q_V) (v : q_H) (G : q_Gr) (Q : q_V → q_H → q_Gr → Prop) : q_wp d 16 1 [z0] [.inr (.inr (.inl (some a)))] v G Q = q_wp d 16 4 [z0] [] v G Q := q_w_obj c_16_1 (Nat.le_of_ble_eq_true rfl)
theorem c_16_4 : q_code 16 4 = (.aload_n 0, 1, 0, 0, 0, 0, 0) := by decide +kernel
theorem e_16_4 (d : Nat) (a : Option Nat) (st : List q_V) (v : q_H) (G : q_Gr) (Q : q_V → q_H → q_Gr → Prop) : q_wp d 16 4 [.inr (.inr (.inl a))] st v G Q = q_wp d 16 5 [.inr (.inr (.inl a))] (.inr (.inr (.inl a)) :: st) v G Q := q_w_aload_n c_16_4 rfl
theorem c_16_5 : q_code 16 5 = (.new 9, 3, 3, 2, 0, 179, 0) := by decide +kernel
theorem e_16_5 (d : Nat)  (z0 : q_V) (st : List q_V) (v : q_H) (G : q_Gr) (Q : q_V → q_H → q_Gr → Prop) : q_wp d 16 5 [z0] st v G Q = ((q_room G 2) ∧ q_wp d 16 8 [z0] (.inr (.inr (.inl (some (32 + G.2.2.1)))) :: st) (q_zr v (32 + G.2.2.1)) (q_mk G 3 2) Q) := q_w_new c_16_5
theorem c_16_8 : q_code 16 8 = (.dup, 1, 0, 0, 0, 0, 0) := by decide +kernel
theorem e_16_8 (d : Nat) (a : Option Nat) (z0 : q_V) (st : List q_V) (v : q_H) (G : q_Gr) (Q : q_V → q_H → q_Gr → Prop) : q_wp d 16 8 [z0] (.inr (.inr (.inl a)) :: st) v G Q = q_wp d 16 9 [z0] (.inr (.inr (.inl a)) :: .inr (.inr (.inl a)) :: st) v G Q := q_w_dupP c_16_8
theorem c_16_9 : q_code 16 9 = (.sipush 600, 3, 0, 0, 0, 0, 0) := by decide +kernel
theorem e_16_9 (d : Nat)  (z0 : q_V) (st : List q_V) (v : q_H) (G : q_Gr) (Q : q_V → q_H → q_Gr → Prop) : q_wp d 16 9 [z0] st v G Q = q_wp d 16 12 [z0] (.inl 600 :: st) v G Q := (q_w_sipush c_16_9).trans (by simp only [show ((-32768 : Int) ≤ 600 ∧ (600 : Int) ≤ 32767) = True by decide, true_and])
theorem c_16_12 : q_code 16 12 = (.invokespecial 11, 3, 35, 2, 0, 180, 0) := by decide +kernel
theorem e_16_12 (d : Nat) (x0 x1 y0 y1 : q_V) (z0 : q_V) (v : q_H) (G : q_Gr) (Q : q_V → q_H → q_Gr → Prop) : q_wp d 16 12 [z0] [x1, x0, y0, y1] v G Q = q_call d 35 [x0, x1] v G (fun r v G => q_wp d 16 15 [z0] (q_push r [y0, y1]) v G Q) := q_wp_ca (m2 := 35) (k := 2) (as := [x0, x1]) (rest := [y0, y1]) (congrArg q_kind c_16_12) (congrArg (fun w => w.2.2.1) c_16_12) (congrArg (fun w => w.2.2.2.1) c_16_12) rfl (Nat.le_of_ble_eq_true rfl) rfl
theorem c_16_15 : q_code 16 15 = (.putfield 14, 3, 2, 0, 1, 195, 0) := by decide +kernel
theorem e_16_15 (d : Nat) (a : Nat) (b : Option Nat) (z0 : q_V) (st : List q_V) (v : q_H) (G : q_Gr) (Q : q_V → q_H → q_Gr → Prop) : q_wp d 16 15 [z0] (.inr (.inr (.inl b)) :: .inr (.inr (.inl (some a))) :: st) v G Q = (((G.2.1 a).1 = 2) ∧ q_wp d 16 18 [z0] st v (q_upr G.1 a 0 b, G.2) Q) := q_w_putP c_16_15
theorem c_16_18 : q_code 16 18 = (.aload_n 0, 1, 0, 0, 0, 0, 0) := by decide +kernel
theorem e_16_18 (d : Nat) (a : Option Nat) (st : List q_V) (v : q_H) (G : q_Gr) (Q : q_V → q_H → q_Gr → Prop) : q_wp d 16 18 [.inr (.inr (.inl a))] st v G Q = q_wp d 16 19 [.inr (.inr (.inl a))] (.inr (.inr (.inl a)) :: st) v G Q := q_w_aload_n c_16_18 rfl
theorem c_16_19 : q_code 16 19 = (.new 20, 3, 9, 4, 0, 181, 0) := by decide +kernel
theorem e_16_19 (d : Nat)  (z0 : q_V) (st : List q_V) (v : q_H) (G : q_Gr) (Q : q_V → q_H → q_Gr → Prop) : q_wp d 16 19 [z0] st v G Q = ((q_room G 4) ∧ q_wp d 16 22 [z0] (.inr (.inr (.inl (some (32 + G.2.2.1)))) :: st) (q_zr v (32 + G.2.2.1)) (q_mk G 9 4) Q) := q_w_new c_16_19
theorem c_16_22 : q_code 16 22 = (.dup, 1, 0, 0, 0, 0, 0) := by decide +kernel
theorem e_16_22 (d : Nat) (a : Option Nat) (z0 : q_V) (st : List q_V) (v : q_H) (G : q_Gr) (Q : q_V → q_H → q_Gr → Prop) : q_wp d 16 22 [z0] (.inr (.inr (.inl a)) :: st) v G Q = q_wp d 16 23 [z0] (.inr (.inr (.inl a)) :: .inr (.inr (.inl a)) :: st) v G Q := q_w_dupP c_16_22
theorem c_16_23 : q_code 16 23 = (.invokespecial 22, 3, 104, 1, 1, 4, 0) := by decide +kernel
theorem e_16_23 (d : Nat) (x0 y0 y1 : q_V) (z0 : q_V) (v : q_H) (G : q_Gr) (Q : q_V → q_H → q_Gr → Prop) : q_wp d 16 23 [z0] [x0, y0, y1] v G Q = q_call d 104 [x0] v G (fun r v G => q_wp d 16 26 [z0] (q_push r [y0, y1]) v G Q) := q_wp_ca (m2 := 104) (k := 1) (as := [x0]) (rest := [y0, y1]) (congrArg q_kind c_16_23) (congrArg (fun w => w.2.2.1) c_16_23) (congrArg (fun w => w.2.2.2.1) c_16_23) rfl (Nat.le_of_ble_eq_true rfl) rfl
theorem c_16_26 : q_code 16 26 = (.putfield 23, 3, 2, 3, 1, 198, 0) := by decide +kernel
theorem e_16_26 (d : Nat) (a : Nat) (b : Option Nat) (z0 : q_V) (st : List q_V) (v : q_H) (G : q_Gr) (Q : q_V → q_H → q_Gr → Prop) : q_wp d 16 26 [z0] (.inr (.inr (.inl b)) :: .inr (.inr (.inl (some a))) :: st) v G Q = (((G.2.1 a).1 = 2) ∧ q_wp d 16 29 [z0] st v (q_upr G.1 a 3 b, G.2) Q) := q_w_putP c_16_26
theorem c_16_29 : q_code 16 29 = (.aload_n 0, 1, 0, 0, 0, 0, 0) := by decide +kernel
theorem e_16_29 (d : Nat) (a : Option Nat) (st : List q_V) (v : q_H) (G : q_Gr) (Q : q_V → q_H → q_Gr → Prop) : q_wp d 16 29 [.inr (.inr (.inl a))] st v G Q = q_wp d 16 30 [.inr (.inr (.inl a))] (.inr (.inr (.inl a)) :: st) v G Q := q_w_aload_n c_16_29 rfl
theorem c_16_30 : q_code 16 30 = (.bipush 16, 2, 0, 0, 0, 0, 0) := by decide +kernel
theorem e_16_30 (d : Nat)  (z0 : q_V) (st : List q_V) (v : q_H) (G : q_Gr) (Q : q_V → q_H → q_Gr → Prop) : q_wp d 16 30 [z0] st v G Q = q_wp d 16 32 [z0] (.inl 16 :: st) v G Q := (q_w_bipush c_16_30).trans (by simp only [show ((-128 : Int) ≤ 16 ∧ (16 : Int) ≤ 127) = True by decide, true_and])
theorem c_16_32 : q_code 16 32 = (.newarray .boolean, 2, 0, 0, 0, 0, 0) := by decide +kernel
theorem e_16_32 (d : Nat) (a : Int) (z0 : q_V) (st : List q_V) (v : q_H) (G : q_Gr) (Q : q_V → q_H → q_Gr → Prop) : q_wp d 16 32 [z0] (.inl a :: st) v G Q = ((0 ≤ a ∧ q_room G a.toNat) ∧ q_wp d 16 34 [z0] (.inr (.inr (.inl (some (32 + G.2.2.1)))) :: st) (q_zr v (32 + G.2.2.1)) (q_mk G 21 a.toNat) Q) := q_w_newZ c_16_32
theorem c_16_34 : q_code 16 34 = (.putfield 27, 3, 2, 4, 1, 199, 0) := by decide +kernel
theorem e_16_34 (d : Nat) (a : Nat) (b : Option Nat) (z0 : q_V) (st : List q_V) (v : q_H) (G : q_Gr) (Q : q_V → q_H → q_Gr → Prop) : q_wp d 16 34 [z0] (.inr (.inr (.inl b)) :: .inr (.inr (.inl (some a))) :: st) v G Q = (((G.2.1 a).1 = 2) ∧ q_wp d 16 37 [z0] st v (q_upr G.1 a 4 b, G.2) Q) := q_w_putP c_16_34
theorem c_16_37 : q_code 16 37 = (.aload_n 0, 1, 0, 0, 0, 0, 0) := by decide +kernel
theorem e_16_37 (d : Nat) (a : Option Nat) (st : List q_V) (v : q_H) (G : q_Gr) (Q : q_V → q_H → q_Gr → Prop) : q_wp d 16 37 [.inr (.inr (.inl a))] st v G Q = q_wp d 16 38 [.inr (.inr (.inl a))] (.inr (.inr (.inl a)) :: st) v G Q := q_w_aload_n c_16_37 rfl
theorem c_16_38 : q_code 16 38 = (.bipush 32, 2, 0, 0, 0, 0, 0) := by decide +kernel
theorem e_16_38 (d : Nat)  (z0 : q_V) (st : List q_V) (v : q_H) (G : q_Gr) (Q : q_V → q_H → q_Gr → Prop) : q_wp d 16 38 [z0] st v G Q = q_wp d 16 40 [z0] (.inl 32 :: st) v G Q := (q_w_bipush c_16_38).trans (by simp only [show ((-128 : Int) ≤ 32 ∧ (32 : Int) ≤ 127) = True by decide, true_and])
theorem c_16_40 : q_code 16 40 = (.newarray .boolean, 2, 0, 0, 0, 0, 0) := by decide +kernel
theorem e_16_40 (d : Nat) (a : Int) (z0 : q_V) (st : List q_V) (v : q_H) (G : q_Gr) (Q : q_V → q_H → q_Gr → Prop) : q_wp d 16 40 [z0] (.inl a :: st) v G Q = ((0 ≤ a ∧ q_room G a.toNat) ∧ q_wp d 16 42 [z0] (.inr (.inr (.inl (some (32 + G.2.2.1)))) :: st) (q_zr v (32 + G.2.2.1)) (q_mk G 21 a.toNat) Q) := q_w_newZ c_16_40
theorem c_16_42 : q_code 16 42 = (.putfield 31, 3, 2, 5, 1, 200, 0) := by decide +kernel
theorem e_16_42 (d : Nat) (a : Nat) (b : Option Nat) (z0 : q_V) (st : List q_V) (v : q_H) (G : q_Gr) (Q : q_V → q_H → q_Gr → Prop) : q_wp d 16 42 [z0] (.inr (.inr (.inl b)) :: .inr (.inr (.inl (some a))) :: st) v G Q = (((G.2.1 a).1 = 2) ∧ q_wp d 16 45 [z0] st v (q_upr G.1 a 5 b, G.2) Q) := q_w_putP c_16_42
theorem c_16_45 : q_code 16 45 = (.aload_n 0, 1, 0, 0, 0, 0, 0) := by decide +kernel
theorem e_16_45 (d : Nat) (a : Option Nat) (st : List q_V) (v : q_H) (G : q_Gr) (Q : q_V → q_H → q_Gr → Prop) : q_wp d 16 45 [.inr (.inr (.inl a))] st v G Q = q_wp d 16 46 [.inr (.inr (.inl a))] (.inr (.inr (.inl a)) :: st) v G Q := q_w_aload_n c_16_45 rfl
theorem c_16_46 : q_code 16 46 = (.bipush 16, 2, 0, 0, 0, 0, 0) := by decide +kernel
theorem e_16_46 (d : Nat)  (z0 : q_V) (st : List q_V) (v : q_H) (G : q_Gr) (Q : q_V → q_H → q_Gr → Prop) : q_wp d 16 46 [z0] st v G Q = q_wp d 16 48 [z0] (.inl 16 :: st) v G Q := (q_w_bipush c_16_46).trans (by simp only [show ((-128 : Int) ≤ 16 ∧ (16 : Int) ≤ 127) = True by decide, true_and])
theorem c_16_48 : q_code 16 48 = (.newarray .int, 2, 0, 0, 0, 0, 0) := by decide +kernel
theorem e_16_48 (d : Nat) (a : Int) (z0 : q_V) (st : List q_V) (v : q_H) (G : q_Gr) (Q : q_V → q_H → q_Gr → Prop) : q_wp d 16 48 [z0] (.inl a :: st) v G Q = ((0 ≤ a ∧ q_room G a.toNat) ∧ q_wp d 16 50 [z0] (.inr (.inr (.inl (some (32 + G.2.2.1)))) :: st) (q_zr v (32 + G.2.2.1)) (q_mk G 20 a.toNat) Q) := q_w_newI c_16_48
theorem c_16_50 : q_code 16 50 = (.putfield 34, 3, 2, 6, 1, 201, 0) := by decide +kernel
theorem e_16_50 (d : Nat) (a : Nat) (b : Option Nat) (z0 : q_V) (st : List q_V) (v : q_H) (G : q_Gr) (Q : q_V → q_H → q_Gr → Prop) : q_wp d 16 50 [z0] (.inr (.inr (.inl b)) :: .inr (.inr (.inl (some a))) :: st) v G Q = (((G.2.1 a).1 = 2) ∧ q_wp d 16 53 [z0] st v (q_upr G.1 a 6 b, G.2) Q) := q_w_putP c_16_50
theorem c_16_53 : q_code 16 53 = (.aload_n 0, 1, 0, 0, 0, 0, 0) := by decide +kernel
theorem e_16_53 (d : Nat) (a : Option Nat) (st : List q_V) (v : q_H) (G : q_Gr) (Q : q_V → q_H → q_Gr → Prop) : q_wp d 16 53 [.inr (.inr (.inl a))] st v G Q = q_wp d 16 54 [.inr (.inr (.inl a))] (.inr (.inr (.inl a)) :: st) v G Q := q_w_aload_n c_16_53 rfl
theorem c_16_54 : q_code 16 54 = (.bipush 16, 2, 0, 0, 0, 0, 0) := by decide +kernel
theorem e_16_54 (d : Nat)  (z0 : q_V) (st : List q_V) (v : q_H) (G : q_Gr) (Q : q_V → q_H → q_Gr → Prop) : q_wp d 16 54 [z0] st v G Q = q_wp d 16 56 [z0] (.inl 16 :: st) v G Q := (q_w_bipush c_16_54).trans (by simp only [show ((-128 : Int) ≤ 16 ∧ (16 : Int) ≤ 127) = True by decide, true_and])
theorem c_16_56 : q_code 16 56 = (.newarray .int, 2, 0, 0, 0, 0, 0) := by decide +kernel
theorem e_16_56 (d : Nat) (a : Int) (z0 : q_V) (st : List q_V) (v : q_H) (G : q_Gr) (Q : q_V → q_H → q_Gr → Prop) : q_wp d 16 56 [z0] (.inl a :: st) v G Q = ((0 ≤ a ∧ q_room G a.toNat) ∧ q_wp d 16 58 [z0] (.inr (.inr (.inl (some (32 + G.2.2.1)))) :: st) (q_zr v (32 + G.2.2.1)) (q_mk G 20 a.toNat) Q) := q_w_newI c_16_56
theorem c_16_58 : q_code 16 58 = (.putfield 38, 3, 2, 7, 1, 202, 0) := by decide +kernel
theorem e_16_58 (d : Nat) (a : Nat) (b : Option Nat) (z0 : q_V) (st : List q_V) (v : q_H) (G : q_Gr) (Q : q_V → q_H → q_Gr → Prop) : q_wp d 16 58 [z0] (.inr (.inr (.inl b)) :: .inr (.inr (.inl (some a))) :: st) v G Q = (((G.2.1 a).1 = 2) ∧ q_wp d 16 61 [z0] st v (q_upr G.1 a 7 b, G.2) Q) := q_w_putP c_16_58
theorem c_16_61 : q_code 16 61 = (.aload_n 0, 1, 0, 0, 0, 0, 0) := by decide +kernel
theorem e_16_61 (d : Nat) (a : Option Nat) (st : List q_V) (v : q_H) (G : q_Gr) (Q : q_V → q_H → q_Gr → Prop) : q_wp d 16 61 [.inr (.inr (.inl a))] st v G Q = q_wp d 16 62 [.inr (.inr (.inl a))] (.inr (.inr (.inl a)) :: st) v G Q := q_w_aload_n c_16_61 rfl
theorem c_16_62 : q_code 16 62 = (.new 41, 3, 6, 3, 0, 194, 0) := by decide +kernel
theorem e_16_62 (d : Nat)  (z0 : q_V) (st : List q_V) (v : q_H) (G : q_Gr) (Q : q_V → q_H → q_Gr → Prop) : q_wp d 16 62 [z0] st v G Q = ((q_room G 3) ∧ q_wp d 16 65 [z0] (.inr (.inr (.inl (some (32 + G.2.2.1)))) :: st) (q_zr v (32 + G.2.2.1)) (q_mk G 6 3) Q) := q_w_new c_16_62
theorem c_16_65 : q_code 16 65 = (.dup, 1, 0, 0, 0, 0, 0) := by decide +kernel
theorem e_16_65 (d : Nat) (a : Option Nat) (z0 : q_V) (st : List q_V) (v : q_H) (G : q_Gr) (Q : q_V → q_H → q_Gr → Prop) : q_wp d 16 65 [z0] (.inr (.inr (.inl a)) :: st) v G Q = q_wp d 16 66 [z0] (.inr (.inr (.inl a)) :: .inr (.inr (.inl a)) :: st) v G Q := q_w_dupP c_16_65
theorem c_16_66 : q_code 16 66 = (.invokespecial 43, 3, 76, 1, 1, 5, 0) := by decide +kernel
theorem e_16_66 (d : Nat) (x0 y0 y1 : q_V) (z0 : q_V) (v : q_H) (G : q_Gr) (Q : q_V → q_H → q_Gr → Prop) : q_wp d 16 66 [z0] [x0, y0, y1] v G Q = q_call d 76 [x0] v G (fun r v G => q_wp d 16 69 [z0] (q_push r [y0, y1]) v G Q) := q_wp_ca (m2 := 76) (k := 1) (as := [x0]) (rest := [y0, y1]) (congrArg q_kind c_16_66) (congrArg (fun w => w.2.2.1) c_16_66) (congrArg (fun w => w.2.2.2.1) c_16_66) rfl (Nat.le_of_ble_eq_true rfl) rfl
theorem c_16_69 : q_code 16 69 = (.putfield 44, 3, 2, 10, 1, 205, 0) := by decide +kernel
theorem e_16_69 (d : Nat) (a : Nat) (b : Option Nat) (z0 : q_V) (st : List q_V) (v : q_H) (G : q_Gr) (Q : q_V → q_H → q_Gr → Prop) : q_wp d 16 69 [z0] (.inr (.inr (.inl b)) :: .inr (.inr (.inl (some a))) :: st) v G Q = (((G.2.1 a).1 = 2) ∧ q_wp d 16 72 [z0] st v (q_upr G.1 a 10 b, G.2) Q) := q_w_putP c_16_69
theorem c_16_72 : q_code 16 72 = (.aload_n 0, 1, 0, 0, 0, 0, 0) := by decide +kernel
theorem e_16_72 (d : Nat) (a : Option Nat) (st : List q_V) (v : q_H) (G : q_Gr) (Q : q_V → q_H → q_Gr → Prop) : q_wp d 16 72 [.inr (.inr (.inl a))] st v G Q = q_wp d 16 73 [.inr (.inr (.inl a))] (.inr (.inr (.inl a)) :: st) v G Q := q_w_aload_n c_16_72 rfl
theorem c_16_73 : q_code 16 73 = (.new 41, 3, 6, 3, 0, 194, 0) := by decide +kernel
theorem e_16_73 (d : Nat)  (z0 : q_V) (st : List q_V) (v : q_H) (G : q_Gr) (Q : q_V → q_H → q_Gr → Prop) : q_wp d 16 73 [z0] st v G Q = ((q_room G 3) ∧ q_wp d 16 76 [z0] (.inr (.inr (.inl (some (32 + G.2.2.1)))) :: st) (q_zr v (32 + G.2.2.1)) (q_mk G 6 3) Q) := q_w_new c_16_73
theorem c_16_76 : q_code 16 76 = (.dup, 1, 0, 0, 0, 0, 0) := by decide +kernel
theorem e_16_76 (d : Nat) (a : Option Nat) (z0 : q_V) (st : List q_V) (v : q_H) (G : q_Gr) (Q : q_V → q_H → q_Gr → Prop) : q_wp d 16 76 [z0] (.inr (.inr (.inl a)) :: st) v G Q = q_wp d 16 77 [z0] (.inr (.inr (.inl a)) :: .inr (.inr (.inl a)) :: st) v G Q := q_w_dupP c_16_76
theorem c_16_77 : q_code 16 77 = (.invokespecial 43, 3, 76, 1, 1, 5, 0) := by decide +kernel
theorem e_16_77 (d : Nat) (x0 y0 y1 : q_V) (z0 : q_V) (v : q_H) (G : q_Gr) (Q : q_V → q_H → q_Gr → Prop) : q_wp d 16 77 [z0] [x0, y0, y1] v G Q = q_call d 76 [x0] v G (fun r v G => q_wp d 16 80 [z0] (q_push r [y0, y1]) v G Q) := q_wp_ca (m2 := 76) (k := 1) (as := [x0]) (rest := [y0, y1]) (congrArg q_kind c_16_77) (congrArg (fun w => w.2.2.1) c_16_77) (congrArg (fun w => w.2.2.2.1) c_16_77) rfl (Nat.le_of_ble_eq_true rfl) rfl
theorem c_16_80 : q_code 16 80 = (.putfield 48, 3, 2, 11, 1, 206, 0) := by decide +kernel
theorem e_16_80 (d : Nat) (a : Nat) (b : Option Nat) (z0 : q_V) (st : List q_V) (v : q_H) (G : q_Gr) (Q : q_V → q_H → q_Gr → Prop) : q_wp d 16 80 [z0] (.inr (.inr (.inl b)) :: .inr (.inr (.inl (some a))) :: st) v G Q = (((G.2.1 a).1 = 2) ∧ q_wp d 16 83 [z0] st v (q_upr G.1 a 11 b, G.2) Q) := q_w_putP c_16_80
theorem c_16_83 : q_code 16 83 = (.aload_n 0, 1, 0, 0, 0, 0, 0) := by decide +kernel
theorem e_16_83 (d : Nat) (a : Option Nat) (st : List q_V) (v : q_H) (G : q_Gr) (Q : q_V → q_H → q_Gr → Prop) : q_wp d 16 83 [.inr (.inr (.inl a))] st v G Q = q_wp d 16 84 [.inr (.inr (.inl a))] (.inr (.inr (.inl a)) :: st) v G Q := q_w_aload_n c_16_83 rfl
theorem c_16_84 : q_code 16 84 = (.new 9, 3, 3, 2, 0, 179, 0) := by decide +kernel
theorem e_16_84 (d : Nat)  (z0 : q_V) (st : List q_V) (v : q_H) (G : q_Gr) (Q : q_V → q_H → q_Gr → Prop) : q_wp d 16 84 [z0] st v G Q = ((q_room G 2) ∧ q_wp d 16 87 [z0] (.inr (.inr (.inl (some (32 + G.2.2.1)))) :: st) (q_zr v (32 + G.2.2.1)) (q_mk G 3 2) Q) := q_w_new c_16_84
theorem c_16_87 : q_code 16 87 = (.dup, 1, 0, 0, 0, 0, 0) := by decide +kernel
theorem e_16_87 (d : Nat) (a : Option Nat) (z0 : q_V) (st : List q_V) (v : q_H) (G : q_Gr) (Q : q_V → q_H → q_Gr → Prop) : q_wp d 16 87 [z0] (.inr (.inr (.inl a)) :: st) v G Q = q_wp d 16 88 [z0] (.inr (.inr (.inl a)) :: .inr (.inr (.inl a)) :: st) v G Q := q_w_dupP c_16_87
theorem c_16_88 : q_code 16 88 = (.bipush 48, 2, 0, 0, 0, 0, 0) := by decide +kernel
theorem e_16_88 (d : Nat)  (z0 : q_V) (st : List q_V) (v : q_H) (G : q_Gr) (Q : q_V → q_H → q_Gr → Prop) : q_wp d 16 88 [z0] st v G Q = q_wp d 16 90 [z0] (.inl 48 :: st) v G Q := (q_w_bipush c_16_88).trans (by simp only [show ((-128 : Int) ≤ 48 ∧ (48 : Int) ≤ 127) = True by decide, true_and])
theorem c_16_90 : q_code 16 90 = (.invokespecial 11, 3, 35, 2, 0, 180, 0) := by decide +kernel
theorem e_16_90 (d : Nat) (x0 x1 y0 y1 : q_V) (z0 : q_V) (v : q_H) (G : q_Gr) (Q : q_V → q_H → q_Gr → Prop) : q_wp d 16 90 [z0] [x1, x0, y0, y1] v G Q = q_call d 35 [x0, x1] v G (fun r v G => q_wp d 16 93 [z0] (q_push r [y0, y1]) v G Q) := q_wp_ca (m2 := 35) (k := 2) (as := [x0, x1]) (rest := [y0, y1]) (congrArg q_kind c_16_90) (congrArg (fun w => w.2.2.1) c_16_90) (congrArg (fun w => w.2.2.2.1) c_16_90) rfl (Nat.le_of_ble_eq_true rfl) rfl
theorem c_16_93 : q_code 16 93 = (.putfield 51, 3, 2, 13, 1, 208, 0) := by decide +kernel
theorem e_16_93 (d : Nat) (a : Nat) (b : Option Nat) (z0 : q_V) (st : List q_V) (v : q_H) (G : q_Gr) (Q : q_V → q_H → q_Gr → Prop) : q_wp d 16 93 [z0] (.inr (.inr (.inl b)) :: .inr (.inr (.inl (some a))) :: st) v G Q = (((G.2.1 a).1 = 2) ∧ q_wp d 16 96 [z0] st v (q_upr G.1 a 13 b, G.2) Q) := q_w_putP c_16_93
theorem c_16_96 : q_code 16 96 = (.return_, 1, 0, 0, 0, 0, 0) := by decide +kernel
theorem e_16_96 (d : Nat)  (z0 : q_V) (v : q_H) (G : q_Gr) (Q : q_V → q_H → q_Gr → Prop) : q_wp d 16 96 [z0] [] v G Q = Q (.inr (.inr (.inr ()))) v G := q_w_return c_16_96 rfl
theorem e_16 (d : Nat) (a0 : Nat) (v : q_H) (G : q_Gr) (Q : q_V → q_H → q_Gr → Prop) : q_call (d + 1) 16 [.inr (.inr (.inl (some a0)))] v G Q = ((G.2.1 a0).1 = 2 ∧ q_wp d 16 0 [.inr (.inr (.inl (some a0)))] [] v G Q) := by
  rw [q_call_in (by decide) (Nat.le_of_ble_eq_true rfl) rfl]
  exact congrArg (· ∧ _) (propext beq_iff_eq)
/-- all but the heads of loops: [] -/
def E16 := And.intro @e_16 (And.intro @e_16_0 (And.intro @e_16_1 (And.intro @e_16_4 (And.intro @e_16_5 (And.intro @e_16_8 (And.intro @e_16_9 (And.intro @e_16_12 (And.intro @e_16_15 (And.intro @e_16_18 (And.intro @e_16_19 (And.intro @e_16_22 (And.intro @e_16_23 (And.intro @e_16_26 (And.intro @e_16_29 (And.intro @e_16_30 (And.intro @e_16_32 (And.intro @e_16_34 (And.intro @e_16_37 (And.intro @e_16_38 (And.intro @e_16_40 (And.intro @e_16_42 (And.intro @e_16_45 (And.intro @e_16_46 (And.intro @e_16_48 (And.intro @e_16_50 (And.intro @e_16_53 (And.intro @e_16_54 (And.intro @e_16_56 (And.intro @e_16_58 (And.intro @e_16_61 (And.intro @e_16_62 (And.intro @e_16_65 (And.intro @e_16_66 (And.intro @e_16_69 (And.intro @e_16_72 (And.intro @e_16_73 (And.intro @e_16_76 (And.intro @e_16_77 (And.intro @e_16_80 (And.intro @e_16_83 (And.intro @e_16_84 (And.intro @e_16_87 (And.intro @e_16_88 (And.intro @e_16_90 (And.intro @e_16_93 (@e_16_96))))))))))))))))))))))))))))))))))))))))))))))
/-! ProvenRows$Checker.given()LProvenRows$Numbers; -/
theorem c_17_0 : q_code 17 0 = (.aload_n 0, 1, 0, 0, 0, 0, 0) := by decide +kernel
theorem e_17_0 (d : Nat) (a : Option Nat) (st : List q_V) (v : q_H) (G : q_Gr) (Q : q_V → q_H → q_Gr → Prop) : q_wp d 17 0 [.inr (.inr (.inl a))] st v G Q = q_wp d 17 1 [.inr (.inr (.inl a))] (.inr (.inr (.inl a)) :: st) v G Q := q_w_aload_n c_17_0 rfl
theorem c_17_1 : q_code 17 1 = (.getfield 14, 3, 2, 0, 1, 195, 0) := by decide +kernel
theorem e_17_1 (d : Nat) (a : Nat) (z0 : q_V) (st : List q_V) (v : q_H) (G : q_Gr) (Q : q_V → q_H → q_Gr → Prop) : q_wp d 17 1 [z0] (.inr (.inr (.inl (some a))) :: st) v G Q = (((G.2.1 a).1 = 2) ∧ q_wp d 17 4 [z0] (.inr (.inr (.inl (G.1 a 0))) :: st) v G Q) := q_w_getP c_17_1
theorem c_17_4 : q_code 17 4 = (.areturn, 1, 0, 0, 0, 0, 0) := by decide +kernel
theorem e_17_4 (d : Nat) (a : Option Nat) (z0 : q_V) (v : q_H) (G : q_Gr) (Q : q_V → q_H → q_Gr → Prop) : q_wp d 17 4 [z0] [.inr (.inr (.inl a))] v G Q = Q (.inr (.inr (.inl a))) v G := q_w_areturn c_17_4 ⟨_, rfl⟩
theorem e_17 (d : Nat) (a0 : Nat) (v : q_H) (G : q_Gr) (Q : q_V → q_H → q_Gr → Prop) : q_call (d + 1) 17 [.inr (.inr (.inl (some a0)))] v G Q = ((G.2.1 a0).1 = 2 ∧ q_wp d 17 0 [.inr (.inr (.inl (some a0)))] [] v G Q) := by
  rw [q_call_in (by decide) (Nat.le_of_ble_eq_true rfl) rfl]
  exact congrArg (· ∧ _) (propext beq_iff_eq)
/-- all but the heads of loops: [] -/
def E17 := And.intro @e_17 (And.intro @e_17_0 (And.intro @e_17_1 (@e_17_4)))
/-! ProvenRows$Checker.result()LProvenRows$Numbers; -/
theorem c_18_0 : q_code 18 0 = (.aload_n 0, 1, 0, 0, 0, 0, 0) := by decide +kernel
theorem e_18_0 (d : Nat) (a : Option Nat) (st : List q_V) (v : q_H) (G : q_Gr) (Q : q_V → q_H → q_Gr → Prop) : q_wp d 18 0 [.inr (.inr (.inl a))] st v G Q = q_wp d 18 1 [.inr (.inr (.inl a))] (.inr (.inr (.inl a)) :: st) v G Q := q_w_aload_n c_18_0 rfl
theorem c_18_1 : q_code 18 1 = (.getfield 51, 3, 2, 13, 1, 208, 0) := by decide +kernel
theorem e_18_1 (d : Nat) (a : Nat) (z0 : q_V) (st : List q_V) (v : q_H) (G : q_Gr) (Q : q_V → q_H → q_Gr → Prop) : q_wp d 18 1 [z0] (.inr (.inr (.inl (some a))) :: st) v G Q = (((G.2.1 a).1 = 2) ∧ q_wp d 18 4 [z0] (.inr (.inr (.inl (G.1 a 13))) :: st) v G Q) := q_w_getP c_18_1
theorem c_18_4 : q_code 18 4 = (.areturn, 1, 0, 0, 0, 0, 0) := by decide +kernel
theorem e_18_4 (d : Nat) (a : Option Nat) (z0 : q_V) (v : q_H) (G : q_Gr) (Q : q_V → q_H → q_Gr → Prop) : q_wp d 18 4 [z0] [.inr (.inr (.inl a))] v G Q = Q (.inr (.inr (.inl a))) v G := q_w_areturn c_18_4 ⟨_, rfl⟩
theorem e_18 (d : Nat) (a0 : Nat) (v : q_H) (G : q_Gr) (Q : q_V → q_H → q_Gr → Prop) : q_call (d + 1) 18 [.inr (.inr (.inl (some a0)))] v G Q = ((G.2.1 a0).1 = 2 ∧ q_wp d 18 0 [.inr (.inr (.inl (some a0)))] [] v G Q) := by
  rw [q_call_in (by decide) (Nat.le_of_ble_eq_true rfl) rfl]
  exact congrArg (· ∧ _) (propext beq_iff_eq)
/-- all but the heads of loops: [] -/
def E18 := And.intro @e_18 (And.intro @e_18_0 (And.intro @e_18_1 (@e_18_4)))
/-! ProvenRows$Checker.reason()I -/
theorem c_19_0 : q_code 19 0 = (.aload_n 0, 1, 0, 0, 0, 0, 0) := by decide +kernel
theorem e_19_0 (d : Nat) (a : Option Nat) (st : List q_V) (v : q_H) (G : q_Gr) (Q : q_V → q_H → q_Gr → Prop) : q_wp d 19 0 [.inr (.inr (.inl a))] st v G Q = q_wp d 19 1 [.inr (.inr (.inl a))] (.inr (.inr (.inl a)) :: st) v G Q := q_w_aload_n c_19_0 rfl
theorem c_19_1 : q_code 19 1 = (.getfield 54, 3, 2, 2, 0, 197, 0) := by decide +kernel
theorem e_19_1 (d : Nat) (a : Nat) (z0 : q_V) (st : List q_V) (v : q_H) (G : q_Gr) (Q : q_V → q_H → q_Gr → Prop) : q_wp d 19 1 [z0] (.inr (.inr (.inl (some a))) :: st) v G Q = (((G.2.1 a).1 = 2) ∧ q_wp d 19 4 [z0] (.inl (v a 2) :: st) v G Q) := q_w_getI c_19_1
theorem c_19_4 : q_code 19 4 = (.ireturn, 1, 0, 0, 0, 0, 0) := by decide +kernel
theorem e_19_4 (d : Nat) (a : Int) (z0 : q_V) (v : q_H) (G : q_Gr) (Q : q_V → q_H → q_Gr → Prop) : q_wp d 19 4 [z0] [.inl a] v G Q = Q (.inl a) v G := q_w_ireturn c_19_4 rfl
theorem e_19 (d : Nat) (a0 : Nat) (v : q_H) (G : q_Gr) (Q : q_V → q_H → q_Gr → Prop) : q_call (d + 1) 19 [.inr (.inr (.inl (some a0)))] v G Q = ((G.2.1 a0).1 = 2 ∧ q_wp d 19 0 [.inr (.inr (.inl (some a0)))] [] v G Q) := by
  rw [q_call_in (by decide) (Nat.le_of_ble_eq_true rfl) rfl]
  exact congrArg (· ∧ _) (propext beq_iff_eq)
/-- all but the heads of loops: [] -/
def E19 := And.intro @e_19 (And.intro @e_19_0 (And.intro @e_19_1 (@e_19_4)))
/-! ProvenRows$Checker.wrong()I -/
theorem c_20_0 : q_code 20 0 = (.aload_n 0, 1, 0, 0, 0, 0, 0) := by decide +kernel
theorem e_20_0 (d : Nat) (a : Option Nat) (st : List q_V) (v : q_H) (G : q_Gr) (Q : q_V → q_H → q_Gr → Prop) : q_wp d 20 0 [.inr (.inr (.inl a))] st v G Q = q_wp d 20 1 [.inr (.inr (.inl a))] (.inr (.inr (.inl a)) :: st) v G Q := q_w_aload_n c_20_0 rfl
theorem c_20_1 : q_code 20 1 = (.getfield 58, 3, 2, 1, 0, 196, 0) := by decide +kernel
theorem e_20_1 (d : Nat) (a : Nat) (z0 : q_V) (st : List q_V) (v : q_H) (G : q_Gr) (Q : q_V → q_H → q_Gr → Prop) : q_wp d 20 1 [z0] (.inr (.inr (.inl (some a))) :: st) v G Q = (((G.2.1 a).1 = 2) ∧ q_wp d 20 4 [z0] (.inl (v a 1) :: st) v G Q) := q_w_getI c_20_1
theorem c_20_4 : q_code 20 4 = (.ireturn, 1, 0, 0, 0, 0, 0) := by decide +kernel
theorem e_20_4 (d : Nat) (a : Int) (z0 : q_V) (v : q_H) (G : q_Gr) (Q : q_V → q_H → q_Gr → Prop) : q_wp d 20 4 [z0] [.inl a] v G Q = Q (.inl a) v G := q_w_ireturn c_20_4 rfl
theorem e_20 (d : Nat) (a0 : Nat) (v : q_H) (G : q_Gr) (Q : q_V → q_H → q_Gr → Prop) : q_call (d + 1) 20 [.inr (.inr (.inl (some a0)))] v G Q = ((G.2.1 a0).1 = 2 ∧ q_wp d 20 0 [.inr (.inr (.inl (some a0)))] [] v G Q) := by
  rw [q_call_in (by decide) (Nat.le_of_ble_eq_true rfl) rfl]
  exact congrArg (· ∧ _) (propext beq_iff_eq)
/-- all but the heads of loops: [] -/
def E20 := And.intro @e_20 (And.intro @e_20_0 (And.intro @e_20_1 (@e_20_4)))
/-! ProvenRows$Checker.takes(LProvenRows$Act;II)Z -/
theorem c_21_0 : q_code 21 0 = (.aload_n 0, 1, 0, 0, 0, 0, 0) := by decide +kernel
theorem e_21_0 (d : Nat) (a : Option Nat) (z1 z2 z3 z4 : q_V) (st : List q_V) (v : q_H) (G : q_Gr) (Q : q_V → q_H → q_Gr → Prop) : q_wp d 21 0 [.inr (.inr (.inl a)), z1, z2, z3, z4] st v G Q = q_wp d 21 1 [.inr (.inr (.inl a)), z1, z2, z3, z4] (.inr (.inr (.inl a)) :: st) v G Q := q_w_aload_n c_21_0 rfl
theorem c_21_1 : q_code 21 1 = (.iconst 0, 1, 0, 0, 0, 0, 0) := by decide +kernel
theorem e_21_1 (d : Nat)  (z0 z1 z2 z3 z4 : q_V) (st : List q_V) (v : q_H) (G : q_Gr) (Q : q_V → q_H → q_Gr → Prop) : q_wp d 21 1 [z0, z1, z2, z3, z4] st v G Q = q_wp d 21 2 [z0, z1, z2, z3, z4] (.inl 0 :: st) v G Q := q_w_iconst c_21_1
theorem c_21_2 : q_code 21 2 = (.putfield 58, 3, 2, 1, 0, 196, 0) := by decide +kernel
theorem e_21_2 (d : Nat) (a : Nat) (b : Int) (z0 z1 z2 z3 z4 : q_V) (st : List q_V) (v : q_H) (G : q_Gr) (Q : q_V → q_H → q_Gr → Prop) : q_wp d 21 2 [z0, z1, z2, z3, z4] (.inl b :: .inr (.inr (.inl (some a))) :: st) v G Q = (((G.2.1 a).1 = 2) ∧ q_wp d 21 5 [z0, z1, z2, z3, z4] st (q_up v a 1 b) G Q) := q_w_putI c_21_2
theorem c_21_5 : q_code 21 5 = (.aload_n 0, 1, 0, 0, 0, 0, 0) := by decide +kernel
theorem e_21_5 (d : Nat) (a : Option Nat) (z1 z2 z3 z4 : q_V) (st : List q_V) (v : q_H) (G : q_Gr) (Q : q_V → q_H → q_Gr → Prop) : q_wp d 21 5 [.inr (.inr (.inl a)), z1, z2, z3, z4] st v G Q = q_wp d 21 6 [.inr (.inr (.inl a)), z1, z2, z3, z4] (.inr (.inr (.inl a)) :: st) v G Q := q_w_aload_n c_21_5 rfl
theorem c_21_6 : q_code 21 6 = (.iconst 0, 1, 0, 0, 0, 0, 0) := by decide +kernel
theorem e_21_6 (d : Nat)  (z0 z1 z2 z3 z4 : q_V) (st : List q_V) (v : q_H) (G : q_Gr) (Q : q_V → q_H → q_Gr → Prop) : q_wp d 21 6 [z0, z1, z2, z3, z4] st v G Q = q_wp d 21 7 [z0, z1, z2, z3, z4] (.inl 0 :: st) v G Q := q_w_iconst c_21_6
theorem c_21_7 : q_code 21 7 = (.putfield 54, 3, 2, 2, 0, 197, 0) := by decide +kernel
theorem e_21_7 (d : Nat) (a : Nat) (b : Int) (z0 z1 z2 z3 z4 : q_V) (st : List q_V) (v : q_H) (G : q_Gr) (Q : q_V → q_H → q_Gr → Prop) : q_wp d 21 7 [z0, z1, z2, z3, z4] (.inl b :: .inr (.inr (.inl (some a))) :: st) v G Q = (((G.2.1 a).1 = 2) ∧ q_wp d 21 10 [z0, z1, z2, z3, z4] st (q_up v a 2 b) G Q) := q_w_putI c_21_7
theorem c_21_10 : q_code 21 10 = (.aload_n 0, 1, 0, 0, 0, 0, 0) := by decide +kernel
theorem e_21_10 (d : Nat) (a : Option Nat) (z1 z2 z3 z4 : q_V) (st : List q_V) (v : q_H) (G : q_Gr) (Q : q_V → q_H → q_Gr → Prop) : q_wp d 21 10 [.inr (.inr (.inl a)), z1, z2, z3, z4] st v G Q = q_wp d 21 11 [.inr (.inr (.inl a)), z1, z2, z3, z4] (.inr (.inr (.inl a)) :: st) v G Q := q_w_aload_n c_21_10 rfl
theorem c_21_11 : q_code 21 11 = (.iconst 0, 1, 0, 0, 0, 0, 0) := by decide +kernel
theorem e_21_11 (d : Nat)  (z0 z1 z2 z3 z4 : q_V) (st : List q_V) (v : q_H) (G : q_Gr) (Q : q_V → q_H → q_Gr → Prop) : q_wp d 21 11 [z0, z1, z2, z3, z4] st v G Q = q_wp d 21 12 [z0, z1, z2, z3, z4] (.inl 0 :: st) v G Q := q_w_iconst c_21_11
theorem c_21_12 : q_code 21 12 = (.putfield 61, 3, 2, 12, 0, 207, 0) := by decide +kernel
theorem e_21_12 (d : Nat) (a : Nat) (b : Int) (z0 z1 z2 z3 z4 : q_V) (st : List q_V) (v : q_H) (G : q_Gr) (Q : q_V → q_H → q_Gr → Prop) : q_wp d 21 12 [z0, z1, z2, z3, z4] (.inl b :: .inr (.inr (.inl (some a))) :: st) v G Q = (((G.2.1 a).1 = 2) ∧ q_wp d 21 15 [z0, z1, z2, z3, z4] st (q_up v a 12 b) G Q) := q_w_putI c_21_12
theorem c_21_15 : q_code 21 15 = (.aload_n 0, 1, 0, 0, 0, 0, 0) := by decide +kernel
theorem e_21_15 (d : Nat) (a : Option Nat) (z1 z2 z3 z4 : q_V) (st : List q_V) (v : q_H) (G : q_Gr) (Q : q_V → q_H → q_Gr → Prop) : q_wp d 21 15 [.inr (.inr (.inl a)), z1, z2, z3, z4] st v G Q = q_wp d 21 16 [.inr (.inr (.inl a)), z1, z2, z3, z4] (.inr (.inr (.inl a)) :: st) v G Q := q_w_aload_n c_21_15 rfl
theorem c_21_16 : q_code 21 16 = (.getfield 44, 3, 2, 10, 1, 205, 0) := by decide +kernel
theorem e_21_16 (d : Nat) (a : Nat) (z0 z1 z2 z3 z4 : q_V) (st : List q_V) (v : q_H) (G : q_Gr) (Q : q_V → q_H → q_Gr → Prop) : q_wp d 21 16 [z0, z1, z2, z3, z4] (.inr (.inr (.inl (some a))) :: st) v G Q = (((G.2.1 a).1 = 2) ∧ q_wp d 21 19 [z0, z1, z2, z3, z4] (.inr (.inr (.inl (G.1 a 10))) :: st) v G Q) := q_w_getP c_21_16
theorem c_21_19 : q_code 21 19 = (.invokevirtual 64, 3, 77, 1, 0, 785, 0) := by decide +kernel
theorem e_21_19 (d : Nat) (x0 : q_V) (z0 z1 z2 z3 z4 : q_V) (v : q_H) (G : q_Gr) (Q : q_V → q_H → q_Gr → Prop) : q_wp d 21 19 [z0, z1, z2, z3, z4] [x0] v G Q = q_call d 77 [x0] v G (fun r v G => q_wp d 21 22 [z0, z1, z2, z3, z4] (q_push r []) v G Q) := q_wp_ca (m2 := 77) (k := 1) (as := [x0]) (rest := []) (congrArg q_kind c_21_19) (congrArg (fun w => w.2.2.1) c_21_19) (congrArg (fun w => w.2.2.2.1) c_21_19) rfl (Nat.le_of_ble_eq_true rfl) rfl
theorem c_21_22 : q_code 21 22 = (.aload_n 0, 1, 0, 0, 0, 0, 0) := by decide +kernel
theorem e_21_22 (d : Nat) (a : Option Nat) (z1 z2 z3 z4 : q_V) (st : List q_V) (v : q_H) (G : q_Gr) (Q : q_V → q_H → q_Gr → Prop) : q_wp d 21 22 [.inr (.inr (.inl a)), z1, z2, z3, z4] st v G Q = q_wp d 21 23 [.inr (.inr (.inl a)), z1, z2, z3, z4] (.inr (.inr (.inl a)) :: st) v G Q := q_w_aload_n c_21_22 rfl
theorem c_21_23 : q_code 21 23 = (.getfield 48, 3, 2, 11, 1, 206, 0) := by decide +kernel
theorem e_21_23 (d : Nat) (a : Nat) (z0 z1 z2 z3 z4 : q_V) (st : List q_V) (v : q_H) (G : q_Gr) (Q : q_V → q_H → q_Gr → Prop) : q_wp d 21 23 [z0, z1, z2, z3, z4] (.inr (.inr (.inl (some a))) :: st) v G Q = (((G.2.1 a).1 = 2) ∧ q_wp d 21 26 [z0, z1, z2, z3, z4] (.inr (.inr (.inl (G.1 a 11))) :: st) v G Q) := q_w_getP c_21_23
theorem c_21_26 : q_code 21 26 = (.invokevirtual 64, 3, 77, 1, 0, 785, 0) := by decide +kernel
theorem e_21_26 (d : Nat) (x0 : q_V) (z0 z1 z2 z3 z4 : q_V) (v : q_H) (G : q_Gr) (Q : q_V → q_H → q_Gr → Prop) : q_wp d 21 26 [z0, z1, z2, z3, z4] [x0] v G Q = q_call d 77 [x0] v G (fun r v G => q_wp d 21 29 [z0, z1, z2, z3, z4] (q_push r []) v G Q) := q_wp_ca (m2 := 77) (k := 1) (as := [x0]) (rest := []) (congrArg q_kind c_21_26) (congrArg (fun w => w.2.2.1) c_21_26) (congrArg (fun w => w.2.2.2.1) c_21_26) rfl (Nat.le_of_ble_eq_true rfl) rfl
theorem c_21_29 : q_code 21 29 = (.aload_n 0, 1, 0, 0, 0, 0, 0) := by decide +kernel
theorem e_21_29 (d : Nat) (a : Option Nat) (z1 z2 z3 z4 : q_V) (st : List q_V) (v : q_H) (G : q_Gr) (Q : q_V → q_H → q_Gr → Prop) : q_wp d 21 29 [.inr (.inr (.inl a)), z1, z2, z3, z4] st v G Q = q_wp d 21 30 [.inr (.inr (.inl a)), z1, z2, z3, z4] (.inr (.inr (.inl a)) :: st) v G Q := q_w_aload_n c_21_29 rfl
theorem c_21_30 : q_code 21 30 = (.getfield 51, 3, 2, 13, 1, 208, 0) := by decide +kernel
theorem e_21_30 (d : Nat) (a : Nat) (z0 z1 z2 z3 z4 : q_V) (st : List q_V) (v : q_H) (G : q_Gr) (Q : q_V → q_H → q_Gr → Prop) : q_wp d 21 30 [z0, z1, z2, z3, z4] (.inr (.inr (.inl (some a))) :: st) v G Q = (((G.2.1 a).1 = 2) ∧ q_wp d 21 33 [z0, z1, z2, z3, z4] (.inr (.inr (.inl (G.1 a 13))) :: st) v G Q) := q_w_getP c_21_30
theorem c_21_33 : q_code 21 33 = (.invokevirtual 67, 3, 36, 1, 0, 786, 0) := by decide +kernel
theorem e_21_33 (d : Nat) (x0 : q_V) (z0 z1 z2 z3 z4 : q_V) (v : q_H) (G : q_Gr) (Q : q_V → q_H → q_Gr → Prop) : q_wp d 21 33 [z0, z1, z2, z3, z4] [x0] v G Q = q_call d 36 [x0] v G (fun r v G => q_wp d 21 36 [z0, z1, z2, z3, z4] (q_push r []) v G Q) := q_wp_ca (m2 := 36) (k := 1) (as := [x0]) (rest := []) (congrArg q_kind c_21_33) (congrArg (fun w => w.2.2.1) c_21_33) (congrArg (fun w => w.2.2.2.1) c_21_33) rfl (Nat.le_of_ble_eq_true rfl) rfl
theorem c_21_36 : q_code 21 36 = (.iconst 0, 1, 0, 0, 0, 0, 0) := by decide +kernel
theorem e_21_36 (d : Nat)  (z0 z1 z2 z3 z4 : q_V) (st : List q_V) (v : q_H) (G : q_Gr) (Q : q_V → q_H → q_Gr → Prop) : q_wp d 21 36 [z0, z1, z2, z3, z4] st v G Q = q_wp d 21 37 [z0, z1, z2, z3, z4] (.inl 0 :: st) v G Q := q_w_iconst c_21_36
theorem c_21_37 : q_code 21 37 = (.istore 4, 2, 0, 0, 0, 0, 0) := by decide +kernel
theorem e_21_37 (d : Nat) (a : Int) (z0 z1 z2 z3 z4 : q_V) (st : List q_V) (v : q_H) (G : q_Gr) (Q : q_V → q_H → q_Gr → Prop) : q_wp d 21 37 [z0, z1, z2, z3, z4] (.inl a :: st) v G Q = q_wp d 21 39 [z0, z1, z2, z3, .inl a] st v G Q := q_w_istore c_21_37
theorem c_21_39 : q_code 21 39 = (.iload 4, 2, 0, 0, 0, 0, 0) := by decide +kernel
theorem e_21_39 (d : Nat) (a : Int) (z0 z1 z2 z3 : q_V) (st : List q_V) (v : q_H) (G : q_Gr) (Q : q_V → q_H → q_Gr → Prop) : q_wp d 21 39 [z0, z1, z2, z3, .inl a] st v G Q = q_wp d 21 41 [z0, z1, z2, z3, .inl a] (.inl a :: st) v G Q := q_w_iload c_21_39 rfl
theorem c_21_41 : q_code 21 41 = (.bipush 16, 2, 0, 0, 0, 0, 0) := by decide +kernel
theorem e_21_41 (d : Nat)  (z0 z1 z2 z3 z4 : q_V) (st : List q_V) (v : q_H) (G : q_Gr) (Q : q_V → q_H → q_Gr → Prop) : q_wp d 21 41 [z0, z1, z2, z3, z4] st v G Q = q_wp d 21 43 [z0, z1, z2, z3, z4] (.inl 16 :: st) v G Q := (q_w_bipush c_21_41).trans (by simp only [show ((-128 : Int) ≤ 16 ∧ (16 : Int) ≤ 127) = True by decide, true_and])
theorem c_21_43 : q_code 21 43 = (.if_icmp .ge 54, 3, 0, 0, 0, 0, 0) := by decide +kernel
theorem e_21_43 (d : Nat) (a b : Int) (z0 z1 z2 z3 z4 : q_V) (st : List q_V) (v : q_H) (G : q_Gr) (Q : q_V → q_H → q_Gr → Prop) : q_wp d 21 43 [z0, z1, z2, z3, z4] (.inl b :: .inl a :: st) v G Q = ((q_inR a ∧ q_inR b) ∧ if b ≤ a then q_wp d 21 97 [z0, z1, z2, z3, z4] st v G Q else q_wp d 21 46 [z0, z1, z2, z3, z4] st v G Q) := q_w_icmp_ge c_21_43 (by decide)
theorem c_21_46 : q_code 21 46 = (.iload 4, 2, 0, 0, 0, 0, 0) := by decide +kernel
theorem e_21_46 (d : Nat) (a : Int) (z0 z1 z2 z3 : q_V) (st : List q_V) (v : q_H) (G : q_Gr) (Q : q_V → q_H → q_Gr → Prop) : q_wp d 21 46 [z0, z1, z2, z3, .inl a] st v G Q = q_wp d 21 48 [z0, z1, z2, z3, .inl a] (.inl a :: st) v G Q := q_w_iload c_21_46 rfl
theorem c_21_48 : q_code 21 48 = (.aload_n 0, 1, 0, 0, 0, 0, 0) := by decide +kernel
theorem e_21_48 (d : Nat) (a : Option Nat) (z1 z2 z3 z4 : q_V) (st : List q_V) (v : q_H) (G : q_Gr) (Q : q_V → q_H → q_Gr → Prop) : q_wp d 21 48 [.inr (.inr (.inl a)), z1, z2, z3, z4] st v G Q = q_wp d 21 49 [.inr (.inr (.inl a)), z1, z2, z3, z4] (.inr (.inr (.inl a)) :: st) v G Q := q_w_aload_n c_21_48 rfl
theorem c_21_49 : q_code 21 49 = (.aload_n 1, 1, 0, 0, 0, 0, 0) := by decide +kernel
theorem e_21_49 (d : Nat) (a : Option Nat) (z0 z2 z3 z4 : q_V) (st : List q_V) (v : q_H) (G : q_Gr) (Q : q_V → q_H → q_Gr → Prop) : q_wp d 21 49 [z0, .inr (.inr (.inl a)), z2, z3, z4] st v G Q = q_wp d 21 50 [z0, .inr (.inr (.inl a)), z2, z3, z4] (.inr (.inr (.inl a)) :: st) v G Q := q_w_aload_n c_21_49 rfl
theorem c_21_50 : q_code 21 50 = (.invokevirtual 68, 3, 22, 2, 0, 787, 1) := by decide +kernel
theorem e_21_50 (d : Nat) (x0 x1 y0 : q_V) (z0 z1 z2 z3 z4 : q_V) (v : q_H) (G : q_Gr) (Q : q_V → q_H → q_Gr → Prop) : q_wp d 21 50 [z0, z1, z2, z3, z4] [x1, x0, y0] v G Q = q_call d 22 [x0, x1] v G (fun r v G => q_wp d 21 53 [z0, z1, z2, z3, z4] (q_push r [y0]) v G Q) := q_wp_ca (m2 := 22) (k := 2) (as := [x0, x1]) (rest := [y0]) (congrArg q_kind c_21_50) (congrArg (fun w => w.2.2.1) c_21_50) (congrArg (fun w => w.2.2.2.1) c_21_50) rfl (Nat.le_of_ble_eq_true rfl) rfl
theorem c_21_53 : q_code 21 53 = (.if_icmp .ge 44, 3, 0, 0, 0, 0, 0) := by decide +kernel
theorem e_21_53 (d : Nat) (a b : Int) (z0 z1 z2 z3 z4 : q_V) (st : List q_V) (v : q_H) (G : q_Gr) (Q : q_V → q_H → q_Gr → Prop) : q_wp d 21 53 [z0, z1, z2, z3, z4] (.inl b :: .inl a :: st) v G Q = ((q_inR a ∧ q_inR b) ∧ if b ≤ a then q_wp d 21 97 [z0, z1, z2, z3, z4] st v G Q else q_wp d 21 56 [z0, z1, z2, z3, z4] st v G Q) := q_w_icmp_ge c_21_53 (by decide)
theorem c_21_56 : q_code 21 56 = (.aload_n 0, 1, 0, 0, 0, 0, 0) := by decide +kernel
theorem e_21_56 (d : Nat) (a : Option Nat) (z1 z2 z3 z4 : q_V) (st : List q_V) (v : q_H) (G : q_Gr) (Q : q_V → q_H → q_Gr → Prop) : q_wp d 21 56 [.inr (.inr (.inl a)), z1, z2, z3, z4] st v G Q = q_wp d 21 57 [.inr (.inr (.inl a)), z1, z2, z3, z4] (.inr (.inr (.inl a)) :: st) v G Q := q_w_aload_n c_21_56 rfl
theorem c_21_57 : q_code 21 57 = (.getfield 54, 3, 2, 2, 0, 197, 0) := by decide +kernel
theorem e_21_57 (d : Nat) (a : Nat) (z0 z1 z2 z3 z4 : q_V) (st : List q_V) (v : q_H) (G : q_Gr) (Q : q_V → q_H → q_Gr → Prop) : q_wp d 21 57 [z0, z1, z2, z3, z4] (.inr (.inr (.inl (some a))) :: st) v G Q = (((G.2.1 a).1 = 2) ∧ q_wp d 21 60 [z0, z1, z2, z3, z4] (.inl (v a 2) :: st) v G Q) := q_w_getI c_21_57
theorem c_21_60 : q_code 21 60 = (.ifCond .ne 37, 3, 0, 0, 0, 0, 0) := by decide +kernel
theorem e_21_60 (d : Nat) (a : Int) (z0 z1 z2 z3 z4 : q_V) (st : List q_V) (v : q_H) (G : q_Gr) (Q : q_V → q_H → q_Gr → Prop) : q_wp d 21 60 [z0, z1, z2, z3, z4] (.inl a :: st) v G Q = ((q_inR a) ∧ if ¬ a = 0 then q_wp d 21 97 [z0, z1, z2, z3, z4] st v G Q else q_wp d 21 63 [z0, z1, z2, z3, z4] st v G Q) := q_w_if_ne c_21_60 (by decide)
theorem c_21_63 : q_code 21 63 = (.aload_n 0, 1, 0, 0, 0, 0, 0) := by decide +kernel
theorem e_21_63 (d : Nat) (a : Option Nat) (z1 z2 z3 z4 : q_V) (st : List q_V) (v : q_H) (G : q_Gr) (Q : q_V → q_H → q_Gr → Prop) : q_wp d 21 63 [.inr (.inr (.inl a)), z1, z2, z3, z4] st v G Q = q_wp d 21 64 [.inr (.inr (.inl a)), z1, z2, z3, z4] (.inr (.inr (.inl a)) :: st) v G Q := q_w_aload_n c_21_63 rfl
theorem c_21_64 : q_code 21 64 = (.iload 4, 2, 0, 0, 0, 0, 0) := by decide +kernel
theorem e_21_64 (d : Nat) (a : Int) (z0 z1 z2 z3 : q_V) (st : List q_V) (v : q_H) (G : q_Gr) (Q : q_V → q_H → q_Gr → Prop) : q_wp d 21 64 [z0, z1, z2, z3, .inl a] st v G Q = q_wp d 21 66 [z0, z1, z2, z3, .inl a] (.inl a :: st) v G Q := q_w_iload c_21_64 rfl
theorem c_21_66 : q_code 21 66 = (.ifCond .ne 7, 3, 0, 0, 0, 0, 0) := by decide +kernel
theorem e_21_66 (d : Nat) (a : Int) (z0 z1 z2 z3 z4 : q_V) (st : List q_V) (v : q_H) (G : q_Gr) (Q : q_V → q_H → q_Gr → Prop) : q_wp d 21 66 [z0, z1, z2, z3, z4] (.inl a :: st) v G Q = ((q_inR a) ∧ if ¬ a = 0 then q_wp d 21 73 [z0, z1, z2, z3, z4] st v G Q else q_wp d 21 69 [z0, z1, z2, z3, z4] st v G Q) := q_w_if_ne c_21_66 (by decide)
theorem c_21_69 : q_code 21 69 = (.iload_n 2, 1, 0, 0, 0, 0, 0) := by decide +kernel
theorem e_21_69 (d : Nat) (a : Int) (z0 z1 z3 z4 : q_V) (st : List q_V) (v : q_H) (G : q_Gr) (Q : q_V → q_H → q_Gr → Prop) : q_wp d 21 69 [z0, z1, .inl a, z3, z4] st v G Q = q_wp d 21 70 [z0, z1, .inl a, z3, z4] (.inl a :: st) v G Q := q_w_iload_n c_21_69 rfl
theorem c_21_70 : q_code 21 70 = (.goto 4, 3, 0, 0, 0, 0, 0) := by decide +kernel
theorem e_21_70 (d : Nat)  (z0 z1 z2 z3 z4 : q_V) (st : List q_V) (v : q_H) (G : q_Gr) (Q : q_V → q_H → q_Gr → Prop) : q_wp d 21 70 [z0, z1, z2, z3, z4] st v G Q = q_wp d 21 74 [z0, z1, z2, z3, z4] st v G Q := q_w_goto c_21_70 (by decide)
theorem c_21_73 : q_code 21 73 = (.iload_n 3, 1, 0, 0, 0, 0, 0) := by decide +kernel
theorem e_21_73 (d : Nat) (a : Int) (z0 z1 z2 z4 : q_V) (st : List q_V) (v : q_H) (G : q_Gr) (Q : q_V → q_H → q_Gr → Prop) : q_wp d 21 73 [z0, z1, z2, .inl a, z4] st v G Q = q_wp d 21 74 [z0, z1, z2, .inl a, z4] (.inl a :: st) v G Q := q_w_iload_n c_21_73 rfl
theorem c_21_74 : q_code 21 74 = (.invokevirtual 72, 3, 24, 2, 0, 792, 0) := by decide +kernel
theorem e_21_74 (d : Nat) (x0 x1 : q_V) (z0 z1 z2 z3 z4 : q_V) (v : q_H) (G : q_Gr) (Q : q_V → q_H → q_Gr → Prop) : q_wp d 21 74 [z0, z1, z2, z3, z4] [x1, x0] v G Q = q_call d 24 [x0, x1] v G (fun r v G => q_wp d 21 77 [z0, z1, z2, z3, z4] (q_push r []) v G Q) := q_wp_ca (m2 := 24) (k := 2) (as := [x0, x1]) (rest := []) (congrArg q_kind c_21_74) (congrArg (fun w => w.2.2.1) c_21_74) (congrArg (fun w => w.2.2.2.1) c_21_74) rfl (Nat.le_of_ble_eq_true rfl) rfl
theorem c_21_77 : q_code 21 77 = (.aload_n 0, 1, 0, 0, 0, 0, 0) := by decide +kernel
theorem e_21_77 (d : Nat) (a : Option Nat) (z1 z2 z3 z4 : q_V) (st : List q_V) (v : q_H) (G : q_Gr) (Q : q_V → q_H → q_Gr → Prop) : q_wp d 21 77 [.inr (.inr (.inl a)), z1, z2, z3, z4] st v G Q = q_wp d 21 78 [.inr (.inr (.inl a)), z1, z2, z3, z4] (.inr (.inr (.inl a)) :: st) v G Q := q_w_aload_n c_21_77 rfl
theorem c_21_78 : q_code 21 78 = (.getfield 54, 3, 2, 2, 0, 197, 0) := by decide +kernel
theorem e_21_78 (d : Nat) (a : Nat) (z0 z1 z2 z3 z4 : q_V) (st : List q_V) (v : q_H) (G : q_Gr) (Q : q_V → q_H → q_Gr → Prop) : q_wp d 21 78 [z0, z1, z2, z3, z4] (.inr (.inr (.inl (some a))) :: st) v G Q = (((G.2.1 a).1 = 2) ∧ q_wp d 21 81 [z0, z1, z2, z3, z4] (.inl (v a 2) :: st) v G Q) := q_w_getI c_21_78
theorem c_21_81 : q_code 21 81 = (.ifCond .ne 10, 3, 0, 0, 0, 0, 0) := by decide +kernel
theorem e_21_81 (d : Nat) (a : Int) (z0 z1 z2 z3 z4 : q_V) (st : List q_V) (v : q_H) (G : q_Gr) (Q : q_V → q_H → q_Gr → Prop) : q_wp d 21 81 [z0, z1, z2, z3, z4] (.inl a :: st) v G Q = ((q_inR a) ∧ if ¬ a = 0 then q_wp d 21 91 [z0, z1, z2, z3, z4] st v G Q else q_wp d 21 84 [z0, z1, z2, z3, z4] st v G Q) := q_w_if_ne c_21_81 (by decide)
theorem c_21_84 : q_code 21 84 = (.aload_n 0, 1, 0, 0, 0, 0, 0) := by decide +kernel
theorem e_21_84 (d : Nat) (a : Option Nat) (z1 z2 z3 z4 : q_V) (st : List q_V) (v : q_H) (G : q_Gr) (Q : q_V → q_H → q_Gr → Prop) : q_wp d 21 84 [.inr (.inr (.inl a)), z1, z2, z3, z4] st v G Q = q_wp d 21 85 [.inr (.inr (.inl a)), z1, z2, z3, z4] (.inr (.inr (.inl a)) :: st) v G Q := q_w_aload_n c_21_84 rfl
theorem c_21_85 : q_code 21 85 = (.aload_n 1, 1, 0, 0, 0, 0, 0) := by decide +kernel
theorem e_21_85 (d : Nat) (a : Option Nat) (z0 z2 z3 z4 : q_V) (st : List q_V) (v : q_H) (G : q_Gr) (Q : q_V → q_H → q_Gr → Prop) : q_wp d 21 85 [z0, .inr (.inr (.inl a)), z2, z3, z4] st v G Q = q_wp d 21 86 [z0, .inr (.inr (.inl a)), z2, z3, z4] (.inr (.inr (.inl a)) :: st) v G Q := q_w_aload_n c_21_85 rfl
theorem c_21_86 : q_code 21 86 = (.iload 4, 2, 0, 0, 0, 0, 0) := by decide +kernel
theorem e_21_86 (d : Nat) (a : Int) (z0 z1 z2 z3 : q_V) (st : List q_V) (v : q_H) (G : q_Gr) (Q : q_V → q_H → q_Gr → Prop) : q_wp d 21 86 [z0, z1, z2, z3, .inl a] st v G Q = q_wp d 21 88 [z0, z1, z2, z3, .inl a] (.inl a :: st) v G Q := q_w_iload c_21_86 rfl
theorem c_21_88 : q_code 21 88 = (.invokevirtual 75, 3, 29, 3, 0, 821, 0) := by decide +kernel
theorem e_21_88 (d : Nat) (x0 x1 x2 : q_V) (z0 z1 z2 z3 z4 : q_V) (v : q_H) (G : q_Gr) (Q : q_V → q_H → q_Gr → Prop) : q_wp d 21 88 [z0, z1, z2, z3, z4] [x2, x1, x0] v G Q = q_call d 29 [x0, x1, x2] v G (fun r v G => q_wp d 21 91 [z0, z1, z2, z3, z4] (q_push r []) v G Q) := q_wp_ca (m2 := 29) (k := 3) (as := [x0, x1, x2]) (rest := []) (congrArg q_kind c_21_88) (congrArg (fun w => w.2.2.1) c_21_88) (congrArg (fun w => w.2.2.2.1) c_21_88) rfl (Nat.le_of_ble_eq_true rfl) rfl
theorem c_21_91 : q_code 21 91 = (.iinc 4 1, 3, 0, 0, 0, 0, 0) := by decide +kernel
theorem e_21_91 (d : Nat) (a : Int) (z0 z1 z2 z3 : q_V) (st : List q_V) (v : q_H) (G : q_Gr) (Q : q_V → q_H → q_Gr → Prop) : q_wp d 21 91 [z0, z1, z2, z3, .inl a] st v G Q = q_wp d 21 94 [z0, z1, z2, z3, .inl (a + 1)] st v G Q := q_w_iinc c_21_91 rfl
theorem c_21_94 : q_code 21 94 = (.goto (-55), 3, 0, 0, 0, 0, 0) := by decide +kernel
theorem e_21_94 (d : Nat)  (z0 z1 z2 z3 z4 : q_V) (st : List q_V) (v : q_H) (G : q_Gr) (Q : q_V → q_H → q_Gr → Prop) : q_wp d 21 94 [z0, z1, z2, z3, z4] st v G Q = q_wp d 21 39 [z0, z1, z2, z3, z4] st v G Q := q_w_goto c_21_94 (by decide)
theorem c_21_97 : q_code 21 97 = (.aload_n 0, 1, 0, 0, 0, 0, 0) := by decide +kernel
theorem e_21_97 (d : Nat) (a : Option Nat) (z1 z2 z3 z4 : q_V) (st : List q_V) (v : q_H) (G : q_Gr) (Q : q_V → q_H → q_Gr → Prop) : q_wp d 21 97 [.inr (.inr (.inl a)), z1, z2, z3, z4] st v G Q = q_wp d 21 98 [.inr (.inr (.inl a)), z1, z2, z3, z4] (.inr (.inr (.inl a)) :: st) v G Q := q_w_aload_n c_21_97 rfl
theorem c_21_98 : q_code 21 98 = (.getfield 54, 3, 2, 2, 0, 197, 0) := by decide +kernel
theorem e_21_98 (d : Nat) (a : Nat) (z0 z1 z2 z3 z4 : q_V) (st : List q_V) (v : q_H) (G : q_Gr) (Q : q_V → q_H → q_Gr → Prop) : q_wp d 21 98 [z0, z1, z2, z3, z4] (.inr (.inr (.inl (some a))) :: st) v G Q = (((G.2.1 a).1 = 2) ∧ q_wp d 21 101 [z0, z1, z2, z3, z4] (.inl (v a 2) :: st) v G Q) := q_w_getI c_21_98
theorem c_21_101 : q_code 21 101 = (.ifCond .ne 22, 3, 0, 0, 0, 0, 0) := by decide +kernel
theorem e_21_101 (d : Nat) (a : Int) (z0 z1 z2 z3 z4 : q_V) (st : List q_V) (v : q_H) (G : q_Gr) (Q : q_V → q_H → q_Gr → Prop) : q_wp d 21 101 [z0, z1, z2, z3, z4] (.inl a :: st) v G Q = ((q_inR a) ∧ if ¬ a = 0 then q_wp d 21 123 [z0, z1, z2, z3, z4] st v G Q else q_wp d 21 104 [z0, z1, z2, z3, z4] st v G Q) := q_w_if_ne c_21_101 (by decide)
theorem c_21_104 : q_code 21 104 = (.aload_n 0, 1, 0, 0, 0, 0, 0) := by decide +kernel
theorem e_21_104 (d : Nat) (a : Option Nat) (z1 z2 z3 z4 : q_V) (st : List q_V) (v : q_H) (G : q_Gr) (Q : q_V → q_H → q_Gr → Prop) : q_wp d 21 104 [.inr (.inr (.inl a)), z1, z2, z3, z4] st v G Q = q_wp d 21 105 [.inr (.inr (.inl a)), z1, z2, z3, z4] (.inr (.inr (.inl a)) :: st) v G Q := q_w_aload_n c_21_104 rfl
theorem c_21_105 : q_code 21 105 = (.getfield 58, 3, 2, 1, 0, 196, 0) := by decide +kernel
theorem e_21_105 (d : Nat) (a : Nat) (z0 z1 z2 z3 z4 : q_V) (st : List q_V) (v : q_H) (G : q_Gr) (Q : q_V → q_H → q_Gr → Prop) : q_wp d 21 105 [z0, z1, z2, z3, z4] (.inr (.inr (.inl (some a))) :: st) v G Q = (((G.2.1 a).1 = 2) ∧ q_wp d 21 108 [z0, z1, z2, z3, z4] (.inl (v a 1) :: st) v G Q) := q_w_getI c_21_105
theorem c_21_108 : q_code 21 108 = (.aload_n 0, 1, 0, 0, 0, 0, 0) := by decide +kernel
theorem e_21_108 (d : Nat) (a : Option Nat) (z1 z2 z3 z4 : q_V) (st : List q_V) (v : q_H) (G : q_Gr) (Q : q_V → q_H → q_Gr → Prop) : q_wp d 21 108 [.inr (.inr (.inl a)), z1, z2, z3, z4] st v G Q = q_wp d 21 109 [.inr (.inr (.inl a)), z1, z2, z3, z4] (.inr (.inr (.inl a)) :: st) v G Q := q_w_aload_n c_21_108 rfl
theorem c_21_109 : q_code 21 109 = (.getfield 14, 3, 2, 0, 1, 195, 0) := by decide +kernel
theorem e_21_109 (d : Nat) (a : Nat) (z0 z1 z2 z3 z4 : q_V) (st : List q_V) (v : q_H) (G : q_Gr) (Q : q_V → q_H → q_Gr → Prop) : q_wp d 21 109 [z0, z1, z2, z3, z4] (.inr (.inr (.inl (some a))) :: st) v G Q = (((G.2.1 a).1 = 2) ∧ q_wp d 21 112 [z0, z1, z2, z3, z4] (.inr (.inr (.inl (G.1 a 0))) :: st) v G Q) := q_w_getP c_21_109
theorem c_21_112 : q_code 21 112 = (.invokevirtual 79, 3, 40, 1, 0, 799, 1) := by decide +kernel
theorem e_21_112 (d : Nat) (x0 y0 : q_V) (z0 z1 z2 z3 z4 : q_V) (v : q_H) (G : q_Gr) (Q : q_V → q_H → q_Gr → Prop) : q_wp d 21 112 [z0, z1, z2, z3, z4] [x0, y0] v G Q = q_call d 40 [x0] v G (fun r v G => q_wp d 21 115 [z0, z1, z2, z3, z4] (q_push r [y0]) v G Q) := q_wp_ca (m2 := 40) (k := 1) (as := [x0]) (rest := [y0]) (congrArg q_kind c_21_112) (congrArg (fun w => w.2.2.1) c_21_112) (congrArg (fun w => w.2.2.2.1) c_21_112) rfl (Nat.le_of_ble_eq_true rfl) rfl
theorem c_21_115 : q_code 21 115 = (.if_icmp .ge 8, 3, 0, 0, 0, 0, 0) := by decide +kernel
theorem e_21_115 (d : Nat) (a b : Int) (z0 z1 z2 z3 z4 : q_V) (st : List q_V) (v : q_H) (G : q_Gr) (Q : q_V → q_H → q_Gr → Prop) : q_wp d 21 115 [z0, z1, z2, z3, z4] (.inl b :: .inl a :: st) v G Q = ((q_inR a ∧ q_inR b) ∧ if b ≤ a then q_wp d 21 123 [z0, z1, z2, z3, z4] st v G Q else q_wp d 21 118 [z0, z1, z2, z3, z4] st v G Q) := q_w_icmp_ge c_21_115 (by decide)
theorem c_21_118 : q_code 21 118 = (.aload_n 0, 1, 0, 0, 0, 0, 0) := by decide +kernel
theorem e_21_118 (d : Nat) (a : Option Nat) (z1 z2 z3 z4 : q_V) (st : List q_V) (v : q_H) (G : q_Gr) (Q : q_V → q_H → q_Gr → Prop) : q_wp d 21 118 [.inr (.inr (.inl a)), z1, z2, z3, z4] st v G Q = q_wp d 21 119 [.inr (.inr (.inl a)), z1, z2, z3, z4] (.inr (.inr (.inl a)) :: st) v G Q := q_w_aload_n c_21_118 rfl
theorem c_21_119 : q_code 21 119 = (.iconst 1, 1, 0, 0, 0, 0, 0) := by decide +kernel
theorem e_21_119 (d : Nat)  (z0 z1 z2 z3 z4 : q_V) (st : List q_V) (v : q_H) (G : q_Gr) (Q : q_V → q_H → q_Gr → Prop) : q_wp d 21 119 [z0, z1, z2, z3, z4] st v G Q = q_wp d 21 120 [z0, z1, z2, z3, z4] (.inl 1 :: st) v G Q := q_w_iconst c_21_119
theorem c_21_120 : q_code 21 120 = (.putfield 54, 3, 2, 2, 0, 197, 0) := by decide +kernel
theorem e_21_120 (d : Nat) (a : Nat) (b : Int) (z0 z1 z2 z3 z4 : q_V) (st : List q_V) (v : q_H) (G : q_Gr) (Q : q_V → q_H → q_Gr → Prop) : q_wp d 21 120 [z0, z1, z2, z3, z4] (.inl b :: .inr (.inr (.inl (some a))) :: st) v G Q = (((G.2.1 a).1 = 2) ∧ q_wp d 21 123 [z0, z1, z2, z3, z4] st (q_up v a 2 b) G Q) := q_w_putI c_21_120
theorem c_21_123 : q_code 21 123 = (.aload_n 0, 1, 0, 0, 0, 0, 0) := by decide +kernel
theorem e_21_123 (d : Nat) (a : Option Nat) (z1 z2 z3 z4 : q_V) (st : List q_V) (v : q_H) (G : q_Gr) (Q : q_V → q_H → q_Gr → Prop) : q_wp d 21 123 [.inr (.inr (.inl a)), z1, z2, z3, z4] st v G Q = q_wp d 21 124 [.inr (.inr (.inl a)), z1, z2, z3, z4] (.inr (.inr (.inl a)) :: st) v G Q := q_w_aload_n c_21_123 rfl
theorem c_21_124 : q_code 21 124 = (.getfield 54, 3, 2, 2, 0, 197, 0) := by decide +kernel
theorem e_21_124 (d : Nat) (a : Nat) (z0 z1 z2 z3 z4 : q_V) (st : List q_V) (v : q_H) (G : q_Gr) (Q : q_V → q_H → q_Gr → Prop) : q_wp d 21 124 [z0, z1, z2, z3, z4] (.inr (.inr (.inl (some a))) :: st) v G Q = (((G.2.1 a).1 = 2) ∧ q_wp d 21 127 [z0, z1, z2, z3, z4] (.inl (v a 2) :: st) v G Q) := q_w_getI c_21_124
theorem c_21_127 : q_code 21 127 = (.ifCond .ne 23, 3, 0, 0, 0, 0, 0) := by decide +kernel
theorem e_21_127 (d : Nat) (a : Int) (z0 z1 z2 z3 z4 : q_V) (st : List q_V) (v : q_H) (G : q_Gr) (Q : q_V → q_H → q_Gr → Prop) : q_wp d 21 127 [z0, z1, z2, z3, z4] (.inl a :: st) v G Q = ((q_inR a) ∧ if ¬ a = 0 then q_wp d 21 150 [z0, z1, z2, z3, z4] st v G Q else q_wp d 21 130 [z0, z1, z2, z3, z4] st v G Q) := q_w_if_ne c_21_127 (by decide)
theorem c_21_130 : q_code 21 130 = (.aload_n 1, 1, 0, 0, 0, 0, 0) := by decide +kernel
theorem e_21_130 (d : Nat) (a : Option Nat) (z0 z2 z3 z4 : q_V) (st : List q_V) (v : q_H) (G : q_Gr) (Q : q_V → q_H → q_Gr → Prop) : q_wp d 21 130 [z0, .inr (.inr (.inl a)), z2, z3, z4] st v G Q = q_wp d 21 131 [z0, .inr (.inr (.inl a)), z2, z3, z4] (.inr (.inr (.inl a)) :: st) v G Q := q_w_aload_n c_21_130 rfl
theorem c_21_131 : q_code 21 131 = (.aload_n 0, 1, 0, 0, 0, 0, 0) := by decide +kernel
theorem e_21_131 (d : Nat) (a : Option Nat) (z1 z2 z3 z4 : q_V) (st : List q_V) (v : q_H) (G : q_Gr) (Q : q_V → q_H → q_Gr → Prop) : q_wp d 21 131 [.inr (.inr (.inl a)), z1, z2, z3, z4] st v G Q = q_wp d 21 132 [.inr (.inr (.inl a)), z1, z2, z3, z4] (.inr (.inr (.inl a)) :: st) v G Q := q_w_aload_n c_21_131 rfl
theorem c_21_132 : q_code 21 132 = (.getfield 51, 3, 2, 13, 1, 208, 0) := by decide +kernel
theorem e_21_132 (d : Nat) (a : Nat) (z0 z1 z2 z3 z4 : q_V) (st : List q_V) (v : q_H) (G : q_Gr) (Q : q_V → q_H → q_Gr → Prop) : q_wp d 21 132 [z0, z1, z2, z3, z4] (.inr (.inr (.inl (some a))) :: st) v G Q = (((G.2.1 a).1 = 2) ∧ q_wp d 21 135 [z0, z1, z2, z3, z4] (.inr (.inr (.inl (G.1 a 13))) :: st) v G Q) := q_w_getP c_21_132
theorem c_21_135 : q_code 21 135 = (.aload_n 0, 1, 0, 0, 0, 0, 0) := by decide +kernel
theorem e_21_135 (d : Nat) (a : Option Nat) (z1 z2 z3 z4 : q_V) (st : List q_V) (v : q_H) (G : q_Gr) (Q : q_V → q_H → q_Gr → Prop) : q_wp d 21 135 [.inr (.inr (.inl a)), z1, z2, z3, z4] st v G Q = q_wp d 21 136 [.inr (.inr (.inl a)), z1, z2, z3, z4] (.inr (.inr (.inl a)) :: st) v G Q := q_w_aload_n c_21_135 rfl
theorem c_21_136 : q_code 21 136 = (.getfield 44, 3, 2, 10, 1, 205, 0) := by decide +kernel
theorem e_21_136 (d : Nat) (a : Nat) (z0 z1 z2 z3 z4 : q_V) (st : List q_V) (v : q_H) (G : q_Gr) (Q : q_V → q_H → q_Gr → Prop) : q_wp d 21 136 [z0, z1, z2, z3, z4] (.inr (.inr (.inl (some a))) :: st) v G Q = (((G.2.1 a).1 = 2) ∧ q_wp d 21 139 [z0, z1, z2, z3, z4] (.inr (.inr (.inl (G.1 a 10))) :: st) v G Q) := q_w_getP c_21_136
theorem c_21_139 : q_code 21 139 = (.aload_n 0, 1, 0, 0, 0, 0, 0) := by decide +kernel
theorem e_21_139 (d : Nat) (a : Option Nat) (z1 z2 z3 z4 : q_V) (st : List q_V) (v : q_H) (G : q_Gr) (Q : q_V → q_H → q_Gr → Prop) : q_wp d 21 139 [.inr (.inr (.inl a)), z1, z2, z3, z4] st v G Q = q_wp d 21 140 [.inr (.inr (.inl a)), z1, z2, z3, z4] (.inr (.inr (.inl a)) :: st) v G Q := q_w_aload_n c_21_139 rfl
theorem c_21_140 : q_code 21 140 = (.getfield 48, 3, 2, 11, 1, 206, 0) := by decide +kernel
theorem e_21_140 (d : Nat) (a : Nat) (z0 z1 z2 z3 z4 : q_V) (st : List q_V) (v : q_H) (G : q_Gr) (Q : q_V → q_H → q_Gr → Prop) : q_wp d 21 140 [z0, z1, z2, z3, z4] (.inr (.inr (.inl (some a))) :: st) v G Q = (((G.2.1 a).1 = 2) ∧ q_wp d 21 143 [z0, z1, z2, z3, z4] (.inr (.inr (.inl (G.1 a 11))) :: st) v G Q) := q_w_getP c_21_140
theorem c_21_143 : q_code 21 143 = (.aload_n 0, 1, 0, 0, 0, 0, 0) := by decide +kernel
theorem e_21_143 (d : Nat) (a : Option Nat) (z1 z2 z3 z4 : q_V) (st : List q_V) (v : q_H) (G : q_Gr) (Q : q_V → q_H → q_Gr → Prop) : q_wp d 21 143 [.inr (.inr (.inl a)), z1, z2, z3, z4] st v G Q = q_wp d 21 144 [.inr (.inr (.inl a)), z1, z2, z3, z4] (.inr (.inr (.inl a)) :: st) v G Q := q_w_aload_n c_21_143 rfl
theorem c_21_144 : q_code 21 144 = (.getfield 61, 3, 2, 12, 0, 207, 0) := by decide +kernel
theorem e_21_144 (d : Nat) (a : Nat) (z0 z1 z2 z3 z4 : q_V) (st : List q_V) (v : q_H) (G : q_Gr) (Q : q_V → q_H → q_Gr → Prop) : q_wp d 21 144 [z0, z1, z2, z3, z4] (.inr (.inr (.inl (some a))) :: st) v G Q = (((G.2.1 a).1 = 2) ∧ q_wp d 21 147 [z0, z1, z2, z3, z4] (.inl (v a 12) :: st) v G Q) := q_w_getI c_21_144
theorem c_21_147 : q_code 21 147 = (.invokevirtual 83, 3, 5, 5, 0, 842, 0) := by decide +kernel
theorem e_21_147 (d : Nat) (x0 x1 x2 x3 x4 : q_V) (z0 z1 z2 z3 z4 : q_V) (v : q_H) (G : q_Gr) (Q : q_V → q_H → q_Gr → Prop) : q_wp d 21 147 [z0, z1, z2, z3, z4] [x4, x3, x2, x1, x0] v G Q = q_call d 5 [x0, x1, x2, x3, x4] v G (fun r v G => q_wp d 21 150 [z0, z1, z2, z3, z4] (q_push r []) v G Q) := q_wp_ca (m2 := 5) (k := 5) (as := [x0, x1, x2, x3, x4]) (rest := []) (congrArg q_kind c_21_147) (congrArg (fun w => w.2.2.1) c_21_147) (congrArg (fun w => w.2.2.2.1) c_21_147) rfl (Nat.le_of_ble_eq_true rfl) rfl
theorem c_21_150 : q_code 21 150 = (.aload_n 0, 1, 0, 0, 0, 0, 0) := by decide +kernel
theorem e_21_150 (d : Nat) (a : Option Nat) (z1 z2 z3 z4 : q_V) (st : List q_V) (v : q_H) (G : q_Gr) (Q : q_V → q_H → q_Gr → Prop) : q_wp d 21 150 [.inr (.inr (.inl a)), z1, z2, z3, z4] st v G Q = q_wp d 21 151 [.inr (.inr (.inl a)), z1, z2, z3, z4] (.inr (.inr (.inl a)) :: st) v G Q := q_w_aload_n c_21_150 rfl
theorem c_21_151 : q_code 21 151 = (.getfield 54, 3, 2, 2, 0, 197, 0) := by decide +kernel
theorem e_21_151 (d : Nat) (a : Nat) (z0 z1 z2 z3 z4 : q_V) (st : List q_V) (v : q_H) (G : q_Gr) (Q : q_V → q_H → q_Gr → Prop) : q_wp d 21 151 [z0, z1, z2, z3, z4] (.inr (.inr (.inl (some a))) :: st) v G Q = (((G.2.1 a).1 = 2) ∧ q_wp d 21 154 [z0, z1, z2, z3, z4] (.inl (v a 2) :: st) v G Q) := q_w_getI c_21_151
theorem c_21_154 : q_code 21 154 = (.ifCond .ne 7, 3, 0, 0, 0, 0, 0) := by decide +kernel
theorem e_21_154 (d : Nat) (a : Int) (z0 z1 z2 z3 z4 : q_V) (st : List q_V) (v : q_H) (G : q_Gr) (Q : q_V → q_H → q_Gr → Prop) : q_wp d 21 154 [z0, z1, z2, z3, z4] (.inl a :: st) v G Q = ((q_inR a) ∧ if ¬ a = 0 then q_wp d 21 161 [z0, z1, z2, z3, z4] st v G Q else q_wp d 21 157 [z0, z1, z2, z3, z4] st v G Q) := q_w_if_ne c_21_154 (by decide)
theorem c_21_157 : q_code 21 157 = (.iconst 1, 1, 0, 0, 0, 0, 0) := by decide +kernel
theorem e_21_157 (d : Nat)  (z0 z1 z2 z3 z4 : q_V) (st : List q_V) (v : q_H) (G : q_Gr) (Q : q_V → q_H → q_Gr → Prop) : q_wp d 21 157 [z0, z1, z2, z3, z4] st v G Q = q_wp d 21 158 [z0, z1, z2, z3, z4] (.inl 1 :: st) v G Q := q_w_iconst c_21_157
theorem c_21_158 : q_code 21 158 = (.goto 4, 3, 0, 0, 0, 0, 0) := by decide +kernel
theorem e_21_158 (d : Nat)  (z0 z1 z2 z3 z4 : q_V) (st : List q_V) (v : q_H) (G : q_Gr) (Q : q_V → q_H → q_Gr → Prop) : q_wp d 21 158 [z0, z1, z2, z3, z4] st v G Q = q_wp d 21 162 [z0, z1, z2, z3, z4] st v G Q := q_w_goto c_21_158 (by decide)
theorem c_21_161 : q_code 21 161 = (.iconst 0, 1, 0, 0, 0, 0, 0) := by decide +kernel
theorem e_21_161 (d : Nat)  (z0 z1 z2 z3 z4 : q_V) (st : List q_V) (v : q_H) (G : q_Gr) (Q : q_V → q_H → q_Gr → Prop) : q_wp d 21 161 [z0, z1, z2, z3, z4] st v G Q = q_wp d 21 162 [z0, z1, z2, z3, z4] (.inl 0 :: st) v G Q := q_w_iconst c_21_161
theorem c_21_162 : q_code 21 162 = (.ireturn, 1, 0, 0, 0, 0, 0) := by decide +kernel
theorem e_21_162 (d : Nat) (a : Int) (z0 z1 z2 z3 z4 : q_V) (v : q_H) (G : q_Gr) (Q : q_V → q_H → q_Gr → Prop) : q_wp d 21 162 [z0, z1, z2, z3, z4] [.inl a] v G Q = ((0 ≤ a ∧ a ≤ 1) ∧ Q (.inl a) v G) := q_w_zreturn c_21_162 rfl
theorem e_21 (d : Nat) (a0 : Nat) (a1 : Option Nat) (a2 : Int) (a3 : Int) (v : q_H) (G : q_Gr) (Q : q_V → q_H → q_Gr → Prop) : q_call (d + 1) 21 [.inr (.inr (.inl (some a0))), .inr (.inr (.inl a1)), .inl a2, .inl a3] v G Q = ((G.2.1 a0).1 = 2 ∧ q_wp d 21 0 [.inr (.inr (.inl (some a0))), .inr (.inr (.inl a1)), .inl a2, .inl a3, .inr (.inr (.inr ()))] [] v G Q) := by
  rw [q_call_in (by decide) (Nat.le_of_ble_eq_true rfl) rfl]
  exact congrArg (· ∧ _) (propext beq_iff_eq)
/-- all but the heads of loops: [39] -/
def E21 := And.intro @e_21 (And.intro @e_21_0 (And.intro @e_21_1 (And.intro @e_21_2 (And.intro @e_21_5 (And.intro @e_21_6 (And.intro @e_21_7 (And.intro @e_21_10 (And.intro @e_21_11 (And.intro @e_21_12 (And.intro @e_21_15 (And.intro @e_21_16 (And.intro @e_21_19 (And.intro @e_21_22 (And.intro @e_21_23 (And.intro @e_21_26 (And.intro @e_21_29 (And.intro @e_21_30 (And.intro @e_21_33 (And.intro @e_21_36 (And.intro @e_21_37 (And.intro @e_21_41 (And.intro @e_21_43 (And.intro @e_21_46 (And.intro @e_21_48 (And.intro @e_21_49 (And.intro @e_21_50 (And.intro @e_21_53 (And.intro @e_21_56 (And.intro @e_21_57 (And.intro @e_21_60 (And.intro @e_21_63 (And.intro @e_21_64 (And.intro @e_21_66 (And.intro @e_21_69 (And.intro @e_21_70 (And.intro @e_21_73 (And.intro @e_21_74 (And.intro @e_21_77 (And.intro @e_21_78 (And.intro @e_21_81 (And.intro @e_21_84 (And.intro @e_21_85 (And.intro @e_21_86 (And.intro @e_21_88 (And.intro @e_21_91 (And.intro @e_21_94 (And.intro @e_21_97 (And.intro @e_21_98 (And.intro @e_21_101 (And.intro @e_21_104 (And.intro @e_21_105 (And.intro @e_21_108 (And.intro @e_21_109 (And.intro @e_21_112 (And.intro @e_21_115 (And.intro @e_21_118 (And.intro @e_21_119 (And.intro @e_21_120 (And.intro @e_21_123 (And.intro @e_21_124 (And.intro @e_21_127 (And.intro @e_21_130 (And.intro @e_21_131 (And.intro @e_21_132 (And.intro @e_21_135 (And.intro @e_21_136 (And.intro @e_21_139 (And.intro @e_21_140 (And.intro @e_21_143 (And.intro @e_21_144 (And.intro @e_21_147 (And.intro @e_21_150 (And.intro @e_21_151 (And.intro @e_21_154 (And.intro @e_21_157 (And.intro @e_21_158 (And.intro @e_21_161 (@e_21_162))))))))))))))))))))))))))))))))))))))))))))))))))))))))))))))))))))))))))))))
/-! ProvenRows$Checker.proofsOf(LProvenRows$Act;)I -/
theorem c_22_0 : q_code 22 0 = (.aload_n 1, 1, 0, 0, 0, 0, 0) := by decide +kernel
theorem e_22_0 (d : Nat) (a : Option Nat) (z0 : q_V) (st : List q_V) (v : q_H) (G : q_Gr) (Q : q_V → q_H → q_Gr → Prop) : q_wp d 22 0 [z0, .inr (.inr (.inl a))] st v G Q = q_wp d 22 1 [z0, .inr (.inr (.inl a))] (.inr (.inr (.inl a)) :: st) v G Q := q_w_aload_n c_22_0 rfl
theorem c_22_1 : q_code 22 1 = (.getfield 89, 3, 0, 0, 0, 599, 0) := by decide +kernel
theorem e_22_1 (d : Nat) (a : Nat) (z0 z1 : q_V) (st : List q_V) (v : q_H) (G : q_Gr) (Q : q_V → q_H → q_Gr → Prop) : q_wp d 22 1 [z0, z1] (.inr (.inr (.inl (some a))) :: st) v G Q = (((G.2.1 a).1 = 0) ∧ q_wp d 22 4 [z0, z1] (.inl (v a 0) :: st) v G Q) := q_w_getI c_22_1
theorem c_22_4 : q_code 22 4 = (.iconst 5, 1, 0, 0, 0, 0, 0) := by decide +kernel
theorem e_22_4 (d : Nat)  (z0 z1 : q_V) (st : List q_V) (v : q_H) (G : q_Gr) (Q : q_V → q_H → q_Gr → Prop) : q_wp d 22 4 [z0, z1] st v G Q = q_wp d 22 5 [z0, z1] (.inl 5 :: st) v G Q := q_w_iconst c_22_4
theorem c_22_5 : q_code 22 5 = (.if_icmp .ne 5, 3, 0, 0, 0, 0, 0) := by decide +kernel
theorem e_22_5 (d : Nat) (a b : Int) (z0 z1 : q_V) (st : List q_V) (v : q_H) (G : q_Gr) (Q : q_V → q_H → q_Gr → Prop) : q_wp d 22 5 [z0, z1] (.inl b :: .inl a :: st) v G Q = ((q_inR a ∧ q_inR b) ∧ if ¬ a = b then q_wp d 22 10 [z0, z1] st v G Q else q_wp d 22 8 [z0, z1] st v G Q) := q_w_icmp_ne c_22_5 (by decide)
theorem c_22_8 : q_code 22 8 = (.iconst 2, 1, 0, 0, 0, 0, 0) := by decide +kernel
theorem e_22_8 (d : Nat)  (z0 z1 : q_V) (st : List q_V) (v : q_H) (G : q_Gr) (Q : q_V → q_H → q_Gr → Prop) : q_wp d 22 8 [z0, z1] st v G Q = q_wp d 22 9 [z0, z1] (.inl 2 :: st) v G Q := q_w_iconst c_22_8
theorem c_22_9 : q_code 22 9 = (.ireturn, 1, 0, 0, 0, 0, 0) := by decide +kernel
theorem e_22_9 (d : Nat) (a : Int) (z0 z1 : q_V) (v : q_H) (G : q_Gr) (Q : q_V → q_H → q_Gr → Prop) : q_wp d 22 9 [z0, z1] [.inl a] v G Q = Q (.inl a) v G := q_w_ireturn c_22_9 rfl
theorem c_22_10 : q_code 22 10 = (.aload_n 1, 1, 0, 0, 0, 0, 0) := by decide +kernel
theorem e_22_10 (d : Nat) (a : Option Nat) (z0 : q_V) (st : List q_V) (v : q_H) (G : q_Gr) (Q : q_V → q_H → q_Gr → Prop) : q_wp d 22 10 [z0, .inr (.inr (.inl a))] st v G Q = q_wp d 22 11 [z0, .inr (.inr (.inl a))] (.inr (.inr (.inl a)) :: st) v G Q := q_w_aload_n c_22_10 rfl
theorem c_22_11 : q_code 22 11 = (.invokevirtual 92, 3, 3, 1, 0, 790, 1) := by decide +kernel
theorem e_22_11 (d : Nat) (x0 : q_V) (z0 z1 : q_V) (v : q_H) (G : q_Gr) (Q : q_V → q_H → q_Gr → Prop) : q_wp d 22 11 [z0, z1] [x0] v G Q = q_call d 3 [x0] v G (fun r v G => q_wp d 22 14 [z0, z1] (q_push r []) v G Q) := q_wp_ca (m2 := 3) (k := 1) (as := [x0]) (rest := []) (congrArg q_kind c_22_11) (congrArg (fun w => w.2.2.1) c_22_11) (congrArg (fun w => w.2.2.2.1) c_22_11) rfl (Nat.le_of_ble_eq_true rfl) rfl
theorem c_22_14 : q_code 22 14 = (.ifCond .eq 15, 3, 0, 0, 0, 0, 0) := by decide +kernel
theorem e_22_14 (d : Nat) (a : Int) (z0 z1 : q_V) (st : List q_V) (v : q_H) (G : q_Gr) (Q : q_V → q_H → q_Gr → Prop) : q_wp d 22 14 [z0, z1] (.inl a :: st) v G Q = ((q_inR a) ∧ if a = 0 then q_wp d 22 29 [z0, z1] st v G Q else q_wp d 22 17 [z0, z1] st v G Q) := q_w_if_eq c_22_14 (by decide)
theorem c_22_17 : q_code 22 17 = (.iconst 1, 1, 0, 0, 0, 0, 0) := by decide +kernel
theorem e_22_17 (d : Nat)  (z0 z1 : q_V) (st : List q_V) (v : q_H) (G : q_Gr) (Q : q_V → q_H → q_Gr → Prop) : q_wp d 22 17 [z0, z1] st v G Q = q_wp d 22 18 [z0, z1] (.inl 1 :: st) v G Q := q_w_iconst c_22_17
theorem c_22_18 : q_code 22 18 = (.aload_n 0, 1, 0, 0, 0, 0, 0) := by decide +kernel
theorem e_22_18 (d : Nat) (a : Option Nat) (z1 : q_V) (st : List q_V) (v : q_H) (G : q_Gr) (Q : q_V → q_H → q_Gr → Prop) : q_wp d 22 18 [.inr (.inr (.inl a)), z1] st v G Q = q_wp d 22 19 [.inr (.inr (.inl a)), z1] (.inr (.inr (.inl a)) :: st) v G Q := q_w_aload_n c_22_18 rfl
theorem c_22_19 : q_code 22 19 = (.getfield 44, 3, 2, 10, 1, 205, 0) := by decide +kernel
theorem e_22_19 (d : Nat) (a : Nat) (z0 z1 : q_V) (st : List q_V) (v : q_H) (G : q_Gr) (Q : q_V → q_H → q_Gr → Prop) : q_wp d 22 19 [z0, z1] (.inr (.inr (.inl (some a))) :: st) v G Q = (((G.2.1 a).1 = 2) ∧ q_wp d 22 22 [z0, z1] (.inr (.inr (.inl (G.1 a 10))) :: st) v G Q) := q_w_getP c_22_19
theorem c_22_22 : q_code 22 22 = (.invokevirtual 96, 3, 82, 1, 0, 791, 1) := by decide +kernel
theorem e_22_22 (d : Nat) (x0 y0 : q_V) (z0 z1 : q_V) (v : q_H) (G : q_Gr) (Q : q_V → q_H → q_Gr → Prop) : q_wp d 22 22 [z0, z1] [x0, y0] v G Q = q_call d 82 [x0] v G (fun r v G => q_wp d 22 25 [z0, z1] (q_push r [y0]) v G Q) := q_wp_ca (m2 := 82) (k := 1) (as := [x0]) (rest := [y0]) (congrArg q_kind c_22_22) (congrArg (fun w => w.2.2.1) c_22_22) (congrArg (fun w => w.2.2.2.1) c_22_22) rfl (Nat.le_of_ble_eq_true rfl) rfl
theorem c_22_25 : q_code 22 25 = (.iadd, 1, 0, 0, 0, 0, 0) := by decide +kernel
theorem e_22_25 (d : Nat) (a b : Int) (z0 z1 : q_V) (st : List q_V) (v : q_H) (G : q_Gr) (Q : q_V → q_H → q_Gr → Prop) : q_wp d 22 25 [z0, z1] (.inl b :: .inl a :: st) v G Q = q_wp d 22 26 [z0, z1] (.inl (a + b) :: st) v G Q := q_w_iadd c_22_25
theorem c_22_26 : q_code 22 26 = (.goto 4, 3, 0, 0, 0, 0, 0) := by decide +kernel
theorem e_22_26 (d : Nat)  (z0 z1 : q_V) (st : List q_V) (v : q_H) (G : q_Gr) (Q : q_V → q_H → q_Gr → Prop) : q_wp d 22 26 [z0, z1] st v G Q = q_wp d 22 30 [z0, z1] st v G Q := q_w_goto c_22_26 (by decide)
theorem c_22_29 : q_code 22 29 = (.iconst 1, 1, 0, 0, 0, 0, 0) := by decide +kernel
theorem e_22_29 (d : Nat)  (z0 z1 : q_V) (st : List q_V) (v : q_H) (G : q_Gr) (Q : q_V → q_H → q_Gr → Prop) : q_wp d 22 29 [z0, z1] st v G Q = q_wp d 22 30 [z0, z1] (.inl 1 :: st) v G Q := q_w_iconst c_22_29
theorem c_22_30 : q_code 22 30 = (.ireturn, 1, 0, 0, 0, 0, 0) := by decide +kernel
theorem e_22_30 (d : Nat) (a : Int) (z0 z1 : q_V) (v : q_H) (G : q_Gr) (Q : q_V → q_H → q_Gr → Prop) : q_wp d 22 30 [z0, z1] [.inl a] v G Q = Q (.inl a) v G := q_w_ireturn c_22_30 rfl
theorem e_22 (d : Nat) (a0 : Nat) (a1 : Option Nat) (v : q_H) (G : q_Gr) (Q : q_V → q_H → q_Gr → Prop) : q_call (d + 1) 22 [.inr (.inr (.inl (some a0))), .inr (.inr (.inl a1))] v G Q = ((G.2.1 a0).1 = 2 ∧ q_wp d 22 0 [.inr (.inr (.inl (some a0))), .inr (.inr (.inl a1))] [] v G Q) := by
  rw [q_call_in (by decide) (Nat.le_of_ble_eq_true rfl) rfl]
  exact congrArg (· ∧ _) (propext beq_iff_eq)
/-- all but the heads of loops: [] -/
def E22 := And.intro @e_22 (And.intro @e_22_0 (And.intro @e_22_1 (And.intro @e_22_4 (And.intro @e_22_5 (And.intro @e_22_8 (And.intro @e_22_9 (And.intro @e_22_10 (And.intro @e_22_11 (And.intro @e_22_14 (And.intro @e_22_17 (And.intro @e_22_18 (And.intro @e_22_19 (And.intro @e_22_22 (And.intro @e_22_25 (And.intro @e_22_26 (And.intro @e_22_29 (@e_22_30)))))))))))))))))
/-! ProvenRows$Checker.next(II)I -/
theorem c_23_0 : q_code 23 0 = (.aload_n 0, 1, 0, 0, 0, 0, 0) := by decide +kernel
theorem e_23_0 (d : Nat) (a : Option Nat) (z1 z2 z3 : q_V) (st : List q_V) (v : q_H) (G : q_Gr) (Q : q_V → q_H → q_Gr → Prop) : q_wp d 23 0 [.inr (.inr (.inl a)), z1, z2, z3] st v G Q = q_wp d 23 1 [.inr (.inr (.inl a)), z1, z2, z3] (.inr (.inr (.inl a)) :: st) v G Q := q_w_aload_n c_23_0 rfl
theorem c_23_1 : q_code 23 1 = (.getfield 14, 3, 2, 0, 1, 195, 0) := by decide +kernel
theorem e_23_1 (d : Nat) (a : Nat) (z0 z1 z2 z3 : q_V) (st : List q_V) (v : q_H) (G : q_Gr) (Q : q_V → q_H → q_Gr → Prop) : q_wp d 23 1 [z0, z1, z2, z3] (.inr (.inr (.inl (some a))) :: st) v G Q = (((G.2.1 a).1 = 2) ∧ q_wp d 23 4 [z0, z1, z2, z3] (.inr (.inr (.inl (G.1 a 0))) :: st) v G Q) := q_w_getP c_23_1
theorem c_23_4 : q_code 23 4 = (.aload_n 0, 1, 0, 0, 0, 0, 0) := by decide +kernel
theorem e_23_4 (d : Nat) (a : Option Nat) (z1 z2 z3 : q_V) (st : List q_V) (v : q_H) (G : q_Gr) (Q : q_V → q_H → q_Gr → Prop) : q_wp d 23 4 [.inr (.inr (.inl a)), z1, z2, z3] st v G Q = q_wp d 23 5 [.inr (.inr (.inl a)), z1, z2, z3] (.inr (.inr (.inl a)) :: st) v G Q := q_w_aload_n c_23_4 rfl
theorem c_23_5 : q_code 23 5 = (.getfield 58, 3, 2, 1, 0, 196, 0) := by decide +kernel
theorem e_23_5 (d : Nat) (a : Nat) (z0 z1 z2 z3 : q_V) (st : List q_V) (v : q_H) (G : q_Gr) (Q : q_V → q_H → q_Gr → Prop) : q_wp d 23 5 [z0, z1, z2, z3] (.inr (.inr (.inl (some a))) :: st) v G Q = (((G.2.1 a).1 = 2) ∧ q_wp d 23 8 [z0, z1, z2, z3] (.inl (v a 1) :: st) v G Q) := q_w_getI c_23_5
theorem c_23_8 : q_code 23 8 = (.invokevirtual 97, 3, 41, 2, 0, 798, 1) := by decide +kernel
theorem e_23_8 (d : Nat) (x0 x1 : q_V) (z0 z1 z2 z3 : q_V) (v : q_H) (G : q_Gr) (Q : q_V → q_H → q_Gr → Prop) : q_wp d 23 8 [z0, z1, z2, z3] [x1, x0] v G Q = q_call d 41 [x0, x1] v G (fun r v G => q_wp d 23 11 [z0, z1, z2, z3] (q_push r []) v G Q) := q_wp_ca (m2 := 41) (k := 2) (as := [x0, x1]) (rest := []) (congrArg q_kind c_23_8) (congrArg (fun w => w.2.2.1) c_23_8) (congrArg (fun w => w.2.2.2.1) c_23_8) rfl (Nat.le_of_ble_eq_true rfl) rfl
theorem c_23_11 : q_code 23 11 = (.istore_n 3, 1, 0, 0, 0, 0, 0) := by decide +kernel
theorem e_23_11 (d : Nat) (a : Int) (z0 z1 z2 z3 : q_V) (st : List q_V) (v : q_H) (G : q_Gr) (Q : q_V → q_H → q_Gr → Prop) : q_wp d 23 11 [z0, z1, z2, z3] (.inl a :: st) v G Q = q_wp d 23 12 [z0, z1, z2, .inl a] st v G Q := q_w_istore_n c_23_11
theorem c_23_12 : q_code 23 12 = (.aload_n 0, 1, 0, 0, 0, 0, 0) := by decide +kernel
theorem e_23_12 (d : Nat) (a : Option Nat) (z1 z2 z3 : q_V) (st : List q_V) (v : q_H) (G : q_Gr) (Q : q_V → q_H → q_Gr → Prop) : q_wp d 23 12 [.inr (.inr (.inl a)), z1, z2, z3] st v G Q = q_wp d 23 13 [.inr (.inr (.inl a)), z1, z2, z3] (.inr (.inr (.inl a)) :: st) v G Q := q_w_aload_n c_23_12 rfl
theorem c_23_13 : q_code 23 13 = (.getfield 58, 3, 2, 1, 0, 196, 0) := by decide +kernel
theorem e_23_13 (d : Nat) (a : Nat) (z0 z1 z2 z3 : q_V) (st : List q_V) (v : q_H) (G : q_Gr) (Q : q_V → q_H → q_Gr → Prop) : q_wp d 23 13 [z0, z1, z2, z3] (.inr (.inr (.inl (some a))) :: st) v G Q = (((G.2.1 a).1 = 2) ∧ q_wp d 23 16 [z0, z1, z2, z3] (.inl (v a 1) :: st) v G Q) := q_w_getI c_23_13
theorem c_23_16 : q_code 23 16 = (.aload_n 0, 1, 0, 0, 0, 0, 0) := by decide +kernel
theorem e_23_16 (d : Nat) (a : Option Nat) (z1 z2 z3 : q_V) (st : List q_V) (v : q_H) (G : q_Gr) (Q : q_V → q_H → q_Gr → Prop) : q_wp d 23 16 [.inr (.inr (.inl a)), z1, z2, z3] st v G Q = q_wp d 23 17 [.inr (.inr (.inl a)), z1, z2, z3] (.inr (.inr (.inl a)) :: st) v G Q := q_w_aload_n c_23_16 rfl
theorem c_23_17 : q_code 23 17 = (.getfield 14, 3, 2, 0, 1, 195, 0) := by decide +kernel
theorem e_23_17 (d : Nat) (a : Nat) (z0 z1 z2 z3 : q_V) (st : List q_V) (v : q_H) (G : q_Gr) (Q : q_V → q_H → q_Gr → Prop) : q_wp d 23 17 [z0, z1, z2, z3] (.inr (.inr (.inl (some a))) :: st) v G Q = (((G.2.1 a).1 = 2) ∧ q_wp d 23 20 [z0, z1, z2, z3] (.inr (.inr (.inl (G.1 a 0))) :: st) v G Q) := q_w_getP c_23_17
theorem c_23_20 : q_code 23 20 = (.invokevirtual 79, 3, 40, 1, 0, 799, 1) := by decide +kernel
theorem e_23_20 (d : Nat) (x0 y0 : q_V) (z0 z1 z2 z3 : q_V) (v : q_H) (G : q_Gr) (Q : q_V → q_H → q_Gr → Prop) : q_wp d 23 20 [z0, z1, z2, z3] [x0, y0] v G Q = q_call d 40 [x0] v G (fun r v G => q_wp d 23 23 [z0, z1, z2, z3] (q_push r [y0]) v G Q) := q_wp_ca (m2 := 40) (k := 1) (as := [x0]) (rest := [y0]) (congrArg q_kind c_23_20) (congrArg (fun w => w.2.2.1) c_23_20) (congrArg (fun w => w.2.2.2.1) c_23_20) rfl (Nat.le_of_ble_eq_true rfl) rfl
theorem c_23_23 : q_code 23 23 = (.if_icmp .ge 13, 3, 0, 0, 0, 0, 0) := by decide +kernel
theorem e_23_23 (d : Nat) (a b : Int) (z0 z1 z2 z3 : q_V) (st : List q_V) (v : q_H) (G : q_Gr) (Q : q_V → q_H → q_Gr → Prop) : q_wp d 23 23 [z0, z1, z2, z3] (.inl b :: .inl a :: st) v G Q = ((q_inR a ∧ q_inR b) ∧ if b ≤ a then q_wp d 23 36 [z0, z1, z2, z3] st v G Q else q_wp d 23 26 [z0, z1, z2, z3] st v G Q) := q_w_icmp_ge c_23_23 (by decide)
theorem c_23_26 : q_code 23 26 = (.iload_n 3, 1, 0, 0, 0, 0, 0) := by decide +kernel
theorem e_23_26 (d : Nat) (a : Int) (z0 z1 z2 : q_V) (st : List q_V) (v : q_H) (G : q_Gr) (Q : q_V → q_H → q_Gr → Prop) : q_wp d 23 26 [z0, z1, z2, .inl a] st v G Q = q_wp d 23 27 [z0, z1, z2, .inl a] (.inl a :: st) v G Q := q_w_iload_n c_23_26 rfl
theorem c_23_27 : q_code 23 27 = (.iload_n 1, 1, 0, 0, 0, 0, 0) := by decide +kernel
theorem e_23_27 (d : Nat) (a : Int) (z0 z2 z3 : q_V) (st : List q_V) (v : q_H) (G : q_Gr) (Q : q_V → q_H → q_Gr → Prop) : q_wp d 23 27 [z0, .inl a, z2, z3] st v G Q = q_wp d 23 28 [z0, .inl a, z2, z3] (.inl a :: st) v G Q := q_w_iload_n c_23_27 rfl
theorem c_23_28 : q_code 23 28 = (.if_icmp .lt 8, 3, 0, 0, 0, 0, 0) := by decide +kernel
theorem e_23_28 (d : Nat) (a b : Int) (z0 z1 z2 z3 : q_V) (st : List q_V) (v : q_H) (G : q_Gr) (Q : q_V → q_H → q_Gr → Prop) : q_wp d 23 28 [z0, z1, z2, z3] (.inl b :: .inl a :: st) v G Q = ((q_inR a ∧ q_inR b) ∧ if a < b then q_wp d 23 36 [z0, z1, z2, z3] st v G Q else q_wp d 23 31 [z0, z1, z2, z3] st v G Q) := q_w_icmp_lt c_23_28 (by decide)
theorem c_23_31 : q_code 23 31 = (.iload_n 3, 1, 0, 0, 0, 0, 0) := by decide +kernel
theorem e_23_31 (d : Nat) (a : Int) (z0 z1 z2 : q_V) (st : List q_V) (v : q_H) (G : q_Gr) (Q : q_V → q_H → q_Gr → Prop) : q_wp d 23 31 [z0, z1, z2, .inl a] st v G Q = q_wp d 23 32 [z0, z1, z2, .inl a] (.inl a :: st) v G Q := q_w_iload_n c_23_31 rfl
theorem c_23_32 : q_code 23 32 = (.iload_n 2, 1, 0, 0, 0, 0, 0) := by decide +kernel
theorem e_23_32 (d : Nat) (a : Int) (z0 z1 z3 : q_V) (st : List q_V) (v : q_H) (G : q_Gr) (Q : q_V → q_H → q_Gr → Prop) : q_wp d 23 32 [z0, z1, .inl a, z3] st v G Q = q_wp d 23 33 [z0, z1, .inl a, z3] (.inl a :: st) v G Q := q_w_iload_n c_23_32 rfl
theorem c_23_33 : q_code 23 33 = (.if_icmp .le 10, 3, 0, 0, 0, 0, 0) := by decide +kernel
theorem e_23_33 (d : Nat) (a b : Int) (z0 z1 z2 z3 : q_V) (st : List q_V) (v : q_H) (G : q_Gr) (Q : q_V → q_H → q_Gr → Prop) : q_wp d 23 33 [z0, z1, z2, z3] (.inl b :: .inl a :: st) v G Q = ((q_inR a ∧ q_inR b) ∧ if a ≤ b then q_wp d 23 43 [z0, z1, z2, z3] st v G Q else q_wp d 23 36 [z0, z1, z2, z3] st v G Q) := q_w_icmp_le c_23_33 (by decide)
theorem c_23_36 : q_code 23 36 = (.aload_n 0, 1, 0, 0, 0, 0, 0) := by decide +kernel
theorem e_23_36 (d : Nat) (a : Option Nat) (z1 z2 z3 : q_V) (st : List q_V) (v : q_H) (G : q_Gr) (Q : q_V → q_H → q_Gr → Prop) : q_wp d 23 36 [.inr (.inr (.inl a)), z1, z2, z3] st v G Q = q_wp d 23 37 [.inr (.inr (.inl a)), z1, z2, z3] (.inr (.inr (.inl a)) :: st) v G Q := q_w_aload_n c_23_36 rfl
theorem c_23_37 : q_code 23 37 = (.iconst 1, 1, 0, 0, 0, 0, 0) := by decide +kernel
theorem e_23_37 (d : Nat)  (z0 z1 z2 z3 : q_V) (st : List q_V) (v : q_H) (G : q_Gr) (Q : q_V → q_H → q_Gr → Prop) : q_wp d 23 37 [z0, z1, z2, z3] st v G Q = q_wp d 23 38 [z0, z1, z2, z3] (.inl 1 :: st) v G Q := q_w_iconst c_23_37
theorem c_23_38 : q_code 23 38 = (.putfield 54, 3, 2, 2, 0, 197, 0) := by decide +kernel
theorem e_23_38 (d : Nat) (a : Nat) (b : Int) (z0 z1 z2 z3 : q_V) (st : List q_V) (v : q_H) (G : q_Gr) (Q : q_V → q_H → q_Gr → Prop) : q_wp d 23 38 [z0, z1, z2, z3] (.inl b :: .inr (.inr (.inl (some a))) :: st) v G Q = (((G.2.1 a).1 = 2) ∧ q_wp d 23 41 [z0, z1, z2, z3] st (q_up v a 2 b) G Q) := q_w_putI c_23_38
theorem c_23_41 : q_code 23 41 = (.iload_n 1, 1, 0, 0, 0, 0, 0) := by decide +kernel
theorem e_23_41 (d : Nat) (a : Int) (z0 z2 z3 : q_V) (st : List q_V) (v : q_H) (G : q_Gr) (Q : q_V → q_H → q_Gr → Prop) : q_wp d 23 41 [z0, .inl a, z2, z3] st v G Q = q_wp d 23 42 [z0, .inl a, z2, z3] (.inl a :: st) v G Q := q_w_iload_n c_23_41 rfl
theorem c_23_42 : q_code 23 42 = (.ireturn, 1, 0, 0, 0, 0, 0) := by decide +kernel
theorem e_23_42 (d : Nat) (a : Int) (z0 z1 z2 z3 : q_V) (v : q_H) (G : q_Gr) (Q : q_V → q_H → q_Gr → Prop) : q_wp d 23 42 [z0, z1, z2, z3] [.inl a] v G Q = Q (.inl a) v G := q_w_ireturn c_23_42 rfl
theorem c_23_43 : q_code 23 43 = (.aload_n 0, 1, 0, 0, 0, 0, 0) := by decide +kernel
theorem e_23_43 (d : Nat) (a : Option Nat) (z1 z2 z3 : q_V) (st : List q_V) (v : q_H) (G : q_Gr) (Q : q_V → q_H → q_Gr → Prop) : q_wp d 23 43 [.inr (.inr (.inl a)), z1, z2, z3] st v G Q = q_wp d 23 44 [.inr (.inr (.inl a)), z1, z2, z3] (.inr (.inr (.inl a)) :: st) v G Q := q_w_aload_n c_23_43 rfl
theorem c_23_44 : q_code 23 44 = (.dup, 1, 0, 0, 0, 0, 0) := by decide +kernel
theorem e_23_44 (d : Nat) (a : Option Nat) (z0 z1 z2 z3 : q_V) (st : List q_V) (v : q_H) (G : q_Gr) (Q : q_V → q_H → q_Gr → Prop) : q_wp d 23 44 [z0, z1, z2, z3] (.inr (.inr (.inl a)) :: st) v G Q = q_wp d 23 45 [z0, z1, z2, z3] (.inr (.inr (.inl a)) :: .inr (.inr (.inl a)) :: st) v G Q := q_w_dupP c_23_44
theorem c_23_45 : q_code 23 45 = (.getfield 58, 3, 2, 1, 0, 196, 0) := by decide +kernel
theorem e_23_45 (d : Nat) (a : Nat) (z0 z1 z2 z3 : q_V) (st : List q_V) (v : q_H) (G : q_Gr) (Q : q_V → q_H → q_Gr → Prop) : q_wp d 23 45 [z0, z1, z2, z3] (.inr (.inr (.inl (some a))) :: st) v G Q = (((G.2.1 a).1 = 2) ∧ q_wp d 23 48 [z0, z1, z2, z3] (.inl (v a 1) :: st) v G Q) := q_w_getI c_23_45
theorem c_23_48 : q_code 23 48 = (.iconst 1, 1, 0, 0, 0, 0, 0) := by decide +kernel
theorem e_23_48 (d : Nat)  (z0 z1 z2 z3 : q_V) (st : List q_V) (v : q_H) (G : q_Gr) (Q : q_V → q_H → q_Gr → Prop) : q_wp d 23 48 [z0, z1, z2, z3] st v G Q = q_wp d 23 49 [z0, z1, z2, z3] (.inl 1 :: st) v G Q := q_w_iconst c_23_48
theorem c_23_49 : q_code 23 49 = (.iadd, 1, 0, 0, 0, 0, 0) := by decide +kernel
theorem e_23_49 (d : Nat) (a b : Int) (z0 z1 z2 z3 : q_V) (st : List q_V) (v : q_H) (G : q_Gr) (Q : q_V → q_H → q_Gr → Prop) : q_wp d 23 49 [z0, z1, z2, z3] (.inl b :: .inl a :: st) v G Q = q_wp d 23 50 [z0, z1, z2, z3] (.inl (a + b) :: st) v G Q := q_w_iadd c_23_49
theorem c_23_50 : q_code 23 50 = (.putfield 58, 3, 2, 1, 0, 196, 0) := by decide +kernel
theorem e_23_50 (d : Nat) (a : Nat) (b : Int) (z0 z1 z2 z3 : q_V) (st : List q_V) (v : q_H) (G : q_Gr) (Q : q_V → q_H → q_Gr → Prop) : q_wp d 23 50 [z0, z1, z2, z3] (.inl b :: .inr (.inr (.inl (some a))) :: st) v G Q = (((G.2.1 a).1 = 2) ∧ q_wp d 23 53 [z0, z1, z2, z3] st (q_up v a 1 b) G Q) := q_w_putI c_23_50
theorem c_23_53 : q_code 23 53 = (.iload_n 3, 1, 0, 0, 0, 0, 0) := by decide +kernel
theorem e_23_53 (d : Nat) (a : Int) (z0 z1 z2 : q_V) (st : List q_V) (v : q_H) (G : q_Gr) (Q : q_V → q_H → q_Gr → Prop) : q_wp d 23 53 [z0, z1, z2, .inl a] st v G Q = q_wp d 23 54 [z0, z1, z2, .inl a] (.inl a :: st) v G Q := q_w_iload_n c_23_53 rfl
theorem c_23_54 : q_code 23 54 = (.ireturn, 1, 0, 0, 0, 0, 0) := by decide +kernel
theorem e_23_54 (d : Nat) (a : Int) (z0 z1 z2 z3 : q_V) (v : q_H) (G : q_Gr) (Q : q_V → q_H → q_Gr → Prop) : q_wp d 23 54 [z0, z1, z2, z3] [.inl a] v G Q = Q (.inl a) v G := q_w_ireturn c_23_54 rfl
theorem e_23 (d : Nat) (a0 : Nat) (a1 : Int) (a2 : Int) (v : q_H) (G : q_Gr) (Q : q_V → q_H → q_Gr → Prop) : q_call (d + 1) 23 [.inr (.inr (.inl (some a0))), .inl a1, .inl a2] v G Q = ((G.2.1 a0).1 = 2 ∧ q_wp d 23 0 [.inr (.inr (.inl (some a0))), .inl a1, .inl a2, .inr (.inr (.inr ()))] [] v G Q) := by
  rw [q_call_in (by decide) (Nat.le_of_ble_eq_true rfl) rfl]
  exact congrArg (· ∧ _) (propext beq_iff_eq)
/-- all but the heads of loops: [] -/
def E23 := And.intro @e_23 (And.intro @e_23_0 (And.intro @e_23_1 (And.intro @e_23_4 (And.intro @e_23_5 (And.intro @e_23_8 (And.intro @e_23_11 (And.intro @e_23_12 (And.intro @e_23_13 (And.intro @e_23_16 (And.intro @e_23_17 (And.intro @e_23_20 (And.intro @e_23_23 (And.intro @e_23_26 (And.intro @e_23_27 (And.intro @e_23_28 (And.intro @e_23_31 (And.intro @e_23_32 (And.intro @e_23_33 (And.intro @e_23_36 (And.intro @e_23_37 (And.intro @e_23_38 (And.intro @e_23_41 (And.intro @e_23_42 (And.intro @e_23_43 (And.intro @e_23_44 (And.intro @e_23_45 (And.intro @e_23_48 (And.intro @e_23_49 (And.intro @e_23_50 (And.intro @e_23_53 (@e_23_54)))))))))))))))))))))))))))))))
/-! ProvenRows$Checker.readProof(I)V -/
theorem c_24_0 : q_code 24 0 = (.aload_n 0, 1, 0, 0, 0, 0, 0) := by decide +kernel
theorem e_24_0 (d : Nat) (a : Option Nat) (z1 z2 z3 : q_V) (st : List q_V) (v : q_H) (G : q_Gr) (Q : q_V → q_H → q_Gr → Prop) : q_wp d 24 0 [.inr (.inr (.inl a)), z1, z2, z3] st v G Q = q_wp d 24 1 [.inr (.inr (.inl a)), z1, z2, z3] (.inr (.inr (.inl a)) :: st) v G Q := q_w_aload_n c_24_0 rfl
theorem c_24_1 : q_code 24 1 = (.aload_n 0, 1, 0, 0, 0, 0, 0) := by decide +kernel
theorem e_24_1 (d : Nat) (a : Option Nat) (z1 z2 z3 : q_V) (st : List q_V) (v : q_H) (G : q_Gr) (Q : q_V → q_H → q_Gr → Prop) : q_wp d 24 1 [.inr (.inr (.inl a)), z1, z2, z3] st v G Q = q_wp d 24 2 [.inr (.inr (.inl a)), z1, z2, z3] (.inr (.inr (.inl a)) :: st) v G Q := q_w_aload_n c_24_1 rfl
theorem c_24_2 : q_code 24 2 = (.iconst 2, 1, 0, 0, 0, 0, 0) := by decide +kernel
theorem e_24_2 (d : Nat)  (z0 z1 z2 z3 : q_V) (st : List q_V) (v : q_H) (G : q_Gr) (Q : q_V → q_H → q_Gr → Prop) : q_wp d 24 2 [z0, z1, z2, z3] st v G Q = q_wp d 24 3 [z0, z1, z2, z3] (.inl 2 :: st) v G Q := q_w_iconst c_24_2
theorem c_24_3 : q_code 24 3 = (.bipush 16, 2, 0, 0, 0, 0, 0) := by decide +kernel
theorem e_24_3 (d : Nat)  (z0 z1 z2 z3 : q_V) (st : List q_V) (v : q_H) (G : q_Gr) (Q : q_V → q_H → q_Gr → Prop) : q_wp d 24 3 [z0, z1, z2, z3] st v G Q = q_wp d 24 5 [z0, z1, z2, z3] (.inl 16 :: st) v G Q := (q_w_bipush c_24_3).trans (by simp only [show ((-128 : Int) ≤ 16 ∧ (16 : Int) ≤ 127) = True by decide, true_and])
theorem c_24_5 : q_code 24 5 = (.invokevirtual 100, 3, 23, 3, 0, 795, 1) := by decide +kernel
theorem e_24_5 (d : Nat) (x0 x1 x2 y0 : q_V) (z0 z1 z2 z3 : q_V) (v : q_H) (G : q_Gr) (Q : q_V → q_H → q_Gr → Prop) : q_wp d 24 5 [z0, z1, z2, z3] [x2, x1, x0, y0] v G Q = q_call d 23 [x0, x1, x2] v G (fun r v G => q_wp d 24 8 [z0, z1, z2, z3] (q_push r [y0]) v G Q) := q_wp_ca (m2 := 23) (k := 3) (as := [x0, x1, x2]) (rest := [y0]) (congrArg q_kind c_24_5) (congrArg (fun w => w.2.2.1) c_24_5) (congrArg (fun w => w.2.2.2.1) c_24_5) rfl (Nat.le_of_ble_eq_true rfl) rfl
theorem c_24_8 : q_code 24 8 = (.putfield 104, 3, 2, 8, 0, 203, 0) := by decide +kernel
theorem e_24_8 (d : Nat) (a : Nat) (b : Int) (z0 z1 z2 z3 : q_V) (st : List q_V) (v : q_H) (G : q_Gr) (Q : q_V → q_H → q_Gr → Prop) : q_wp d 24 8 [z0, z1, z2, z3] (.inl b :: .inr (.inr (.inl (some a))) :: st) v G Q = (((G.2.1 a).1 = 2) ∧ q_wp d 24 11 [z0, z1, z2, z3] st (q_up v a 8 b) G Q) := q_w_putI c_24_8
theorem c_24_11 : q_code 24 11 = (.aload_n 0, 1, 0, 0, 0, 0, 0) := by decide +kernel
theorem e_24_11 (d : Nat) (a : Option Nat) (z1 z2 z3 : q_V) (st : List q_V) (v : q_H) (G : q_Gr) (Q : q_V → q_H → q_Gr → Prop) : q_wp d 24 11 [.inr (.inr (.inl a)), z1, z2, z3] st v G Q = q_wp d 24 12 [.inr (.inr (.inl a)), z1, z2, z3] (.inr (.inr (.inl a)) :: st) v G Q := q_w_aload_n c_24_11 rfl
theorem c_24_12 : q_code 24 12 = (.getfield 54, 3, 2, 2, 0, 197, 0) := by decide +kernel
theorem e_24_12 (d : Nat) (a : Nat) (z0 z1 z2 z3 : q_V) (st : List q_V) (v : q_H) (G : q_Gr) (Q : q_V → q_H → q_Gr → Prop) : q_wp d 24 12 [z0, z1, z2, z3] (.inr (.inr (.inl (some a))) :: st) v G Q = (((G.2.1 a).1 = 2) ∧ q_wp d 24 15 [z0, z1, z2, z3] (.inl (v a 2) :: st) v G Q) := q_w_getI c_24_12
theorem c_24_15 : q_code 24 15 = (.ifCond .eq 4, 3, 0, 0, 0, 0, 0) := by decide +kernel
theorem e_24_15 (d : Nat) (a : Int) (z0 z1 z2 z3 : q_V) (st : List q_V) (v : q_H) (G : q_Gr) (Q : q_V → q_H → q_Gr → Prop) : q_wp d 24 15 [z0, z1, z2, z3] (.inl a :: st) v G Q = ((q_inR a) ∧ if a = 0 then q_wp d 24 19 [z0, z1, z2, z3] st v G Q else q_wp d 24 18 [z0, z1, z2, z3] st v G Q) := q_w_if_eq c_24_15 (by decide)
theorem c_24_18 : q_code 24 18 = (.return_, 1, 0, 0, 0, 0, 0) := by decide +kernel
theorem e_24_18 (d : Nat)  (z0 z1 z2 z3 : q_V) (v : q_H) (G : q_Gr) (Q : q_V → q_H → q_Gr → Prop) : q_wp d 24 18 [z0, z1, z2, z3] [] v G Q = Q (.inr (.inr (.inr ()))) v G := q_w_return c_24_18 rfl
theorem c_24_19 : q_code 24 19 = (.aload_n 0, 1, 0, 0, 0, 0, 0) := by decide +kernel
theorem e_24_19 (d : Nat) (a : Option Nat) (z1 z2 z3 : q_V) (st : List q_V) (v : q_H) (G : q_Gr) (Q : q_V → q_H → q_Gr → Prop) : q_wp d 24 19 [.inr (.inr (.inl a)), z1, z2, z3] st v G Q = q_wp d 24 20 [.inr (.inr (.inl a)), z1, z2, z3] (.inr (.inr (.inl a)) :: st) v G Q := q_w_aload_n c_24_19 rfl
theorem c_24_20 : q_code 24 20 = (.invokevirtual 107, 3, 25, 1, 0, 800, 0) := by decide +kernel
theorem e_24_20 (d : Nat) (x0 : q_V) (z0 z1 z2 z3 : q_V) (v : q_H) (G : q_Gr) (Q : q_V → q_H → q_Gr → Prop) : q_wp d 24 20 [z0, z1, z2, z3] [x0] v G Q = q_call d 25 [x0] v G (fun r v G => q_wp d 24 23 [z0, z1, z2, z3] (q_push r []) v G Q) := q_wp_ca (m2 := 25) (k := 1) (as := [x0]) (rest := []) (congrArg q_kind c_24_20) (congrArg (fun w => w.2.2.1) c_24_20) (congrArg (fun w => w.2.2.2.1) c_24_20) rfl (Nat.le_of_ble_eq_true rfl) rfl
theorem c_24_23 : q_code 24 23 = (.iconst 1, 1, 0, 0, 0, 0, 0) := by decide +kernel
theorem e_24_23 (d : Nat)  (z0 z1 z2 z3 : q_V) (st : List q_V) (v : q_H) (G : q_Gr) (Q : q_V → q_H → q_Gr → Prop) : q_wp d 24 23 [z0, z1, z2, z3] st v G Q = q_wp d 24 24 [z0, z1, z2, z3] (.inl 1 :: st) v G Q := q_w_iconst c_24_23
theorem c_24_24 : q_code 24 24 = (.istore_n 2, 1, 0, 0, 0, 0, 0) := by decide +kernel
theorem e_24_24 (d : Nat) (a : Int) (z0 z1 z2 z3 : q_V) (st : List q_V) (v : q_H) (G : q_Gr) (Q : q_V → q_H → q_Gr → Prop) : q_wp d 24 24 [z0, z1, z2, z3] (.inl a :: st) v G Q = q_wp d 24 25 [z0, z1, .inl a, z3] st v G Q := q_w_istore_n c_24_24
theorem c_24_25 : q_code 24 25 = (.iconst 1, 1, 0, 0, 0, 0, 0) := by decide +kernel
theorem e_24_25 (d : Nat)  (z0 z1 z2 z3 : q_V) (st : List q_V) (v : q_H) (G : q_Gr) (Q : q_V → q_H → q_Gr → Prop) : q_wp d 24 25 [z0, z1, z2, z3] st v G Q = q_wp d 24 26 [z0, z1, z2, z3] (.inl 1 :: st) v G Q := q_w_iconst c_24_25
theorem c_24_26 : q_code 24 26 = (.istore_n 3, 1, 0, 0, 0, 0, 0) := by decide +kernel
theorem e_24_26 (d : Nat) (a : Int) (z0 z1 z2 z3 : q_V) (st : List q_V) (v : q_H) (G : q_Gr) (Q : q_V → q_H → q_Gr → Prop) : q_wp d 24 26 [z0, z1, z2, z3] (.inl a :: st) v G Q = q_wp d 24 27 [z0, z1, z2, .inl a] st v G Q := q_w_istore_n c_24_26
theorem c_24_27 : q_code 24 27 = (.iload_n 3, 1, 0, 0, 0, 0, 0) := by decide +kernel
theorem e_24_27 (d : Nat) (a : Int) (z0 z1 z2 : q_V) (st : List q_V) (v : q_H) (G : q_Gr) (Q : q_V → q_H → q_Gr → Prop) : q_wp d 24 27 [z0, z1, z2, .inl a] st v G Q = q_wp d 24 28 [z0, z1, z2, .inl a] (.inl a :: st) v G Q := q_w_iload_n c_24_27 rfl
theorem c_24_28 : q_code 24 28 = (.bipush 32, 2, 0, 0, 0, 0, 0) := by decide +kernel
theorem e_24_28 (d : Nat)  (z0 z1 z2 z3 : q_V) (st : List q_V) (v : q_H) (G : q_Gr) (Q : q_V → q_H → q_Gr → Prop) : q_wp d 24 28 [z0, z1, z2, z3] st v G Q = q_wp d 24 30 [z0, z1, z2, z3] (.inl 32 :: st) v G Q := (q_w_bipush c_24_28).trans (by simp only [show ((-128 : Int) ≤ 32 ∧ (32 : Int) ≤ 127) = True by decide, true_and])
theorem c_24_30 : q_code 24 30 = (.if_icmp .ge 26, 3, 0, 0, 0, 0, 0) := by decide +kernel
theorem e_24_30 (d : Nat) (a b : Int) (z0 z1 z2 z3 : q_V) (st : List q_V) (v : q_H) (G : q_Gr) (Q : q_V → q_H → q_Gr → Prop) : q_wp d 24 30 [z0, z1, z2, z3] (.inl b :: .inl a :: st) v G Q = ((q_inR a ∧ q_inR b) ∧ if b ≤ a then q_wp d 24 56 [z0, z1, z2, z3] st v G Q else q_wp d 24 33 [z0, z1, z2, z3] st v G Q) := q_w_icmp_ge c_24_30 (by decide)
theorem c_24_33 : q_code 24 33 = (.iload_n 2, 1, 0, 0, 0, 0, 0) := by decide +kernel
theorem e_24_33 (d : Nat) (a : Int) (z0 z1 z3 : q_V) (st : List q_V) (v : q_H) (G : q_Gr) (Q : q_V → q_H → q_Gr → Prop) : q_wp d 24 33 [z0, z1, .inl a, z3] st v G Q = q_wp d 24 34 [z0, z1, .inl a, z3] (.inl a :: st) v G Q := q_w_iload_n c_24_33 rfl
theorem c_24_34 : q_code 24 34 = (.ifCond .le 22, 3, 0, 0, 0, 0, 0) := by decide +kernel
theorem e_24_34 (d : Nat) (a : Int) (z0 z1 z2 z3 : q_V) (st : List q_V) (v : q_H) (G : q_Gr) (Q : q_V → q_H → q_Gr → Prop) : q_wp d 24 34 [z0, z1, z2, z3] (.inl a :: st) v G Q = ((q_inR a) ∧ if a ≤ 0 then q_wp d 24 56 [z0, z1, z2, z3] st v G Q else q_wp d 24 37 [z0, z1, z2, z3] st v G Q) := q_w_if_le c_24_34 (by decide)
theorem c_24_37 : q_code 24 37 = (.aload_n 0, 1, 0, 0, 0, 0, 0) := by decide +kernel
theorem e_24_37 (d : Nat) (a : Option Nat) (z1 z2 z3 : q_V) (st : List q_V) (v : q_H) (G : q_Gr) (Q : q_V → q_H → q_Gr → Prop) : q_wp d 24 37 [.inr (.inr (.inl a)), z1, z2, z3] st v G Q = q_wp d 24 38 [.inr (.inr (.inl a)), z1, z2, z3] (.inr (.inr (.inl a)) :: st) v G Q := q_w_aload_n c_24_37 rfl
theorem c_24_38 : q_code 24 38 = (.getfield 54, 3, 2, 2, 0, 197, 0) := by decide +kernel
theorem e_24_38 (d : Nat) (a : Nat) (z0 z1 z2 z3 : q_V) (st : List q_V) (v : q_H) (G : q_Gr) (Q : q_V → q_H → q_Gr → Prop) : q_wp d 24 38 [z0, z1, z2, z3] (.inr (.inr (.inl (some a))) :: st) v G Q = (((G.2.1 a).1 = 2) ∧ q_wp d 24 41 [z0, z1, z2, z3] (.inl (v a 2) :: st) v G Q) := q_w_getI c_24_38
theorem c_24_41 : q_code 24 41 = (.ifCond .ne 15, 3, 0, 0, 0, 0, 0) := by decide +kernel
theorem e_24_41 (d : Nat) (a : Int) (z0 z1 z2 z3 : q_V) (st : List q_V) (v : q_H) (G : q_Gr) (Q : q_V → q_H → q_Gr → Prop) : q_wp d 24 41 [z0, z1, z2, z3] (.inl a :: st) v G Q = ((q_inR a) ∧ if ¬ a = 0 then q_wp d 24 56 [z0, z1, z2, z3] st v G Q else q_wp d 24 44 [z0, z1, z2, z3] st v G Q) := q_w_if_ne c_24_41 (by decide)
theorem c_24_44 : q_code 24 44 = (.aload_n 0, 1, 0, 0, 0, 0, 0) := by decide +kernel
theorem e_24_44 (d : Nat) (a : Option Nat) (z1 z2 z3 : q_V) (st : List q_V) (v : q_H) (G : q_Gr) (Q : q_V → q_H → q_Gr → Prop) : q_wp d 24 44 [.inr (.inr (.inl a)), z1, z2, z3] st v G Q = q_wp d 24 45 [.inr (.inr (.inl a)), z1, z2, z3] (.inr (.inr (.inl a)) :: st) v G Q := q_w_aload_n c_24_44 rfl
theorem c_24_45 : q_code 24 45 = (.iload_n 2, 1, 0, 0, 0, 0, 0) := by decide +kernel
theorem e_24_45 (d : Nat) (a : Int) (z0 z1 z3 : q_V) (st : List q_V) (v : q_H) (G : q_Gr) (Q : q_V → q_H → q_Gr → Prop) : q_wp d 24 45 [z0, z1, .inl a, z3] st v G Q = q_wp d 24 46 [z0, z1, .inl a, z3] (.inl a :: st) v G Q := q_w_iload_n c_24_45 rfl
theorem c_24_46 : q_code 24 46 = (.invokevirtual 110, 3, 26, 2, 0, 804, 1) := by decide +kernel
theorem e_24_46 (d : Nat) (x0 x1 : q_V) (z0 z1 z2 z3 : q_V) (v : q_H) (G : q_Gr) (Q : q_V → q_H → q_Gr → Prop) : q_wp d 24 46 [z0, z1, z2, z3] [x1, x0] v G Q = q_call d 26 [x0, x1] v G (fun r v G => q_wp d 24 49 [z0, z1, z2, z3] (q_push r []) v G Q) := q_wp_ca (m2 := 26) (k := 2) (as := [x0, x1]) (rest := []) (congrArg q_kind c_24_46) (congrArg (fun w => w.2.2.1) c_24_46) (congrArg (fun w => w.2.2.2.1) c_24_46) rfl (Nat.le_of_ble_eq_true rfl) rfl
theorem c_24_49 : q_code 24 49 = (.istore_n 2, 1, 0, 0, 0, 0, 0) := by decide +kernel
theorem e_24_49 (d : Nat) (a : Int) (z0 z1 z2 z3 : q_V) (st : List q_V) (v : q_H) (G : q_Gr) (Q : q_V → q_H → q_Gr → Prop) : q_wp d 24 49 [z0, z1, z2, z3] (.inl a :: st) v G Q = q_wp d 24 50 [z0, z1, .inl a, z3] st v G Q := q_w_istore_n c_24_49
theorem c_24_50 : q_code 24 50 = (.iinc 3 1, 3, 0, 0, 0, 0, 0) := by decide +kernel
theorem e_24_50 (d : Nat) (a : Int) (z0 z1 z2 : q_V) (st : List q_V) (v : q_H) (G : q_Gr) (Q : q_V → q_H → q_Gr → Prop) : q_wp d 24 50 [z0, z1, z2, .inl a] st v G Q = q_wp d 24 53 [z0, z1, z2, .inl (a + 1)] st v G Q := q_w_iinc c_24_50 rfl
theorem c_24_53 : q_code 24 53 = (.goto (-26), 3, 0, 0, 0, 0, 0) := by decide +kernel
theorem e_24_53 (d : Nat)  (z0 z1 z2 z3 : q_V) (st : List q_V) (v : q_H) (G : q_Gr) (Q : q_V → q_H → q_Gr → Prop) : q_wp d 24 53 [z0, z1, z2, z3] st v G Q = q_wp d 24 27 [z0, z1, z2, z3] st v G Q := q_w_goto c_24_53 (by decide)
theorem c_24_56 : q_code 24 56 = (.aload_n 0, 1, 0, 0, 0, 0, 0) := by decide +kernel
theorem e_24_56 (d : Nat) (a : Option Nat) (z1 z2 z3 : q_V) (st : List q_V) (v : q_H) (G : q_Gr) (Q : q_V → q_H → q_Gr → Prop) : q_wp d 24 56 [.inr (.inr (.inl a)), z1, z2, z3] st v G Q = q_wp d 24 57 [.inr (.inr (.inl a)), z1, z2, z3] (.inr (.inr (.inl a)) :: st) v G Q := q_w_aload_n c_24_56 rfl
theorem c_24_57 : q_code 24 57 = (.getfield 54, 3, 2, 2, 0, 197, 0) := by decide +kernel
theorem e_24_57 (d : Nat) (a : Nat) (z0 z1 z2 z3 : q_V) (st : List q_V) (v : q_H) (G : q_Gr) (Q : q_V → q_H → q_Gr → Prop) : q_wp d 24 57 [z0, z1, z2, z3] (.inr (.inr (.inl (some a))) :: st) v G Q = (((G.2.1 a).1 = 2) ∧ q_wp d 24 60 [z0, z1, z2, z3] (.inl (v a 2) :: st) v G Q) := q_w_getI c_24_57
theorem c_24_60 : q_code 24 60 = (.ifCond .eq 4, 3, 0, 0, 0, 0, 0) := by decide +kernel
theorem e_24_60 (d : Nat) (a : Int) (z0 z1 z2 z3 : q_V) (st : List q_V) (v : q_H) (G : q_Gr) (Q : q_V → q_H → q_Gr → Prop) : q_wp d 24 60 [z0, z1, z2, z3] (.inl a :: st) v G Q = ((q_inR a) ∧ if a = 0 then q_wp d 24 64 [z0, z1, z2, z3] st v G Q else q_wp d 24 63 [z0, z1, z2, z3] st v G Q) := q_w_if_eq c_24_60 (by decide)
theorem c_24_63 : q_code 24 63 = (.return_, 1, 0, 0, 0, 0, 0) := by decide +kernel
theorem e_24_63 (d : Nat)  (z0 z1 z2 z3 : q_V) (v : q_H) (G : q_Gr) (Q : q_V → q_H → q_Gr → Prop) : q_wp d 24 63 [z0, z1, z2, z3] [] v G Q = Q (.inr (.inr (.inr ()))) v G := q_w_return c_24_63 rfl
theorem c_24_64 : q_code 24 64 = (.bipush 15, 2, 0, 0, 0, 0, 0) := by decide +kernel
theorem e_24_64 (d : Nat)  (z0 z1 z2 z3 : q_V) (st : List q_V) (v : q_H) (G : q_Gr) (Q : q_V → q_H → q_Gr → Prop) : q_wp d 24 64 [z0, z1, z2, z3] st v G Q = q_wp d 24 66 [z0, z1, z2, z3] (.inl 15 :: st) v G Q := (q_w_bipush c_24_64).trans (by simp only [show ((-128 : Int) ≤ 15 ∧ (15 : Int) ≤ 127) = True by decide, true_and])
theorem c_24_66 : q_code 24 66 = (.istore_n 3, 1, 0, 0, 0, 0, 0) := by decide +kernel
theorem e_24_66 (d : Nat) (a : Int) (z0 z1 z2 z3 : q_V) (st : List q_V) (v : q_H) (G : q_Gr) (Q : q_V → q_H → q_Gr → Prop) : q_wp d 24 66 [z0, z1, z2, z3] (.inl a :: st) v G Q = q_wp d 24 67 [z0, z1, z2, .inl a] st v G Q := q_w_istore_n c_24_66
theorem c_24_67 : q_code 24 67 = (.iload_n 3, 1, 0, 0, 0, 0, 0) := by decide +kernel
theorem e_24_67 (d : Nat) (a : Int) (z0 z1 z2 : q_V) (st : List q_V) (v : q_H) (G : q_Gr) (Q : q_V → q_H → q_Gr → Prop) : q_wp d 24 67 [z0, z1, z2, .inl a] st v G Q = q_wp d 24 68 [z0, z1, z2, .inl a] (.inl a :: st) v G Q := q_w_iload_n c_24_67 rfl
theorem c_24_68 : q_code 24 68 = (.iconst 1, 1, 0, 0, 0, 0, 0) := by decide +kernel
theorem e_24_68 (d : Nat)  (z0 z1 z2 z3 : q_V) (st : List q_V) (v : q_H) (G : q_Gr) (Q : q_V → q_H → q_Gr → Prop) : q_wp d 24 68 [z0, z1, z2, z3] st v G Q = q_wp d 24 69 [z0, z1, z2, z3] (.inl 1 :: st) v G Q := q_w_iconst c_24_68
theorem c_24_69 : q_code 24 69 = (.if_icmp .lt 26, 3, 0, 0, 0, 0, 0) := by decide +kernel
theorem e_24_69 (d : Nat) (a b : Int) (z0 z1 z2 z3 : q_V) (st : List q_V) (v : q_H) (G : q_Gr) (Q : q_V → q_H → q_Gr → Prop) : q_wp d 24 69 [z0, z1, z2, z3] (.inl b :: .inl a :: st) v G Q = ((q_inR a ∧ q_inR b) ∧ if a < b then q_wp d 24 95 [z0, z1, z2, z3] st v G Q else q_wp d 24 72 [z0, z1, z2, z3] st v G Q) := q_w_icmp_lt c_24_69 (by decide)
theorem c_24_72 : q_code 24 72 = (.aload_n 0, 1, 0, 0, 0, 0, 0) := by decide +kernel
theorem e_24_72 (d : Nat) (a : Option Nat) (z1 z2 z3 : q_V) (st : List q_V) (v : q_H) (G : q_Gr) (Q : q_V → q_H → q_Gr → Prop) : q_wp d 24 72 [.inr (.inr (.inl a)), z1, z2, z3] st v G Q = q_wp d 24 73 [.inr (.inr (.inl a)), z1, z2, z3] (.inr (.inr (.inl a)) :: st) v G Q := q_w_aload_n c_24_72 rfl
theorem c_24_73 : q_code 24 73 = (.getfield 31, 3, 2, 5, 1, 200, 0) := by decide +kernel
theorem e_24_73 (d : Nat) (a : Nat) (z0 z1 z2 z3 : q_V) (st : List q_V) (v : q_H) (G : q_Gr) (Q : q_V → q_H → q_Gr → Prop) : q_wp d 24 73 [z0, z1, z2, z3] (.inr (.inr (.inl (some a))) :: st) v G Q = (((G.2.1 a).1 = 2) ∧ q_wp d 24 76 [z0, z1, z2, z3] (.inr (.inr (.inl (G.1 a 5))) :: st) v G Q) := q_w_getP c_24_73
theorem c_24_76 : q_code 24 76 = (.iload_n 3, 1, 0, 0, 0, 0, 0) := by decide +kernel
theorem e_24_76 (d : Nat) (a : Int) (z0 z1 z2 : q_V) (st : List q_V) (v : q_H) (G : q_Gr) (Q : q_V → q_H → q_Gr → Prop) : q_wp d 24 76 [z0, z1, z2, .inl a] st v G Q = q_wp d 24 77 [z0, z1, z2, .inl a] (.inl a :: st) v G Q := q_w_iload_n c_24_76 rfl
theorem c_24_77 : q_code 24 77 = (.baload, 1, 0, 0, 0, 0, 0) := by decide +kernel
theorem e_24_77 (d : Nat) (a : Nat) (i : Int) (z0 z1 z2 z3 : q_V) (st : List q_V) (v : q_H) (G : q_Gr) (Q : q_V → q_H → q_Gr → Prop) : q_wp d 24 77 [z0, z1, z2, z3] (.inl i :: .inr (.inr (.inl (some a))) :: st) v G Q = (((G.2.1 a).1 = 21 ∧ 0 ≤ i ∧ i < (G.2.1 a).2) ∧ q_wp d 24 78 [z0, z1, z2, z3] (.inl (v a i.toNat) :: st) v G Q) := q_w_bald c_24_77
theorem c_24_78 : q_code 24 78 = (.ifCond .eq 11, 3, 0, 0, 0, 0, 0) := by decide +kernel
theorem e_24_78 (d : Nat) (a : Int) (z0 z1 z2 z3 : q_V) (st : List q_V) (v : q_H) (G : q_Gr) (Q : q_V → q_H → q_Gr → Prop) : q_wp d 24 78 [z0, z1, z2, z3] (.inl a :: st) v G Q = ((q_inR a) ∧ if a = 0 then q_wp d 24 89 [z0, z1, z2, z3] st v G Q else q_wp d 24 81 [z0, z1, z2, z3] st v G Q) := q_w_if_eq c_24_78 (by decide)
theorem c_24_81 : q_code 24 81 = (.aload_n 0, 1, 0, 0, 0, 0, 0) := by decide +kernel
theorem e_24_81 (d : Nat) (a : Option Nat) (z1 z2 z3 : q_V) (st : List q_V) (v : q_H) (G : q_Gr) (Q : q_V → q_H → q_Gr → Prop) : q_wp d 24 81 [.inr (.inr (.inl a)), z1, z2, z3] st v G Q = q_wp d 24 82 [.inr (.inr (.inl a)), z1, z2, z3] (.inr (.inr (.inl a)) :: st) v G Q := q_w_aload_n c_24_81 rfl
theorem c_24_82 : q_code 24 82 = (.getfield 23, 3, 2, 3, 1, 198, 0) := by decide +kernel
theorem e_24_82 (d : Nat) (a : Nat) (z0 z1 z2 z3 : q_V) (st : List q_V) (v : q_H) (G : q_Gr) (Q : q_V → q_H → q_Gr → Prop) : q_wp d 24 82 [z0, z1, z2, z3] (.inr (.inr (.inl (some a))) :: st) v G Q = (((G.2.1 a).1 = 2) ∧ q_wp d 24 85 [z0, z1, z2, z3] (.inr (.inr (.inl (G.1 a 3))) :: st) v G Q) := q_w_getP c_24_82
theorem c_24_85 : q_code 24 85 = (.iload_n 3, 1, 0, 0, 0, 0, 0) := by decide +kernel
theorem e_24_85 (d : Nat) (a : Int) (z0 z1 z2 : q_V) (st : List q_V) (v : q_H) (G : q_Gr) (Q : q_V → q_H → q_Gr → Prop) : q_wp d 24 85 [z0, z1, z2, .inl a] st v G Q = q_wp d 24 86 [z0, z1, z2, .inl a] (.inl a :: st) v G Q := q_w_iload_n c_24_85 rfl
theorem c_24_86 : q_code 24 86 = (.invokevirtual 113, 3, 114, 2, 0, 819, 0) := by decide +kernel
theorem e_24_86 (d : Nat) (x0 x1 : q_V) (z0 z1 z2 z3 : q_V) (v : q_H) (G : q_Gr) (Q : q_V → q_H → q_Gr → Prop) : q_wp d 24 86 [z0, z1, z2, z3] [x1, x0] v G Q = q_call d 114 [x0, x1] v G (fun r v G => q_wp d 24 89 [z0, z1, z2, z3] (q_push r []) v G Q) := q_wp_ca (m2 := 114) (k := 2) (as := [x0, x1]) (rest := []) (congrArg q_kind c_24_86) (congrArg (fun w => w.2.2.1) c_24_86) (congrArg (fun w => w.2.2.2.1) c_24_86) rfl (Nat.le_of_ble_eq_true rfl) rfl
theorem c_24_89 : q_code 24 89 = (.iinc 3 (-1), 3, 0, 0, 0, 0, 0) := by decide +kernel
theorem e_24_89 (d : Nat) (a : Int) (z0 z1 z2 : q_V) (st : List q_V) (v : q_H) (G : q_Gr) (Q : q_V → q_H → q_Gr → Prop) : q_wp d 24 89 [z0, z1, z2, .inl a] st v G Q = q_wp d 24 92 [z0, z1, z2, .inl (a + (-1))] st v G Q := q_w_iinc c_24_89 rfl
theorem c_24_92 : q_code 24 92 = (.goto (-25), 3, 0, 0, 0, 0, 0) := by decide +kernel
theorem e_24_92 (d : Nat)  (z0 z1 z2 z3 : q_V) (st : List q_V) (v : q_H) (G : q_Gr) (Q : q_V → q_H → q_Gr → Prop) : q_wp d 24 92 [z0, z1, z2, z3] st v G Q = q_wp d 24 67 [z0, z1, z2, z3] st v G Q := q_w_goto c_24_92 (by decide)
theorem c_24_95 : q_code 24 95 = (.aload_n 0, 1, 0, 0, 0, 0, 0) := by decide +kernel
theorem e_24_95 (d : Nat) (a : Option Nat) (z1 z2 z3 : q_V) (st : List q_V) (v : q_H) (G : q_Gr) (Q : q_V → q_H → q_Gr → Prop) : q_wp d 24 95 [.inr (.inr (.inl a)), z1, z2, z3] st v G Q = q_wp d 24 96 [.inr (.inr (.inl a)), z1, z2, z3] (.inr (.inr (.inl a)) :: st) v G Q := q_w_aload_n c_24_95 rfl
theorem c_24_96 : q_code 24 96 = (.getfield 23, 3, 2, 3, 1, 198, 0) := by decide +kernel
theorem e_24_96 (d : Nat) (a : Nat) (z0 z1 z2 z3 : q_V) (st : List q_V) (v : q_H) (G : q_Gr) (Q : q_V → q_H → q_Gr → Prop) : q_wp d 24 96 [z0, z1, z2, z3] (.inr (.inr (.inl (some a))) :: st) v G Q = (((G.2.1 a).1 = 2) ∧ q_wp d 24 99 [z0, z1, z2, z3] (.inr (.inr (.inl (G.1 a 3))) :: st) v G Q) := q_w_getP c_24_96
theorem c_24_99 : q_code 24 99 = (.invokevirtual 116, 3, 115, 1, 0, 820, 1) := by decide +kernel
theorem e_24_99 (d : Nat) (x0 : q_V) (z0 z1 z2 z3 : q_V) (v : q_H) (G : q_Gr) (Q : q_V → q_H → q_Gr → Prop) : q_wp d 24 99 [z0, z1, z2, z3] [x0] v G Q = q_call d 115 [x0] v G (fun r v G => q_wp d 24 102 [z0, z1, z2, z3] (q_push r []) v G Q) := q_wp_ca (m2 := 115) (k := 1) (as := [x0]) (rest := []) (congrArg q_kind c_24_99) (congrArg (fun w => w.2.2.1) c_24_99) (congrArg (fun w => w.2.2.2.1) c_24_99) rfl (Nat.le_of_ble_eq_true rfl) rfl
theorem c_24_102 : q_code 24 102 = (.iload_n 1, 1, 0, 0, 0, 0, 0) := by decide +kernel
theorem e_24_102 (d : Nat) (a : Int) (z0 z2 z3 : q_V) (st : List q_V) (v : q_H) (G : q_Gr) (Q : q_V → q_H → q_Gr → Prop) : q_wp d 24 102 [z0, .inl a, z2, z3] st v G Q = q_wp d 24 103 [z0, .inl a, z2, z3] (.inl a :: st) v G Q := q_w_iload_n c_24_102 rfl
theorem c_24_103 : q_code 24 103 = (.if_icmp .eq 8, 3, 0, 0, 0, 0, 0) := by decide +kernel
theorem e_24_103 (d : Nat) (a b : Int) (z0 z1 z2 z3 : q_V) (st : List q_V) (v : q_H) (G : q_Gr) (Q : q_V → q_H → q_Gr → Prop) : q_wp d 24 103 [z0, z1, z2, z3] (.inl b :: .inl a :: st) v G Q = ((q_inR a ∧ q_inR b) ∧ if a = b then q_wp d 24 111 [z0, z1, z2, z3] st v G Q else q_wp d 24 106 [z0, z1, z2, z3] st v G Q) := q_w_icmp_eq c_24_103 (by decide)
theorem c_24_106 : q_code 24 106 = (.aload_n 0, 1, 0, 0, 0, 0, 0) := by decide +kernel
theorem e_24_106 (d : Nat) (a : Option Nat) (z1 z2 z3 : q_V) (st : List q_V) (v : q_H) (G : q_Gr) (Q : q_V → q_H → q_Gr → Prop) : q_wp d 24 106 [.inr (.inr (.inl a)), z1, z2, z3] st v G Q = q_wp d 24 107 [.inr (.inr (.inl a)), z1, z2, z3] (.inr (.inr (.inl a)) :: st) v G Q := q_w_aload_n c_24_106 rfl
theorem c_24_107 : q_code 24 107 = (.iconst 2, 1, 0, 0, 0, 0, 0) := by decide +kernel
theorem e_24_107 (d : Nat)  (z0 z1 z2 z3 : q_V) (st : List q_V) (v : q_H) (G : q_Gr) (Q : q_V → q_H → q_Gr → Prop) : q_wp d 24 107 [z0, z1, z2, z3] st v G Q = q_wp d 24 108 [z0, z1, z2, z3] (.inl 2 :: st) v G Q := q_w_iconst c_24_107
theorem c_24_108 : q_code 24 108 = (.putfield 54, 3, 2, 2, 0, 197, 0) := by decide +kernel
theorem e_24_108 (d : Nat) (a : Nat) (b : Int) (z0 z1 z2 z3 : q_V) (st : List q_V) (v : q_H) (G : q_Gr) (Q : q_V → q_H → q_Gr → Prop) : q_wp d 24 108 [z0, z1, z2, z3] (.inl b :: .inr (.inr (.inl (some a))) :: st) v G Q = (((G.2.1 a).1 = 2) ∧ q_wp d 24 111 [z0, z1, z2, z3] st (q_up v a 2 b) G Q) := q_w_putI c_24_108
theorem c_24_111 : q_code 24 111 = (.return_, 1, 0, 0, 0, 0, 0) := by decide +kernel
theorem e_24_111 (d : Nat)  (z0 z1 z2 z3 : q_V) (v : q_H) (G : q_Gr) (Q : q_V → q_H → q_Gr → Prop) : q_wp d 24 111 [z0, z1, z2, z3] [] v G Q = Q (.inr (.inr (.inr ()))) v G := q_w_return c_24_111 rfl
theorem e_24 (d : Nat) (a0 : Nat) (a1 : Int) (v : q_H) (G : q_Gr) (Q : q_V → q_H → q_Gr → Prop) : q_call (d + 1) 24 [.inr (.inr (.inl (some a0))), .inl a1] v G Q = ((G.2.1 a0).1 = 2 ∧ q_wp d 24 0 [.inr (.inr (.inl (some a0))), .inl a1, .inr (.inr (.inr ())), .inr (.inr (.inr ()))] [] v G Q) := by
  rw [q_call_in (by decide) (Nat.le_of_ble_eq_true rfl) rfl]
  exact congrArg (· ∧ _) (propext beq_iff_eq)
/-- all but the heads of loops: [27, 67] -/
def E24 := And.intro @e_24 (And.intro @e_24_0 (And.intro @e_24_1 (And.intro @e_24_2 (And.intro @e_24_3 (And.intro @e_24_5 (And.intro @e_24_8 (And.intro @e_24_11 (And.intro @e_24_12 (And.intro @e_24_15 (And.intro @e_24_18 (And.intro @e_24_19 (And.intro @e_24_20 (And.intro @e_24_23 (And.intro @e_24_24 (And.intro @e_24_25 (And.intro @e_24_26 (And.intro @e_24_28 (And.intro @e_24_30 (And.intro @e_24_33 (And.intro @e_24_34 (And.intro @e_24_37 (And.intro @e_24_38 (And.intro @e_24_41 (And.intro @e_24_44 (And.intro @e_24_45 (And.intro @e_24_46 (And.intro @e_24_49 (And.intro @e_24_50 (And.intro @e_24_53 (And.intro @e_24_56 (And.intro @e_24_57 (And.intro @e_24_60 (And.intro @e_24_63 (And.intro @e_24_64 (And.intro @e_24_66 (And.intro @e_24_68 (And.intro @e_24_69 (And.intro @e_24_72 (And.intro @e_24_73 (And.intro @e_24_76 (And.intro @e_24_77 (And.intro @e_24_78 (And.intro @e_24_81 (And.intro @e_24_82 (And.intro @e_24_85 (And.intro @e_24_86 (And.intro @e_24_89 (And.intro @e_24_92 (And.intro @e_24_95 (And.intro @e_24_96 (And.intro @e_24_99 (And.intro @e_24_102 (And.intro @e_24_103 (And.intro @e_24_106 (And.intro @e_24_107 (And.intro @e_24_108 (@e_24_111)))))))))))))))))))))))))))))))))))))))))))))))))))))))))
/-! ProvenRows$Checker.beginTree()V -/
theorem c_25_0 : q_code 25 0 = (.aload_n 0, 1, 0, 0, 0, 0, 0) := by decide +kernel
theorem e_25_0 (d : Nat) (a : Option Nat) (z1 : q_V) (st : List q_V) (v : q_H) (G : q_Gr) (Q : q_V → q_H → q_Gr → Prop) : q_wp d 25 0 [.inr (.inr (.inl a)), z1] st v G Q = q_wp d 25 1 [.inr (.inr (.inl a)), z1] (.inr (.inr (.inl a)) :: st) v G Q := q_w_aload_n c_25_0 rfl
theorem c_25_1 : q_code 25 1 = (.getfield 23, 3, 2, 3, 1, 198, 0) := by decide +kernel
theorem e_25_1 (d : Nat) (a : Nat) (z0 z1 : q_V) (st : List q_V) (v : q_H) (G : q_Gr) (Q : q_V → q_H → q_Gr → Prop) : q_wp d 25 1 [z0, z1] (.inr (.inr (.inl (some a))) :: st) v G Q = (((G.2.1 a).1 = 2) ∧ q_wp d 25 4 [z0, z1] (.inr (.inr (.inl (G.1 a 3))) :: st) v G Q) := q_w_getP c_25_1
theorem c_25_4 : q_code 25 4 = (.aload_n 0, 1, 0, 0, 0, 0, 0) := by decide +kernel
theorem e_25_4 (d : Nat) (a : Option Nat) (z1 : q_V) (st : List q_V) (v : q_H) (G : q_Gr) (Q : q_V → q_H → q_Gr → Prop) : q_wp d 25 4 [.inr (.inr (.inl a)), z1] st v G Q = q_wp d 25 5 [.inr (.inr (.inl a)), z1] (.inr (.inr (.inl a)) :: st) v G Q := q_w_aload_n c_25_4 rfl
theorem c_25_5 : q_code 25 5 = (.getfield 104, 3, 2, 8, 0, 203, 0) := by decide +kernel
theorem e_25_5 (d : Nat) (a : Nat) (z0 z1 : q_V) (st : List q_V) (v : q_H) (G : q_Gr) (Q : q_V → q_H → q_Gr → Prop) : q_wp d 25 5 [z0, z1] (.inr (.inr (.inl (some a))) :: st) v G Q = (((G.2.1 a).1 = 2) ∧ q_wp d 25 8 [z0, z1] (.inl (v a 8) :: st) v G Q) := q_w_getI c_25_5
theorem c_25_8 : q_code 25 8 = (.invokevirtual 119, 3, 105, 2, 0, 803, 0) := by decide +kernel
theorem e_25_8 (d : Nat) (x0 x1 : q_V) (z0 z1 : q_V) (v : q_H) (G : q_Gr) (Q : q_V → q_H → q_Gr → Prop) : q_wp d 25 8 [z0, z1] [x1, x0] v G Q = q_call d 105 [x0, x1] v G (fun r v G => q_wp d 25 11 [z0, z1] (q_push r []) v G Q) := q_wp_ca (m2 := 105) (k := 2) (as := [x0, x1]) (rest := []) (congrArg q_kind c_25_8) (congrArg (fun w => w.2.2.1) c_25_8) (congrArg (fun w => w.2.2.2.1) c_25_8) rfl (Nat.le_of_ble_eq_true rfl) rfl
theorem c_25_11 : q_code 25 11 = (.aload_n 0, 1, 0, 0, 0, 0, 0) := by decide +kernel
theorem e_25_11 (d : Nat) (a : Option Nat) (z1 : q_V) (st : List q_V) (v : q_H) (G : q_Gr) (Q : q_V → q_H → q_Gr → Prop) : q_wp d 25 11 [.inr (.inr (.inl a)), z1] st v G Q = q_wp d 25 12 [.inr (.inr (.inl a)), z1] (.inr (.inr (.inl a)) :: st) v G Q := q_w_aload_n c_25_11 rfl
theorem c_25_12 : q_code 25 12 = (.iconst (-1), 1, 0, 0, 0, 0, 0) := by decide +kernel
theorem e_25_12 (d : Nat)  (z0 z1 : q_V) (st : List q_V) (v : q_H) (G : q_Gr) (Q : q_V → q_H → q_Gr → Prop) : q_wp d 25 12 [z0, z1] st v G Q = q_wp d 25 13 [z0, z1] (.inl (-1) :: st) v G Q := q_w_iconst c_25_12
theorem c_25_13 : q_code 25 13 = (.putfield 122, 3, 2, 9, 0, 204, 0) := by decide +kernel
theorem e_25_13 (d : Nat) (a : Nat) (b : Int) (z0 z1 : q_V) (st : List q_V) (v : q_H) (G : q_Gr) (Q : q_V → q_H → q_Gr → Prop) : q_wp d 25 13 [z0, z1] (.inl b :: .inr (.inr (.inl (some a))) :: st) v G Q = (((G.2.1 a).1 = 2) ∧ q_wp d 25 16 [z0, z1] st (q_up v a 9 b) G Q) := q_w_putI c_25_13
theorem c_25_16 : q_code 25 16 = (.iconst 0, 1, 0, 0, 0, 0, 0) := by decide +kernel
theorem e_25_16 (d : Nat)  (z0 z1 : q_V) (st : List q_V) (v : q_H) (G : q_Gr) (Q : q_V → q_H → q_Gr → Prop) : q_wp d 25 16 [z0, z1] st v G Q = q_wp d 25 17 [z0, z1] (.inl 0 :: st) v G Q := q_w_iconst c_25_16
theorem c_25_17 : q_code 25 17 = (.istore_n 1, 1, 0, 0, 0, 0, 0) := by decide +kernel
theorem e_25_17 (d : Nat) (a : Int) (z0 z1 : q_V) (st : List q_V) (v : q_H) (G : q_Gr) (Q : q_V → q_H → q_Gr → Prop) : q_wp d 25 17 [z0, z1] (.inl a :: st) v G Q = q_wp d 25 18 [z0, .inl a] st v G Q := q_w_istore_n c_25_17
theorem c_25_18 : q_code 25 18 = (.iload_n 1, 1, 0, 0, 0, 0, 0) := by decide +kernel
theorem e_25_18 (d : Nat) (a : Int) (z0 : q_V) (st : List q_V) (v : q_H) (G : q_Gr) (Q : q_V → q_H → q_Gr → Prop) : q_wp d 25 18 [z0, .inl a] st v G Q = q_wp d 25 19 [z0, .inl a] (.inl a :: st) v G Q := q_w_iload_n c_25_18 rfl
theorem c_25_19 : q_code 25 19 = (.bipush 16, 2, 0, 0, 0, 0, 0) := by decide +kernel
theorem e_25_19 (d : Nat)  (z0 z1 : q_V) (st : List q_V) (v : q_H) (G : q_Gr) (Q : q_V → q_H → q_Gr → Prop) : q_wp d 25 19 [z0, z1] st v G Q = q_wp d 25 21 [z0, z1] (.inl 16 :: st) v G Q := (q_w_bipush c_25_19).trans (by simp only [show ((-128 : Int) ≤ 16 ∧ (16 : Int) ≤ 127) = True by decide, true_and])
theorem c_25_21 : q_code 25 21 = (.if_icmp .ge 23, 3, 0, 0, 0, 0, 0) := by decide +kernel
theorem e_25_21 (d : Nat) (a b : Int) (z0 z1 : q_V) (st : List q_V) (v : q_H) (G : q_Gr) (Q : q_V → q_H → q_Gr → Prop) : q_wp d 25 21 [z0, z1] (.inl b :: .inl a :: st) v G Q = ((q_inR a ∧ q_inR b) ∧ if b ≤ a then q_wp d 25 44 [z0, z1] st v G Q else q_wp d 25 24 [z0, z1] st v G Q) := q_w_icmp_ge c_25_21 (by decide)
theorem c_25_24 : q_code 25 24 = (.aload_n 0, 1, 0, 0, 0, 0, 0) := by decide +kernel
theorem e_25_24 (d : Nat) (a : Option Nat) (z1 : q_V) (st : List q_V) (v : q_H) (G : q_Gr) (Q : q_V → q_H → q_Gr → Prop) : q_wp d 25 24 [.inr (.inr (.inl a)), z1] st v G Q = q_wp d 25 25 [.inr (.inr (.inl a)), z1] (.inr (.inr (.inl a)) :: st) v G Q := q_w_aload_n c_25_24 rfl
theorem c_25_25 : q_code 25 25 = (.getfield 27, 3, 2, 4, 1, 199, 0) := by decide +kernel
theorem e_25_25 (d : Nat) (a : Nat) (z0 z1 : q_V) (st : List q_V) (v : q_H) (G : q_Gr) (Q : q_V → q_H → q_Gr → Prop) : q_wp d 25 25 [z0, z1] (.inr (.inr (.inl (some a))) :: st) v G Q = (((G.2.1 a).1 = 2) ∧ q_wp d 25 28 [z0, z1] (.inr (.inr (.inl (G.1 a 4))) :: st) v G Q) := q_w_getP c_25_25
theorem c_25_28 : q_code 25 28 = (.iload_n 1, 1, 0, 0, 0, 0, 0) := by decide +kernel
theorem e_25_28 (d : Nat) (a : Int) (z0 : q_V) (st : List q_V) (v : q_H) (G : q_Gr) (Q : q_V → q_H → q_Gr → Prop) : q_wp d 25 28 [z0, .inl a] st v G Q = q_wp d 25 29 [z0, .inl a] (.inl a :: st) v G Q := q_w_iload_n c_25_28 rfl
theorem c_25_29 : q_code 25 29 = (.iconst 0, 1, 0, 0, 0, 0, 0) := by decide +kernel
theorem e_25_29 (d : Nat)  (z0 z1 : q_V) (st : List q_V) (v : q_H) (G : q_Gr) (Q : q_V → q_H → q_Gr → Prop) : q_wp d 25 29 [z0, z1] st v G Q = q_wp d 25 30 [z0, z1] (.inl 0 :: st) v G Q := q_w_iconst c_25_29
theorem c_25_30 : q_code 25 30 = (.bastore, 1, 0, 0, 0, 0, 0) := by decide +kernel
theorem e_25_30 (d : Nat) (a : Nat) (i b : Int) (z0 z1 : q_V) (st : List q_V) (v : q_H) (G : q_Gr) (Q : q_V → q_H → q_Gr → Prop) : q_wp d 25 30 [z0, z1] (.inl b :: .inl i :: .inr (.inr (.inl (some a))) :: st) v G Q = (((G.2.1 a).1 = 21 ∧ 32 ≤ a ∧ (0 ≤ b ∧ b ≤ 1) ∧ 0 ≤ i ∧ i < (G.2.1 a).2) ∧ q_wp d 25 31 [z0, z1] st (q_up v a i.toNat b) G Q) := q_w_bast c_25_30
theorem c_25_31 : q_code 25 31 = (.aload_n 0, 1, 0, 0, 0, 0, 0) := by decide +kernel
theorem e_25_31 (d : Nat) (a : Option Nat) (z1 : q_V) (st : List q_V) (v : q_H) (G : q_Gr) (Q : q_V → q_H → q_Gr → Prop) : q_wp d 25 31 [.inr (.inr (.inl a)), z1] st v G Q = q_wp d 25 32 [.inr (.inr (.inl a)), z1] (.inr (.inr (.inl a)) :: st) v G Q := q_w_aload_n c_25_31 rfl
theorem c_25_32 : q_code 25 32 = (.getfield 38, 3, 2, 7, 1, 202, 0) := by decide +kernel
theorem e_25_32 (d : Nat) (a : Nat) (z0 z1 : q_V) (st : List q_V) (v : q_H) (G : q_Gr) (Q : q_V → q_H → q_Gr → Prop) : q_wp d 25 32 [z0, z1] (.inr (.inr (.inl (some a))) :: st) v G Q = (((G.2.1 a).1 = 2) ∧ q_wp d 25 35 [z0, z1] (.inr (.inr (.inl (G.1 a 7))) :: st) v G Q) := q_w_getP c_25_32
theorem c_25_35 : q_code 25 35 = (.iload_n 1, 1, 0, 0, 0, 0, 0) := by decide +kernel
theorem e_25_35 (d : Nat) (a : Int) (z0 : q_V) (st : List q_V) (v : q_H) (G : q_Gr) (Q : q_V → q_H → q_Gr → Prop) : q_wp d 25 35 [z0, .inl a] st v G Q = q_wp d 25 36 [z0, .inl a] (.inl a :: st) v G Q := q_w_iload_n c_25_35 rfl
theorem c_25_36 : q_code 25 36 = (.iconst 0, 1, 0, 0, 0, 0, 0) := by decide +kernel
theorem e_25_36 (d : Nat)  (z0 z1 : q_V) (st : List q_V) (v : q_H) (G : q_Gr) (Q : q_V → q_H → q_Gr → Prop) : q_wp d 25 36 [z0, z1] st v G Q = q_wp d 25 37 [z0, z1] (.inl 0 :: st) v G Q := q_w_iconst c_25_36
theorem c_25_37 : q_code 25 37 = (.iastore, 1, 0, 0, 0, 0, 0) := by decide +kernel
theorem e_25_37 (d : Nat) (a : Nat) (i b : Int) (z0 z1 : q_V) (st : List q_V) (v : q_H) (G : q_Gr) (Q : q_V → q_H → q_Gr → Prop) : q_wp d 25 37 [z0, z1] (.inl b :: .inl i :: .inr (.inr (.inl (some a))) :: st) v G Q = (((G.2.1 a).1 = 20 ∧ 32 ≤ a ∧ 0 ≤ i ∧ i < (G.2.1 a).2) ∧ q_wp d 25 38 [z0, z1] st (q_up v a i.toNat b) G Q) := q_w_iast c_25_37
theorem c_25_38 : q_code 25 38 = (.iinc 1 1, 3, 0, 0, 0, 0, 0) := by decide +kernel
theorem e_25_38 (d : Nat) (a : Int) (z0 : q_V) (st : List q_V) (v : q_H) (G : q_Gr) (Q : q_V → q_H → q_Gr → Prop) : q_wp d 25 38 [z0, .inl a] st v G Q = q_wp d 25 41 [z0, .inl (a + 1)] st v G Q := q_w_iinc c_25_38 rfl
theorem c_25_41 : q_code 25 41 = (.goto (-23), 3, 0, 0, 0, 0, 0) := by decide +kernel
theorem e_25_41 (d : Nat)  (z0 z1 : q_V) (st : List q_V) (v : q_H) (G : q_Gr) (Q : q_V → q_H → q_Gr → Prop) : q_wp d 25 41 [z0, z1] st v G Q = q_wp d 25 18 [z0, z1] st v G Q := q_w_goto c_25_41 (by decide)
theorem c_25_44 : q_code 25 44 = (.iconst 0, 1, 0, 0, 0, 0, 0) := by decide +kernel
theorem e_25_44 (d : Nat)  (z0 z1 : q_V) (st : List q_V) (v : q_H) (G : q_Gr) (Q : q_V → q_H → q_Gr → Prop) : q_wp d 25 44 [z0, z1] st v G Q = q_wp d 25 45 [z0, z1] (.inl 0 :: st) v G Q := q_w_iconst c_25_44
theorem c_25_45 : q_code 25 45 = (.istore_n 1, 1, 0, 0, 0, 0, 0) := by decide +kernel
theorem e_25_45 (d : Nat) (a : Int) (z0 z1 : q_V) (st : List q_V) (v : q_H) (G : q_Gr) (Q : q_V → q_H → q_Gr → Prop) : q_wp d 25 45 [z0, z1] (.inl a :: st) v G Q = q_wp d 25 46 [z0, .inl a] st v G Q := q_w_istore_n c_25_45
theorem c_25_46 : q_code 25 46 = (.iload_n 1, 1, 0, 0, 0, 0, 0) := by decide +kernel
theorem e_25_46 (d : Nat) (a : Int) (z0 : q_V) (st : List q_V) (v : q_H) (G : q_Gr) (Q : q_V → q_H → q_Gr → Prop) : q_wp d 25 46 [z0, .inl a] st v G Q = q_wp d 25 47 [z0, .inl a] (.inl a :: st) v G Q := q_w_iload_n c_25_46 rfl
theorem c_25_47 : q_code 25 47 = (.bipush 32, 2, 0, 0, 0, 0, 0) := by decide +kernel
theorem e_25_47 (d : Nat)  (z0 z1 : q_V) (st : List q_V) (v : q_H) (G : q_Gr) (Q : q_V → q_H → q_Gr → Prop) : q_wp d 25 47 [z0, z1] st v G Q = q_wp d 25 49 [z0, z1] (.inl 32 :: st) v G Q := (q_w_bipush c_25_47).trans (by simp only [show ((-128 : Int) ≤ 32 ∧ (32 : Int) ≤ 127) = True by decide, true_and])
theorem c_25_49 : q_code 25 49 = (.if_icmp .ge 16, 3, 0, 0, 0, 0, 0) := by decide +kernel
theorem e_25_49 (d : Nat) (a b : Int) (z0 z1 : q_V) (st : List q_V) (v : q_H) (G : q_Gr) (Q : q_V → q_H → q_Gr → Prop) : q_wp d 25 49 [z0, z1] (.inl b :: .inl a :: st) v G Q = ((q_inR a ∧ q_inR b) ∧ if b ≤ a then q_wp d 25 65 [z0, z1] st v G Q else q_wp d 25 52 [z0, z1] st v G Q) := q_w_icmp_ge c_25_49 (by decide)
theorem c_25_52 : q_code 25 52 = (.aload_n 0, 1, 0, 0, 0, 0, 0) := by decide +kernel
theorem e_25_52 (d : Nat) (a : Option Nat) (z1 : q_V) (st : List q_V) (v : q_H) (G : q_Gr) (Q : q_V → q_H → q_Gr → Prop) : q_wp d 25 52 [.inr (.inr (.inl a)), z1] st v G Q = q_wp d 25 53 [.inr (.inr (.inl a)), z1] (.inr (.inr (.inl a)) :: st) v G Q := q_w_aload_n c_25_52 rfl
theorem c_25_53 : q_code 25 53 = (.getfield 31, 3, 2, 5, 1, 200, 0) := by decide +kernel
theorem e_25_53 (d : Nat) (a : Nat) (z0 z1 : q_V) (st : List q_V) (v : q_H) (G : q_Gr) (Q : q_V → q_H → q_Gr → Prop) : q_wp d 25 53 [z0, z1] (.inr (.inr (.inl (some a))) :: st) v G Q = (((G.2.1 a).1 = 2) ∧ q_wp d 25 56 [z0, z1] (.inr (.inr (.inl (G.1 a 5))) :: st) v G Q) := q_w_getP c_25_53
theorem c_25_56 : q_code 25 56 = (.iload_n 1, 1, 0, 0, 0, 0, 0) := by decide +kernel
theorem e_25_56 (d : Nat) (a : Int) (z0 : q_V) (st : List q_V) (v : q_H) (G : q_Gr) (Q : q_V → q_H → q_Gr → Prop) : q_wp d 25 56 [z0, .inl a] st v G Q = q_wp d 25 57 [z0, .inl a] (.inl a :: st) v G Q := q_w_iload_n c_25_56 rfl
theorem c_25_57 : q_code 25 57 = (.iconst 0, 1, 0, 0, 0, 0, 0) := by decide +kernel
theorem e_25_57 (d : Nat)  (z0 z1 : q_V) (st : List q_V) (v : q_H) (G : q_Gr) (Q : q_V → q_H → q_Gr → Prop) : q_wp d 25 57 [z0, z1] st v G Q = q_wp d 25 58 [z0, z1] (.inl 0 :: st) v G Q := q_w_iconst c_25_57
theorem c_25_58 : q_code 25 58 = (.bastore, 1, 0, 0, 0, 0, 0) := by decide +kernel
theorem e_25_58 (d : Nat) (a : Nat) (i b : Int) (z0 z1 : q_V) (st : List q_V) (v : q_H) (G : q_Gr) (Q : q_V → q_H → q_Gr → Prop) : q_wp d 25 58 [z0, z1] (.inl b :: .inl i :: .inr (.inr (.inl (some a))) :: st) v G Q = (((G.2.1 a).1 = 21 ∧ 32 ≤ a ∧ (0 ≤ b ∧ b ≤ 1) ∧ 0 ≤ i ∧ i < (G.2.1 a).2) ∧ q_wp d 25 59 [z0, z1] st (q_up v a i.toNat b) G Q) := q_w_bast c_25_58
theorem c_25_59 : q_code 25 59 = (.iinc 1 1, 3, 0, 0, 0, 0, 0) := by decide +kernel
theorem e_25_59 (d : Nat) (a : Int) (z0 : q_V) (st : List q_V) (v : q_H) (G : q_Gr) (Q : q_V → q_H → q_Gr → Prop) : q_wp d 25 59 [z0, .inl a] st v G Q = q_wp d 25 62 [z0, .inl (a + 1)] st v G Q := q_w_iinc c_25_59 rfl
theorem c_25_62 : q_code 25 62 = (.goto (-16), 3, 0, 0, 0, 0, 0) := by decide +kernel
theorem e_25_62 (d : Nat)  (z0 z1 : q_V) (st : List q_V) (v : q_H) (G : q_Gr) (Q : q_V → q_H → q_Gr → Prop) : q_wp d 25 62 [z0, z1] st v G Q = q_wp d 25 46 [z0, z1] st v G Q := q_w_goto c_25_62 (by decide)
theorem c_25_65 : q_code 25 65 = (.return_, 1, 0, 0, 0, 0, 0) := by decide +kernel
theorem e_25_65 (d : Nat)  (z0 z1 : q_V) (v : q_H) (G : q_Gr) (Q : q_V → q_H → q_Gr → Prop) : q_wp d 25 65 [z0, z1] [] v G Q = Q (.inr (.inr (.inr ()))) v G := q_w_return c_25_65 rfl
theorem e_25 (d : Nat) (a0 : Nat) (v : q_H) (G : q_Gr) (Q : q_V → q_H → q_Gr → Prop) : q_call (d + 1) 25 [.inr (.inr (.inl (some a0)))] v G Q = ((G.2.1 a0).1 = 2 ∧ q_wp d 25 0 [.inr (.inr (.inl (some a0))), .inr (.inr (.inr ()))] [] v G Q) := by
  rw [q_call_in (by decide) (Nat.le_of_ble_eq_true rfl) rfl]
  exact congrArg (· ∧ _) (propext beq_iff_eq)
/-- all but the heads of loops: [18, 46] -/
def E25 := And.intro @e_25 (And.intro @e_25_0 (And.intro @e_25_1 (And.intro @e_25_4 (And.intro @e_25_5 (And.intro @e_25_8 (And.intro @e_25_11 (And.intro @e_25_12 (And.intro @e_25_13 (And.intro @e_25_16 (And.intro @e_25_17 (And.intro @e_25_19 (And.intro @e_25_21 (And.intro @e_25_24 (And.intro @e_25_25 (And.intro @e_25_28 (And.intro @e_25_29 (And.intro @e_25_30 (And.intro @e_25_31 (And.intro @e_25_32 (And.intro @e_25_35 (And.intro @e_25_36 (And.intro @e_25_37 (And.intro @e_25_38 (And.intro @e_25_41 (And.intro @e_25_44 (And.intro @e_25_45 (And.intro @e_25_47 (And.intro @e_25_49 (And.intro @e_25_52 (And.intro @e_25_53 (And.intro @e_25_56 (And.intro @e_25_57 (And.intro @e_25_58 (And.intro @e_25_59 (And.intro @e_25_62 (@e_25_65))))))))))))))))))))))))))))))))))))
/-! ProvenRows$Checker.readTree(I)I -/
theorem c_26_0 : q_code 26 0 = (.aload_n 0, 1, 0, 0, 0, 0, 0) := by decide +kernel
theorem e_26_0 (d : Nat) (a : Option Nat) (z1 z2 : q_V) (st : List q_V) (v : q_H) (G : q_Gr) (Q : q_V → q_H → q_Gr → Prop) : q_wp d 26 0 [.inr (.inr (.inl a)), z1, z2] st v G Q = q_wp d 26 1 [.inr (.inr (.inl a)), z1, z2] (.inr (.inr (.inl a)) :: st) v G Q := q_w_aload_n c_26_0 rfl
theorem c_26_1 : q_code 26 1 = (.iconst 0, 1, 0, 0, 0, 0, 0) := by decide +kernel
theorem e_26_1 (d : Nat)  (z0 z1 z2 : q_V) (st : List q_V) (v : q_H) (G : q_Gr) (Q : q_V → q_H → q_Gr → Prop) : q_wp d 26 1 [z0, z1, z2] st v G Q = q_wp d 26 2 [z0, z1, z2] (.inl 0 :: st) v G Q := q_w_iconst c_26_1
theorem c_26_2 : q_code 26 2 = (.iconst 1, 1, 0, 0, 0, 0, 0) := by decide +kernel
theorem e_26_2 (d : Nat)  (z0 z1 z2 : q_V) (st : List q_V) (v : q_H) (G : q_Gr) (Q : q_V → q_H → q_Gr → Prop) : q_wp d 26 2 [z0, z1, z2] st v G Q = q_wp d 26 3 [z0, z1, z2] (.inl 1 :: st) v G Q := q_w_iconst c_26_2
theorem c_26_3 : q_code 26 3 = (.invokevirtual 100, 3, 23, 3, 0, 795, 1) := by decide +kernel
theorem e_26_3 (d : Nat) (x0 x1 x2 : q_V) (z0 z1 z2 : q_V) (v : q_H) (G : q_Gr) (Q : q_V → q_H → q_Gr → Prop) : q_wp d 26 3 [z0, z1, z2] [x2, x1, x0] v G Q = q_call d 23 [x0, x1, x2] v G (fun r v G => q_wp d 26 6 [z0, z1, z2] (q_push r []) v G Q) := q_wp_ca (m2 := 23) (k := 3) (as := [x0, x1, x2]) (rest := []) (congrArg q_kind c_26_3) (congrArg (fun w => w.2.2.1) c_26_3) (congrArg (fun w => w.2.2.2.1) c_26_3) rfl (Nat.le_of_ble_eq_true rfl) rfl
theorem c_26_6 : q_code 26 6 = (.iconst 1, 1, 0, 0, 0, 0, 0) := by decide +kernel
theorem e_26_6 (d : Nat)  (z0 z1 z2 : q_V) (st : List q_V) (v : q_H) (G : q_Gr) (Q : q_V → q_H → q_Gr → Prop) : q_wp d 26 6 [z0, z1, z2] st v G Q = q_wp d 26 7 [z0, z1, z2] (.inl 1 :: st) v G Q := q_w_iconst c_26_6
theorem c_26_7 : q_code 26 7 = (.if_icmp .ne 7, 3, 0, 0, 0, 0, 0) := by decide +kernel
theorem e_26_7 (d : Nat) (a b : Int) (z0 z1 z2 : q_V) (st : List q_V) (v : q_H) (G : q_Gr) (Q : q_V → q_H → q_Gr → Prop) : q_wp d 26 7 [z0, z1, z2] (.inl b :: .inl a :: st) v G Q = ((q_inR a ∧ q_inR b) ∧ if ¬ a = b then q_wp d 26 14 [z0, z1, z2] st v G Q else q_wp d 26 10 [z0, z1, z2] st v G Q) := q_w_icmp_ne c_26_7 (by decide)
theorem c_26_10 : q_code 26 10 = (.iconst 1, 1, 0, 0, 0, 0, 0) := by decide +kernel
theorem e_26_10 (d : Nat)  (z0 z1 z2 : q_V) (st : List q_V) (v : q_H) (G : q_Gr) (Q : q_V → q_H → q_Gr → Prop) : q_wp d 26 10 [z0, z1, z2] st v G Q = q_wp d 26 11 [z0, z1, z2] (.inl 1 :: st) v G Q := q_w_iconst c_26_10
theorem c_26_11 : q_code 26 11 = (.goto 4, 3, 0, 0, 0, 0, 0) := by decide +kernel
theorem e_26_11 (d : Nat)  (z0 z1 z2 : q_V) (st : List q_V) (v : q_H) (G : q_Gr) (Q : q_V → q_H → q_Gr → Prop) : q_wp d 26 11 [z0, z1, z2] st v G Q = q_wp d 26 15 [z0, z1, z2] st v G Q := q_w_goto c_26_11 (by decide)
theorem c_26_14 : q_code 26 14 = (.iconst 0, 1, 0, 0, 0, 0, 0) := by decide +kernel
theorem e_26_14 (d : Nat)  (z0 z1 z2 : q_V) (st : List q_V) (v : q_H) (G : q_Gr) (Q : q_V → q_H → q_Gr → Prop) : q_wp d 26 14 [z0, z1, z2] st v G Q = q_wp d 26 15 [z0, z1, z2] (.inl 0 :: st) v G Q := q_w_iconst c_26_14
theorem c_26_15 : q_code 26 15 = (.istore_n 2, 1, 0, 0, 0, 0, 0) := by decide +kernel
theorem e_26_15 (d : Nat) (a : Int) (z0 z1 z2 : q_V) (st : List q_V) (v : q_H) (G : q_Gr) (Q : q_V → q_H → q_Gr → Prop) : q_wp d 26 15 [z0, z1, z2] (.inl a :: st) v G Q = q_wp d 26 16 [z0, z1, .inl a] st v G Q := q_w_istore_n c_26_15
theorem c_26_16 : q_code 26 16 = (.aload_n 0, 1, 0, 0, 0, 0, 0) := by decide +kernel
theorem e_26_16 (d : Nat) (a : Option Nat) (z1 z2 : q_V) (st : List q_V) (v : q_H) (G : q_Gr) (Q : q_V → q_H → q_Gr → Prop) : q_wp d 26 16 [.inr (.inr (.inl a)), z1, z2] st v G Q = q_wp d 26 17 [.inr (.inr (.inl a)), z1, z2] (.inr (.inr (.inl a)) :: st) v G Q := q_w_aload_n c_26_16 rfl
theorem c_26_17 : q_code 26 17 = (.getfield 54, 3, 2, 2, 0, 197, 0) := by decide +kernel
theorem e_26_17 (d : Nat) (a : Nat) (z0 z1 z2 : q_V) (st : List q_V) (v : q_H) (G : q_Gr) (Q : q_V → q_H → q_Gr → Prop) : q_wp d 26 17 [z0, z1, z2] (.inr (.inr (.inl (some a))) :: st) v G Q = (((G.2.1 a).1 = 2) ∧ q_wp d 26 20 [z0, z1, z2] (.inl (v a 2) :: st) v G Q) := q_w_getI c_26_17
theorem c_26_20 : q_code 26 20 = (.ifCond .ne 12, 3, 0, 0, 0, 0, 0) := by decide +kernel
theorem e_26_20 (d : Nat) (a : Int) (z0 z1 z2 : q_V) (st : List q_V) (v : q_H) (G : q_Gr) (Q : q_V → q_H → q_Gr → Prop) : q_wp d 26 20 [z0, z1, z2] (.inl a :: st) v G Q = ((q_inR a) ∧ if ¬ a = 0 then q_wp d 26 32 [z0, z1, z2] st v G Q else q_wp d 26 23 [z0, z1, z2] st v G Q) := q_w_if_ne c_26_20 (by decide)
theorem c_26_23 : q_code 26 23 = (.iload_n 1, 1, 0, 0, 0, 0, 0) := by decide +kernel
theorem e_26_23 (d : Nat) (a : Int) (z0 z2 : q_V) (st : List q_V) (v : q_H) (G : q_Gr) (Q : q_V → q_H → q_Gr → Prop) : q_wp d 26 23 [z0, .inl a, z2] st v G Q = q_wp d 26 24 [z0, .inl a, z2] (.inl a :: st) v G Q := q_w_iload_n c_26_23 rfl
theorem c_26_24 : q_code 26 24 = (.bipush 32, 2, 0, 0, 0, 0, 0) := by decide +kernel
theorem e_26_24 (d : Nat)  (z0 z1 z2 : q_V) (st : List q_V) (v : q_H) (G : q_Gr) (Q : q_V → q_H → q_Gr → Prop) : q_wp d 26 24 [z0, z1, z2] st v G Q = q_wp d 26 26 [z0, z1, z2] (.inl 32 :: st) v G Q := (q_w_bipush c_26_24).trans (by simp only [show ((-128 : Int) ≤ 32 ∧ (32 : Int) ≤ 127) = True by decide, true_and])
theorem c_26_26 : q_code 26 26 = (.invokestatic 125, 3, 144, 2, 1, 16, 1) := by decide +kernel
theorem e_26_26 (d : Nat) (x0 x1 : q_V) (z0 z1 z2 : q_V) (v : q_H) (G : q_Gr) (Q : q_V → q_H → q_Gr → Prop) : q_wp d 26 26 [z0, z1, z2] [x1, x0] v G Q = q_call d 144 [x0, x1] v G (fun r v G => q_wp d 26 29 [z0, z1, z2] (q_push r []) v G Q) := q_wp_ca (m2 := 144) (k := 2) (as := [x0, x1]) (rest := []) (congrArg q_kind c_26_26) (congrArg (fun w => w.2.2.1) c_26_26) (congrArg (fun w => w.2.2.2.1) c_26_26) rfl (Nat.le_of_ble_eq_true rfl) rfl
theorem c_26_29 : q_code 26 29 = (.ifCond .ne 5, 3, 0, 0, 0, 0, 0) := by decide +kernel
theorem e_26_29 (d : Nat) (a : Int) (z0 z1 z2 : q_V) (st : List q_V) (v : q_H) (G : q_Gr) (Q : q_V → q_H → q_Gr → Prop) : q_wp d 26 29 [z0, z1, z2] (.inl a :: st) v G Q = ((q_inR a) ∧ if ¬ a = 0 then q_wp d 26 34 [z0, z1, z2] st v G Q else q_wp d 26 32 [z0, z1, z2] st v G Q) := q_w_if_ne c_26_29 (by decide)
theorem c_26_32 : q_code 26 32 = (.iconst 0, 1, 0, 0, 0, 0, 0) := by decide +kernel
theorem e_26_32 (d : Nat)  (z0 z1 z2 : q_V) (st : List q_V) (v : q_H) (G : q_Gr) (Q : q_V → q_H → q_Gr → Prop) : q_wp d 26 32 [z0, z1, z2] st v G Q = q_wp d 26 33 [z0, z1, z2] (.inl 0 :: st) v G Q := q_w_iconst c_26_32
theorem c_26_33 : q_code 26 33 = (.ireturn, 1, 0, 0, 0, 0, 0) := by decide +kernel
theorem e_26_33 (d : Nat) (a : Int) (z0 z1 z2 : q_V) (v : q_H) (G : q_Gr) (Q : q_V → q_H → q_Gr → Prop) : q_wp d 26 33 [z0, z1, z2] [.inl a] v G Q = Q (.inl a) v G := q_w_ireturn c_26_33 rfl
theorem c_26_34 : q_code 26 34 = (.iload_n 2, 1, 0, 0, 0, 0, 0) := by decide +kernel
theorem e_26_34 (d : Nat) (a : Int) (z0 z1 : q_V) (st : List q_V) (v : q_H) (G : q_Gr) (Q : q_V → q_H → q_Gr → Prop) : q_wp d 26 34 [z0, z1, .inl a] st v G Q = q_wp d 26 35 [z0, z1, .inl a] (.inl a :: st) v G Q := q_w_iload_n c_26_34 rfl
theorem c_26_35 : q_code 26 35 = (.ifCond .eq 25, 3, 0, 0, 0, 0, 0) := by decide +kernel
theorem e_26_35 (d : Nat) (a : Int) (z0 z1 z2 : q_V) (st : List q_V) (v : q_H) (G : q_Gr) (Q : q_V → q_H → q_Gr → Prop) : q_wp d 26 35 [z0, z1, z2] (.inl a :: st) v G Q = ((q_inR a) ∧ if a = 0 then q_wp d 26 60 [z0, z1, z2] st v G Q else q_wp d 26 38 [z0, z1, z2] st v G Q) := q_w_if_eq c_26_35 (by decide)
theorem c_26_38 : q_code 26 38 = (.aload_n 0, 1, 0, 0, 0, 0, 0) := by decide +kernel
theorem e_26_38 (d : Nat) (a : Option Nat) (z1 z2 : q_V) (st : List q_V) (v : q_H) (G : q_Gr) (Q : q_V → q_H → q_Gr → Prop) : q_wp d 26 38 [.inr (.inr (.inl a)), z1, z2] st v G Q = q_wp d 26 39 [.inr (.inr (.inl a)), z1, z2] (.inr (.inr (.inl a)) :: st) v G Q := q_w_aload_n c_26_38 rfl
theorem c_26_39 : q_code 26 39 = (.getfield 23, 3, 2, 3, 1, 198, 0) := by decide +kernel
theorem e_26_39 (d : Nat) (a : Nat) (z0 z1 z2 : q_V) (st : List q_V) (v : q_H) (G : q_Gr) (Q : q_V → q_H → q_Gr → Prop) : q_wp d 26 39 [z0, z1, z2] (.inr (.inr (.inl (some a))) :: st) v G Q = (((G.2.1 a).1 = 2) ∧ q_wp d 26 42 [z0, z1, z2] (.inr (.inr (.inl (G.1 a 3))) :: st) v G Q) := q_w_getP c_26_39
theorem c_26_42 : q_code 26 42 = (.iload_n 1, 1, 0, 0, 0, 0, 0) := by decide +kernel
theorem e_26_42 (d : Nat) (a : Int) (z0 z2 : q_V) (st : List q_V) (v : q_H) (G : q_Gr) (Q : q_V → q_H → q_Gr → Prop) : q_wp d 26 42 [z0, .inl a, z2] st v G Q = q_wp d 26 43 [z0, .inl a, z2] (.inl a :: st) v G Q := q_w_iload_n c_26_42 rfl
theorem c_26_43 : q_code 26 43 = (.invokevirtual 129, 3, 107, 2, 0, 807, 1) := by decide +kernel
theorem e_26_43 (d : Nat) (x0 x1 : q_V) (z0 z1 z2 : q_V) (v : q_H) (G : q_Gr) (Q : q_V → q_H → q_Gr → Prop) : q_wp d 26 43 [z0, z1, z2] [x1, x0] v G Q = q_call d 107 [x0, x1] v G (fun r v G => q_wp d 26 46 [z0, z1, z2] (q_push r []) v G Q) := q_wp_ca (m2 := 107) (k := 2) (as := [x0, x1]) (rest := []) (congrArg q_kind c_26_43) (congrArg (fun w => w.2.2.1) c_26_43) (congrArg (fun w => w.2.2.2.1) c_26_43) rfl (Nat.le_of_ble_eq_true rfl) rfl
theorem c_26_46 : q_code 26 46 = (.ifCond .eq 14, 3, 0, 0, 0, 0, 0) := by decide +kernel
theorem e_26_46 (d : Nat) (a : Int) (z0 z1 z2 : q_V) (st : List q_V) (v : q_H) (G : q_Gr) (Q : q_V → q_H → q_Gr → Prop) : q_wp d 26 46 [z0, z1, z2] (.inl a :: st) v G Q = ((q_inR a) ∧ if a = 0 then q_wp d 26 60 [z0, z1, z2] st v G Q else q_wp d 26 49 [z0, z1, z2] st v G Q) := q_w_if_eq c_26_46 (by decide)
theorem c_26_49 : q_code 26 49 = (.aload_n 0, 1, 0, 0, 0, 0, 0) := by decide +kernel
theorem e_26_49 (d : Nat) (a : Option Nat) (z1 z2 : q_V) (st : List q_V) (v : q_H) (G : q_Gr) (Q : q_V → q_H → q_Gr → Prop) : q_wp d 26 49 [.inr (.inr (.inl a)), z1, z2] st v G Q = q_wp d 26 50 [.inr (.inr (.inl a)), z1, z2] (.inr (.inr (.inl a)) :: st) v G Q := q_w_aload_n c_26_49 rfl
theorem c_26_50 : q_code 26 50 = (.getfield 31, 3, 2, 5, 1, 200, 0) := by decide +kernel
theorem e_26_50 (d : Nat) (a : Nat) (z0 z1 z2 : q_V) (st : List q_V) (v : q_H) (G : q_Gr) (Q : q_V → q_H → q_Gr → Prop) : q_wp d 26 50 [z0, z1, z2] (.inr (.inr (.inl (some a))) :: st) v G Q = (((G.2.1 a).1 = 2) ∧ q_wp d 26 53 [z0, z1, z2] (.inr (.inr (.inl (G.1 a 5))) :: st) v G Q) := q_w_getP c_26_50
theorem c_26_53 : q_code 26 53 = (.iload_n 1, 1, 0, 0, 0, 0, 0) := by decide +kernel
theorem e_26_53 (d : Nat) (a : Int) (z0 z2 : q_V) (st : List q_V) (v : q_H) (G : q_Gr) (Q : q_V → q_H → q_Gr → Prop) : q_wp d 26 53 [z0, .inl a, z2] st v G Q = q_wp d 26 54 [z0, .inl a, z2] (.inl a :: st) v G Q := q_w_iload_n c_26_53 rfl
theorem c_26_54 : q_code 26 54 = (.iconst 1, 1, 0, 0, 0, 0, 0) := by decide +kernel
theorem e_26_54 (d : Nat)  (z0 z1 z2 : q_V) (st : List q_V) (v : q_H) (G : q_Gr) (Q : q_V → q_H → q_Gr → Prop) : q_wp d 26 54 [z0, z1, z2] st v G Q = q_wp d 26 55 [z0, z1, z2] (.inl 1 :: st) v G Q := q_w_iconst c_26_54
theorem c_26_55 : q_code 26 55 = (.bastore, 1, 0, 0, 0, 0, 0) := by decide +kernel
theorem e_26_55 (d : Nat) (a : Nat) (i b : Int) (z0 z1 z2 : q_V) (st : List q_V) (v : q_H) (G : q_Gr) (Q : q_V → q_H → q_Gr → Prop) : q_wp d 26 55 [z0, z1, z2] (.inl b :: .inl i :: .inr (.inr (.inl (some a))) :: st) v G Q = (((G.2.1 a).1 = 21 ∧ 32 ≤ a ∧ (0 ≤ b ∧ b ≤ 1) ∧ 0 ≤ i ∧ i < (G.2.1 a).2) ∧ q_wp d 26 56 [z0, z1, z2] st (q_up v a i.toNat b) G Q) := q_w_bast c_26_55
theorem c_26_56 : q_code 26 56 = (.iconst 2, 1, 0, 0, 0, 0, 0) := by decide +kernel
theorem e_26_56 (d : Nat)  (z0 z1 z2 : q_V) (st : List q_V) (v : q_H) (G : q_Gr) (Q : q_V → q_H → q_Gr → Prop) : q_wp d 26 56 [z0, z1, z2] st v G Q = q_wp d 26 57 [z0, z1, z2] (.inl 2 :: st) v G Q := q_w_iconst c_26_56
theorem c_26_57 : q_code 26 57 = (.iload_n 1, 1, 0, 0, 0, 0, 0) := by decide +kernel
theorem e_26_57 (d : Nat) (a : Int) (z0 z2 : q_V) (st : List q_V) (v : q_H) (G : q_Gr) (Q : q_V → q_H → q_Gr → Prop) : q_wp d 26 57 [z0, .inl a, z2] st v G Q = q_wp d 26 58 [z0, .inl a, z2] (.inl a :: st) v G Q := q_w_iload_n c_26_57 rfl
theorem c_26_58 : q_code 26 58 = (.imul, 1, 0, 0, 0, 0, 0) := by decide +kernel
theorem e_26_58 (d : Nat) (a b : Int) (z0 z1 z2 : q_V) (st : List q_V) (v : q_H) (G : q_Gr) (Q : q_V → q_H → q_Gr → Prop) : q_wp d 26 58 [z0, z1, z2] (.inl b :: .inl a :: st) v G Q = q_wp d 26 59 [z0, z1, z2] (.inl (a * b) :: st) v G Q := q_w_imul c_26_58
theorem c_26_59 : q_code 26 59 = (.ireturn, 1, 0, 0, 0, 0, 0) := by decide +kernel
theorem e_26_59 (d : Nat) (a : Int) (z0 z1 z2 : q_V) (v : q_H) (G : q_Gr) (Q : q_V → q_H → q_Gr → Prop) : q_wp d 26 59 [z0, z1, z2] [.inl a] v G Q = Q (.inl a) v G := q_w_ireturn c_26_59 rfl
theorem c_26_60 : q_code 26 60 = (.iload_n 2, 1, 0, 0, 0, 0, 0) := by decide +kernel
theorem e_26_60 (d : Nat) (a : Int) (z0 z1 : q_V) (st : List q_V) (v : q_H) (G : q_Gr) (Q : q_V → q_H → q_Gr → Prop) : q_wp d 26 60 [z0, z1, .inl a] st v G Q = q_wp d 26 61 [z0, z1, .inl a] (.inl a :: st) v G Q := q_w_iload_n c_26_60 rfl
theorem c_26_61 : q_code 26 61 = (.ifCond .eq 11, 3, 0, 0, 0, 0, 0) := by decide +kernel
theorem e_26_61 (d : Nat) (a : Int) (z0 z1 z2 : q_V) (st : List q_V) (v : q_H) (G : q_Gr) (Q : q_V → q_H → q_Gr → Prop) : q_wp d 26 61 [z0, z1, z2] (.inl a :: st) v G Q = ((q_inR a) ∧ if a = 0 then q_wp d 26 72 [z0, z1, z2] st v G Q else q_wp d 26 64 [z0, z1, z2] st v G Q) := q_w_if_eq c_26_61 (by decide)
theorem c_26_64 : q_code 26 64 = (.aload_n 0, 1, 0, 0, 0, 0, 0) := by decide +kernel
theorem e_26_64 (d : Nat) (a : Option Nat) (z1 z2 : q_V) (st : List q_V) (v : q_H) (G : q_Gr) (Q : q_V → q_H → q_Gr → Prop) : q_wp d 26 64 [.inr (.inr (.inl a)), z1, z2] st v G Q = q_wp d 26 65 [.inr (.inr (.inl a)), z1, z2] (.inr (.inr (.inl a)) :: st) v G Q := q_w_aload_n c_26_64 rfl
theorem c_26_65 : q_code 26 65 = (.iload_n 1, 1, 0, 0, 0, 0, 0) := by decide +kernel
theorem e_26_65 (d : Nat) (a : Int) (z0 z2 : q_V) (st : List q_V) (v : q_H) (G : q_Gr) (Q : q_V → q_H → q_Gr → Prop) : q_wp d 26 65 [z0, .inl a, z2] st v G Q = q_wp d 26 66 [z0, .inl a, z2] (.inl a :: st) v G Q := q_w_iload_n c_26_65 rfl
theorem c_26_66 : q_code 26 66 = (.invokevirtual 133, 3, 27, 2, 0, 808, 0) := by decide +kernel
theorem e_26_66 (d : Nat) (x0 x1 : q_V) (z0 z1 z2 : q_V) (v : q_H) (G : q_Gr) (Q : q_V → q_H → q_Gr → Prop) : q_wp d 26 66 [z0, z1, z2] [x1, x0] v G Q = q_call d 27 [x0, x1] v G (fun r v G => q_wp d 26 69 [z0, z1, z2] (q_push r []) v G Q) := q_wp_ca (m2 := 27) (k := 2) (as := [x0, x1]) (rest := []) (congrArg q_kind c_26_66) (congrArg (fun w => w.2.2.1) c_26_66) (congrArg (fun w => w.2.2.2.1) c_26_66) rfl (Nat.le_of_ble_eq_true rfl) rfl
theorem c_26_69 : q_code 26 69 = (.goto 8, 3, 0, 0, 0, 0, 0) := by decide +kernel
theorem e_26_69 (d : Nat)  (z0 z1 z2 : q_V) (st : List q_V) (v : q_H) (G : q_Gr) (Q : q_V → q_H → q_Gr → Prop) : q_wp d 26 69 [z0, z1, z2] st v G Q = q_wp d 26 77 [z0, z1, z2] st v G Q := q_w_goto c_26_69 (by decide)
theorem c_26_72 : q_code 26 72 = (.aload_n 0, 1, 0, 0, 0, 0, 0) := by decide +kernel
theorem e_26_72 (d : Nat) (a : Option Nat) (z1 z2 : q_V) (st : List q_V) (v : q_H) (G : q_Gr) (Q : q_V → q_H → q_Gr → Prop) : q_wp d 26 72 [.inr (.inr (.inl a)), z1, z2] st v G Q = q_wp d 26 73 [.inr (.inr (.inl a)), z1, z2] (.inr (.inr (.inl a)) :: st) v G Q := q_w_aload_n c_26_72 rfl
theorem c_26_73 : q_code 26 73 = (.iload_n 1, 1, 0, 0, 0, 0, 0) := by decide +kernel
theorem e_26_73 (d : Nat) (a : Int) (z0 z2 : q_V) (st : List q_V) (v : q_H) (G : q_Gr) (Q : q_V → q_H → q_Gr → Prop) : q_wp d 26 73 [z0, .inl a, z2] st v G Q = q_wp d 26 74 [z0, .inl a, z2] (.inl a :: st) v G Q := q_w_iload_n c_26_73 rfl
theorem c_26_74 : q_code 26 74 = (.invokevirtual 136, 3, 28, 2, 0, 813, 0) := by decide +kernel
theorem e_26_74 (d : Nat) (x0 x1 : q_V) (z0 z1 z2 : q_V) (v : q_H) (G : q_Gr) (Q : q_V → q_H → q_Gr → Prop) : q_wp d 26 74 [z0, z1, z2] [x1, x0] v G Q = q_call d 28 [x0, x1] v G (fun r v G => q_wp d 26 77 [z0, z1, z2] (q_push r []) v G Q) := q_wp_ca (m2 := 28) (k := 2) (as := [x0, x1]) (rest := []) (congrArg q_kind c_26_74) (congrArg (fun w => w.2.2.1) c_26_74) (congrArg (fun w => w.2.2.2.1) c_26_74) rfl (Nat.le_of_ble_eq_true rfl) rfl
theorem c_26_77 : q_code 26 77 = (.iload_n 1, 1, 0, 0, 0, 0, 0) := by decide +kernel
theorem e_26_77 (d : Nat) (a : Int) (z0 z2 : q_V) (st : List q_V) (v : q_H) (G : q_Gr) (Q : q_V → q_H → q_Gr → Prop) : q_wp d 26 77 [z0, .inl a, z2] st v G Q = q_wp d 26 78 [z0, .inl a, z2] (.inl a :: st) v G Q := q_w_iload_n c_26_77 rfl
theorem c_26_78 : q_code 26 78 = (.invokestatic 139, 3, 116, 1, 0, 818, 1) := by decide +kernel
theorem e_26_78 (d : Nat) (x0 : q_V) (z0 z1 z2 : q_V) (v : q_H) (G : q_Gr) (Q : q_V → q_H → q_Gr → Prop) : q_wp d 26 78 [z0, z1, z2] [x0] v G Q = q_call d 116 [x0] v G (fun r v G => q_wp d 26 81 [z0, z1, z2] (q_push r []) v G Q) := q_wp_ca (m2 := 116) (k := 1) (as := [x0]) (rest := []) (congrArg q_kind c_26_78) (congrArg (fun w => w.2.2.1) c_26_78) (congrArg (fun w => w.2.2.2.1) c_26_78) rfl (Nat.le_of_ble_eq_true rfl) rfl
theorem c_26_81 : q_code 26 81 = (.ireturn, 1, 0, 0, 0, 0, 0) := by decide +kernel
theorem e_26_81 (d : Nat) (a : Int) (z0 z1 z2 : q_V) (v : q_H) (G : q_Gr) (Q : q_V → q_H → q_Gr → Prop) : q_wp d 26 81 [z0, z1, z2] [.inl a] v G Q = Q (.inl a) v G := q_w_ireturn c_26_81 rfl
theorem e_26 (d : Nat) (a0 : Nat) (a1 : Int) (v : q_H) (G : q_Gr) (Q : q_V → q_H → q_Gr → Prop) : q_call (d + 1) 26 [.inr (.inr (.inl (some a0))), .inl a1] v G Q = ((G.2.1 a0).1 = 2 ∧ q_wp d 26 0 [.inr (.inr (.inl (some a0))), .inl a1, .inr (.inr (.inr ()))] [] v G Q) := by
  rw [q_call_in (by decide) (Nat.le_of_ble_eq_true rfl) rfl]
  exact congrArg (· ∧ _) (propext beq_iff_eq)
/-- all but the heads of loops: [] -/
def E26 := And.intro @e_26 (And.intro @e_26_0 (And.intro @e_26_1 (And.intro @e_26_2 (And.intro @e_26_3 (And.intro @e_26_6 (And.intro @e_26_7 (And.intro @e_26_10 (And.intro @e_26_11 (And.intro @e_26_14 (And.intro @e_26_15 (And.intro @e_26_16 (And.intro @e_26_17 (And.intro @e_26_20 (And.intro @e_26_23 (And.intro @e_26_24 (And.intro @e_26_26 (And.intro @e_26_29 (And.intro @e_26_32 (And.intro @e_26_33 (And.intro @e_26_34 (And.intro @e_26_35 (And.intro @e_26_38 (And.intro @e_26_39 (And.intro @e_26_42 (And.intro @e_26_43 (And.intro @e_26_46 (And.intro @e_26_49 (And.intro @e_26_50 (And.intro @e_26_53 (And.intro @e_26_54 (And.intro @e_26_55 (And.intro @e_26_56 (And.intro @e_26_57 (And.intro @e_26_58 (And.intro @e_26_59 (And.intro @e_26_60 (And.intro @e_26_61 (And.intro @e_26_64 (And.intro @e_26_65 (And.intro @e_26_66 (And.intro @e_26_69 (And.intro @e_26_72 (And.intro @e_26_73 (And.intro @e_26_74 (And.intro @e_26_77 (And.intro @e_26_78 (@e_26_81)))))))))))))))))))))))))))))))))))))))))))))))
/-! ProvenRows$Checker.readLeaf(I)V -/
theorem c_27_0 : q_code 27 0 = (.aload_n 0, 1, 0, 0, 0, 0, 0) := by decide +kernel
theorem e_27_0 (d : Nat) (a : Option Nat) (z1 z2 z3 z4 z5 z6 z7 z8 : q_V) (st : List q_V) (v : q_H) (G : q_Gr) (Q : q_V → q_H → q_Gr → Prop) : q_wp d 27 0 [.inr (.inr (.inl a)), z1, z2, z3, z4, z5, z6, z7, z8] st v G Q = q_wp d 27 1 [.inr (.inr (.inl a)), z1, z2, z3, z4, z5, z6, z7, z8] (.inr (.inr (.inl a)) :: st) v G Q := q_w_aload_n c_27_0 rfl
theorem c_27_1 : q_code 27 1 = (.getfield 23, 3, 2, 3, 1, 198, 0) := by decide +kernel
theorem e_27_1 (d : Nat) (a : Nat) (z0 z1 z2 z3 z4 z5 z6 z7 z8 : q_V) (st : List q_V) (v : q_H) (G : q_Gr) (Q : q_V → q_H → q_Gr → Prop) : q_wp d 27 1 [z0, z1, z2, z3, z4, z5, z6, z7, z8] (.inr (.inr (.inl (some a))) :: st) v G Q = (((G.2.1 a).1 = 2) ∧ q_wp d 27 4 [z0, z1, z2, z3, z4, z5, z6, z7, z8] (.inr (.inr (.inl (G.1 a 3))) :: st) v G Q) := q_w_getP c_27_1
theorem c_27_4 : q_code 27 4 = (.iload_n 1, 1, 0, 0, 0, 0, 0) := by decide +kernel
theorem e_27_4 (d : Nat) (a : Int) (z0 z2 z3 z4 z5 z6 z7 z8 : q_V) (st : List q_V) (v : q_H) (G : q_Gr) (Q : q_V → q_H → q_Gr → Prop) : q_wp d 27 4 [z0, .inl a, z2, z3, z4, z5, z6, z7, z8] st v G Q = q_wp d 27 5 [z0, .inl a, z2, z3, z4, z5, z6, z7, z8] (.inl a :: st) v G Q := q_w_iload_n c_27_4 rfl
theorem c_27_5 : q_code 27 5 = (.invokevirtual 142, 3, 108, 2, 0, 811, 1) := by decide +kernel
theorem e_27_5 (d : Nat) (x0 x1 : q_V) (z0 z1 z2 z3 z4 z5 z6 z7 z8 : q_V) (v : q_H) (G : q_Gr) (Q : q_V → q_H → q_Gr → Prop) : q_wp d 27 5 [z0, z1, z2, z3, z4, z5, z6, z7, z8] [x1, x0] v G Q = q_call d 108 [x0, x1] v G (fun r v G => q_wp d 27 8 [z0, z1, z2, z3, z4, z5, z6, z7, z8] (q_push r []) v G Q) := q_wp_ca (m2 := 108) (k := 2) (as := [x0, x1]) (rest := []) (congrArg q_kind c_27_5) (congrArg (fun w => w.2.2.1) c_27_5) (congrArg (fun w => w.2.2.2.1) c_27_5) rfl (Nat.le_of_ble_eq_true rfl) rfl
theorem c_27_8 : q_code 27 8 = (.istore_n 2, 1, 0, 0, 0, 0, 0) := by decide +kernel
theorem e_27_8 (d : Nat) (a : Int) (z0 z1 z2 z3 z4 z5 z6 z7 z8 : q_V) (st : List q_V) (v : q_H) (G : q_Gr) (Q : q_V → q_H → q_Gr → Prop) : q_wp d 27 8 [z0, z1, z2, z3, z4, z5, z6, z7, z8] (.inl a :: st) v G Q = q_wp d 27 9 [z0, z1, .inl a, z3, z4, z5, z6, z7, z8] st v G Q := q_w_istore_n c_27_8
theorem c_27_9 : q_code 27 9 = (.iload_n 2, 1, 0, 0, 0, 0, 0) := by decide +kernel
theorem e_27_9 (d : Nat) (a : Int) (z0 z1 z3 z4 z5 z6 z7 z8 : q_V) (st : List q_V) (v : q_H) (G : q_Gr) (Q : q_V → q_H → q_Gr → Prop) : q_wp d 27 9 [z0, z1, .inl a, z3, z4, z5, z6, z7, z8] st v G Q = q_wp d 27 10 [z0, z1, .inl a, z3, z4, z5, z6, z7, z8] (.inl a :: st) v G Q := q_w_iload_n c_27_9 rfl
theorem c_27_10 : q_code 27 10 = (.ifCond .ne 7, 3, 0, 0, 0, 0, 0) := by decide +kernel
theorem e_27_10 (d : Nat) (a : Int) (z0 z1 z2 z3 z4 z5 z6 z7 z8 : q_V) (st : List q_V) (v : q_H) (G : q_Gr) (Q : q_V → q_H → q_Gr → Prop) : q_wp d 27 10 [z0, z1, z2, z3, z4, z5, z6, z7, z8] (.inl a :: st) v G Q = ((q_inR a) ∧ if ¬ a = 0 then q_wp d 27 17 [z0, z1, z2, z3, z4, z5, z6, z7, z8] st v G Q else q_wp d 27 13 [z0, z1, z2, z3, z4, z5, z6, z7, z8] st v G Q) := q_w_if_ne c_27_10 (by decide)
theorem c_27_13 : q_code 27 13 = (.iconst 1, 1, 0, 0, 0, 0, 0) := by decide +kernel
theorem e_27_13 (d : Nat)  (z0 z1 z2 z3 z4 z5 z6 z7 z8 : q_V) (st : List q_V) (v : q_H) (G : q_Gr) (Q : q_V → q_H → q_Gr → Prop) : q_wp d 27 13 [z0, z1, z2, z3, z4, z5, z6, z7, z8] st v G Q = q_wp d 27 14 [z0, z1, z2, z3, z4, z5, z6, z7, z8] (.inl 1 :: st) v G Q := q_w_iconst c_27_13
theorem c_27_14 : q_code 27 14 = (.goto 4, 3, 0, 0, 0, 0, 0) := by decide +kernel
theorem e_27_14 (d : Nat)  (z0 z1 z2 z3 z4 z5 z6 z7 z8 : q_V) (st : List q_V) (v : q_H) (G : q_Gr) (Q : q_V → q_H → q_Gr → Prop) : q_wp d 27 14 [z0, z1, z2, z3, z4, z5, z6, z7, z8] st v G Q = q_wp d 27 18 [z0, z1, z2, z3, z4, z5, z6, z7, z8] st v G Q := q_w_goto c_27_14 (by decide)
theorem c_27_17 : q_code 27 17 = (.iconst 0, 1, 0, 0, 0, 0, 0) := by decide +kernel
theorem e_27_17 (d : Nat)  (z0 z1 z2 z3 z4 z5 z6 z7 z8 : q_V) (st : List q_V) (v : q_H) (G : q_Gr) (Q : q_V → q_H → q_Gr → Prop) : q_wp d 27 17 [z0, z1, z2, z3, z4, z5, z6, z7, z8] st v G Q = q_wp d 27 18 [z0, z1, z2, z3, z4, z5, z6, z7, z8] (.inl 0 :: st) v G Q := q_w_iconst c_27_17
theorem c_27_18 : q_code 27 18 = (.istore_n 3, 1, 0, 0, 0, 0, 0) := by decide +kernel
theorem e_27_18 (d : Nat) (a : Int) (z0 z1 z2 z3 z4 z5 z6 z7 z8 : q_V) (st : List q_V) (v : q_H) (G : q_Gr) (Q : q_V → q_H → q_Gr → Prop) : q_wp d 27 18 [z0, z1, z2, z3, z4, z5, z6, z7, z8] (.inl a :: st) v G Q = q_wp d 27 19 [z0, z1, z2, .inl a, z4, z5, z6, z7, z8] st v G Q := q_w_istore_n c_27_18
theorem c_27_19 : q_code 27 19 = (.iload_n 2, 1, 0, 0, 0, 0, 0) := by decide +kernel
theorem e_27_19 (d : Nat) (a : Int) (z0 z1 z3 z4 z5 z6 z7 z8 : q_V) (st : List q_V) (v : q_H) (G : q_Gr) (Q : q_V → q_H → q_Gr → Prop) : q_wp d 27 19 [z0, z1, .inl a, z3, z4, z5, z6, z7, z8] st v G Q = q_wp d 27 20 [z0, z1, .inl a, z3, z4, z5, z6, z7, z8] (.inl a :: st) v G Q := q_w_iload_n c_27_19 rfl
theorem c_27_20 : q_code 27 20 = (.aload_n 0, 1, 0, 0, 0, 0, 0) := by decide +kernel
theorem e_27_20 (d : Nat) (a : Option Nat) (z1 z2 z3 z4 z5 z6 z7 z8 : q_V) (st : List q_V) (v : q_H) (G : q_Gr) (Q : q_V → q_H → q_Gr → Prop) : q_wp d 27 20 [.inr (.inr (.inl a)), z1, z2, z3, z4, z5, z6, z7, z8] st v G Q = q_wp d 27 21 [.inr (.inr (.inl a)), z1, z2, z3, z4, z5, z6, z7, z8] (.inr (.inr (.inl a)) :: st) v G Q := q_w_aload_n c_27_20 rfl
theorem c_27_21 : q_code 27 21 = (.getfield 104, 3, 2, 8, 0, 203, 0) := by decide +kernel
theorem e_27_21 (d : Nat) (a : Nat) (z0 z1 z2 z3 z4 z5 z6 z7 z8 : q_V) (st : List q_V) (v : q_H) (G : q_Gr) (Q : q_V → q_H → q_Gr → Prop) : q_wp d 27 21 [z0, z1, z2, z3, z4, z5, z6, z7, z8] (.inr (.inr (.inl (some a))) :: st) v G Q = (((G.2.1 a).1 = 2) ∧ q_wp d 27 24 [z0, z1, z2, z3, z4, z5, z6, z7, z8] (.inl (v a 8) :: st) v G Q) := q_w_getI c_27_21
theorem c_27_24 : q_code 27 24 = (.iconst 1, 1, 0, 0, 0, 0, 0) := by decide +kernel
theorem e_27_24 (d : Nat)  (z0 z1 z2 z3 z4 z5 z6 z7 z8 : q_V) (st : List q_V) (v : q_H) (G : q_Gr) (Q : q_V → q_H → q_Gr → Prop) : q_wp d 27 24 [z0, z1, z2, z3, z4, z5, z6, z7, z8] st v G Q = q_wp d 27 25 [z0, z1, z2, z3, z4, z5, z6, z7, z8] (.inl 1 :: st) v G Q := q_w_iconst c_27_24
theorem c_27_25 : q_code 27 25 = (.isub, 1, 0, 0, 0, 0, 0) := by decide +kernel
theorem e_27_25 (d : Nat) (a b : Int) (z0 z1 z2 z3 z4 z5 z6 z7 z8 : q_V) (st : List q_V) (v : q_H) (G : q_Gr) (Q : q_V → q_H → q_Gr → Prop) : q_wp d 27 25 [z0, z1, z2, z3, z4, z5, z6, z7, z8] (.inl b :: .inl a :: st) v G Q = q_wp d 27 26 [z0, z1, z2, z3, z4, z5, z6, z7, z8] (.inl (a - b) :: st) v G Q := q_w_isub c_27_25
theorem c_27_26 : q_code 27 26 = (.if_icmp .ne 7, 3, 0, 0, 0, 0, 0) := by decide +kernel
theorem e_27_26 (d : Nat) (a b : Int) (z0 z1 z2 z3 z4 z5 z6 z7 z8 : q_V) (st : List q_V) (v : q_H) (G : q_Gr) (Q : q_V → q_H → q_Gr → Prop) : q_wp d 27 26 [z0, z1, z2, z3, z4, z5, z6, z7, z8] (.inl b :: .inl a :: st) v G Q = ((q_inR a ∧ q_inR b) ∧ if ¬ a = b then q_wp d 27 33 [z0, z1, z2, z3, z4, z5, z6, z7, z8] st v G Q else q_wp d 27 29 [z0, z1, z2, z3, z4, z5, z6, z7, z8] st v G Q) := q_w_icmp_ne c_27_26 (by decide)
theorem c_27_29 : q_code 27 29 = (.iconst 1, 1, 0, 0, 0, 0, 0) := by decide +kernel
theorem e_27_29 (d : Nat)  (z0 z1 z2 z3 z4 z5 z6 z7 z8 : q_V) (st : List q_V) (v : q_H) (G : q_Gr) (Q : q_V → q_H → q_Gr → Prop) : q_wp d 27 29 [z0, z1, z2, z3, z4, z5, z6, z7, z8] st v G Q = q_wp d 27 30 [z0, z1, z2, z3, z4, z5, z6, z7, z8] (.inl 1 :: st) v G Q := q_w_iconst c_27_29
theorem c_27_30 : q_code 27 30 = (.goto 4, 3, 0, 0, 0, 0, 0) := by decide +kernel
theorem e_27_30 (d : Nat)  (z0 z1 z2 z3 z4 z5 z6 z7 z8 : q_V) (st : List q_V) (v : q_H) (G : q_Gr) (Q : q_V → q_H → q_Gr → Prop) : q_wp d 27 30 [z0, z1, z2, z3, z4, z5, z6, z7, z8] st v G Q = q_wp d 27 34 [z0, z1, z2, z3, z4, z5, z6, z7, z8] st v G Q := q_w_goto c_27_30 (by decide)
theorem c_27_33 : q_code 27 33 = (.iconst 0, 1, 0, 0, 0, 0, 0) := by decide +kernel
theorem e_27_33 (d : Nat)  (z0 z1 z2 z3 z4 z5 z6 z7 z8 : q_V) (st : List q_V) (v : q_H) (G : q_Gr) (Q : q_V → q_H → q_Gr → Prop) : q_wp d 27 33 [z0, z1, z2, z3, z4, z5, z6, z7, z8] st v G Q = q_wp d 27 34 [z0, z1, z2, z3, z4, z5, z6, z7, z8] (.inl 0 :: st) v G Q := q_w_iconst c_27_33
theorem c_27_34 : q_code 27 34 = (.istore 4, 2, 0, 0, 0, 0, 0) := by decide +kernel
theorem e_27_34 (d : Nat) (a : Int) (z0 z1 z2 z3 z4 z5 z6 z7 z8 : q_V) (st : List q_V) (v : q_H) (G : q_Gr) (Q : q_V → q_H → q_Gr → Prop) : q_wp d 27 34 [z0, z1, z2, z3, z4, z5, z6, z7, z8] (.inl a :: st) v G Q = q_wp d 27 36 [z0, z1, z2, z3, .inl a, z5, z6, z7, z8] st v G Q := q_w_istore c_27_34
theorem c_27_36 : q_code 27 36 = (.iload_n 3, 1, 0, 0, 0, 0, 0) := by decide +kernel
theorem e_27_36 (d : Nat) (a : Int) (z0 z1 z2 z4 z5 z6 z7 z8 : q_V) (st : List q_V) (v : q_H) (G : q_Gr) (Q : q_V → q_H → q_Gr → Prop) : q_wp d 27 36 [z0, z1, z2, .inl a, z4, z5, z6, z7, z8] st v G Q = q_wp d 27 37 [z0, z1, z2, .inl a, z4, z5, z6, z7, z8] (.inl a :: st) v G Q := q_w_iload_n c_27_36 rfl
theorem c_27_37 : q_code 27 37 = (.ifCond .eq 7, 3, 0, 0, 0, 0, 0) := by decide +kernel
theorem e_27_37 (d : Nat) (a : Int) (z0 z1 z2 z3 z4 z5 z6 z7 z8 : q_V) (st : List q_V) (v : q_H) (G : q_Gr) (Q : q_V → q_H → q_Gr → Prop) : q_wp d 27 37 [z0, z1, z2, z3, z4, z5, z6, z7, z8] (.inl a :: st) v G Q = ((q_inR a) ∧ if a = 0 then q_wp d 27 44 [z0, z1, z2, z3, z4, z5, z6, z7, z8] st v G Q else q_wp d 27 40 [z0, z1, z2, z3, z4, z5, z6, z7, z8] st v G Q) := q_w_if_eq c_27_37 (by decide)
theorem c_27_40 : q_code 27 40 = (.iconst (-1), 1, 0, 0, 0, 0, 0) := by decide +kernel
theorem e_27_40 (d : Nat)  (z0 z1 z2 z3 z4 z5 z6 z7 z8 : q_V) (st : List q_V) (v : q_H) (G : q_Gr) (Q : q_V → q_H → q_Gr → Prop) : q_wp d 27 40 [z0, z1, z2, z3, z4, z5, z6, z7, z8] st v G Q = q_wp d 27 41 [z0, z1, z2, z3, z4, z5, z6, z7, z8] (.inl (-1) :: st) v G Q := q_w_iconst c_27_40
theorem c_27_41 : q_code 27 41 = (.goto 20, 3, 0, 0, 0, 0, 0) := by decide +kernel
theorem e_27_41 (d : Nat)  (z0 z1 z2 z3 z4 z5 z6 z7 z8 : q_V) (st : List q_V) (v : q_H) (G : q_Gr) (Q : q_V → q_H → q_Gr → Prop) : q_wp d 27 41 [z0, z1, z2, z3, z4, z5, z6, z7, z8] st v G Q = q_wp d 27 61 [z0, z1, z2, z3, z4, z5, z6, z7, z8] st v G Q := q_w_goto c_27_41 (by decide)
theorem c_27_44 : q_code 27 44 = (.iload 4, 2, 0, 0, 0, 0, 0) := by decide +kernel
theorem e_27_44 (d : Nat) (a : Int) (z0 z1 z2 z3 z5 z6 z7 z8 : q_V) (st : List q_V) (v : q_H) (G : q_Gr) (Q : q_V → q_H → q_Gr → Prop) : q_wp d 27 44 [z0, z1, z2, z3, .inl a, z5, z6, z7, z8] st v G Q = q_wp d 27 46 [z0, z1, z2, z3, .inl a, z5, z6, z7, z8] (.inl a :: st) v G Q := q_w_iload c_27_44 rfl
theorem c_27_46 : q_code 27 46 = (.ifCond .eq 9, 3, 0, 0, 0, 0, 0) := by decide +kernel
theorem e_27_46 (d : Nat) (a : Int) (z0 z1 z2 z3 z4 z5 z6 z7 z8 : q_V) (st : List q_V) (v : q_H) (G : q_Gr) (Q : q_V → q_H → q_Gr → Prop) : q_wp d 27 46 [z0, z1, z2, z3, z4, z5, z6, z7, z8] (.inl a :: st) v G Q = ((q_inR a) ∧ if a = 0 then q_wp d 27 55 [z0, z1, z2, z3, z4, z5, z6, z7, z8] st v G Q else q_wp d 27 49 [z0, z1, z2, z3, z4, z5, z6, z7, z8] st v G Q) := q_w_if_eq c_27_46 (by decide)
theorem c_27_49 : q_code 27 49 = (.sipush 1000, 3, 0, 0, 0, 0, 0) := by decide +kernel
theorem e_27_49 (d : Nat)  (z0 z1 z2 z3 z4 z5 z6 z7 z8 : q_V) (st : List q_V) (v : q_H) (G : q_Gr) (Q : q_V → q_H → q_Gr → Prop) : q_wp d 27 49 [z0, z1, z2, z3, z4, z5, z6, z7, z8] st v G Q = q_wp d 27 52 [z0, z1, z2, z3, z4, z5, z6, z7, z8] (.inl 1000 :: st) v G Q := (q_w_sipush c_27_49).trans (by simp only [show ((-32768 : Int) ≤ 1000 ∧ (1000 : Int) ≤ 32767) = True by decide, true_and])
theorem c_27_52 : q_code 27 52 = (.goto 9, 3, 0, 0, 0, 0, 0) := by decide +kernel
theorem e_27_52 (d : Nat)  (z0 z1 z2 z3 z4 z5 z6 z7 z8 : q_V) (st : List q_V) (v : q_H) (G : q_Gr) (Q : q_V → q_H → q_Gr → Prop) : q_wp d 27 52 [z0, z1, z2, z3, z4, z5, z6, z7, z8] st v G Q = q_wp d 27 61 [z0, z1, z2, z3, z4, z5, z6, z7, z8] st v G Q := q_w_goto c_27_52 (by decide)
theorem c_27_55 : q_code 27 55 = (.aload_n 0, 1, 0, 0, 0, 0, 0) := by decide +kernel
theorem e_27_55 (d : Nat) (a : Option Nat) (z1 z2 z3 z4 z5 z6 z7 z8 : q_V) (st : List q_V) (v : q_H) (G : q_Gr) (Q : q_V → q_H → q_Gr → Prop) : q_wp d 27 55 [.inr (.inr (.inl a)), z1, z2, z3, z4, z5, z6, z7, z8] st v G Q = q_wp d 27 56 [.inr (.inr (.inl a)), z1, z2, z3, z4, z5, z6, z7, z8] (.inr (.inr (.inl a)) :: st) v G Q := q_w_aload_n c_27_55 rfl
theorem c_27_56 : q_code 27 56 = (.getfield 122, 3, 2, 9, 0, 204, 0) := by decide +kernel
theorem e_27_56 (d : Nat) (a : Nat) (z0 z1 z2 z3 z4 z5 z6 z7 z8 : q_V) (st : List q_V) (v : q_H) (G : q_Gr) (Q : q_V → q_H → q_Gr → Prop) : q_wp d 27 56 [z0, z1, z2, z3, z4, z5, z6, z7, z8] (.inr (.inr (.inl (some a))) :: st) v G Q = (((G.2.1 a).1 = 2) ∧ q_wp d 27 59 [z0, z1, z2, z3, z4, z5, z6, z7, z8] (.inl (v a 9) :: st) v G Q) := q_w_getI c_27_56
theorem c_27_59 : q_code 27 59 = (.iconst 1, 1, 0, 0, 0, 0, 0) := by decide +kernel
theorem e_27_59 (d : Nat)  (z0 z1 z2 z3 z4 z5 z6 z7 z8 : q_V) (st : List q_V) (v : q_H) (G : q_Gr) (Q : q_V → q_H → q_Gr → Prop) : q_wp d 27 59 [z0, z1, z2, z3, z4, z5, z6, z7, z8] st v G Q = q_wp d 27 60 [z0, z1, z2, z3, z4, z5, z6, z7, z8] (.inl 1 :: st) v G Q := q_w_iconst c_27_59
theorem c_27_60 : q_code 27 60 = (.iadd, 1, 0, 0, 0, 0, 0) := by decide +kernel
theorem e_27_60 (d : Nat) (a b : Int) (z0 z1 z2 z3 z4 z5 z6 z7 z8 : q_V) (st : List q_V) (v : q_H) (G : q_Gr) (Q : q_V → q_H → q_Gr → Prop) : q_wp d 27 60 [z0, z1, z2, z3, z4, z5, z6, z7, z8] (.inl b :: .inl a :: st) v G Q = q_wp d 27 61 [z0, z1, z2, z3, z4, z5, z6, z7, z8] (.inl (a + b) :: st) v G Q := q_w_iadd c_27_60
theorem c_27_61 : q_code 27 61 = (.istore 5, 2, 0, 0, 0, 0, 0) := by decide +kernel
theorem e_27_61 (d : Nat) (a : Int) (z0 z1 z2 z3 z4 z5 z6 z7 z8 : q_V) (st : List q_V) (v : q_H) (G : q_Gr) (Q : q_V → q_H → q_Gr → Prop) : q_wp d 27 61 [z0, z1, z2, z3, z4, z5, z6, z7, z8] (.inl a :: st) v G Q = q_wp d 27 63 [z0, z1, z2, z3, z4, .inl a, z6, z7, z8] st v G Q := q_w_istore c_27_61
theorem c_27_63 : q_code 27 63 = (.iload_n 3, 1, 0, 0, 0, 0, 0) := by decide +kernel
theorem e_27_63 (d : Nat) (a : Int) (z0 z1 z2 z4 z5 z6 z7 z8 : q_V) (st : List q_V) (v : q_H) (G : q_Gr) (Q : q_V → q_H → q_Gr → Prop) : q_wp d 27 63 [z0, z1, z2, .inl a, z4, z5, z6, z7, z8] st v G Q = q_wp d 27 64 [z0, z1, z2, .inl a, z4, z5, z6, z7, z8] (.inl a :: st) v G Q := q_w_iload_n c_27_63 rfl
theorem c_27_64 : q_code 27 64 = (.ifCond .eq 7, 3, 0, 0, 0, 0, 0) := by decide +kernel
theorem e_27_64 (d : Nat) (a : Int) (z0 z1 z2 z3 z4 z5 z6 z7 z8 : q_V) (st : List q_V) (v : q_H) (G : q_Gr) (Q : q_V → q_H → q_Gr → Prop) : q_wp d 27 64 [z0, z1, z2, z3, z4, z5, z6, z7, z8] (.inl a :: st) v G Q = ((q_inR a) ∧ if a = 0 then q_wp d 27 71 [z0, z1, z2, z3, z4, z5, z6, z7, z8] st v G Q else q_wp d 27 67 [z0, z1, z2, z3, z4, z5, z6, z7, z8] st v G Q) := q_w_if_eq c_27_64 (by decide)
theorem c_27_67 : q_code 27 67 = (.iconst (-1), 1, 0, 0, 0, 0, 0) := by decide +kernel
theorem e_27_67 (d : Nat)  (z0 z1 z2 z3 z4 z5 z6 z7 z8 : q_V) (st : List q_V) (v : q_H) (G : q_Gr) (Q : q_V → q_H → q_Gr → Prop) : q_wp d 27 67 [z0, z1, z2, z3, z4, z5, z6, z7, z8] st v G Q = q_wp d 27 68 [z0, z1, z2, z3, z4, z5, z6, z7, z8] (.inl (-1) :: st) v G Q := q_w_iconst c_27_67
theorem c_27_68 : q_code 27 68 = (.goto 17, 3, 0, 0, 0, 0, 0) := by decide +kernel
theorem e_27_68 (d : Nat)  (z0 z1 z2 z3 z4 z5 z6 z7 z8 : q_V) (st : List q_V) (v : q_H) (G : q_Gr) (Q : q_V → q_H → q_Gr → Prop) : q_wp d 27 68 [z0, z1, z2, z3, z4, z5, z6, z7, z8] st v G Q = q_wp d 27 85 [z0, z1, z2, z3, z4, z5, z6, z7, z8] st v G Q := q_w_goto c_27_68 (by decide)
theorem c_27_71 : q_code 27 71 = (.iload 4, 2, 0, 0, 0, 0, 0) := by decide +kernel
theorem e_27_71 (d : Nat) (a : Int) (z0 z1 z2 z3 z5 z6 z7 z8 : q_V) (st : List q_V) (v : q_H) (G : q_Gr) (Q : q_V → q_H → q_Gr → Prop) : q_wp d 27 71 [z0, z1, z2, z3, .inl a, z5, z6, z7, z8] st v G Q = q_wp d 27 73 [z0, z1, z2, z3, .inl a, z5, z6, z7, z8] (.inl a :: st) v G Q := q_w_iload c_27_71 rfl
theorem c_27_73 : q_code 27 73 = (.ifCond .eq 9, 3, 0, 0, 0, 0, 0) := by decide +kernel
theorem e_27_73 (d : Nat) (a : Int) (z0 z1 z2 z3 z4 z5 z6 z7 z8 : q_V) (st : List q_V) (v : q_H) (G : q_Gr) (Q : q_V → q_H → q_Gr → Prop) : q_wp d 27 73 [z0, z1, z2, z3, z4, z5, z6, z7, z8] (.inl a :: st) v G Q = ((q_inR a) ∧ if a = 0 then q_wp d 27 82 [z0, z1, z2, z3, z4, z5, z6, z7, z8] st v G Q else q_wp d 27 76 [z0, z1, z2, z3, z4, z5, z6, z7, z8] st v G Q) := q_w_if_eq c_27_73 (by decide)
theorem c_27_76 : q_code 27 76 = (.sipush 1000, 3, 0, 0, 0, 0, 0) := by decide +kernel
theorem e_27_76 (d : Nat)  (z0 z1 z2 z3 z4 z5 z6 z7 z8 : q_V) (st : List q_V) (v : q_H) (G : q_Gr) (Q : q_V → q_H → q_Gr → Prop) : q_wp d 27 76 [z0, z1, z2, z3, z4, z5, z6, z7, z8] st v G Q = q_wp d 27 79 [z0, z1, z2, z3, z4, z5, z6, z7, z8] (.inl 1000 :: st) v G Q := (q_w_sipush c_27_76).trans (by simp only [show ((-32768 : Int) ≤ 1000 ∧ (1000 : Int) ≤ 32767) = True by decide, true_and])
theorem c_27_79 : q_code 27 79 = (.goto 6, 3, 0, 0, 0, 0, 0) := by decide +kernel
theorem e_27_79 (d : Nat)  (z0 z1 z2 z3 z4 z5 z6 z7 z8 : q_V) (st : List q_V) (v : q_H) (G : q_Gr) (Q : q_V → q_H → q_Gr → Prop) : q_wp d 27 79 [z0, z1, z2, z3, z4, z5, z6, z7, z8] st v G Q = q_wp d 27 85 [z0, z1, z2, z3, z4, z5, z6, z7, z8] st v G Q := q_w_goto c_27_79 (by decide)
theorem c_27_82 : q_code 27 82 = (.sipush 999, 3, 0, 0, 0, 0, 0) := by decide +kernel
theorem e_27_82 (d : Nat)  (z0 z1 z2 z3 z4 z5 z6 z7 z8 : q_V) (st : List q_V) (v : q_H) (G : q_Gr) (Q : q_V → q_H → q_Gr → Prop) : q_wp d 27 82 [z0, z1, z2, z3, z4, z5, z6, z7, z8] st v G Q = q_wp d 27 85 [z0, z1, z2, z3, z4, z5, z6, z7, z8] (.inl 999 :: st) v G Q := (q_w_sipush c_27_82).trans (by simp only [show ((-32768 : Int) ≤ 999 ∧ (999 : Int) ≤ 32767) = True by decide, true_and])
theorem c_27_85 : q_code 27 85 = (.istore 6, 2, 0, 0, 0, 0, 0) := by decide +kernel
theorem e_27_85 (d : Nat) (a : Int) (z0 z1 z2 z3 z4 z5 z6 z7 z8 : q_V) (st : List q_V) (v : q_H) (G : q_Gr) (Q : q_V → q_H → q_Gr → Prop) : q_wp d 27 85 [z0, z1, z2, z3, z4, z5, z6, z7, z8] (.inl a :: st) v G Q = q_wp d 27 87 [z0, z1, z2, z3, z4, z5, .inl a, z7, z8] st v G Q := q_w_istore c_27_85
theorem c_27_87 : q_code 27 87 = (.aload_n 0, 1, 0, 0, 0, 0, 0) := by decide +kernel
theorem e_27_87 (d : Nat) (a : Option Nat) (z1 z2 z3 z4 z5 z6 z7 z8 : q_V) (st : List q_V) (v : q_H) (G : q_Gr) (Q : q_V → q_H → q_Gr → Prop) : q_wp d 27 87 [.inr (.inr (.inl a)), z1, z2, z3, z4, z5, z6, z7, z8] st v G Q = q_wp d 27 88 [.inr (.inr (.inl a)), z1, z2, z3, z4, z5, z6, z7, z8] (.inr (.inr (.inl a)) :: st) v G Q := q_w_aload_n c_27_87 rfl
theorem c_27_88 : q_code 27 88 = (.iload 5, 2, 0, 0, 0, 0, 0) := by decide +kernel
theorem e_27_88 (d : Nat) (a : Int) (z0 z1 z2 z3 z4 z6 z7 z8 : q_V) (st : List q_V) (v : q_H) (G : q_Gr) (Q : q_V → q_H → q_Gr → Prop) : q_wp d 27 88 [z0, z1, z2, z3, z4, .inl a, z6, z7, z8] st v G Q = q_wp d 27 90 [z0, z1, z2, z3, z4, .inl a, z6, z7, z8] (.inl a :: st) v G Q := q_w_iload c_27_88 rfl
theorem c_27_90 : q_code 27 90 = (.iload 6, 2, 0, 0, 0, 0, 0) := by decide +kernel
theorem e_27_90 (d : Nat) (a : Int) (z0 z1 z2 z3 z4 z5 z7 z8 : q_V) (st : List q_V) (v : q_H) (G : q_Gr) (Q : q_V → q_H → q_Gr → Prop) : q_wp d 27 90 [z0, z1, z2, z3, z4, z5, .inl a, z7, z8] st v G Q = q_wp d 27 92 [z0, z1, z2, z3, z4, z5, .inl a, z7, z8] (.inl a :: st) v G Q := q_w_iload c_27_90 rfl
theorem c_27_92 : q_code 27 92 = (.invokevirtual 100, 3, 23, 3, 0, 795, 1) := by decide +kernel
theorem e_27_92 (d : Nat) (x0 x1 x2 : q_V) (z0 z1 z2 z3 z4 z5 z6 z7 z8 : q_V) (v : q_H) (G : q_Gr) (Q : q_V → q_H → q_Gr → Prop) : q_wp d 27 92 [z0, z1, z2, z3, z4, z5, z6, z7, z8] [x2, x1, x0] v G Q = q_call d 23 [x0, x1, x2] v G (fun r v G => q_wp d 27 95 [z0, z1, z2, z3, z4, z5, z6, z7, z8] (q_push r []) v G Q) := q_wp_ca (m2 := 23) (k := 3) (as := [x0, x1, x2]) (rest := []) (congrArg q_kind c_27_92) (congrArg (fun w => w.2.2.1) c_27_92) (congrArg (fun w => w.2.2.2.1) c_27_92) rfl (Nat.le_of_ble_eq_true rfl) rfl
theorem c_27_95 : q_code 27 95 = (.istore 7, 2, 0, 0, 0, 0, 0) := by decide +kernel
theorem e_27_95 (d : Nat) (a : Int) (z0 z1 z2 z3 z4 z5 z6 z7 z8 : q_V) (st : List q_V) (v : q_H) (G : q_Gr) (Q : q_V → q_H → q_Gr → Prop) : q_wp d 27 95 [z0, z1, z2, z3, z4, z5, z6, z7, z8] (.inl a :: st) v G Q = q_wp d 27 97 [z0, z1, z2, z3, z4, z5, z6, .inl a, z8] st v G Q := q_w_istore c_27_95
theorem c_27_97 : q_code 27 97 = (.aload_n 0, 1, 0, 0, 0, 0, 0) := by decide +kernel
theorem e_27_97 (d : Nat) (a : Option Nat) (z1 z2 z3 z4 z5 z6 z7 z8 : q_V) (st : List q_V) (v : q_H) (G : q_Gr) (Q : q_V → q_H → q_Gr → Prop) : q_wp d 27 97 [.inr (.inr (.inl a)), z1, z2, z3, z4, z5, z6, z7, z8] st v G Q = q_wp d 27 98 [.inr (.inr (.inl a)), z1, z2, z3, z4, z5, z6, z7, z8] (.inr (.inr (.inl a)) :: st) v G Q := q_w_aload_n c_27_97 rfl
theorem c_27_98 : q_code 27 98 = (.getfield 54, 3, 2, 2, 0, 197, 0) := by decide +kernel
theorem e_27_98 (d : Nat) (a : Nat) (z0 z1 z2 z3 z4 z5 z6 z7 z8 : q_V) (st : List q_V) (v : q_H) (G : q_Gr) (Q : q_V → q_H → q_Gr → Prop) : q_wp d 27 98 [z0, z1, z2, z3, z4, z5, z6, z7, z8] (.inr (.inr (.inl (some a))) :: st) v G Q = (((G.2.1 a).1 = 2) ∧ q_wp d 27 101 [z0, z1, z2, z3, z4, z5, z6, z7, z8] (.inl (v a 2) :: st) v G Q) := q_w_getI c_27_98
theorem c_27_101 : q_code 27 101 = (.ifCond .eq 4, 3, 0, 0, 0, 0, 0) := by decide +kernel
theorem e_27_101 (d : Nat) (a : Int) (z0 z1 z2 z3 z4 z5 z6 z7 z8 : q_V) (st : List q_V) (v : q_H) (G : q_Gr) (Q : q_V → q_H → q_Gr → Prop) : q_wp d 27 101 [z0, z1, z2, z3, z4, z5, z6, z7, z8] (.inl a :: st) v G Q = ((q_inR a) ∧ if a = 0 then q_wp d 27 105 [z0, z1, z2, z3, z4, z5, z6, z7, z8] st v G Q else q_wp d 27 104 [z0, z1, z2, z3, z4, z5, z6, z7, z8] st v G Q) := q_w_if_eq c_27_101 (by decide)
theorem c_27_104 : q_code 27 104 = (.return_, 1, 0, 0, 0, 0, 0) := by decide +kernel
theorem e_27_104 (d : Nat)  (z0 z1 z2 z3 z4 z5 z6 z7 z8 : q_V) (v : q_H) (G : q_Gr) (Q : q_V → q_H → q_Gr → Prop) : q_wp d 27 104 [z0, z1, z2, z3, z4, z5, z6, z7, z8] [] v G Q = Q (.inr (.inr (.inr ()))) v G := q_w_return c_27_104 rfl
theorem c_27_105 : q_code 27 105 = (.aload_n 0, 1, 0, 0, 0, 0, 0) := by decide +kernel
theorem e_27_105 (d : Nat) (a : Option Nat) (z1 z2 z3 z4 z5 z6 z7 z8 : q_V) (st : List q_V) (v : q_H) (G : q_Gr) (Q : q_V → q_H → q_Gr → Prop) : q_wp d 27 105 [.inr (.inr (.inl a)), z1, z2, z3, z4, z5, z6, z7, z8] st v G Q = q_wp d 27 106 [.inr (.inr (.inl a)), z1, z2, z3, z4, z5, z6, z7, z8] (.inr (.inr (.inl a)) :: st) v G Q := q_w_aload_n c_27_105 rfl
theorem c_27_106 : q_code 27 106 = (.iconst 0, 1, 0, 0, 0, 0, 0) := by decide +kernel
theorem e_27_106 (d : Nat)  (z0 z1 z2 z3 z4 z5 z6 z7 z8 : q_V) (st : List q_V) (v : q_H) (G : q_Gr) (Q : q_V → q_H → q_Gr → Prop) : q_wp d 27 106 [z0, z1, z2, z3, z4, z5, z6, z7, z8] st v G Q = q_wp d 27 107 [z0, z1, z2, z3, z4, z5, z6, z7, z8] (.inl 0 :: st) v G Q := q_w_iconst c_27_106
theorem c_27_107 : q_code 27 107 = (.iload_n 3, 1, 0, 0, 0, 0, 0) := by decide +kernel
theorem e_27_107 (d : Nat) (a : Int) (z0 z1 z2 z4 z5 z6 z7 z8 : q_V) (st : List q_V) (v : q_H) (G : q_Gr) (Q : q_V → q_H → q_Gr → Prop) : q_wp d 27 107 [z0, z1, z2, .inl a, z4, z5, z6, z7, z8] st v G Q = q_wp d 27 108 [z0, z1, z2, .inl a, z4, z5, z6, z7, z8] (.inl a :: st) v G Q := q_w_iload_n c_27_107 rfl
theorem c_27_108 : q_code 27 108 = (.ifCond .ne 8, 3, 0, 0, 0, 0, 0) := by decide +kernel
theorem e_27_108 (d : Nat) (a : Int) (z0 z1 z2 z3 z4 z5 z6 z7 z8 : q_V) (st : List q_V) (v : q_H) (G : q_Gr) (Q : q_V → q_H → q_Gr → Prop) : q_wp d 27 108 [z0, z1, z2, z3, z4, z5, z6, z7, z8] (.inl a :: st) v G Q = ((q_inR a) ∧ if ¬ a = 0 then q_wp d 27 116 [z0, z1, z2, z3, z4, z5, z6, z7, z8] st v G Q else q_wp d 27 111 [z0, z1, z2, z3, z4, z5, z6, z7, z8] st v G Q) := q_w_if_ne c_27_108 (by decide)
theorem c_27_111 : q_code 27 111 = (.iload 4, 2, 0, 0, 0, 0, 0) := by decide +kernel
theorem e_27_111 (d : Nat) (a : Int) (z0 z1 z2 z3 z5 z6 z7 z8 : q_V) (st : List q_V) (v : q_H) (G : q_Gr) (Q : q_V → q_H → q_Gr → Prop) : q_wp d 27 111 [z0, z1, z2, z3, .inl a, z5, z6, z7, z8] st v G Q = q_wp d 27 113 [z0, z1, z2, z3, .inl a, z5, z6, z7, z8] (.inl a :: st) v G Q := q_w_iload c_27_111 rfl
theorem c_27_113 : q_code 27 113 = (.ifCond .eq 7, 3, 0, 0, 0, 0, 0) := by decide +kernel
theorem e_27_113 (d : Nat) (a : Int) (z0 z1 z2 z3 z4 z5 z6 z7 z8 : q_V) (st : List q_V) (v : q_H) (G : q_Gr) (Q : q_V → q_H → q_Gr → Prop) : q_wp d 27 113 [z0, z1, z2, z3, z4, z5, z6, z7, z8] (.inl a :: st) v G Q = ((q_inR a) ∧ if a = 0 then q_wp d 27 120 [z0, z1, z2, z3, z4, z5, z6, z7, z8] st v G Q else q_wp d 27 116 [z0, z1, z2, z3, z4, z5, z6, z7, z8] st v G Q) := q_w_if_eq c_27_113 (by decide)
theorem c_27_116 : q_code 27 116 = (.iconst 0, 1, 0, 0, 0, 0, 0) := by decide +kernel
theorem e_27_116 (d : Nat)  (z0 z1 z2 z3 z4 z5 z6 z7 z8 : q_V) (st : List q_V) (v : q_H) (G : q_Gr) (Q : q_V → q_H → q_Gr → Prop) : q_wp d 27 116 [z0, z1, z2, z3, z4, z5, z6, z7, z8] st v G Q = q_wp d 27 117 [z0, z1, z2, z3, z4, z5, z6, z7, z8] (.inl 0 :: st) v G Q := q_w_iconst c_27_116
theorem c_27_117 : q_code 27 117 = (.goto 6, 3, 0, 0, 0, 0, 0) := by decide +kernel
theorem e_27_117 (d : Nat)  (z0 z1 z2 z3 z4 z5 z6 z7 z8 : q_V) (st : List q_V) (v : q_H) (G : q_Gr) (Q : q_V → q_H → q_Gr → Prop) : q_wp d 27 117 [z0, z1, z2, z3, z4, z5, z6, z7, z8] st v G Q = q_wp d 27 123 [z0, z1, z2, z3, z4, z5, z6, z7, z8] st v G Q := q_w_goto c_27_117 (by decide)
theorem c_27_120 : q_code 27 120 = (.sipush 999, 3, 0, 0, 0, 0, 0) := by decide +kernel
theorem e_27_120 (d : Nat)  (z0 z1 z2 z3 z4 z5 z6 z7 z8 : q_V) (st : List q_V) (v : q_H) (G : q_Gr) (Q : q_V → q_H → q_Gr → Prop) : q_wp d 27 120 [z0, z1, z2, z3, z4, z5, z6, z7, z8] st v G Q = q_wp d 27 123 [z0, z1, z2, z3, z4, z5, z6, z7, z8] (.inl 999 :: st) v G Q := (q_w_sipush c_27_120).trans (by simp only [show ((-32768 : Int) ≤ 999 ∧ (999 : Int) ≤ 32767) = True by decide, true_and])
theorem c_27_123 : q_code 27 123 = (.invokevirtual 100, 3, 23, 3, 0, 795, 1) := by decide +kernel
theorem e_27_123 (d : Nat) (x0 x1 x2 : q_V) (z0 z1 z2 z3 z4 z5 z6 z7 z8 : q_V) (v : q_H) (G : q_Gr) (Q : q_V → q_H → q_Gr → Prop) : q_wp d 27 123 [z0, z1, z2, z3, z4, z5, z6, z7, z8] [x2, x1, x0] v G Q = q_call d 23 [x0, x1, x2] v G (fun r v G => q_wp d 27 126 [z0, z1, z2, z3, z4, z5, z6, z7, z8] (q_push r []) v G Q) := q_wp_ca (m2 := 23) (k := 3) (as := [x0, x1, x2]) (rest := []) (congrArg q_kind c_27_123) (congrArg (fun w => w.2.2.1) c_27_123) (congrArg (fun w => w.2.2.2.1) c_27_123) rfl (Nat.le_of_ble_eq_true rfl) rfl
theorem c_27_126 : q_code 27 126 = (.istore 8, 2, 0, 0, 0, 0, 0) := by decide +kernel
theorem e_27_126 (d : Nat) (a : Int) (z0 z1 z2 z3 z4 z5 z6 z7 z8 : q_V) (st : List q_V) (v : q_H) (G : q_Gr) (Q : q_V → q_H → q_Gr → Prop) : q_wp d 27 126 [z0, z1, z2, z3, z4, z5, z6, z7, z8] (.inl a :: st) v G Q = q_wp d 27 128 [z0, z1, z2, z3, z4, z5, z6, z7, .inl a] st v G Q := q_w_istore c_27_126
theorem c_27_128 : q_code 27 128 = (.aload_n 0, 1, 0, 0, 0, 0, 0) := by decide +kernel
theorem e_27_128 (d : Nat) (a : Option Nat) (z1 z2 z3 z4 z5 z6 z7 z8 : q_V) (st : List q_V) (v : q_H) (G : q_Gr) (Q : q_V → q_H → q_Gr → Prop) : q_wp d 27 128 [.inr (.inr (.inl a)), z1, z2, z3, z4, z5, z6, z7, z8] st v G Q = q_wp d 27 129 [.inr (.inr (.inl a)), z1, z2, z3, z4, z5, z6, z7, z8] (.inr (.inr (.inl a)) :: st) v G Q := q_w_aload_n c_27_128 rfl
theorem c_27_129 : q_code 27 129 = (.getfield 54, 3, 2, 2, 0, 197, 0) := by decide +kernel
theorem e_27_129 (d : Nat) (a : Nat) (z0 z1 z2 z3 z4 z5 z6 z7 z8 : q_V) (st : List q_V) (v : q_H) (G : q_Gr) (Q : q_V → q_H → q_Gr → Prop) : q_wp d 27 129 [z0, z1, z2, z3, z4, z5, z6, z7, z8] (.inr (.inr (.inl (some a))) :: st) v G Q = (((G.2.1 a).1 = 2) ∧ q_wp d 27 132 [z0, z1, z2, z3, z4, z5, z6, z7, z8] (.inl (v a 2) :: st) v G Q) := q_w_getI c_27_129
theorem c_27_132 : q_code 27 132 = (.ifCond .ne 12, 3, 0, 0, 0, 0, 0) := by decide +kernel
theorem e_27_132 (d : Nat) (a : Int) (z0 z1 z2 z3 z4 z5 z6 z7 z8 : q_V) (st : List q_V) (v : q_H) (G : q_Gr) (Q : q_V → q_H → q_Gr → Prop) : q_wp d 27 132 [z0, z1, z2, z3, z4, z5, z6, z7, z8] (.inl a :: st) v G Q = ((q_inR a) ∧ if ¬ a = 0 then q_wp d 27 144 [z0, z1, z2, z3, z4, z5, z6, z7, z8] st v G Q else q_wp d 27 135 [z0, z1, z2, z3, z4, z5, z6, z7, z8] st v G Q) := q_w_if_ne c_27_132 (by decide)
theorem c_27_135 : q_code 27 135 = (.iload_n 2, 1, 0, 0, 0, 0, 0) := by decide +kernel
theorem e_27_135 (d : Nat) (a : Int) (z0 z1 z3 z4 z5 z6 z7 z8 : q_V) (st : List q_V) (v : q_H) (G : q_Gr) (Q : q_V → q_H → q_Gr → Prop) : q_wp d 27 135 [z0, z1, .inl a, z3, z4, z5, z6, z7, z8] st v G Q = q_wp d 27 136 [z0, z1, .inl a, z3, z4, z5, z6, z7, z8] (.inl a :: st) v G Q := q_w_iload_n c_27_135 rfl
theorem c_27_136 : q_code 27 136 = (.bipush 16, 2, 0, 0, 0, 0, 0) := by decide +kernel
theorem e_27_136 (d : Nat)  (z0 z1 z2 z3 z4 z5 z6 z7 z8 : q_V) (st : List q_V) (v : q_H) (G : q_Gr) (Q : q_V → q_H → q_Gr → Prop) : q_wp d 27 136 [z0, z1, z2, z3, z4, z5, z6, z7, z8] st v G Q = q_wp d 27 138 [z0, z1, z2, z3, z4, z5, z6, z7, z8] (.inl 16 :: st) v G Q := (q_w_bipush c_27_136).trans (by simp only [show ((-128 : Int) ≤ 16 ∧ (16 : Int) ≤ 127) = True by decide, true_and])
theorem c_27_138 : q_code 27 138 = (.invokestatic 125, 3, 144, 2, 1, 16, 1) := by decide +kernel
theorem e_27_138 (d : Nat) (x0 x1 : q_V) (z0 z1 z2 z3 z4 z5 z6 z7 z8 : q_V) (v : q_H) (G : q_Gr) (Q : q_V → q_H → q_Gr → Prop) : q_wp d 27 138 [z0, z1, z2, z3, z4, z5, z6, z7, z8] [x1, x0] v G Q = q_call d 144 [x0, x1] v G (fun r v G => q_wp d 27 141 [z0, z1, z2, z3, z4, z5, z6, z7, z8] (q_push r []) v G Q) := q_wp_ca (m2 := 144) (k := 2) (as := [x0, x1]) (rest := []) (congrArg q_kind c_27_138) (congrArg (fun w => w.2.2.1) c_27_138) (congrArg (fun w => w.2.2.2.1) c_27_138) rfl (Nat.le_of_ble_eq_true rfl) rfl
theorem c_27_141 : q_code 27 141 = (.ifCond .ne 4, 3, 0, 0, 0, 0, 0) := by decide +kernel
theorem e_27_141 (d : Nat) (a : Int) (z0 z1 z2 z3 z4 z5 z6 z7 z8 : q_V) (st : List q_V) (v : q_H) (G : q_Gr) (Q : q_V → q_H → q_Gr → Prop) : q_wp d 27 141 [z0, z1, z2, z3, z4, z5, z6, z7, z8] (.inl a :: st) v G Q = ((q_inR a) ∧ if ¬ a = 0 then q_wp d 27 145 [z0, z1, z2, z3, z4, z5, z6, z7, z8] st v G Q else q_wp d 27 144 [z0, z1, z2, z3, z4, z5, z6, z7, z8] st v G Q) := q_w_if_ne c_27_141 (by decide)
theorem c_27_144 : q_code 27 144 = (.return_, 1, 0, 0, 0, 0, 0) := by decide +kernel
theorem e_27_144 (d : Nat)  (z0 z1 z2 z3 z4 z5 z6 z7 z8 : q_V) (v : q_H) (G : q_Gr) (Q : q_V → q_H → q_Gr → Prop) : q_wp d 27 144 [z0, z1, z2, z3, z4, z5, z6, z7, z8] [] v G Q = Q (.inr (.inr (.inr ()))) v G := q_w_return c_27_144 rfl
theorem c_27_145 : q_code 27 145 = (.aload_n 0, 1, 0, 0, 0, 0, 0) := by decide +kernel
theorem e_27_145 (d : Nat) (a : Option Nat) (z1 z2 z3 z4 z5 z6 z7 z8 : q_V) (st : List q_V) (v : q_H) (G : q_Gr) (Q : q_V → q_H → q_Gr → Prop) : q_wp d 27 145 [.inr (.inr (.inl a)), z1, z2, z3, z4, z5, z6, z7, z8] st v G Q = q_wp d 27 146 [.inr (.inr (.inl a)), z1, z2, z3, z4, z5, z6, z7, z8] (.inr (.inr (.inl a)) :: st) v G Q := q_w_aload_n c_27_145 rfl
theorem c_27_146 : q_code 27 146 = (.getfield 23, 3, 2, 3, 1, 198, 0) := by decide +kernel
theorem e_27_146 (d : Nat) (a : Nat) (z0 z1 z2 z3 z4 z5 z6 z7 z8 : q_V) (st : List q_V) (v : q_H) (G : q_Gr) (Q : q_V → q_H → q_Gr → Prop) : q_wp d 27 146 [z0, z1, z2, z3, z4, z5, z6, z7, z8] (.inr (.inr (.inl (some a))) :: st) v G Q = (((G.2.1 a).1 = 2) ∧ q_wp d 27 149 [z0, z1, z2, z3, z4, z5, z6, z7, z8] (.inr (.inr (.inl (G.1 a 3))) :: st) v G Q) := q_w_getP c_27_146
theorem c_27_149 : q_code 27 149 = (.iload_n 1, 1, 0, 0, 0, 0, 0) := by decide +kernel
theorem e_27_149 (d : Nat) (a : Int) (z0 z2 z3 z4 z5 z6 z7 z8 : q_V) (st : List q_V) (v : q_H) (G : q_Gr) (Q : q_V → q_H → q_Gr → Prop) : q_wp d 27 149 [z0, .inl a, z2, z3, z4, z5, z6, z7, z8] st v G Q = q_wp d 27 150 [z0, .inl a, z2, z3, z4, z5, z6, z7, z8] (.inl a :: st) v G Q := q_w_iload_n c_27_149 rfl
theorem c_27_150 : q_code 27 150 = (.iload 7, 2, 0, 0, 0, 0, 0) := by decide +kernel
theorem e_27_150 (d : Nat) (a : Int) (z0 z1 z2 z3 z4 z5 z6 z8 : q_V) (st : List q_V) (v : q_H) (G : q_Gr) (Q : q_V → q_H → q_Gr → Prop) : q_wp d 27 150 [z0, z1, z2, z3, z4, z5, z6, .inl a, z8] st v G Q = q_wp d 27 152 [z0, z1, z2, z3, z4, z5, z6, .inl a, z8] (.inl a :: st) v G Q := q_w_iload c_27_150 rfl
theorem c_27_152 : q_code 27 152 = (.iload 8, 2, 0, 0, 0, 0, 0) := by decide +kernel
theorem e_27_152 (d : Nat) (a : Int) (z0 z1 z2 z3 z4 z5 z6 z7 : q_V) (st : List q_V) (v : q_H) (G : q_Gr) (Q : q_V → q_H → q_Gr → Prop) : q_wp d 27 152 [z0, z1, z2, z3, z4, z5, z6, z7, .inl a] st v G Q = q_wp d 27 154 [z0, z1, z2, z3, z4, z5, z6, z7, .inl a] (.inl a :: st) v G Q := q_w_iload c_27_152 rfl
theorem c_27_154 : q_code 27 154 = (.invokevirtual 145, 3, 113, 4, 0, 812, 0) := by decide +kernel
theorem e_27_154 (d : Nat) (x0 x1 x2 x3 : q_V) (z0 z1 z2 z3 z4 z5 z6 z7 z8 : q_V) (v : q_H) (G : q_Gr) (Q : q_V → q_H → q_Gr → Prop) : q_wp d 27 154 [z0, z1, z2, z3, z4, z5, z6, z7, z8] [x3, x2, x1, x0] v G Q = q_call d 113 [x0, x1, x2, x3] v G (fun r v G => q_wp d 27 157 [z0, z1, z2, z3, z4, z5, z6, z7, z8] (q_push r []) v G Q) := q_wp_ca (m2 := 113) (k := 4) (as := [x0, x1, x2, x3]) (rest := []) (congrArg q_kind c_27_154) (congrArg (fun w => w.2.2.1) c_27_154) (congrArg (fun w => w.2.2.2.1) c_27_154) rfl (Nat.le_of_ble_eq_true rfl) rfl
theorem c_27_157 : q_code 27 157 = (.aload_n 0, 1, 0, 0, 0, 0, 0) := by decide +kernel
theorem e_27_157 (d : Nat) (a : Option Nat) (z1 z2 z3 z4 z5 z6 z7 z8 : q_V) (st : List q_V) (v : q_H) (G : q_Gr) (Q : q_V → q_H → q_Gr → Prop) : q_wp d 27 157 [.inr (.inr (.inl a)), z1, z2, z3, z4, z5, z6, z7, z8] st v G Q = q_wp d 27 158 [.inr (.inr (.inl a)), z1, z2, z3, z4, z5, z6, z7, z8] (.inr (.inr (.inl a)) :: st) v G Q := q_w_aload_n c_27_157 rfl
theorem c_27_158 : q_code 27 158 = (.getfield 27, 3, 2, 4, 1, 199, 0) := by decide +kernel
theorem e_27_158 (d : Nat) (a : Nat) (z0 z1 z2 z3 z4 z5 z6 z7 z8 : q_V) (st : List q_V) (v : q_H) (G : q_Gr) (Q : q_V → q_H → q_Gr → Prop) : q_wp d 27 158 [z0, z1, z2, z3, z4, z5, z6, z7, z8] (.inr (.inr (.inl (some a))) :: st) v G Q = (((G.2.1 a).1 = 2) ∧ q_wp d 27 161 [z0, z1, z2, z3, z4, z5, z6, z7, z8] (.inr (.inr (.inl (G.1 a 4))) :: st) v G Q) := q_w_getP c_27_158
theorem c_27_161 : q_code 27 161 = (.iload_n 2, 1, 0, 0, 0, 0, 0) := by decide +kernel
theorem e_27_161 (d : Nat) (a : Int) (z0 z1 z3 z4 z5 z6 z7 z8 : q_V) (st : List q_V) (v : q_H) (G : q_Gr) (Q : q_V → q_H → q_Gr → Prop) : q_wp d 27 161 [z0, z1, .inl a, z3, z4, z5, z6, z7, z8] st v G Q = q_wp d 27 162 [z0, z1, .inl a, z3, z4, z5, z6, z7, z8] (.inl a :: st) v G Q := q_w_iload_n c_27_161 rfl
theorem c_27_162 : q_code 27 162 = (.iconst 1, 1, 0, 0, 0, 0, 0) := by decide +kernel
theorem e_27_162 (d : Nat)  (z0 z1 z2 z3 z4 z5 z6 z7 z8 : q_V) (st : List q_V) (v : q_H) (G : q_Gr) (Q : q_V → q_H → q_Gr → Prop) : q_wp d 27 162 [z0, z1, z2, z3, z4, z5, z6, z7, z8] st v G Q = q_wp d 27 163 [z0, z1, z2, z3, z4, z5, z6, z7, z8] (.inl 1 :: st) v G Q := q_w_iconst c_27_162
theorem c_27_163 : q_code 27 163 = (.bastore, 1, 0, 0, 0, 0, 0) := by decide +kernel
theorem e_27_163 (d : Nat) (a : Nat) (i b : Int) (z0 z1 z2 z3 z4 z5 z6 z7 z8 : q_V) (st : List q_V) (v : q_H) (G : q_Gr) (Q : q_V → q_H → q_Gr → Prop) : q_wp d 27 163 [z0, z1, z2, z3, z4, z5, z6, z7, z8] (.inl b :: .inl i :: .inr (.inr (.inl (some a))) :: st) v G Q = (((G.2.1 a).1 = 21 ∧ 32 ≤ a ∧ (0 ≤ b ∧ b ≤ 1) ∧ 0 ≤ i ∧ i < (G.2.1 a).2) ∧ q_wp d 27 164 [z0, z1, z2, z3, z4, z5, z6, z7, z8] st (q_up v a i.toNat b) G Q) := q_w_bast c_27_163
theorem c_27_164 : q_code 27 164 = (.aload_n 0, 1, 0, 0, 0, 0, 0) := by decide +kernel
theorem e_27_164 (d : Nat) (a : Option Nat) (z1 z2 z3 z4 z5 z6 z7 z8 : q_V) (st : List q_V) (v : q_H) (G : q_Gr) (Q : q_V → q_H → q_Gr → Prop) : q_wp d 27 164 [.inr (.inr (.inl a)), z1, z2, z3, z4, z5, z6, z7, z8] st v G Q = q_wp d 27 165 [.inr (.inr (.inl a)), z1, z2, z3, z4, z5, z6, z7, z8] (.inr (.inr (.inl a)) :: st) v G Q := q_w_aload_n c_27_164 rfl
theorem c_27_165 : q_code 27 165 = (.getfield 34, 3, 2, 6, 1, 201, 0) := by decide +kernel
theorem e_27_165 (d : Nat) (a : Nat) (z0 z1 z2 z3 z4 z5 z6 z7 z8 : q_V) (st : List q_V) (v : q_H) (G : q_Gr) (Q : q_V → q_H → q_Gr → Prop) : q_wp d 27 165 [z0, z1, z2, z3, z4, z5, z6, z7, z8] (.inr (.inr (.inl (some a))) :: st) v G Q = (((G.2.1 a).1 = 2) ∧ q_wp d 27 168 [z0, z1, z2, z3, z4, z5, z6, z7, z8] (.inr (.inr (.inl (G.1 a 6))) :: st) v G Q) := q_w_getP c_27_165
theorem c_27_168 : q_code 27 168 = (.iload_n 2, 1, 0, 0, 0, 0, 0) := by decide +kernel
theorem e_27_168 (d : Nat) (a : Int) (z0 z1 z3 z4 z5 z6 z7 z8 : q_V) (st : List q_V) (v : q_H) (G : q_Gr) (Q : q_V → q_H → q_Gr → Prop) : q_wp d 27 168 [z0, z1, .inl a, z3, z4, z5, z6, z7, z8] st v G Q = q_wp d 27 169 [z0, z1, .inl a, z3, z4, z5, z6, z7, z8] (.inl a :: st) v G Q := q_w_iload_n c_27_168 rfl
theorem c_27_169 : q_code 27 169 = (.iload 7, 2, 0, 0, 0, 0, 0) := by decide +kernel
theorem e_27_169 (d : Nat) (a : Int) (z0 z1 z2 z3 z4 z5 z6 z8 : q_V) (st : List q_V) (v : q_H) (G : q_Gr) (Q : q_V → q_H → q_Gr → Prop) : q_wp d 27 169 [z0, z1, z2, z3, z4, z5, z6, .inl a, z8] st v G Q = q_wp d 27 171 [z0, z1, z2, z3, z4, z5, z6, .inl a, z8] (.inl a :: st) v G Q := q_w_iload c_27_169 rfl
theorem c_27_171 : q_code 27 171 = (.iastore, 1, 0, 0, 0, 0, 0) := by decide +kernel
theorem e_27_171 (d : Nat) (a : Nat) (i b : Int) (z0 z1 z2 z3 z4 z5 z6 z7 z8 : q_V) (st : List q_V) (v : q_H) (G : q_Gr) (Q : q_V → q_H → q_Gr → Prop) : q_wp d 27 171 [z0, z1, z2, z3, z4, z5, z6, z7, z8] (.inl b :: .inl i :: .inr (.inr (.inl (some a))) :: st) v G Q = (((G.2.1 a).1 = 20 ∧ 32 ≤ a ∧ 0 ≤ i ∧ i < (G.2.1 a).2) ∧ q_wp d 27 172 [z0, z1, z2, z3, z4, z5, z6, z7, z8] st (q_up v a i.toNat b) G Q) := q_w_iast c_27_171
theorem c_27_172 : q_code 27 172 = (.aload_n 0, 1, 0, 0, 0, 0, 0) := by decide +kernel
theorem e_27_172 (d : Nat) (a : Option Nat) (z1 z2 z3 z4 z5 z6 z7 z8 : q_V) (st : List q_V) (v : q_H) (G : q_Gr) (Q : q_V → q_H → q_Gr → Prop) : q_wp d 27 172 [.inr (.inr (.inl a)), z1, z2, z3, z4, z5, z6, z7, z8] st v G Q = q_wp d 27 173 [.inr (.inr (.inl a)), z1, z2, z3, z4, z5, z6, z7, z8] (.inr (.inr (.inl a)) :: st) v G Q := q_w_aload_n c_27_172 rfl
theorem c_27_173 : q_code 27 173 = (.getfield 38, 3, 2, 7, 1, 202, 0) := by decide +kernel
theorem e_27_173 (d : Nat) (a : Nat) (z0 z1 z2 z3 z4 z5 z6 z7 z8 : q_V) (st : List q_V) (v : q_H) (G : q_Gr) (Q : q_V → q_H → q_Gr → Prop) : q_wp d 27 173 [z0, z1, z2, z3, z4, z5, z6, z7, z8] (.inr (.inr (.inl (some a))) :: st) v G Q = (((G.2.1 a).1 = 2) ∧ q_wp d 27 176 [z0, z1, z2, z3, z4, z5, z6, z7, z8] (.inr (.inr (.inl (G.1 a 7))) :: st) v G Q) := q_w_getP c_27_173
theorem c_27_176 : q_code 27 176 = (.iload_n 2, 1, 0, 0, 0, 0, 0) := by decide +kernel
theorem e_27_176 (d : Nat) (a : Int) (z0 z1 z3 z4 z5 z6 z7 z8 : q_V) (st : List q_V) (v : q_H) (G : q_Gr) (Q : q_V → q_H → q_Gr → Prop) : q_wp d 27 176 [z0, z1, .inl a, z3, z4, z5, z6, z7, z8] st v G Q = q_wp d 27 177 [z0, z1, .inl a, z3, z4, z5, z6, z7, z8] (.inl a :: st) v G Q := q_w_iload_n c_27_176 rfl
theorem c_27_177 : q_code 27 177 = (.iload 8, 2, 0, 0, 0, 0, 0) := by decide +kernel
theorem e_27_177 (d : Nat) (a : Int) (z0 z1 z2 z3 z4 z5 z6 z7 : q_V) (st : List q_V) (v : q_H) (G : q_Gr) (Q : q_V → q_H → q_Gr → Prop) : q_wp d 27 177 [z0, z1, z2, z3, z4, z5, z6, z7, .inl a] st v G Q = q_wp d 27 179 [z0, z1, z2, z3, z4, z5, z6, z7, .inl a] (.inl a :: st) v G Q := q_w_iload c_27_177 rfl
theorem c_27_179 : q_code 27 179 = (.iastore, 1, 0, 0, 0, 0, 0) := by decide +kernel
theorem e_27_179 (d : Nat) (a : Nat) (i b : Int) (z0 z1 z2 z3 z4 z5 z6 z7 z8 : q_V) (st : List q_V) (v : q_H) (G : q_Gr) (Q : q_V → q_H → q_Gr → Prop) : q_wp d 27 179 [z0, z1, z2, z3, z4, z5, z6, z7, z8] (.inl b :: .inl i :: .inr (.inr (.inl (some a))) :: st) v G Q = (((G.2.1 a).1 = 20 ∧ 32 ≤ a ∧ 0 ≤ i ∧ i < (G.2.1 a).2) ∧ q_wp d 27 180 [z0, z1, z2, z3, z4, z5, z6, z7, z8] st (q_up v a i.toNat b) G Q) := q_w_iast c_27_179
theorem c_27_180 : q_code 27 180 = (.aload_n 0, 1, 0, 0, 0, 0, 0) := by decide +kernel
theorem e_27_180 (d : Nat) (a : Option Nat) (z1 z2 z3 z4 z5 z6 z7 z8 : q_V) (st : List q_V) (v : q_H) (G : q_Gr) (Q : q_V → q_H → q_Gr → Prop) : q_wp d 27 180 [.inr (.inr (.inl a)), z1, z2, z3, z4, z5, z6, z7, z8] st v G Q = q_wp d 27 181 [.inr (.inr (.inl a)), z1, z2, z3, z4, z5, z6, z7, z8] (.inr (.inr (.inl a)) :: st) v G Q := q_w_aload_n c_27_180 rfl
theorem c_27_181 : q_code 27 181 = (.iload 7, 2, 0, 0, 0, 0, 0) := by decide +kernel
theorem e_27_181 (d : Nat) (a : Int) (z0 z1 z2 z3 z4 z5 z6 z8 : q_V) (st : List q_V) (v : q_H) (G : q_Gr) (Q : q_V → q_H → q_Gr → Prop) : q_wp d 27 181 [z0, z1, z2, z3, z4, z5, z6, .inl a, z8] st v G Q = q_wp d 27 183 [z0, z1, z2, z3, z4, z5, z6, .inl a, z8] (.inl a :: st) v G Q := q_w_iload c_27_181 rfl
theorem c_27_183 : q_code 27 183 = (.putfield 122, 3, 2, 9, 0, 204, 0) := by decide +kernel
theorem e_27_183 (d : Nat) (a : Nat) (b : Int) (z0 z1 z2 z3 z4 z5 z6 z7 z8 : q_V) (st : List q_V) (v : q_H) (G : q_Gr) (Q : q_V → q_H → q_Gr → Prop) : q_wp d 27 183 [z0, z1, z2, z3, z4, z5, z6, z7, z8] (.inl b :: .inr (.inr (.inl (some a))) :: st) v G Q = (((G.2.1 a).1 = 2) ∧ q_wp d 27 186 [z0, z1, z2, z3, z4, z5, z6, z7, z8] st (q_up v a 9 b) G Q) := q_w_putI c_27_183
theorem c_27_186 : q_code 27 186 = (.return_, 1, 0, 0, 0, 0, 0) := by decide +kernel
theorem e_27_186 (d : Nat)  (z0 z1 z2 z3 z4 z5 z6 z7 z8 : q_V) (v : q_H) (G : q_Gr) (Q : q_V → q_H → q_Gr → Prop) : q_wp d 27 186 [z0, z1, z2, z3, z4, z5, z6, z7, z8] [] v G Q = Q (.inr (.inr (.inr ()))) v G := q_w_return c_27_186 rfl
theorem e_27 (d : Nat) (a0 : Nat) (a1 : Int) (v : q_H) (G : q_Gr) (Q : q_V → q_H → q_Gr → Prop) : q_call (d + 1) 27 [.inr (.inr (.inl (some a0))), .inl a1] v G Q = ((G.2.1 a0).1 = 2 ∧ q_wp d 27 0 [.inr (.inr (.inl (some a0))), .inl a1, .inr (.inr (.inr ())), .inr (.inr (.inr ())), .inr (.inr (.inr ())), .inr (.inr (.inr ())), .inr (.inr (.inr ())), .inr (.inr (.inr ())), .inr (.inr (.inr ()))] [] v G Q) := by
  rw [q_call_in (by decide) (Nat.le_of_ble_eq_true rfl) rfl]
  exact congrArg (· ∧ _) (propext beq_iff_eq)
/-- all but the heads of loops: [] -/
def E27 := And.intro @e_27 (And.intro @e_27_0 (And.intro @e_27_1 (And.intro @e_27_4 (And.intro @e_27_5 (And.intro @e_27_8 (And.intro @e_27_9 (And.intro @e_27_10 (And.intro @e_27_13 (And.intro @e_27_14 (And.intro @e_27_17 (And.intro @e_27_18 (And.intro @e_27_19 (And.intro @e_27_20 (And.intro @e_27_21 (And.intro @e_27_24 (And.intro @e_27_25 (And.intro @e_27_26 (And.intro @e_27_29 (And.intro @e_27_30 (And.intro @e_27_33 (And.intro @e_27_34 (And.intro @e_27_36 (And.intro @e_27_37 (And.intro @e_27_40 (And.intro @e_27_41 (And.intro @e_27_44 (And.intro @e_27_46 (And.intro @e_27_49 (And.intro @e_27_52 (And.intro @e_27_55 (And.intro @e_27_56 (And.intro @e_27_59 (And.intro @e_27_60 (And.intro @e_27_61 (And.intro @e_27_63 (And.intro @e_27_64 (And.intro @e_27_67 (And.intro @e_27_68 (And.intro @e_27_71 (And.intro @e_27_73 (And.intro @e_27_76 (And.intro @e_27_79 (And.intro @e_27_82 (And.intro @e_27_85 (And.intro @e_27_87 (And.intro @e_27_88 (And.intro @e_27_90 (And.intro @e_27_92 (And.intro @e_27_95 (And.intro @e_27_97 (And.intro @e_27_98 (And.intro @e_27_101 (And.intro @e_27_104 (And.intro @e_27_105 (And.intro @e_27_106 (And.intro @e_27_107 (And.intro @e_27_108 (And.intro @e_27_111 (And.intro @e_27_113 (And.intro @e_27_116 (And.intro @e_27_117 (And.intro @e_27_120 (And.intro @e_27_123 (And.intro @e_27_126 (And.intro @e_27_128 (And.intro @e_27_129 (And.intro @e_27_132 (And.intro @e_27_135 (And.intro @e_27_136 (And.intro @e_27_138 (And.intro @e_27_141 (And.intro @e_27_144 (And.intro @e_27_145 (And.intro @e_27_146 (And.intro @e_27_149 (And.intro @e_27_150 (And.intro @e_27_152 (And.intro @e_27_154 (And.intro @e_27_157 (And.intro @e_27_158 (And.intro @e_27_161 (And.intro @e_27_162 (And.intro @e_27_163 (And.intro @e_27_164 (And.intro @e_27_165 (And.intro @e_27_168 (And.intro @e_27_169 (And.intro @e_27_171 (And.intro @e_27_172 (And.intro @e_27_173 (And.intro @e_27_176 (And.intro @e_27_177 (And.intro @e_27_179 (And.intro @e_27_180 (And.intro @e_27_181 (And.intro @e_27_183 (@e_27_186)))))))))))))))))))))))))))))))))))))))))))))))))))))))))))))))))))))))))))))))))))))))))))))))))
/-! ProvenRows$Checker.readHidden(I)V -/
theorem c_28_0 : q_code 28 0 = (.aload_n 0, 1, 0, 0, 0, 0, 0) := by decide +kernel
theorem e_28_0 (d : Nat) (a : Option Nat) (z1 z2 z3 z4 : q_V) (st : List q_V) (v : q_H) (G : q_Gr) (Q : q_V → q_H → q_Gr → Prop) : q_wp d 28 0 [.inr (.inr (.inl a)), z1, z2, z3, z4] st v G Q = q_wp d 28 1 [.inr (.inr (.inl a)), z1, z2, z3, z4] (.inr (.inr (.inl a)) :: st) v G Q := q_w_aload_n c_28_0 rfl
theorem c_28_1 : q_code 28 1 = (.iconst 0, 1, 0, 0, 0, 0, 0) := by decide +kernel
theorem e_28_1 (d : Nat)  (z0 z1 z2 z3 z4 : q_V) (st : List q_V) (v : q_H) (G : q_Gr) (Q : q_V → q_H → q_Gr → Prop) : q_wp d 28 1 [z0, z1, z2, z3, z4] st v G Q = q_wp d 28 2 [z0, z1, z2, z3, z4] (.inl 0 :: st) v G Q := q_w_iconst c_28_1
theorem c_28_2 : q_code 28 2 = (.ldc 149, 2, 0, 0, 0, 816, 65520) := by decide +kernel
theorem e_28_2 (d : Nat)  (z0 z1 z2 z3 z4 : q_V) (st : List q_V) (v : q_H) (G : q_Gr) (Q : q_V → q_H → q_Gr → Prop) : q_wp d 28 2 [z0, z1, z2, z3, z4] st v G Q = q_wp d 28 4 [z0, z1, z2, z3, z4] (.inl 65520 :: st) v G Q := q_w_ldc c_28_2
theorem c_28_4 : q_code 28 4 = (.invokevirtual 100, 3, 23, 3, 0, 795, 1) := by decide +kernel
theorem e_28_4 (d : Nat) (x0 x1 x2 : q_V) (z0 z1 z2 z3 z4 : q_V) (v : q_H) (G : q_Gr) (Q : q_V → q_H → q_Gr → Prop) : q_wp d 28 4 [z0, z1, z2, z3, z4] [x2, x1, x0] v G Q = q_call d 23 [x0, x1, x2] v G (fun r v G => q_wp d 28 7 [z0, z1, z2, z3, z4] (q_push r []) v G Q) := q_wp_ca (m2 := 23) (k := 3) (as := [x0, x1, x2]) (rest := []) (congrArg q_kind c_28_4) (congrArg (fun w => w.2.2.1) c_28_4) (congrArg (fun w => w.2.2.2.1) c_28_4) rfl (Nat.le_of_ble_eq_true rfl) rfl
theorem c_28_7 : q_code 28 7 = (.istore_n 2, 1, 0, 0, 0, 0, 0) := by decide +kernel
theorem e_28_7 (d : Nat) (a : Int) (z0 z1 z2 z3 z4 : q_V) (st : List q_V) (v : q_H) (G : q_Gr) (Q : q_V → q_H → q_Gr → Prop) : q_wp d 28 7 [z0, z1, z2, z3, z4] (.inl a :: st) v G Q = q_wp d 28 8 [z0, z1, .inl a, z3, z4] st v G Q := q_w_istore_n c_28_7
theorem c_28_8 : q_code 28 8 = (.aload_n 0, 1, 0, 0, 0, 0, 0) := by decide +kernel
theorem e_28_8 (d : Nat) (a : Option Nat) (z1 z2 z3 z4 : q_V) (st : List q_V) (v : q_H) (G : q_Gr) (Q : q_V → q_H → q_Gr → Prop) : q_wp d 28 8 [.inr (.inr (.inl a)), z1, z2, z3, z4] st v G Q = q_wp d 28 9 [.inr (.inr (.inl a)), z1, z2, z3, z4] (.inr (.inr (.inl a)) :: st) v G Q := q_w_aload_n c_28_8 rfl
theorem c_28_9 : q_code 28 9 = (.getfield 54, 3, 2, 2, 0, 197, 0) := by decide +kernel
theorem e_28_9 (d : Nat) (a : Nat) (z0 z1 z2 z3 z4 : q_V) (st : List q_V) (v : q_H) (G : q_Gr) (Q : q_V → q_H → q_Gr → Prop) : q_wp d 28 9 [z0, z1, z2, z3, z4] (.inr (.inr (.inl (some a))) :: st) v G Q = (((G.2.1 a).1 = 2) ∧ q_wp d 28 12 [z0, z1, z2, z3, z4] (.inl (v a 2) :: st) v G Q) := q_w_getI c_28_9
theorem c_28_12 : q_code 28 12 = (.ifCond .eq 4, 3, 0, 0, 0, 0, 0) := by decide +kernel
theorem e_28_12 (d : Nat) (a : Int) (z0 z1 z2 z3 z4 : q_V) (st : List q_V) (v : q_H) (G : q_Gr) (Q : q_V → q_H → q_Gr → Prop) : q_wp d 28 12 [z0, z1, z2, z3, z4] (.inl a :: st) v G Q = ((q_inR a) ∧ if a = 0 then q_wp d 28 16 [z0, z1, z2, z3, z4] st v G Q else q_wp d 28 15 [z0, z1, z2, z3, z4] st v G Q) := q_w_if_eq c_28_12 (by decide)
theorem c_28_15 : q_code 28 15 = (.return_, 1, 0, 0, 0, 0, 0) := by decide +kernel
theorem e_28_15 (d : Nat)  (z0 z1 z2 z3 z4 : q_V) (v : q_H) (G : q_Gr) (Q : q_V → q_H → q_Gr → Prop) : q_wp d 28 15 [z0, z1, z2, z3, z4] [] v G Q = Q (.inr (.inr (.inr ()))) v G := q_w_return c_28_15 rfl
theorem c_28_16 : q_code 28 16 = (.aload_n 0, 1, 0, 0, 0, 0, 0) := by decide +kernel
theorem e_28_16 (d : Nat) (a : Option Nat) (z1 z2 z3 z4 : q_V) (st : List q_V) (v : q_H) (G : q_Gr) (Q : q_V → q_H → q_Gr → Prop) : q_wp d 28 16 [.inr (.inr (.inl a)), z1, z2, z3, z4] st v G Q = q_wp d 28 17 [.inr (.inr (.inl a)), z1, z2, z3, z4] (.inr (.inr (.inl a)) :: st) v G Q := q_w_aload_n c_28_16 rfl
theorem c_28_17 : q_code 28 17 = (.iconst 0, 1, 0, 0, 0, 0, 0) := by decide +kernel
theorem e_28_17 (d : Nat)  (z0 z1 z2 z3 z4 : q_V) (st : List q_V) (v : q_H) (G : q_Gr) (Q : q_V → q_H → q_Gr → Prop) : q_wp d 28 17 [z0, z1, z2, z3, z4] st v G Q = q_wp d 28 18 [z0, z1, z2, z3, z4] (.inl 0 :: st) v G Q := q_w_iconst c_28_17
theorem c_28_18 : q_code 28 18 = (.sipush 14000, 3, 0, 0, 0, 0, 0) := by decide +kernel
theorem e_28_18 (d : Nat)  (z0 z1 z2 z3 z4 : q_V) (st : List q_V) (v : q_H) (G : q_Gr) (Q : q_V → q_H → q_Gr → Prop) : q_wp d 28 18 [z0, z1, z2, z3, z4] st v G Q = q_wp d 28 21 [z0, z1, z2, z3, z4] (.inl 14000 :: st) v G Q := (q_w_sipush c_28_18).trans (by simp only [show ((-32768 : Int) ≤ 14000 ∧ (14000 : Int) ≤ 32767) = True by decide, true_and])
theorem c_28_21 : q_code 28 21 = (.invokevirtual 100, 3, 23, 3, 0, 795, 1) := by decide +kernel
theorem e_28_21 (d : Nat) (x0 x1 x2 : q_V) (z0 z1 z2 z3 z4 : q_V) (v : q_H) (G : q_Gr) (Q : q_V → q_H → q_Gr → Prop) : q_wp d 28 21 [z0, z1, z2, z3, z4] [x2, x1, x0] v G Q = q_call d 23 [x0, x1, x2] v G (fun r v G => q_wp d 28 24 [z0, z1, z2, z3, z4] (q_push r []) v G Q) := q_wp_ca (m2 := 23) (k := 3) (as := [x0, x1, x2]) (rest := []) (congrArg q_kind c_28_21) (congrArg (fun w => w.2.2.1) c_28_21) (congrArg (fun w => w.2.2.2.1) c_28_21) rfl (Nat.le_of_ble_eq_true rfl) rfl
theorem c_28_24 : q_code 28 24 = (.istore_n 3, 1, 0, 0, 0, 0, 0) := by decide +kernel
theorem e_28_24 (d : Nat) (a : Int) (z0 z1 z2 z3 z4 : q_V) (st : List q_V) (v : q_H) (G : q_Gr) (Q : q_V → q_H → q_Gr → Prop) : q_wp d 28 24 [z0, z1, z2, z3, z4] (.inl a :: st) v G Q = q_wp d 28 25 [z0, z1, z2, .inl a, z4] st v G Q := q_w_istore_n c_28_24
theorem c_28_25 : q_code 28 25 = (.aload_n 0, 1, 0, 0, 0, 0, 0) := by decide +kernel
theorem e_28_25 (d : Nat) (a : Option Nat) (z1 z2 z3 z4 : q_V) (st : List q_V) (v : q_H) (G : q_Gr) (Q : q_V → q_H → q_Gr → Prop) : q_wp d 28 25 [.inr (.inr (.inl a)), z1, z2, z3, z4] st v G Q = q_wp d 28 26 [.inr (.inr (.inl a)), z1, z2, z3, z4] (.inr (.inr (.inl a)) :: st) v G Q := q_w_aload_n c_28_25 rfl
theorem c_28_26 : q_code 28 26 = (.getfield 23, 3, 2, 3, 1, 198, 0) := by decide +kernel
theorem e_28_26 (d : Nat) (a : Nat) (z0 z1 z2 z3 z4 : q_V) (st : List q_V) (v : q_H) (G : q_Gr) (Q : q_V → q_H → q_Gr → Prop) : q_wp d 28 26 [z0, z1, z2, z3, z4] (.inr (.inr (.inl (some a))) :: st) v G Q = (((G.2.1 a).1 = 2) ∧ q_wp d 28 29 [z0, z1, z2, z3, z4] (.inr (.inr (.inl (G.1 a 3))) :: st) v G Q) := q_w_getP c_28_26
theorem c_28_29 : q_code 28 29 = (.iload_n 1, 1, 0, 0, 0, 0, 0) := by decide +kernel
theorem e_28_29 (d : Nat) (a : Int) (z0 z2 z3 z4 : q_V) (st : List q_V) (v : q_H) (G : q_Gr) (Q : q_V → q_H → q_Gr → Prop) : q_wp d 28 29 [z0, .inl a, z2, z3, z4] st v G Q = q_wp d 28 30 [z0, .inl a, z2, z3, z4] (.inl a :: st) v G Q := q_w_iload_n c_28_29 rfl
theorem c_28_30 : q_code 28 30 = (.invokevirtual 142, 3, 108, 2, 0, 811, 1) := by decide +kernel
theorem e_28_30 (d : Nat) (x0 x1 : q_V) (z0 z1 z2 z3 z4 : q_V) (v : q_H) (G : q_Gr) (Q : q_V → q_H → q_Gr → Prop) : q_wp d 28 30 [z0, z1, z2, z3, z4] [x1, x0] v G Q = q_call d 108 [x0, x1] v G (fun r v G => q_wp d 28 33 [z0, z1, z2, z3, z4] (q_push r []) v G Q) := q_wp_ca (m2 := 108) (k := 2) (as := [x0, x1]) (rest := []) (congrArg q_kind c_28_30) (congrArg (fun w => w.2.2.1) c_28_30) (congrArg (fun w => w.2.2.2.1) c_28_30) rfl (Nat.le_of_ble_eq_true rfl) rfl
theorem c_28_33 : q_code 28 33 = (.istore 4, 2, 0, 0, 0, 0, 0) := by decide +kernel
theorem e_28_33 (d : Nat) (a : Int) (z0 z1 z2 z3 z4 : q_V) (st : List q_V) (v : q_H) (G : q_Gr) (Q : q_V → q_H → q_Gr → Prop) : q_wp d 28 33 [z0, z1, z2, z3, z4] (.inl a :: st) v G Q = q_wp d 28 35 [z0, z1, z2, z3, .inl a] st v G Q := q_w_istore c_28_33
theorem c_28_35 : q_code 28 35 = (.aload_n 0, 1, 0, 0, 0, 0, 0) := by decide +kernel
theorem e_28_35 (d : Nat) (a : Option Nat) (z1 z2 z3 z4 : q_V) (st : List q_V) (v : q_H) (G : q_Gr) (Q : q_V → q_H → q_Gr → Prop) : q_wp d 28 35 [.inr (.inr (.inl a)), z1, z2, z3, z4] st v G Q = q_wp d 28 36 [.inr (.inr (.inl a)), z1, z2, z3, z4] (.inr (.inr (.inl a)) :: st) v G Q := q_w_aload_n c_28_35 rfl
theorem c_28_36 : q_code 28 36 = (.getfield 54, 3, 2, 2, 0, 197, 0) := by decide +kernel
theorem e_28_36 (d : Nat) (a : Nat) (z0 z1 z2 z3 z4 : q_V) (st : List q_V) (v : q_H) (G : q_Gr) (Q : q_V → q_H → q_Gr → Prop) : q_wp d 28 36 [z0, z1, z2, z3, z4] (.inr (.inr (.inl (some a))) :: st) v G Q = (((G.2.1 a).1 = 2) ∧ q_wp d 28 39 [z0, z1, z2, z3, z4] (.inl (v a 2) :: st) v G Q) := q_w_getI c_28_36
theorem c_28_39 : q_code 28 39 = (.ifCond .ne 13, 3, 0, 0, 0, 0, 0) := by decide +kernel
theorem e_28_39 (d : Nat) (a : Int) (z0 z1 z2 z3 z4 : q_V) (st : List q_V) (v : q_H) (G : q_Gr) (Q : q_V → q_H → q_Gr → Prop) : q_wp d 28 39 [z0, z1, z2, z3, z4] (.inl a :: st) v G Q = ((q_inR a) ∧ if ¬ a = 0 then q_wp d 28 52 [z0, z1, z2, z3, z4] st v G Q else q_wp d 28 42 [z0, z1, z2, z3, z4] st v G Q) := q_w_if_ne c_28_39 (by decide)
theorem c_28_42 : q_code 28 42 = (.iload 4, 2, 0, 0, 0, 0, 0) := by decide +kernel
theorem e_28_42 (d : Nat) (a : Int) (z0 z1 z2 z3 : q_V) (st : List q_V) (v : q_H) (G : q_Gr) (Q : q_V → q_H → q_Gr → Prop) : q_wp d 28 42 [z0, z1, z2, z3, .inl a] st v G Q = q_wp d 28 44 [z0, z1, z2, z3, .inl a] (.inl a :: st) v G Q := q_w_iload c_28_42 rfl
theorem c_28_44 : q_code 28 44 = (.bipush 16, 2, 0, 0, 0, 0, 0) := by decide +kernel
theorem e_28_44 (d : Nat)  (z0 z1 z2 z3 z4 : q_V) (st : List q_V) (v : q_H) (G : q_Gr) (Q : q_V → q_H → q_Gr → Prop) : q_wp d 28 44 [z0, z1, z2, z3, z4] st v G Q = q_wp d 28 46 [z0, z1, z2, z3, z4] (.inl 16 :: st) v G Q := (q_w_bipush c_28_44).trans (by simp only [show ((-128 : Int) ≤ 16 ∧ (16 : Int) ≤ 127) = True by decide, true_and])
theorem c_28_46 : q_code 28 46 = (.invokestatic 125, 3, 144, 2, 1, 16, 1) := by decide +kernel
theorem e_28_46 (d : Nat) (x0 x1 : q_V) (z0 z1 z2 z3 z4 : q_V) (v : q_H) (G : q_Gr) (Q : q_V → q_H → q_Gr → Prop) : q_wp d 28 46 [z0, z1, z2, z3, z4] [x1, x0] v G Q = q_call d 144 [x0, x1] v G (fun r v G => q_wp d 28 49 [z0, z1, z2, z3, z4] (q_push r []) v G Q) := q_wp_ca (m2 := 144) (k := 2) (as := [x0, x1]) (rest := []) (congrArg q_kind c_28_46) (congrArg (fun w => w.2.2.1) c_28_46) (congrArg (fun w => w.2.2.2.1) c_28_46) rfl (Nat.le_of_ble_eq_true rfl) rfl
theorem c_28_49 : q_code 28 49 = (.ifCond .ne 4, 3, 0, 0, 0, 0, 0) := by decide +kernel
theorem e_28_49 (d : Nat) (a : Int) (z0 z1 z2 z3 z4 : q_V) (st : List q_V) (v : q_H) (G : q_Gr) (Q : q_V → q_H → q_Gr → Prop) : q_wp d 28 49 [z0, z1, z2, z3, z4] (.inl a :: st) v G Q = ((q_inR a) ∧ if ¬ a = 0 then q_wp d 28 53 [z0, z1, z2, z3, z4] st v G Q else q_wp d 28 52 [z0, z1, z2, z3, z4] st v G Q) := q_w_if_ne c_28_49 (by decide)
theorem c_28_52 : q_code 28 52 = (.return_, 1, 0, 0, 0, 0, 0) := by decide +kernel
theorem e_28_52 (d : Nat)  (z0 z1 z2 z3 z4 : q_V) (v : q_H) (G : q_Gr) (Q : q_V → q_H → q_Gr → Prop) : q_wp d 28 52 [z0, z1, z2, z3, z4] [] v G Q = Q (.inr (.inr (.inr ()))) v G := q_w_return c_28_52 rfl
theorem c_28_53 : q_code 28 53 = (.aload_n 0, 1, 0, 0, 0, 0, 0) := by decide +kernel
theorem e_28_53 (d : Nat) (a : Option Nat) (z1 z2 z3 z4 : q_V) (st : List q_V) (v : q_H) (G : q_Gr) (Q : q_V → q_H → q_Gr → Prop) : q_wp d 28 53 [.inr (.inr (.inl a)), z1, z2, z3, z4] st v G Q = q_wp d 28 54 [.inr (.inr (.inl a)), z1, z2, z3, z4] (.inr (.inr (.inl a)) :: st) v G Q := q_w_aload_n c_28_53 rfl
theorem c_28_54 : q_code 28 54 = (.getfield 23, 3, 2, 3, 1, 198, 0) := by decide +kernel
theorem e_28_54 (d : Nat) (a : Nat) (z0 z1 z2 z3 z4 : q_V) (st : List q_V) (v : q_H) (G : q_Gr) (Q : q_V → q_H → q_Gr → Prop) : q_wp d 28 54 [z0, z1, z2, z3, z4] (.inr (.inr (.inl (some a))) :: st) v G Q = (((G.2.1 a).1 = 2) ∧ q_wp d 28 57 [z0, z1, z2, z3, z4] (.inr (.inr (.inl (G.1 a 3))) :: st) v G Q) := q_w_getP c_28_54
theorem c_28_57 : q_code 28 57 = (.iload_n 1, 1, 0, 0, 0, 0, 0) := by decide +kernel
theorem e_28_57 (d : Nat) (a : Int) (z0 z2 z3 z4 : q_V) (st : List q_V) (v : q_H) (G : q_Gr) (Q : q_V → q_H → q_Gr → Prop) : q_wp d 28 57 [z0, .inl a, z2, z3, z4] st v G Q = q_wp d 28 58 [z0, .inl a, z2, z3, z4] (.inl a :: st) v G Q := q_w_iload_n c_28_57 rfl
theorem c_28_58 : q_code 28 58 = (.iload_n 2, 1, 0, 0, 0, 0, 0) := by decide +kernel
theorem e_28_58 (d : Nat) (a : Int) (z0 z1 z3 z4 : q_V) (st : List q_V) (v : q_H) (G : q_Gr) (Q : q_V → q_H → q_Gr → Prop) : q_wp d 28 58 [z0, z1, .inl a, z3, z4] st v G Q = q_wp d 28 59 [z0, z1, .inl a, z3, z4] (.inl a :: st) v G Q := q_w_iload_n c_28_58 rfl
theorem c_28_59 : q_code 28 59 = (.iload_n 3, 1, 0, 0, 0, 0, 0) := by decide +kernel
theorem e_28_59 (d : Nat) (a : Int) (z0 z1 z2 z4 : q_V) (st : List q_V) (v : q_H) (G : q_Gr) (Q : q_V → q_H → q_Gr → Prop) : q_wp d 28 59 [z0, z1, z2, .inl a, z4] st v G Q = q_wp d 28 60 [z0, z1, z2, .inl a, z4] (.inl a :: st) v G Q := q_w_iload_n c_28_59 rfl
theorem c_28_60 : q_code 28 60 = (.invokevirtual 150, 3, 112, 4, 0, 817, 0) := by decide +kernel
theorem e_28_60 (d : Nat) (x0 x1 x2 x3 : q_V) (z0 z1 z2 z3 z4 : q_V) (v : q_H) (G : q_Gr) (Q : q_V → q_H → q_Gr → Prop) : q_wp d 28 60 [z0, z1, z2, z3, z4] [x3, x2, x1, x0] v G Q = q_call d 112 [x0, x1, x2, x3] v G (fun r v G => q_wp d 28 63 [z0, z1, z2, z3, z4] (q_push r []) v G Q) := q_wp_ca (m2 := 112) (k := 4) (as := [x0, x1, x2, x3]) (rest := []) (congrArg q_kind c_28_60) (congrArg (fun w => w.2.2.1) c_28_60) (congrArg (fun w => w.2.2.2.1) c_28_60) rfl (Nat.le_of_ble_eq_true rfl) rfl
theorem c_28_63 : q_code 28 63 = (.aload_n 0, 1, 0, 0, 0, 0, 0) := by decide +kernel
theorem e_28_63 (d : Nat) (a : Option Nat) (z1 z2 z3 z4 : q_V) (st : List q_V) (v : q_H) (G : q_Gr) (Q : q_V → q_H → q_Gr → Prop) : q_wp d 28 63 [.inr (.inr (.inl a)), z1, z2, z3, z4] st v G Q = q_wp d 28 64 [.inr (.inr (.inl a)), z1, z2, z3, z4] (.inr (.inr (.inl a)) :: st) v G Q := q_w_aload_n c_28_63 rfl
theorem c_28_64 : q_code 28 64 = (.getfield 38, 3, 2, 7, 1, 202, 0) := by decide +kernel
theorem e_28_64 (d : Nat) (a : Nat) (z0 z1 z2 z3 z4 : q_V) (st : List q_V) (v : q_H) (G : q_Gr) (Q : q_V → q_H → q_Gr → Prop) : q_wp d 28 64 [z0, z1, z2, z3, z4] (.inr (.inr (.inl (some a))) :: st) v G Q = (((G.2.1 a).1 = 2) ∧ q_wp d 28 67 [z0, z1, z2, z3, z4] (.inr (.inr (.inl (G.1 a 7))) :: st) v G Q) := q_w_getP c_28_64
theorem c_28_67 : q_code 28 67 = (.iload 4, 2, 0, 0, 0, 0, 0) := by decide +kernel
theorem e_28_67 (d : Nat) (a : Int) (z0 z1 z2 z3 : q_V) (st : List q_V) (v : q_H) (G : q_Gr) (Q : q_V → q_H → q_Gr → Prop) : q_wp d 28 67 [z0, z1, z2, z3, .inl a] st v G Q = q_wp d 28 69 [z0, z1, z2, z3, .inl a] (.inl a :: st) v G Q := q_w_iload c_28_67 rfl
theorem c_28_69 : q_code 28 69 = (.iload_n 3, 1, 0, 0, 0, 0, 0) := by decide +kernel
theorem e_28_69 (d : Nat) (a : Int) (z0 z1 z2 z4 : q_V) (st : List q_V) (v : q_H) (G : q_Gr) (Q : q_V → q_H → q_Gr → Prop) : q_wp d 28 69 [z0, z1, z2, .inl a, z4] st v G Q = q_wp d 28 70 [z0, z1, z2, .inl a, z4] (.inl a :: st) v G Q := q_w_iload_n c_28_69 rfl
theorem c_28_70 : q_code 28 70 = (.iastore, 1, 0, 0, 0, 0, 0) := by decide +kernel
theorem e_28_70 (d : Nat) (a : Nat) (i b : Int) (z0 z1 z2 z3 z4 : q_V) (st : List q_V) (v : q_H) (G : q_Gr) (Q : q_V → q_H → q_Gr → Prop) : q_wp d 28 70 [z0, z1, z2, z3, z4] (.inl b :: .inl i :: .inr (.inr (.inl (some a))) :: st) v G Q = (((G.2.1 a).1 = 20 ∧ 32 ≤ a ∧ 0 ≤ i ∧ i < (G.2.1 a).2) ∧ q_wp d 28 71 [z0, z1, z2, z3, z4] st (q_up v a i.toNat b) G Q) := q_w_iast c_28_70
theorem c_28_71 : q_code 28 71 = (.return_, 1, 0, 0, 0, 0, 0) := by decide +kernel
theorem e_28_71 (d : Nat)  (z0 z1 z2 z3 z4 : q_V) (v : q_H) (G : q_Gr) (Q : q_V → q_H → q_Gr → Prop) : q_wp d 28 71 [z0, z1, z2, z3, z4] [] v G Q = Q (.inr (.inr (.inr ()))) v G := q_w_return c_28_71 rfl
theorem e_28 (d : Nat) (a0 : Nat) (a1 : Int) (v : q_H) (G : q_Gr) (Q : q_V → q_H → q_Gr → Prop) : q_call (d + 1) 28 [.inr (.inr (.inl (some a0))), .inl a1] v G Q = ((G.2.1 a0).1 = 2 ∧ q_wp d 28 0 [.inr (.inr (.inl (some a0))), .inl a1, .inr (.inr (.inr ())), .inr (.inr (.inr ())), .inr (.inr (.inr ()))] [] v G Q) := by
  rw [q_call_in (by decide) (Nat.le_of_ble_eq_true rfl) rfl]
  exact congrArg (· ∧ _) (propext beq_iff_eq)
/-- all but the heads of loops: [] -/
def E28 := And.intro @e_28 (And.intro @e_28_0 (And.intro @e_28_1 (And.intro @e_28_2 (And.intro @e_28_4 (And.intro @e_28_7 (And.intro @e_28_8 (And.intro @e_28_9 (And.intro @e_28_12 (And.intro @e_28_15 (And.intro @e_28_16 (And.intro @e_28_17 (And.intro @e_28_18 (And.intro @e_28_21 (And.intro @e_28_24 (And.intro @e_28_25 (And.intro @e_28_26 (And.intro @e_28_29 (And.intro @e_28_30 (And.intro @e_28_33 (And.intro @e_28_35 (And.intro @e_28_36 (And.intro @e_28_39 (And.intro @e_28_42 (And.intro @e_28_44 (And.intro @e_28_46 (And.intro @e_28_49 (And.intro @e_28_52 (And.intro @e_28_53 (And.intro @e_28_54 (And.intro @e_28_57 (And.intro @e_28_58 (And.intro @e_28_59 (And.intro @e_28_60 (And.intro @e_28_63 (And.intro @e_28_64 (And.intro @e_28_67 (And.intro @e_28_69 (And.intro @e_28_70 (@e_28_71)))))))))))))))))))))))))))))))))))))))
/-! ProvenRows$Checker.hold(LProvenRows$Act;I)V -/
theorem c_29_0 : q_code 29 0 = (.iload_n 2, 1, 0, 0, 0, 0, 0) := by decide +kernel
theorem e_29_0 (d : Nat) (a : Int) (z0 z1 z3 z4 z5 z6 z7 : q_V) (st : List q_V) (v : q_H) (G : q_Gr) (Q : q_V → q_H → q_Gr → Prop) : q_wp d 29 0 [z0, z1, .inl a, z3, z4, z5, z6, z7] st v G Q = q_wp d 29 1 [z0, z1, .inl a, z3, z4, z5, z6, z7] (.inl a :: st) v G Q := q_w_iload_n c_29_0 rfl
theorem c_29_1 : q_code 29 1 = (.ifCond .le 14, 3, 0, 0, 0, 0, 0) := by decide +kernel
theorem e_29_1 (d : Nat) (a : Int) (z0 z1 z2 z3 z4 z5 z6 z7 : q_V) (st : List q_V) (v : q_H) (G : q_Gr) (Q : q_V → q_H → q_Gr → Prop) : q_wp d 29 1 [z0, z1, z2, z3, z4, z5, z6, z7] (.inl a :: st) v G Q = ((q_inR a) ∧ if a ≤ 0 then q_wp d 29 15 [z0, z1, z2, z3, z4, z5, z6, z7] st v G Q else q_wp d 29 4 [z0, z1, z2, z3, z4, z5, z6, z7] st v G Q) := q_w_if_le c_29_1 (by decide)
theorem c_29_4 : q_code 29 4 = (.aload_n 1, 1, 0, 0, 0, 0, 0) := by decide +kernel
theorem e_29_4 (d : Nat) (a : Option Nat) (z0 z2 z3 z4 z5 z6 z7 : q_V) (st : List q_V) (v : q_H) (G : q_Gr) (Q : q_V → q_H → q_Gr → Prop) : q_wp d 29 4 [z0, .inr (.inr (.inl a)), z2, z3, z4, z5, z6, z7] st v G Q = q_wp d 29 5 [z0, .inr (.inr (.inl a)), z2, z3, z4, z5, z6, z7] (.inr (.inr (.inl a)) :: st) v G Q := q_w_aload_n c_29_4 rfl
theorem c_29_5 : q_code 29 5 = (.invokevirtual 92, 3, 3, 1, 0, 790, 1) := by decide +kernel
theorem e_29_5 (d : Nat) (x0 : q_V) (z0 z1 z2 z3 z4 z5 z6 z7 : q_V) (v : q_H) (G : q_Gr) (Q : q_V → q_H → q_Gr → Prop) : q_wp d 29 5 [z0, z1, z2, z3, z4, z5, z6, z7] [x0] v G Q = q_call d 3 [x0] v G (fun r v G => q_wp d 29 8 [z0, z1, z2, z3, z4, z5, z6, z7] (q_push r []) v G Q) := q_wp_ca (m2 := 3) (k := 1) (as := [x0]) (rest := []) (congrArg q_kind c_29_5) (congrArg (fun w => w.2.2.1) c_29_5) (congrArg (fun w => w.2.2.2.1) c_29_5) rfl (Nat.le_of_ble_eq_true rfl) rfl
theorem c_29_8 : q_code 29 8 = (.ifCond .eq 7, 3, 0, 0, 0, 0, 0) := by decide +kernel
theorem e_29_8 (d : Nat) (a : Int) (z0 z1 z2 z3 z4 z5 z6 z7 : q_V) (st : List q_V) (v : q_H) (G : q_Gr) (Q : q_V → q_H → q_Gr → Prop) : q_wp d 29 8 [z0, z1, z2, z3, z4, z5, z6, z7] (.inl a :: st) v G Q = ((q_inR a) ∧ if a = 0 then q_wp d 29 15 [z0, z1, z2, z3, z4, z5, z6, z7] st v G Q else q_wp d 29 11 [z0, z1, z2, z3, z4, z5, z6, z7] st v G Q) := q_w_if_eq c_29_8 (by decide)
theorem c_29_11 : q_code 29 11 = (.iconst 1, 1, 0, 0, 0, 0, 0) := by decide +kernel
theorem e_29_11 (d : Nat)  (z0 z1 z2 z3 z4 z5 z6 z7 : q_V) (st : List q_V) (v : q_H) (G : q_Gr) (Q : q_V → q_H → q_Gr → Prop) : q_wp d 29 11 [z0, z1, z2, z3, z4, z5, z6, z7] st v G Q = q_wp d 29 12 [z0, z1, z2, z3, z4, z5, z6, z7] (.inl 1 :: st) v G Q := q_w_iconst c_29_11
theorem c_29_12 : q_code 29 12 = (.goto 4, 3, 0, 0, 0, 0, 0) := by decide +kernel
theorem e_29_12 (d : Nat)  (z0 z1 z2 z3 z4 z5 z6 z7 : q_V) (st : List q_V) (v : q_H) (G : q_Gr) (Q : q_V → q_H → q_Gr → Prop) : q_wp d 29 12 [z0, z1, z2, z3, z4, z5, z6, z7] st v G Q = q_wp d 29 16 [z0, z1, z2, z3, z4, z5, z6, z7] st v G Q := q_w_goto c_29_12 (by decide)
theorem c_29_15 : q_code 29 15 = (.iconst 0, 1, 0, 0, 0, 0, 0) := by decide +kernel
theorem e_29_15 (d : Nat)  (z0 z1 z2 z3 z4 z5 z6 z7 : q_V) (st : List q_V) (v : q_H) (G : q_Gr) (Q : q_V → q_H → q_Gr → Prop) : q_wp d 29 15 [z0, z1, z2, z3, z4, z5, z6, z7] st v G Q = q_wp d 29 16 [z0, z1, z2, z3, z4, z5, z6, z7] (.inl 0 :: st) v G Q := q_w_iconst c_29_15
theorem c_29_16 : q_code 29 16 = (.istore_n 3, 1, 0, 0, 0, 0, 0) := by decide +kernel
theorem e_29_16 (d : Nat) (a : Int) (z0 z1 z2 z3 z4 z5 z6 z7 : q_V) (st : List q_V) (v : q_H) (G : q_Gr) (Q : q_V → q_H → q_Gr → Prop) : q_wp d 29 16 [z0, z1, z2, z3, z4, z5, z6, z7] (.inl a :: st) v G Q = q_wp d 29 17 [z0, z1, z2, .inl a, z4, z5, z6, z7] st v G Q := q_w_istore_n c_29_16
theorem c_29_17 : q_code 29 17 = (.iload_n 3, 1, 0, 0, 0, 0, 0) := by decide +kernel
theorem e_29_17 (d : Nat) (a : Int) (z0 z1 z2 z4 z5 z6 z7 : q_V) (st : List q_V) (v : q_H) (G : q_Gr) (Q : q_V → q_H → q_Gr → Prop) : q_wp d 29 17 [z0, z1, z2, .inl a, z4, z5, z6, z7] st v G Q = q_wp d 29 18 [z0, z1, z2, .inl a, z4, z5, z6, z7] (.inl a :: st) v G Q := q_w_iload_n c_29_17 rfl
theorem c_29_18 : q_code 29 18 = (.ifCond .eq 16, 3, 0, 0, 0, 0, 0) := by decide +kernel
theorem e_29_18 (d : Nat) (a : Int) (z0 z1 z2 z3 z4 z5 z6 z7 : q_V) (st : List q_V) (v : q_H) (G : q_Gr) (Q : q_V → q_H → q_Gr → Prop) : q_wp d 29 18 [z0, z1, z2, z3, z4, z5, z6, z7] (.inl a :: st) v G Q = ((q_inR a) ∧ if a = 0 then q_wp d 29 34 [z0, z1, z2, z3, z4, z5, z6, z7] st v G Q else q_wp d 29 21 [z0, z1, z2, z3, z4, z5, z6, z7] st v G Q) := q_w_if_eq c_29_18 (by decide)
theorem c_29_21 : q_code 29 21 = (.aload_n 0, 1, 0, 0, 0, 0, 0) := by decide +kernel
theorem e_29_21 (d : Nat) (a : Option Nat) (z1 z2 z3 z4 z5 z6 z7 : q_V) (st : List q_V) (v : q_H) (G : q_Gr) (Q : q_V → q_H → q_Gr → Prop) : q_wp d 29 21 [.inr (.inr (.inl a)), z1, z2, z3, z4, z5, z6, z7] st v G Q = q_wp d 29 22 [.inr (.inr (.inl a)), z1, z2, z3, z4, z5, z6, z7] (.inr (.inr (.inl a)) :: st) v G Q := q_w_aload_n c_29_21 rfl
theorem c_29_22 : q_code 29 22 = (.getfield 44, 3, 2, 10, 1, 205, 0) := by decide +kernel
theorem e_29_22 (d : Nat) (a : Nat) (z0 z1 z2 z3 z4 z5 z6 z7 : q_V) (st : List q_V) (v : q_H) (G : q_Gr) (Q : q_V → q_H → q_Gr → Prop) : q_wp d 29 22 [z0, z1, z2, z3, z4, z5, z6, z7] (.inr (.inr (.inl (some a))) :: st) v G Q = (((G.2.1 a).1 = 2) ∧ q_wp d 29 25 [z0, z1, z2, z3, z4, z5, z6, z7] (.inr (.inr (.inl (G.1 a 10))) :: st) v G Q) := q_w_getP c_29_22
theorem c_29_25 : q_code 29 25 = (.iload_n 2, 1, 0, 0, 0, 0, 0) := by decide +kernel
theorem e_29_25 (d : Nat) (a : Int) (z0 z1 z3 z4 z5 z6 z7 : q_V) (st : List q_V) (v : q_H) (G : q_Gr) (Q : q_V → q_H → q_Gr → Prop) : q_wp d 29 25 [z0, z1, .inl a, z3, z4, z5, z6, z7] st v G Q = q_wp d 29 26 [z0, z1, .inl a, z3, z4, z5, z6, z7] (.inl a :: st) v G Q := q_w_iload_n c_29_25 rfl
theorem c_29_26 : q_code 29 26 = (.iconst 1, 1, 0, 0, 0, 0, 0) := by decide +kernel
theorem e_29_26 (d : Nat)  (z0 z1 z2 z3 z4 z5 z6 z7 : q_V) (st : List q_V) (v : q_H) (G : q_Gr) (Q : q_V → q_H → q_Gr → Prop) : q_wp d 29 26 [z0, z1, z2, z3, z4, z5, z6, z7] st v G Q = q_wp d 29 27 [z0, z1, z2, z3, z4, z5, z6, z7] (.inl 1 :: st) v G Q := q_w_iconst c_29_26
theorem c_29_27 : q_code 29 27 = (.isub, 1, 0, 0, 0, 0, 0) := by decide +kernel
theorem e_29_27 (d : Nat) (a b : Int) (z0 z1 z2 z3 z4 z5 z6 z7 : q_V) (st : List q_V) (v : q_H) (G : q_Gr) (Q : q_V → q_H → q_Gr → Prop) : q_wp d 29 27 [z0, z1, z2, z3, z4, z5, z6, z7] (.inl b :: .inl a :: st) v G Q = q_wp d 29 28 [z0, z1, z2, z3, z4, z5, z6, z7] (.inl (a - b) :: st) v G Q := q_w_isub c_29_27
theorem c_29_28 : q_code 29 28 = (.invokevirtual 153, 3, 83, 2, 0, 824, 1) := by decide +kernel
theorem e_29_28 (d : Nat) (x0 x1 : q_V) (z0 z1 z2 z3 z4 z5 z6 z7 : q_V) (v : q_H) (G : q_Gr) (Q : q_V → q_H → q_Gr → Prop) : q_wp d 29 28 [z0, z1, z2, z3, z4, z5, z6, z7] [x1, x0] v G Q = q_call d 83 [x0, x1] v G (fun r v G => q_wp d 29 31 [z0, z1, z2, z3, z4, z5, z6, z7] (q_push r []) v G Q) := q_wp_ca (m2 := 83) (k := 2) (as := [x0, x1]) (rest := []) (congrArg q_kind c_29_28) (congrArg (fun w => w.2.2.1) c_29_28) (congrArg (fun w => w.2.2.2.1) c_29_28) rfl (Nat.le_of_ble_eq_true rfl) rfl
theorem c_29_31 : q_code 29 31 = (.goto 7, 3, 0, 0, 0, 0, 0) := by decide +kernel
theorem e_29_31 (d : Nat)  (z0 z1 z2 z3 z4 z5 z6 z7 : q_V) (st : List q_V) (v : q_H) (G : q_Gr) (Q : q_V → q_H → q_Gr → Prop) : q_wp d 29 31 [z0, z1, z2, z3, z4, z5, z6, z7] st v G Q = q_wp d 29 38 [z0, z1, z2, z3, z4, z5, z6, z7] st v G Q := q_w_goto c_29_31 (by decide)
theorem c_29_34 : q_code 29 34 = (.aload_n 1, 1, 0, 0, 0, 0, 0) := by decide +kernel
theorem e_29_34 (d : Nat) (a : Option Nat) (z0 z2 z3 z4 z5 z6 z7 : q_V) (st : List q_V) (v : q_H) (G : q_Gr) (Q : q_V → q_H → q_Gr → Prop) : q_wp d 29 34 [z0, .inr (.inr (.inl a)), z2, z3, z4, z5, z6, z7] st v G Q = q_wp d 29 35 [z0, .inr (.inr (.inl a)), z2, z3, z4, z5, z6, z7] (.inr (.inr (.inl a)) :: st) v G Q := q_w_aload_n c_29_34 rfl
theorem c_29_35 : q_code 29 35 = (.getfield 156, 3, 0, 3, 0, 608, 0) := by decide +kernel
theorem e_29_35 (d : Nat) (a : Nat) (z0 z1 z2 z3 z4 z5 z6 z7 : q_V) (st : List q_V) (v : q_H) (G : q_Gr) (Q : q_V → q_H → q_Gr → Prop) : q_wp d 29 35 [z0, z1, z2, z3, z4, z5, z6, z7] (.inr (.inr (.inl (some a))) :: st) v G Q = (((G.2.1 a).1 = 0) ∧ q_wp d 29 38 [z0, z1, z2, z3, z4, z5, z6, z7] (.inl (v a 3) :: st) v G Q) := q_w_getI c_29_35
theorem c_29_38 : q_code 29 38 = (.istore 4, 2, 0, 0, 0, 0, 0) := by decide +kernel
theorem e_29_38 (d : Nat) (a : Int) (z0 z1 z2 z3 z4 z5 z6 z7 : q_V) (st : List q_V) (v : q_H) (G : q_Gr) (Q : q_V → q_H → q_Gr → Prop) : q_wp d 29 38 [z0, z1, z2, z3, z4, z5, z6, z7] (.inl a :: st) v G Q = q_wp d 29 40 [z0, z1, z2, z3, .inl a, z5, z6, z7] st v G Q := q_w_istore c_29_38
theorem c_29_40 : q_code 29 40 = (.iload_n 3, 1, 0, 0, 0, 0, 0) := by decide +kernel
theorem e_29_40 (d : Nat) (a : Int) (z0 z1 z2 z4 z5 z6 z7 : q_V) (st : List q_V) (v : q_H) (G : q_Gr) (Q : q_V → q_H → q_Gr → Prop) : q_wp d 29 40 [z0, z1, z2, .inl a, z4, z5, z6, z7] st v G Q = q_wp d 29 41 [z0, z1, z2, .inl a, z4, z5, z6, z7] (.inl a :: st) v G Q := q_w_iload_n c_29_40 rfl
theorem c_29_41 : q_code 29 41 = (.ifCond .eq 8, 3, 0, 0, 0, 0, 0) := by decide +kernel
theorem e_29_41 (d : Nat) (a : Int) (z0 z1 z2 z3 z4 z5 z6 z7 : q_V) (st : List q_V) (v : q_H) (G : q_Gr) (Q : q_V → q_H → q_Gr → Prop) : q_wp d 29 41 [z0, z1, z2, z3, z4, z5, z6, z7] (.inl a :: st) v G Q = ((q_inR a) ∧ if a = 0 then q_wp d 29 49 [z0, z1, z2, z3, z4, z5, z6, z7] st v G Q else q_wp d 29 44 [z0, z1, z2, z3, z4, z5, z6, z7] st v G Q) := q_w_if_eq c_29_41 (by decide)
theorem c_29_44 : q_code 29 44 = (.iload 4, 2, 0, 0, 0, 0, 0) := by decide +kernel
theorem e_29_44 (d : Nat) (a : Int) (z0 z1 z2 z3 z5 z6 z7 : q_V) (st : List q_V) (v : q_H) (G : q_Gr) (Q : q_V → q_H → q_Gr → Prop) : q_wp d 29 44 [z0, z1, z2, z3, .inl a, z5, z6, z7] st v G Q = q_wp d 29 46 [z0, z1, z2, z3, .inl a, z5, z6, z7] (.inl a :: st) v G Q := q_w_iload c_29_44 rfl
theorem c_29_46 : q_code 29 46 = (.goto 7, 3, 0, 0, 0, 0, 0) := by decide +kernel
theorem e_29_46 (d : Nat)  (z0 z1 z2 z3 z4 z5 z6 z7 : q_V) (st : List q_V) (v : q_H) (G : q_Gr) (Q : q_V → q_H → q_Gr → Prop) : q_wp d 29 46 [z0, z1, z2, z3, z4, z5, z6, z7] st v G Q = q_wp d 29 53 [z0, z1, z2, z3, z4, z5, z6, z7] st v G Q := q_w_goto c_29_46 (by decide)
theorem c_29_49 : q_code 29 49 = (.aload_n 1, 1, 0, 0, 0, 0, 0) := by decide +kernel
theorem e_29_49 (d : Nat) (a : Option Nat) (z0 z2 z3 z4 z5 z6 z7 : q_V) (st : List q_V) (v : q_H) (G : q_Gr) (Q : q_V → q_H → q_Gr → Prop) : q_wp d 29 49 [z0, .inr (.inr (.inl a)), z2, z3, z4, z5, z6, z7] st v G Q = q_wp d 29 50 [z0, .inr (.inr (.inl a)), z2, z3, z4, z5, z6, z7] (.inr (.inr (.inl a)) :: st) v G Q := q_w_aload_n c_29_49 rfl
theorem c_29_50 : q_code 29 50 = (.getfield 159, 3, 0, 4, 0, 611, 0) := by decide +kernel
theorem e_29_50 (d : Nat) (a : Nat) (z0 z1 z2 z3 z4 z5 z6 z7 : q_V) (st : List q_V) (v : q_H) (G : q_Gr) (Q : q_V → q_H → q_Gr → Prop) : q_wp d 29 50 [z0, z1, z2, z3, z4, z5, z6, z7] (.inr (.inr (.inl (some a))) :: st) v G Q = (((G.2.1 a).1 = 0) ∧ q_wp d 29 53 [z0, z1, z2, z3, z4, z5, z6, z7] (.inl (v a 4) :: st) v G Q) := q_w_getI c_29_50
theorem c_29_53 : q_code 29 53 = (.istore 5, 2, 0, 0, 0, 0, 0) := by decide +kernel
theorem e_29_53 (d : Nat) (a : Int) (z0 z1 z2 z3 z4 z5 z6 z7 : q_V) (st : List q_V) (v : q_H) (G : q_Gr) (Q : q_V → q_H → q_Gr → Prop) : q_wp d 29 53 [z0, z1, z2, z3, z4, z5, z6, z7] (.inl a :: st) v G Q = q_wp d 29 55 [z0, z1, z2, z3, z4, .inl a, z6, z7] st v G Q := q_w_istore c_29_53
theorem c_29_55 : q_code 29 55 = (.aload_n 0, 1, 0, 0, 0, 0, 0) := by decide +kernel
theorem e_29_55 (d : Nat) (a : Option Nat) (z1 z2 z3 z4 z5 z6 z7 : q_V) (st : List q_V) (v : q_H) (G : q_Gr) (Q : q_V → q_H → q_Gr → Prop) : q_wp d 29 55 [.inr (.inr (.inl a)), z1, z2, z3, z4, z5, z6, z7] st v G Q = q_wp d 29 56 [.inr (.inr (.inl a)), z1, z2, z3, z4, z5, z6, z7] (.inr (.inr (.inl a)) :: st) v G Q := q_w_aload_n c_29_55 rfl
theorem c_29_56 : q_code 29 56 = (.iload 4, 2, 0, 0, 0, 0, 0) := by decide +kernel
theorem e_29_56 (d : Nat) (a : Int) (z0 z1 z2 z3 z5 z6 z7 : q_V) (st : List q_V) (v : q_H) (G : q_Gr) (Q : q_V → q_H → q_Gr → Prop) : q_wp d 29 56 [z0, z1, z2, z3, .inl a, z5, z6, z7] st v G Q = q_wp d 29 58 [z0, z1, z2, z3, .inl a, z5, z6, z7] (.inl a :: st) v G Q := q_w_iload c_29_56 rfl
theorem c_29_58 : q_code 29 58 = (.invokevirtual 162, 3, 30, 2, 0, 825, 1) := by decide +kernel
theorem e_29_58 (d : Nat) (x0 x1 : q_V) (z0 z1 z2 z3 z4 z5 z6 z7 : q_V) (v : q_H) (G : q_Gr) (Q : q_V → q_H → q_Gr → Prop) : q_wp d 29 58 [z0, z1, z2, z3, z4, z5, z6, z7] [x1, x0] v G Q = q_call d 30 [x0, x1] v G (fun r v G => q_wp d 29 61 [z0, z1, z2, z3, z4, z5, z6, z7] (q_push r []) v G Q) := q_wp_ca (m2 := 30) (k := 2) (as := [x0, x1]) (rest := []) (congrArg q_kind c_29_58) (congrArg (fun w => w.2.2.1) c_29_58) (congrArg (fun w => w.2.2.2.1) c_29_58) rfl (Nat.le_of_ble_eq_true rfl) rfl
theorem c_29_61 : q_code 29 61 = (.istore 6, 2, 0, 0, 0, 0, 0) := by decide +kernel
theorem e_29_61 (d : Nat) (a : Int) (z0 z1 z2 z3 z4 z5 z6 z7 : q_V) (st : List q_V) (v : q_H) (G : q_Gr) (Q : q_V → q_H → q_Gr → Prop) : q_wp d 29 61 [z0, z1, z2, z3, z4, z5, z6, z7] (.inl a :: st) v G Q = q_wp d 29 63 [z0, z1, z2, z3, z4, z5, .inl a, z7] st v G Q := q_w_istore c_29_61
theorem c_29_63 : q_code 29 63 = (.aload_n 1, 1, 0, 0, 0, 0, 0) := by decide +kernel
theorem e_29_63 (d : Nat) (a : Option Nat) (z0 z2 z3 z4 z5 z6 z7 : q_V) (st : List q_V) (v : q_H) (G : q_Gr) (Q : q_V → q_H → q_Gr → Prop) : q_wp d 29 63 [z0, .inr (.inr (.inl a)), z2, z3, z4, z5, z6, z7] st v G Q = q_wp d 29 64 [z0, .inr (.inr (.inl a)), z2, z3, z4, z5, z6, z7] (.inr (.inr (.inl a)) :: st) v G Q := q_w_aload_n c_29_63 rfl
theorem c_29_64 : q_code 29 64 = (.getfield 89, 3, 0, 0, 0, 599, 0) := by decide +kernel
theorem e_29_64 (d : Nat) (a : Nat) (z0 z1 z2 z3 z4 z5 z6 z7 : q_V) (st : List q_V) (v : q_H) (G : q_Gr) (Q : q_V → q_H → q_Gr → Prop) : q_wp d 29 64 [z0, z1, z2, z3, z4, z5, z6, z7] (.inr (.inr (.inl (some a))) :: st) v G Q = (((G.2.1 a).1 = 0) ∧ q_wp d 29 67 [z0, z1, z2, z3, z4, z5, z6, z7] (.inl (v a 0) :: st) v G Q) := q_w_getI c_29_64
theorem c_29_67 : q_code 29 67 = (.iconst 2, 1, 0, 0, 0, 0, 0) := by decide +kernel
theorem e_29_67 (d : Nat)  (z0 z1 z2 z3 z4 z5 z6 z7 : q_V) (st : List q_V) (v : q_H) (G : q_Gr) (Q : q_V → q_H → q_Gr → Prop) : q_wp d 29 67 [z0, z1, z2, z3, z4, z5, z6, z7] st v G Q = q_wp d 29 68 [z0, z1, z2, z3, z4, z5, z6, z7] (.inl 2 :: st) v G Q := q_w_iconst c_29_67
theorem c_29_68 : q_code 29 68 = (.if_icmp .ne 22, 3, 0, 0, 0, 0, 0) := by decide +kernel
theorem e_29_68 (d : Nat) (a b : Int) (z0 z1 z2 z3 z4 z5 z6 z7 : q_V) (st : List q_V) (v : q_H) (G : q_Gr) (Q : q_V → q_H → q_Gr → Prop) : q_wp d 29 68 [z0, z1, z2, z3, z4, z5, z6, z7] (.inl b :: .inl a :: st) v G Q = ((q_inR a ∧ q_inR b) ∧ if ¬ a = b then q_wp d 29 90 [z0, z1, z2, z3, z4, z5, z6, z7] st v G Q else q_wp d 29 71 [z0, z1, z2, z3, z4, z5, z6, z7] st v G Q) := q_w_icmp_ne c_29_68 (by decide)
theorem c_29_71 : q_code 29 71 = (.iload 6, 2, 0, 0, 0, 0, 0) := by decide +kernel
theorem e_29_71 (d : Nat) (a : Int) (z0 z1 z2 z3 z4 z5 z7 : q_V) (st : List q_V) (v : q_H) (G : q_Gr) (Q : q_V → q_H → q_Gr → Prop) : q_wp d 29 71 [z0, z1, z2, z3, z4, z5, .inl a, z7] st v G Q = q_wp d 29 73 [z0, z1, z2, z3, z4, z5, .inl a, z7] (.inl a :: st) v G Q := q_w_iload c_29_71 rfl
theorem c_29_73 : q_code 29 73 = (.iconst 1, 1, 0, 0, 0, 0, 0) := by decide +kernel
theorem e_29_73 (d : Nat)  (z0 z1 z2 z3 z4 z5 z6 z7 : q_V) (st : List q_V) (v : q_H) (G : q_Gr) (Q : q_V → q_H → q_Gr → Prop) : q_wp d 29 73 [z0, z1, z2, z3, z4, z5, z6, z7] st v G Q = q_wp d 29 74 [z0, z1, z2, z3, z4, z5, z6, z7] (.inl 1 :: st) v G Q := q_w_iconst c_29_73
theorem c_29_74 : q_code 29 74 = (.iadd, 1, 0, 0, 0, 0, 0) := by decide +kernel
theorem e_29_74 (d : Nat) (a b : Int) (z0 z1 z2 z3 z4 z5 z6 z7 : q_V) (st : List q_V) (v : q_H) (G : q_Gr) (Q : q_V → q_H → q_Gr → Prop) : q_wp d 29 74 [z0, z1, z2, z3, z4, z5, z6, z7] (.inl b :: .inl a :: st) v G Q = q_wp d 29 75 [z0, z1, z2, z3, z4, z5, z6, z7] (.inl (a + b) :: st) v G Q := q_w_iadd c_29_74
theorem c_29_75 : q_code 29 75 = (.aload_n 1, 1, 0, 0, 0, 0, 0) := by decide +kernel
theorem e_29_75 (d : Nat) (a : Option Nat) (z0 z2 z3 z4 z5 z6 z7 : q_V) (st : List q_V) (v : q_H) (G : q_Gr) (Q : q_V → q_H → q_Gr → Prop) : q_wp d 29 75 [z0, .inr (.inr (.inl a)), z2, z3, z4, z5, z6, z7] st v G Q = q_wp d 29 76 [z0, .inr (.inr (.inl a)), z2, z3, z4, z5, z6, z7] (.inr (.inr (.inl a)) :: st) v G Q := q_w_aload_n c_29_75 rfl
theorem c_29_76 : q_code 29 76 = (.getfield 165, 3, 0, 5, 0, 614, 0) := by decide +kernel
theorem e_29_76 (d : Nat) (a : Nat) (z0 z1 z2 z3 z4 z5 z6 z7 : q_V) (st : List q_V) (v : q_H) (G : q_Gr) (Q : q_V → q_H → q_Gr → Prop) : q_wp d 29 76 [z0, z1, z2, z3, z4, z5, z6, z7] (.inr (.inr (.inl (some a))) :: st) v G Q = (((G.2.1 a).1 = 0) ∧ q_wp d 29 79 [z0, z1, z2, z3, z4, z5, z6, z7] (.inl (v a 5) :: st) v G Q) := q_w_getI c_29_76
theorem c_29_79 : q_code 29 79 = (.iadd, 1, 0, 0, 0, 0, 0) := by decide +kernel
theorem e_29_79 (d : Nat) (a b : Int) (z0 z1 z2 z3 z4 z5 z6 z7 : q_V) (st : List q_V) (v : q_H) (G : q_Gr) (Q : q_V → q_H → q_Gr → Prop) : q_wp d 29 79 [z0, z1, z2, z3, z4, z5, z6, z7] (.inl b :: .inl a :: st) v G Q = q_wp d 29 80 [z0, z1, z2, z3, z4, z5, z6, z7] (.inl (a + b) :: st) v G Q := q_w_iadd c_29_79
theorem c_29_80 : q_code 29 80 = (.aload_n 0, 1, 0, 0, 0, 0, 0) := by decide +kernel
theorem e_29_80 (d : Nat) (a : Option Nat) (z1 z2 z3 z4 z5 z6 z7 : q_V) (st : List q_V) (v : q_H) (G : q_Gr) (Q : q_V → q_H → q_Gr → Prop) : q_wp d 29 80 [.inr (.inr (.inl a)), z1, z2, z3, z4, z5, z6, z7] st v G Q = q_wp d 29 81 [.inr (.inr (.inl a)), z1, z2, z3, z4, z5, z6, z7] (.inr (.inr (.inl a)) :: st) v G Q := q_w_aload_n c_29_80 rfl
theorem c_29_81 : q_code 29 81 = (.getfield 104, 3, 2, 8, 0, 203, 0) := by decide +kernel
theorem e_29_81 (d : Nat) (a : Nat) (z0 z1 z2 z3 z4 z5 z6 z7 : q_V) (st : List q_V) (v : q_H) (G : q_Gr) (Q : q_V → q_H → q_Gr → Prop) : q_wp d 29 81 [z0, z1, z2, z3, z4, z5, z6, z7] (.inr (.inr (.inl (some a))) :: st) v G Q = (((G.2.1 a).1 = 2) ∧ q_wp d 29 84 [z0, z1, z2, z3, z4, z5, z6, z7] (.inl (v a 8) :: st) v G Q) := q_w_getI c_29_81
theorem c_29_84 : q_code 29 84 = (.invokestatic 168, 3, 1005, 2, 0, 828, 1) := by decide +kernel
theorem e_29_84 (d : Nat) (a b : Int) (z0 z1 z2 z3 z4 z5 z6 z7 : q_V) (v : q_H) (G : q_Gr) (Q : q_V → q_H → q_Gr → Prop) : q_wp d 29 84 [z0, z1, z2, z3, z4, z5, z6, z7] [.inl b, .inl a] v G Q = ((q_inR a ∧ q_inR b) ∧ q_wp d 29 87 [z0, z1, z2, z3, z4, z5, z6, z7] [.inl (if b < a then b else a)] v G Q) := q_w_min c_29_84 (Nat.le_of_ble_eq_true rfl)
theorem c_29_87 : q_code 29 87 = (.goto 9, 3, 0, 0, 0, 0, 0) := by decide +kernel
theorem e_29_87 (d : Nat)  (z0 z1 z2 z3 z4 z5 z6 z7 : q_V) (st : List q_V) (v : q_H) (G : q_Gr) (Q : q_V → q_H → q_Gr → Prop) : q_wp d 29 87 [z0, z1, z2, z3, z4, z5, z6, z7] st v G Q = q_wp d 29 96 [z0, z1, z2, z3, z4, z5, z6, z7] st v G Q := q_w_goto c_29_87 (by decide)
theorem c_29_90 : q_code 29 90 = (.aload_n 0, 1, 0, 0, 0, 0, 0) := by decide +kernel
theorem e_29_90 (d : Nat) (a : Option Nat) (z1 z2 z3 z4 z5 z6 z7 : q_V) (st : List q_V) (v : q_H) (G : q_Gr) (Q : q_V → q_H → q_Gr → Prop) : q_wp d 29 90 [.inr (.inr (.inl a)), z1, z2, z3, z4, z5, z6, z7] st v G Q = q_wp d 29 91 [.inr (.inr (.inl a)), z1, z2, z3, z4, z5, z6, z7] (.inr (.inr (.inl a)) :: st) v G Q := q_w_aload_n c_29_90 rfl
theorem c_29_91 : q_code 29 91 = (.iload 5, 2, 0, 0, 0, 0, 0) := by decide +kernel
theorem e_29_91 (d : Nat) (a : Int) (z0 z1 z2 z3 z4 z6 z7 : q_V) (st : List q_V) (v : q_H) (G : q_Gr) (Q : q_V → q_H → q_Gr → Prop) : q_wp d 29 91 [z0, z1, z2, z3, z4, .inl a, z6, z7] st v G Q = q_wp d 29 93 [z0, z1, z2, z3, z4, .inl a, z6, z7] (.inl a :: st) v G Q := q_w_iload c_29_91 rfl
theorem c_29_93 : q_code 29 93 = (.invokevirtual 173, 3, 31, 2, 0, 829, 1) := by decide +kernel
theorem e_29_93 (d : Nat) (x0 x1 : q_V) (z0 z1 z2 z3 z4 z5 z6 z7 : q_V) (v : q_H) (G : q_Gr) (Q : q_V → q_H → q_Gr → Prop) : q_wp d 29 93 [z0, z1, z2, z3, z4, z5, z6, z7] [x1, x0] v G Q = q_call d 31 [x0, x1] v G (fun r v G => q_wp d 29 96 [z0, z1, z2, z3, z4, z5, z6, z7] (q_push r []) v G Q) := q_wp_ca (m2 := 31) (k := 2) (as := [x0, x1]) (rest := []) (congrArg q_kind c_29_93) (congrArg (fun w => w.2.2.1) c_29_93) (congrArg (fun w => w.2.2.2.1) c_29_93) rfl (Nat.le_of_ble_eq_true rfl) rfl
theorem c_29_96 : q_code 29 96 = (.istore 7, 2, 0, 0, 0, 0, 0) := by decide +kernel
theorem e_29_96 (d : Nat) (a : Int) (z0 z1 z2 z3 z4 z5 z6 z7 : q_V) (st : List q_V) (v : q_H) (G : q_Gr) (Q : q_V → q_H → q_Gr → Prop) : q_wp d 29 96 [z0, z1, z2, z3, z4, z5, z6, z7] (.inl a :: st) v G Q = q_wp d 29 98 [z0, z1, z2, z3, z4, z5, z6, .inl a] st v G Q := q_w_istore c_29_96
theorem c_29_98 : q_code 29 98 = (.iload 6, 2, 0, 0, 0, 0, 0) := by decide +kernel
theorem e_29_98 (d : Nat) (a : Int) (z0 z1 z2 z3 z4 z5 z7 : q_V) (st : List q_V) (v : q_H) (G : q_Gr) (Q : q_V → q_H → q_Gr → Prop) : q_wp d 29 98 [z0, z1, z2, z3, z4, z5, .inl a, z7] st v G Q = q_wp d 29 100 [z0, z1, z2, z3, z4, z5, .inl a, z7] (.inl a :: st) v G Q := q_w_iload c_29_98 rfl
theorem c_29_100 : q_code 29 100 = (.ifCond .lt 23, 3, 0, 0, 0, 0, 0) := by decide +kernel
theorem e_29_100 (d : Nat) (a : Int) (z0 z1 z2 z3 z4 z5 z6 z7 : q_V) (st : List q_V) (v : q_H) (G : q_Gr) (Q : q_V → q_H → q_Gr → Prop) : q_wp d 29 100 [z0, z1, z2, z3, z4, z5, z6, z7] (.inl a :: st) v G Q = ((q_inR a) ∧ if a < 0 then q_wp d 29 123 [z0, z1, z2, z3, z4, z5, z6, z7] st v G Q else q_wp d 29 103 [z0, z1, z2, z3, z4, z5, z6, z7] st v G Q) := q_w_if_lt c_29_100 (by decide)
theorem c_29_103 : q_code 29 103 = (.iload 7, 2, 0, 0, 0, 0, 0) := by decide +kernel
theorem e_29_103 (d : Nat) (a : Int) (z0 z1 z2 z3 z4 z5 z6 : q_V) (st : List q_V) (v : q_H) (G : q_Gr) (Q : q_V → q_H → q_Gr → Prop) : q_wp d 29 103 [z0, z1, z2, z3, z4, z5, z6, .inl a] st v G Q = q_wp d 29 105 [z0, z1, z2, z3, z4, z5, z6, .inl a] (.inl a :: st) v G Q := q_w_iload c_29_103 rfl
theorem c_29_105 : q_code 29 105 = (.ifCond .lt 18, 3, 0, 0, 0, 0, 0) := by decide +kernel
theorem e_29_105 (d : Nat) (a : Int) (z0 z1 z2 z3 z4 z5 z6 z7 : q_V) (st : List q_V) (v : q_H) (G : q_Gr) (Q : q_V → q_H → q_Gr → Prop) : q_wp d 29 105 [z0, z1, z2, z3, z4, z5, z6, z7] (.inl a :: st) v G Q = ((q_inR a) ∧ if a < 0 then q_wp d 29 123 [z0, z1, z2, z3, z4, z5, z6, z7] st v G Q else q_wp d 29 108 [z0, z1, z2, z3, z4, z5, z6, z7] st v G Q) := q_w_if_lt c_29_105 (by decide)
theorem c_29_108 : q_code 29 108 = (.aload_n 0, 1, 0, 0, 0, 0, 0) := by decide +kernel
theorem e_29_108 (d : Nat) (a : Option Nat) (z1 z2 z3 z4 z5 z6 z7 : q_V) (st : List q_V) (v : q_H) (G : q_Gr) (Q : q_V → q_H → q_Gr → Prop) : q_wp d 29 108 [.inr (.inr (.inl a)), z1, z2, z3, z4, z5, z6, z7] st v G Q = q_wp d 29 109 [.inr (.inr (.inl a)), z1, z2, z3, z4, z5, z6, z7] (.inr (.inr (.inl a)) :: st) v G Q := q_w_aload_n c_29_108 rfl
theorem c_29_109 : q_code 29 109 = (.aload_n 1, 1, 0, 0, 0, 0, 0) := by decide +kernel
theorem e_29_109 (d : Nat) (a : Option Nat) (z0 z2 z3 z4 z5 z6 z7 : q_V) (st : List q_V) (v : q_H) (G : q_Gr) (Q : q_V → q_H → q_Gr → Prop) : q_wp d 29 109 [z0, .inr (.inr (.inl a)), z2, z3, z4, z5, z6, z7] st v G Q = q_wp d 29 110 [z0, .inr (.inr (.inl a)), z2, z3, z4, z5, z6, z7] (.inr (.inr (.inl a)) :: st) v G Q := q_w_aload_n c_29_109 rfl
theorem c_29_110 : q_code 29 110 = (.getfield 89, 3, 0, 0, 0, 599, 0) := by decide +kernel
theorem e_29_110 (d : Nat) (a : Nat) (z0 z1 z2 z3 z4 z5 z6 z7 : q_V) (st : List q_V) (v : q_H) (G : q_Gr) (Q : q_V → q_H → q_Gr → Prop) : q_wp d 29 110 [z0, z1, z2, z3, z4, z5, z6, z7] (.inr (.inr (.inl (some a))) :: st) v G Q = (((G.2.1 a).1 = 0) ∧ q_wp d 29 113 [z0, z1, z2, z3, z4, z5, z6, z7] (.inl (v a 0) :: st) v G Q) := q_w_getI c_29_110
theorem c_29_113 : q_code 29 113 = (.iload 6, 2, 0, 0, 0, 0, 0) := by decide +kernel
theorem e_29_113 (d : Nat) (a : Int) (z0 z1 z2 z3 z4 z5 z7 : q_V) (st : List q_V) (v : q_H) (G : q_Gr) (Q : q_V → q_H → q_Gr → Prop) : q_wp d 29 113 [z0, z1, z2, z3, z4, z5, .inl a, z7] st v G Q = q_wp d 29 115 [z0, z1, z2, z3, z4, z5, .inl a, z7] (.inl a :: st) v G Q := q_w_iload c_29_113 rfl
theorem c_29_115 : q_code 29 115 = (.iload 7, 2, 0, 0, 0, 0, 0) := by decide +kernel
theorem e_29_115 (d : Nat) (a : Int) (z0 z1 z2 z3 z4 z5 z6 : q_V) (st : List q_V) (v : q_H) (G : q_Gr) (Q : q_V → q_H → q_Gr → Prop) : q_wp d 29 115 [z0, z1, z2, z3, z4, z5, z6, .inl a] st v G Q = q_wp d 29 117 [z0, z1, z2, z3, z4, z5, z6, .inl a] (.inl a :: st) v G Q := q_w_iload c_29_115 rfl
theorem c_29_117 : q_code 29 117 = (.invokevirtual 176, 3, 32, 4, 0, 832, 1) := by decide +kernel
theorem e_29_117 (d : Nat) (x0 x1 x2 x3 : q_V) (z0 z1 z2 z3 z4 z5 z6 z7 : q_V) (v : q_H) (G : q_Gr) (Q : q_V → q_H → q_Gr → Prop) : q_wp d 29 117 [z0, z1, z2, z3, z4, z5, z6, z7] [x3, x2, x1, x0] v G Q = q_call d 32 [x0, x1, x2, x3] v G (fun r v G => q_wp d 29 120 [z0, z1, z2, z3, z4, z5, z6, z7] (q_push r []) v G Q) := q_wp_ca (m2 := 32) (k := 4) (as := [x0, x1, x2, x3]) (rest := []) (congrArg q_kind c_29_117) (congrArg (fun w => w.2.2.1) c_29_117) (congrArg (fun w => w.2.2.2.1) c_29_117) rfl (Nat.le_of_ble_eq_true rfl) rfl
theorem c_29_120 : q_code 29 120 = (.ifCond .ne 9, 3, 0, 0, 0, 0, 0) := by decide +kernel
theorem e_29_120 (d : Nat) (a : Int) (z0 z1 z2 z3 z4 z5 z6 z7 : q_V) (st : List q_V) (v : q_H) (G : q_Gr) (Q : q_V → q_H → q_Gr → Prop) : q_wp d 29 120 [z0, z1, z2, z3, z4, z5, z6, z7] (.inl a :: st) v G Q = ((q_inR a) ∧ if ¬ a = 0 then q_wp d 29 129 [z0, z1, z2, z3, z4, z5, z6, z7] st v G Q else q_wp d 29 123 [z0, z1, z2, z3, z4, z5, z6, z7] st v G Q) := q_w_if_ne c_29_120 (by decide)
theorem c_29_123 : q_code 29 123 = (.aload_n 0, 1, 0, 0, 0, 0, 0) := by decide +kernel
theorem e_29_123 (d : Nat) (a : Option Nat) (z1 z2 z3 z4 z5 z6 z7 : q_V) (st : List q_V) (v : q_H) (G : q_Gr) (Q : q_V → q_H → q_Gr → Prop) : q_wp d 29 123 [.inr (.inr (.inl a)), z1, z2, z3, z4, z5, z6, z7] st v G Q = q_wp d 29 124 [.inr (.inr (.inl a)), z1, z2, z3, z4, z5, z6, z7] (.inr (.inr (.inl a)) :: st) v G Q := q_w_aload_n c_29_123 rfl
theorem c_29_124 : q_code 29 124 = (.iconst 3, 1, 0, 0, 0, 0, 0) := by decide +kernel
theorem e_29_124 (d : Nat)  (z0 z1 z2 z3 z4 z5 z6 z7 : q_V) (st : List q_V) (v : q_H) (G : q_Gr) (Q : q_V → q_H → q_Gr → Prop) : q_wp d 29 124 [z0, z1, z2, z3, z4, z5, z6, z7] st v G Q = q_wp d 29 125 [z0, z1, z2, z3, z4, z5, z6, z7] (.inl 3 :: st) v G Q := q_w_iconst c_29_124
theorem c_29_125 : q_code 29 125 = (.putfield 54, 3, 2, 2, 0, 197, 0) := by decide +kernel
theorem e_29_125 (d : Nat) (a : Nat) (b : Int) (z0 z1 z2 z3 z4 z5 z6 z7 : q_V) (st : List q_V) (v : q_H) (G : q_Gr) (Q : q_V → q_H → q_Gr → Prop) : q_wp d 29 125 [z0, z1, z2, z3, z4, z5, z6, z7] (.inl b :: .inr (.inr (.inl (some a))) :: st) v G Q = (((G.2.1 a).1 = 2) ∧ q_wp d 29 128 [z0, z1, z2, z3, z4, z5, z6, z7] st (q_up v a 2 b) G Q) := q_w_putI c_29_125
theorem c_29_128 : q_code 29 128 = (.return_, 1, 0, 0, 0, 0, 0) := by decide +kernel
theorem e_29_128 (d : Nat)  (z0 z1 z2 z3 z4 z5 z6 z7 : q_V) (v : q_H) (G : q_Gr) (Q : q_V → q_H → q_Gr → Prop) : q_wp d 29 128 [z0, z1, z2, z3, z4, z5, z6, z7] [] v G Q = Q (.inr (.inr (.inr ()))) v G := q_w_return c_29_128 rfl
theorem c_29_129 : q_code 29 129 = (.aload_n 0, 1, 0, 0, 0, 0, 0) := by decide +kernel
theorem e_29_129 (d : Nat) (a : Option Nat) (z1 z2 z3 z4 z5 z6 z7 : q_V) (st : List q_V) (v : q_H) (G : q_Gr) (Q : q_V → q_H → q_Gr → Prop) : q_wp d 29 129 [.inr (.inr (.inl a)), z1, z2, z3, z4, z5, z6, z7] st v G Q = q_wp d 29 130 [.inr (.inr (.inl a)), z1, z2, z3, z4, z5, z6, z7] (.inr (.inr (.inl a)) :: st) v G Q := q_w_aload_n c_29_129 rfl
theorem c_29_130 : q_code 29 130 = (.iload_n 2, 1, 0, 0, 0, 0, 0) := by decide +kernel
theorem e_29_130 (d : Nat) (a : Int) (z0 z1 z3 z4 z5 z6 z7 : q_V) (st : List q_V) (v : q_H) (G : q_Gr) (Q : q_V → q_H → q_Gr → Prop) : q_wp d 29 130 [z0, z1, .inl a, z3, z4, z5, z6, z7] st v G Q = q_wp d 29 131 [z0, z1, .inl a, z3, z4, z5, z6, z7] (.inl a :: st) v G Q := q_w_iload_n c_29_130 rfl
theorem c_29_131 : q_code 29 131 = (.ifCond .ne 10, 3, 0, 0, 0, 0, 0) := by decide +kernel
theorem e_29_131 (d : Nat) (a : Int) (z0 z1 z2 z3 z4 z5 z6 z7 : q_V) (st : List q_V) (v : q_H) (G : q_Gr) (Q : q_V → q_H → q_Gr → Prop) : q_wp d 29 131 [z0, z1, z2, z3, z4, z5, z6, z7] (.inl a :: st) v G Q = ((q_inR a) ∧ if ¬ a = 0 then q_wp d 29 141 [z0, z1, z2, z3, z4, z5, z6, z7] st v G Q else q_wp d 29 134 [z0, z1, z2, z3, z4, z5, z6, z7] st v G Q) := q_w_if_ne c_29_131 (by decide)
theorem c_29_134 : q_code 29 134 = (.aload_n 0, 1, 0, 0, 0, 0, 0) := by decide +kernel
theorem e_29_134 (d : Nat) (a : Option Nat) (z1 z2 z3 z4 z5 z6 z7 : q_V) (st : List q_V) (v : q_H) (G : q_Gr) (Q : q_V → q_H → q_Gr → Prop) : q_wp d 29 134 [.inr (.inr (.inl a)), z1, z2, z3, z4, z5, z6, z7] st v G Q = q_wp d 29 135 [.inr (.inr (.inl a)), z1, z2, z3, z4, z5, z6, z7] (.inr (.inr (.inl a)) :: st) v G Q := q_w_aload_n c_29_134 rfl
theorem c_29_135 : q_code 29 135 = (.getfield 44, 3, 2, 10, 1, 205, 0) := by decide +kernel
theorem e_29_135 (d : Nat) (a : Nat) (z0 z1 z2 z3 z4 z5 z6 z7 : q_V) (st : List q_V) (v : q_H) (G : q_Gr) (Q : q_V → q_H → q_Gr → Prop) : q_wp d 29 135 [z0, z1, z2, z3, z4, z5, z6, z7] (.inr (.inr (.inl (some a))) :: st) v G Q = (((G.2.1 a).1 = 2) ∧ q_wp d 29 138 [z0, z1, z2, z3, z4, z5, z6, z7] (.inr (.inr (.inl (G.1 a 10))) :: st) v G Q) := q_w_getP c_29_135
theorem c_29_138 : q_code 29 138 = (.goto 7, 3, 0, 0, 0, 0, 0) := by decide +kernel
theorem e_29_138 (d : Nat)  (z0 z1 z2 z3 z4 z5 z6 z7 : q_V) (st : List q_V) (v : q_H) (G : q_Gr) (Q : q_V → q_H → q_Gr → Prop) : q_wp d 29 138 [z0, z1, z2, z3, z4, z5, z6, z7] st v G Q = q_wp d 29 145 [z0, z1, z2, z3, z4, z5, z6, z7] st v G Q := q_w_goto c_29_138 (by decide)
theorem c_29_141 : q_code 29 141 = (.aload_n 0, 1, 0, 0, 0, 0, 0) := by decide +kernel
theorem e_29_141 (d : Nat) (a : Option Nat) (z1 z2 z3 z4 z5 z6 z7 : q_V) (st : List q_V) (v : q_H) (G : q_Gr) (Q : q_V → q_H → q_Gr → Prop) : q_wp d 29 141 [.inr (.inr (.inl a)), z1, z2, z3, z4, z5, z6, z7] st v G Q = q_wp d 29 142 [.inr (.inr (.inl a)), z1, z2, z3, z4, z5, z6, z7] (.inr (.inr (.inl a)) :: st) v G Q := q_w_aload_n c_29_141 rfl
theorem c_29_142 : q_code 29 142 = (.getfield 48, 3, 2, 11, 1, 206, 0) := by decide +kernel
theorem e_29_142 (d : Nat) (a : Nat) (z0 z1 z2 z3 z4 z5 z6 z7 : q_V) (st : List q_V) (v : q_H) (G : q_Gr) (Q : q_V → q_H → q_Gr → Prop) : q_wp d 29 142 [z0, z1, z2, z3, z4, z5, z6, z7] (.inr (.inr (.inl (some a))) :: st) v G Q = (((G.2.1 a).1 = 2) ∧ q_wp d 29 145 [z0, z1, z2, z3, z4, z5, z6, z7] (.inr (.inr (.inl (G.1 a 11))) :: st) v G Q) := q_w_getP c_29_142
theorem c_29_145 : q_code 29 145 = (.iload 6, 2, 0, 0, 0, 0, 0) := by decide +kernel
theorem e_29_145 (d : Nat) (a : Int) (z0 z1 z2 z3 z4 z5 z7 : q_V) (st : List q_V) (v : q_H) (G : q_Gr) (Q : q_V → q_H → q_Gr → Prop) : q_wp d 29 145 [z0, z1, z2, z3, z4, z5, .inl a, z7] st v G Q = q_wp d 29 147 [z0, z1, z2, z3, z4, z5, .inl a, z7] (.inl a :: st) v G Q := q_w_iload c_29_145 rfl
theorem c_29_147 : q_code 29 147 = (.iload 7, 2, 0, 0, 0, 0, 0) := by decide +kernel
theorem e_29_147 (d : Nat) (a : Int) (z0 z1 z2 z3 z4 z5 z6 : q_V) (st : List q_V) (v : q_H) (G : q_Gr) (Q : q_V → q_H → q_Gr → Prop) : q_wp d 29 147 [z0, z1, z2, z3, z4, z5, z6, .inl a] st v G Q = q_wp d 29 149 [z0, z1, z2, z3, z4, z5, z6, .inl a] (.inl a :: st) v G Q := q_w_iload c_29_147 rfl
theorem c_29_149 : q_code 29 149 = (.invokevirtual 180, 3, 34, 4, 0, 838, 0) := by decide +kernel
theorem e_29_149 (d : Nat) (x0 x1 x2 x3 : q_V) (z0 z1 z2 z3 z4 z5 z6 z7 : q_V) (v : q_H) (G : q_Gr) (Q : q_V → q_H → q_Gr → Prop) : q_wp d 29 149 [z0, z1, z2, z3, z4, z5, z6, z7] [x3, x2, x1, x0] v G Q = q_call d 34 [x0, x1, x2, x3] v G (fun r v G => q_wp d 29 152 [z0, z1, z2, z3, z4, z5, z6, z7] (q_push r []) v G Q) := q_wp_ca (m2 := 34) (k := 4) (as := [x0, x1, x2, x3]) (rest := []) (congrArg q_kind c_29_149) (congrArg (fun w => w.2.2.1) c_29_149) (congrArg (fun w => w.2.2.2.1) c_29_149) rfl (Nat.le_of_ble_eq_true rfl) rfl
theorem c_29_152 : q_code 29 152 = (.return_, 1, 0, 0, 0, 0, 0) := by decide +kernel
theorem e_29_152 (d : Nat)  (z0 z1 z2 z3 z4 z5 z6 z7 : q_V) (v : q_H) (G : q_Gr) (Q : q_V → q_H → q_Gr → Prop) : q_wp d 29 152 [z0, z1, z2, z3, z4, z5, z6, z7] [] v G Q = Q (.inr (.inr (.inr ()))) v G := q_w_return c_29_152 rfl
theorem e_29 (d : Nat) (a0 : Nat) (a1 : Option Nat) (a2 : Int) (v : q_H) (G : q_Gr) (Q : q_V → q_H → q_Gr → Prop) : q_call (d + 1) 29 [.inr (.inr (.inl (some a0))), .inr (.inr (.inl a1)), .inl a2] v G Q = ((G.2.1 a0).1 = 2 ∧ q_wp d 29 0 [.inr (.inr (.inl (some a0))), .inr (.inr (.inl a1)), .inl a2, .inr (.inr (.inr ())), .inr (.inr (.inr ())), .inr (.inr (.inr ())), .inr (.inr (.inr ())), .inr (.inr (.inr ()))] [] v G Q) := by
  rw [q_call_in (by decide) (Nat.le_of_ble_eq_true rfl) rfl]
  exact congrArg (· ∧ _) (propext beq_iff_eq)
/-- all but the heads of loops: [] -/
def E29 := And.intro @e_29 (And.intro @e_29_0 (And.intro @e_29_1 (And.intro @e_29_4 (And.intro @e_29_5 (And.intro @e_29_8 (And.intro @e_29_11 (And.intro @e_29_12 (And.intro @e_29_15 (And.intro @e_29_16 (And.intro @e_29_17 (And.intro @e_29_18 (And.intro @e_29_21 (And.intro @e_29_22 (And.intro @e_29_25 (And.intro @e_29_26 (And.intro @e_29_27 (And.intro @e_29_28 (And.intro @e_29_31 (And.intro @e_29_34 (And.intro @e_29_35 (And.intro @e_29_38 (And.intro @e_29_40 (And.intro @e_29_41 (And.intro @e_29_44 (And.intro @e_29_46 (And.intro @e_29_49 (And.intro @e_29_50 (And.intro @e_29_53 (And.intro @e_29_55 (And.intro @e_29_56 (And.intro @e_29_58 (And.intro @e_29_61 (And.intro @e_29_63 (And.intro @e_29_64 (And.intro @e_29_67 (And.intro @e_29_68 (And.intro @e_29_71 (And.intro @e_29_73 (And.intro @e_29_74 (And.intro @e_29_75 (And.intro @e_29_76 (And.intro @e_29_79 (And.intro @e_29_80 (And.intro @e_29_81 (And.intro @e_29_84 (And.intro @e_29_87 (And.intro @e_29_90 (And.intro @e_29_91 (And.intro @e_29_93 (And.intro @e_29_96 (And.intro @e_29_98 (And.intro @e_29_100 (And.intro @e_29_103 (And.intro @e_29_105 (And.intro @e_29_108 (And.intro @e_29_109 (And.intro @e_29_110 (And.intro @e_29_113 (And.intro @e_29_115 (And.intro @e_29_117 (And.intro @e_29_120 (And.intro @e_29_123 (And.intro @e_29_124 (And.intro @e_29_125 (And.intro @e_29_128 (And.intro @e_29_129 (And.intro @e_29_130 (And.intro @e_29_131 (And.intro @e_29_134 (And.intro @e_29_135 (And.intro @e_29_138 (And.intro @e_29_141 (And.intro @e_29_142 (And.intro @e_29_145 (And.intro @e_29_147 (And.intro @e_29_149 (@e_29_152)))))))))))))))))))))))))))))))))))))))))))))))))))))))))))))))))))))))))))))
/-! ProvenRows$Checker.lastBelow(I)I -/
theorem c_30_0 : q_code 30 0 = (.aload_n 0, 1, 0, 0, 0, 0, 0) := by decide +kernel
theorem e_30_0 (d : Nat) (a : Option Nat) (z1 z2 : q_V) (st : List q_V) (v : q_H) (G : q_Gr) (Q : q_V → q_H → q_Gr → Prop) : q_wp d 30 0 [.inr (.inr (.inl a)), z1, z2] st v G Q = q_wp d 30 1 [.inr (.inr (.inl a)), z1, z2] (.inr (.inr (.inl a)) :: st) v G Q := q_w_aload_n c_30_0 rfl
theorem c_30_1 : q_code 30 1 = (.getfield 104, 3, 2, 8, 0, 203, 0) := by decide +kernel
theorem e_30_1 (d : Nat) (a : Nat) (z0 z1 z2 : q_V) (st : List q_V) (v : q_H) (G : q_Gr) (Q : q_V → q_H → q_Gr → Prop) : q_wp d 30 1 [z0, z1, z2] (.inr (.inr (.inl (some a))) :: st) v G Q = (((G.2.1 a).1 = 2) ∧ q_wp d 30 4 [z0, z1, z2] (.inl (v a 8) :: st) v G Q) := q_w_getI c_30_1
theorem c_30_4 : q_code 30 4 = (.iconst 1, 1, 0, 0, 0, 0, 0) := by decide +kernel
theorem e_30_4 (d : Nat)  (z0 z1 z2 : q_V) (st : List q_V) (v : q_H) (G : q_Gr) (Q : q_V → q_H → q_Gr → Prop) : q_wp d 30 4 [z0, z1, z2] st v G Q = q_wp d 30 5 [z0, z1, z2] (.inl 1 :: st) v G Q := q_w_iconst c_30_4
theorem c_30_5 : q_code 30 5 = (.isub, 1, 0, 0, 0, 0, 0) := by decide +kernel
theorem e_30_5 (d : Nat) (a b : Int) (z0 z1 z2 : q_V) (st : List q_V) (v : q_H) (G : q_Gr) (Q : q_V → q_H → q_Gr → Prop) : q_wp d 30 5 [z0, z1, z2] (.inl b :: .inl a :: st) v G Q = q_wp d 30 6 [z0, z1, z2] (.inl (a - b) :: st) v G Q := q_w_isub c_30_5
theorem c_30_6 : q_code 30 6 = (.istore_n 2, 1, 0, 0, 0, 0, 0) := by decide +kernel
theorem e_30_6 (d : Nat) (a : Int) (z0 z1 z2 : q_V) (st : List q_V) (v : q_H) (G : q_Gr) (Q : q_V → q_H → q_Gr → Prop) : q_wp d 30 6 [z0, z1, z2] (.inl a :: st) v G Q = q_wp d 30 7 [z0, z1, .inl a] st v G Q := q_w_istore_n c_30_6
theorem c_30_7 : q_code 30 7 = (.iload_n 2, 1, 0, 0, 0, 0, 0) := by decide +kernel
theorem e_30_7 (d : Nat) (a : Int) (z0 z1 : q_V) (st : List q_V) (v : q_H) (G : q_Gr) (Q : q_V → q_H → q_Gr → Prop) : q_wp d 30 7 [z0, z1, .inl a] st v G Q = q_wp d 30 8 [z0, z1, .inl a] (.inl a :: st) v G Q := q_w_iload_n c_30_7 rfl
theorem c_30_8 : q_code 30 8 = (.ifCond .lt 39, 3, 0, 0, 0, 0, 0) := by decide +kernel
theorem e_30_8 (d : Nat) (a : Int) (z0 z1 z2 : q_V) (st : List q_V) (v : q_H) (G : q_Gr) (Q : q_V → q_H → q_Gr → Prop) : q_wp d 30 8 [z0, z1, z2] (.inl a :: st) v G Q = ((q_inR a) ∧ if a < 0 then q_wp d 30 47 [z0, z1, z2] st v G Q else q_wp d 30 11 [z0, z1, z2] st v G Q) := q_w_if_lt c_30_8 (by decide)
theorem c_30_11 : q_code 30 11 = (.iload_n 2, 1, 0, 0, 0, 0, 0) := by decide +kernel
theorem e_30_11 (d : Nat) (a : Int) (z0 z1 : q_V) (st : List q_V) (v : q_H) (G : q_Gr) (Q : q_V → q_H → q_Gr → Prop) : q_wp d 30 11 [z0, z1, .inl a] st v G Q = q_wp d 30 12 [z0, z1, .inl a] (.inl a :: st) v G Q := q_w_iload_n c_30_11 rfl
theorem c_30_12 : q_code 30 12 = (.bipush 16, 2, 0, 0, 0, 0, 0) := by decide +kernel
theorem e_30_12 (d : Nat)  (z0 z1 z2 : q_V) (st : List q_V) (v : q_H) (G : q_Gr) (Q : q_V → q_H → q_Gr → Prop) : q_wp d 30 12 [z0, z1, z2] st v G Q = q_wp d 30 14 [z0, z1, z2] (.inl 16 :: st) v G Q := (q_w_bipush c_30_12).trans (by simp only [show ((-128 : Int) ≤ 16 ∧ (16 : Int) ≤ 127) = True by decide, true_and])
theorem c_30_14 : q_code 30 14 = (.invokestatic 125, 3, 144, 2, 1, 16, 1) := by decide +kernel
theorem e_30_14 (d : Nat) (x0 x1 : q_V) (z0 z1 z2 : q_V) (v : q_H) (G : q_Gr) (Q : q_V → q_H → q_Gr → Prop) : q_wp d 30 14 [z0, z1, z2] [x1, x0] v G Q = q_call d 144 [x0, x1] v G (fun r v G => q_wp d 30 17 [z0, z1, z2] (q_push r []) v G Q) := q_wp_ca (m2 := 144) (k := 2) (as := [x0, x1]) (rest := []) (congrArg q_kind c_30_14) (congrArg (fun w => w.2.2.1) c_30_14) (congrArg (fun w => w.2.2.2.1) c_30_14) rfl (Nat.le_of_ble_eq_true rfl) rfl
theorem c_30_17 : q_code 30 17 = (.ifCond .eq 24, 3, 0, 0, 0, 0, 0) := by decide +kernel
theorem e_30_17 (d : Nat) (a : Int) (z0 z1 z2 : q_V) (st : List q_V) (v : q_H) (G : q_Gr) (Q : q_V → q_H → q_Gr → Prop) : q_wp d 30 17 [z0, z1, z2] (.inl a :: st) v G Q = ((q_inR a) ∧ if a = 0 then q_wp d 30 41 [z0, z1, z2] st v G Q else q_wp d 30 20 [z0, z1, z2] st v G Q) := q_w_if_eq c_30_17 (by decide)
theorem c_30_20 : q_code 30 20 = (.aload_n 0, 1, 0, 0, 0, 0, 0) := by decide +kernel
theorem e_30_20 (d : Nat) (a : Option Nat) (z1 z2 : q_V) (st : List q_V) (v : q_H) (G : q_Gr) (Q : q_V → q_H → q_Gr → Prop) : q_wp d 30 20 [.inr (.inr (.inl a)), z1, z2] st v G Q = q_wp d 30 21 [.inr (.inr (.inl a)), z1, z2] (.inr (.inr (.inl a)) :: st) v G Q := q_w_aload_n c_30_20 rfl
theorem c_30_21 : q_code 30 21 = (.getfield 27, 3, 2, 4, 1, 199, 0) := by decide +kernel
theorem e_30_21 (d : Nat) (a : Nat) (z0 z1 z2 : q_V) (st : List q_V) (v : q_H) (G : q_Gr) (Q : q_V → q_H → q_Gr → Prop) : q_wp d 30 21 [z0, z1, z2] (.inr (.inr (.inl (some a))) :: st) v G Q = (((G.2.1 a).1 = 2) ∧ q_wp d 30 24 [z0, z1, z2] (.inr (.inr (.inl (G.1 a 4))) :: st) v G Q) := q_w_getP c_30_21
theorem c_30_24 : q_code 30 24 = (.iload_n 2, 1, 0, 0, 0, 0, 0) := by decide +kernel
theorem e_30_24 (d : Nat) (a : Int) (z0 z1 : q_V) (st : List q_V) (v : q_H) (G : q_Gr) (Q : q_V → q_H → q_Gr → Prop) : q_wp d 30 24 [z0, z1, .inl a] st v G Q = q_wp d 30 25 [z0, z1, .inl a] (.inl a :: st) v G Q := q_w_iload_n c_30_24 rfl
theorem c_30_25 : q_code 30 25 = (.baload, 1, 0, 0, 0, 0, 0) := by decide +kernel
theorem e_30_25 (d : Nat) (a : Nat) (i : Int) (z0 z1 z2 : q_V) (st : List q_V) (v : q_H) (G : q_Gr) (Q : q_V → q_H → q_Gr → Prop) : q_wp d 30 25 [z0, z1, z2] (.inl i :: .inr (.inr (.inl (some a))) :: st) v G Q = (((G.2.1 a).1 = 21 ∧ 0 ≤ i ∧ i < (G.2.1 a).2) ∧ q_wp d 30 26 [z0, z1, z2] (.inl (v a i.toNat) :: st) v G Q) := q_w_bald c_30_25
theorem c_30_26 : q_code 30 26 = (.ifCond .eq 15, 3, 0, 0, 0, 0, 0) := by decide +kernel
theorem e_30_26 (d : Nat) (a : Int) (z0 z1 z2 : q_V) (st : List q_V) (v : q_H) (G : q_Gr) (Q : q_V → q_H → q_Gr → Prop) : q_wp d 30 26 [z0, z1, z2] (.inl a :: st) v G Q = ((q_inR a) ∧ if a = 0 then q_wp d 30 41 [z0, z1, z2] st v G Q else q_wp d 30 29 [z0, z1, z2] st v G Q) := q_w_if_eq c_30_26 (by decide)
theorem c_30_29 : q_code 30 29 = (.aload_n 0, 1, 0, 0, 0, 0, 0) := by decide +kernel
theorem e_30_29 (d : Nat) (a : Option Nat) (z1 z2 : q_V) (st : List q_V) (v : q_H) (G : q_Gr) (Q : q_V → q_H → q_Gr → Prop) : q_wp d 30 29 [.inr (.inr (.inl a)), z1, z2] st v G Q = q_wp d 30 30 [.inr (.inr (.inl a)), z1, z2] (.inr (.inr (.inl a)) :: st) v G Q := q_w_aload_n c_30_29 rfl
theorem c_30_30 : q_code 30 30 = (.getfield 34, 3, 2, 6, 1, 201, 0) := by decide +kernel
theorem e_30_30 (d : Nat) (a : Nat) (z0 z1 z2 : q_V) (st : List q_V) (v : q_H) (G : q_Gr) (Q : q_V → q_H → q_Gr → Prop) : q_wp d 30 30 [z0, z1, z2] (.inr (.inr (.inl (some a))) :: st) v G Q = (((G.2.1 a).1 = 2) ∧ q_wp d 30 33 [z0, z1, z2] (.inr (.inr (.inl (G.1 a 6))) :: st) v G Q) := q_w_getP c_30_30
theorem c_30_33 : q_code 30 33 = (.iload_n 2, 1, 0, 0, 0, 0, 0) := by decide +kernel
theorem e_30_33 (d : Nat) (a : Int) (z0 z1 : q_V) (st : List q_V) (v : q_H) (G : q_Gr) (Q : q_V → q_H → q_Gr → Prop) : q_wp d 30 33 [z0, z1, .inl a] st v G Q = q_wp d 30 34 [z0, z1, .inl a] (.inl a :: st) v G Q := q_w_iload_n c_30_33 rfl
theorem c_30_34 : q_code 30 34 = (.iaload, 1, 0, 0, 0, 0, 0) := by decide +kernel
theorem e_30_34 (d : Nat) (a : Nat) (i : Int) (z0 z1 z2 : q_V) (st : List q_V) (v : q_H) (G : q_Gr) (Q : q_V → q_H → q_Gr → Prop) : q_wp d 30 34 [z0, z1, z2] (.inl i :: .inr (.inr (.inl (some a))) :: st) v G Q = (((G.2.1 a).1 = 20 ∧ 0 ≤ i ∧ i < (G.2.1 a).2) ∧ q_wp d 30 35 [z0, z1, z2] (.inl (v a i.toNat) :: st) v G Q) := q_w_iald c_30_34
theorem c_30_35 : q_code 30 35 = (.iload_n 1, 1, 0, 0, 0, 0, 0) := by decide +kernel
theorem e_30_35 (d : Nat) (a : Int) (z0 z2 : q_V) (st : List q_V) (v : q_H) (G : q_Gr) (Q : q_V → q_H → q_Gr → Prop) : q_wp d 30 35 [z0, .inl a, z2] st v G Q = q_wp d 30 36 [z0, .inl a, z2] (.inl a :: st) v G Q := q_w_iload_n c_30_35 rfl
theorem c_30_36 : q_code 30 36 = (.if_icmp .ge 5, 3, 0, 0, 0, 0, 0) := by decide +kernel
theorem e_30_36 (d : Nat) (a b : Int) (z0 z1 z2 : q_V) (st : List q_V) (v : q_H) (G : q_Gr) (Q : q_V → q_H → q_Gr → Prop) : q_wp d 30 36 [z0, z1, z2] (.inl b :: .inl a :: st) v G Q = ((q_inR a ∧ q_inR b) ∧ if b ≤ a then q_wp d 30 41 [z0, z1, z2] st v G Q else q_wp d 30 39 [z0, z1, z2] st v G Q) := q_w_icmp_ge c_30_36 (by decide)
theorem c_30_39 : q_code 30 39 = (.iload_n 2, 1, 0, 0, 0, 0, 0) := by decide +kernel
theorem e_30_39 (d : Nat) (a : Int) (z0 z1 : q_V) (st : List q_V) (v : q_H) (G : q_Gr) (Q : q_V → q_H → q_Gr → Prop) : q_wp d 30 39 [z0, z1, .inl a] st v G Q = q_wp d 30 40 [z0, z1, .inl a] (.inl a :: st) v G Q := q_w_iload_n c_30_39 rfl
theorem c_30_40 : q_code 30 40 = (.ireturn, 1, 0, 0, 0, 0, 0) := by decide +kernel
theorem e_30_40 (d : Nat) (a : Int) (z0 z1 z2 : q_V) (v : q_H) (G : q_Gr) (Q : q_V → q_H → q_Gr → Prop) : q_wp d 30 40 [z0, z1, z2] [.inl a] v G Q = Q (.inl a) v G := q_w_ireturn c_30_40 rfl
theorem c_30_41 : q_code 30 41 = (.iinc 2 (-1), 3, 0, 0, 0, 0, 0) := by decide +kernel
theorem e_30_41 (d : Nat) (a : Int) (z0 z1 : q_V) (st : List q_V) (v : q_H) (G : q_Gr) (Q : q_V → q_H → q_Gr → Prop) : q_wp d 30 41 [z0, z1, .inl a] st v G Q = q_wp d 30 44 [z0, z1, .inl (a + (-1))] st v G Q := q_w_iinc c_30_41 rfl
theorem c_30_44 : q_code 30 44 = (.goto (-37), 3, 0, 0, 0, 0, 0) := by decide +kernel
theorem e_30_44 (d : Nat)  (z0 z1 z2 : q_V) (st : List q_V) (v : q_H) (G : q_Gr) (Q : q_V → q_H → q_Gr → Prop) : q_wp d 30 44 [z0, z1, z2] st v G Q = q_wp d 30 7 [z0, z1, z2] st v G Q := q_w_goto c_30_44 (by decide)
theorem c_30_47 : q_code 30 47 = (.iconst (-1), 1, 0, 0, 0, 0, 0) := by decide +kernel
theorem e_30_47 (d : Nat)  (z0 z1 z2 : q_V) (st : List q_V) (v : q_H) (G : q_Gr) (Q : q_V → q_H → q_Gr → Prop) : q_wp d 30 47 [z0, z1, z2] st v G Q = q_wp d 30 48 [z0, z1, z2] (.inl (-1) :: st) v G Q := q_w_iconst c_30_47
theorem c_30_48 : q_code 30 48 = (.ireturn, 1, 0, 0, 0, 0, 0) := by decide +kernel
theorem e_30_48 (d : Nat) (a : Int) (z0 z1 z2 : q_V) (v : q_H) (G : q_Gr) (Q : q_V → q_H → q_Gr → Prop) : q_wp d 30 48 [z0, z1, z2] [.inl a] v G Q = Q (.inl a) v G := q_w_ireturn c_30_48 rfl
theorem e_30 (d : Nat) (a0 : Nat) (a1 : Int) (v : q_H) (G : q_Gr) (Q : q_V → q_H → q_Gr → Prop) : q_call (d + 1) 30 [.inr (.inr (.inl (some a0))), .inl a1] v G Q = ((G.2.1 a0).1 = 2 ∧ q_wp d 30 0 [.inr (.inr (.inl (some a0))), .inl a1, .inr (.inr (.inr ()))] [] v G Q) := by
  rw [q_call_in (by decide) (Nat.le_of_ble_eq_true rfl) rfl]
  exact congrArg (· ∧ _) (propext beq_iff_eq)
/-- all but the heads of loops: [7] -/
def E30 := And.intro @e_30 (And.intro @e_30_0 (And.intro @e_30_1 (And.intro @e_30_4 (And.intro @e_30_5 (And.intro @e_30_6 (And.intro @e_30_8 (And.intro @e_30_11 (And.intro @e_30_12 (And.intro @e_30_14 (And.intro @e_30_17 (And.intro @e_30_20 (And.intro @e_30_21 (And.intro @e_30_24 (And.intro @e_30_25 (And.intro @e_30_26 (And.intro @e_30_29 (And.intro @e_30_30 (And.intro @e_30_33 (And.intro @e_30_34 (And.intro @e_30_35 (And.intro @e_30_36 (And.intro @e_30_39 (And.intro @e_30_40 (And.intro @e_30_41 (And.intro @e_30_44 (And.intro @e_30_47 (@e_30_48)))))))))))))))))))))))))))
/-! ProvenRows$Checker.firstAbove(I)I -/
theorem c_31_0 : q_code 31 0 = (.iconst 0, 1, 0, 0, 0, 0, 0) := by decide +kernel
theorem e_31_0 (d : Nat)  (z0 z1 z2 : q_V) (st : List q_V) (v : q_H) (G : q_Gr) (Q : q_V → q_H → q_Gr → Prop) : q_wp d 31 0 [z0, z1, z2] st v G Q = q_wp d 31 1 [z0, z1, z2] (.inl 0 :: st) v G Q := q_w_iconst c_31_0
theorem c_31_1 : q_code 31 1 = (.istore_n 2, 1, 0, 0, 0, 0, 0) := by decide +kernel
theorem e_31_1 (d : Nat) (a : Int) (z0 z1 z2 : q_V) (st : List q_V) (v : q_H) (G : q_Gr) (Q : q_V → q_H → q_Gr → Prop) : q_wp d 31 1 [z0, z1, z2] (.inl a :: st) v G Q = q_wp d 31 2 [z0, z1, .inl a] st v G Q := q_w_istore_n c_31_1
theorem c_31_2 : q_code 31 2 = (.iload_n 2, 1, 0, 0, 0, 0, 0) := by decide +kernel
theorem e_31_2 (d : Nat) (a : Int) (z0 z1 : q_V) (st : List q_V) (v : q_H) (G : q_Gr) (Q : q_V → q_H → q_Gr → Prop) : q_wp d 31 2 [z0, z1, .inl a] st v G Q = q_wp d 31 3 [z0, z1, .inl a] (.inl a :: st) v G Q := q_w_iload_n c_31_2 rfl
theorem c_31_3 : q_code 31 3 = (.aload_n 0, 1, 0, 0, 0, 0, 0) := by decide +kernel
theorem e_31_3 (d : Nat) (a : Option Nat) (z1 z2 : q_V) (st : List q_V) (v : q_H) (G : q_Gr) (Q : q_V → q_H → q_Gr → Prop) : q_wp d 31 3 [.inr (.inr (.inl a)), z1, z2] st v G Q = q_wp d 31 4 [.inr (.inr (.inl a)), z1, z2] (.inr (.inr (.inl a)) :: st) v G Q := q_w_aload_n c_31_3 rfl
theorem c_31_4 : q_code 31 4 = (.getfield 104, 3, 2, 8, 0, 203, 0) := by decide +kernel
theorem e_31_4 (d : Nat) (a : Nat) (z0 z1 z2 : q_V) (st : List q_V) (v : q_H) (G : q_Gr) (Q : q_V → q_H → q_Gr → Prop) : q_wp d 31 4 [z0, z1, z2] (.inr (.inr (.inl (some a))) :: st) v G Q = (((G.2.1 a).1 = 2) ∧ q_wp d 31 7 [z0, z1, z2] (.inl (v a 8) :: st) v G Q) := q_w_getI c_31_4
theorem c_31_7 : q_code 31 7 = (.if_icmp .ge 36, 3, 0, 0, 0, 0, 0) := by decide +kernel
theorem e_31_7 (d : Nat) (a b : Int) (z0 z1 z2 : q_V) (st : List q_V) (v : q_H) (G : q_Gr) (Q : q_V → q_H → q_Gr → Prop) : q_wp d 31 7 [z0, z1, z2] (.inl b :: .inl a :: st) v G Q = ((q_inR a ∧ q_inR b) ∧ if b ≤ a then q_wp d 31 43 [z0, z1, z2] st v G Q else q_wp d 31 10 [z0, z1, z2] st v G Q) := q_w_icmp_ge c_31_7 (by decide)
theorem c_31_10 : q_code 31 10 = (.iload_n 2, 1, 0, 0, 0, 0, 0) := by decide +kernel
theorem e_31_10 (d : Nat) (a : Int) (z0 z1 : q_V) (st : List q_V) (v : q_H) (G : q_Gr) (Q : q_V → q_H → q_Gr → Prop) : q_wp d 31 10 [z0, z1, .inl a] st v G Q = q_wp d 31 11 [z0, z1, .inl a] (.inl a :: st) v G Q := q_w_iload_n c_31_10 rfl
theorem c_31_11 : q_code 31 11 = (.bipush 16, 2, 0, 0, 0, 0, 0) := by decide +kernel
theorem e_31_11 (d : Nat)  (z0 z1 z2 : q_V) (st : List q_V) (v : q_H) (G : q_Gr) (Q : q_V → q_H → q_Gr → Prop) : q_wp d 31 11 [z0, z1, z2] st v G Q = q_wp d 31 13 [z0, z1, z2] (.inl 16 :: st) v G Q := (q_w_bipush c_31_11).trans (by simp only [show ((-128 : Int) ≤ 16 ∧ (16 : Int) ≤ 127) = True by decide, true_and])
theorem c_31_13 : q_code 31 13 = (.if_icmp .ge 30, 3, 0, 0, 0, 0, 0) := by decide +kernel
theorem e_31_13 (d : Nat) (a b : Int) (z0 z1 z2 : q_V) (st : List q_V) (v : q_H) (G : q_Gr) (Q : q_V → q_H → q_Gr → Prop) : q_wp d 31 13 [z0, z1, z2] (.inl b :: .inl a :: st) v G Q = ((q_inR a ∧ q_inR b) ∧ if b ≤ a then q_wp d 31 43 [z0, z1, z2] st v G Q else q_wp d 31 16 [z0, z1, z2] st v G Q) := q_w_icmp_ge c_31_13 (by decide)
theorem c_31_16 : q_code 31 16 = (.aload_n 0, 1, 0, 0, 0, 0, 0) := by decide +kernel
theorem e_31_16 (d : Nat) (a : Option Nat) (z1 z2 : q_V) (st : List q_V) (v : q_H) (G : q_Gr) (Q : q_V → q_H → q_Gr → Prop) : q_wp d 31 16 [.inr (.inr (.inl a)), z1, z2] st v G Q = q_wp d 31 17 [.inr (.inr (.inl a)), z1, z2] (.inr (.inr (.inl a)) :: st) v G Q := q_w_aload_n c_31_16 rfl
theorem c_31_17 : q_code 31 17 = (.getfield 27, 3, 2, 4, 1, 199, 0) := by decide +kernel
theorem e_31_17 (d : Nat) (a : Nat) (z0 z1 z2 : q_V) (st : List q_V) (v : q_H) (G : q_Gr) (Q : q_V → q_H → q_Gr → Prop) : q_wp d 31 17 [z0, z1, z2] (.inr (.inr (.inl (some a))) :: st) v G Q = (((G.2.1 a).1 = 2) ∧ q_wp d 31 20 [z0, z1, z2] (.inr (.inr (.inl (G.1 a 4))) :: st) v G Q) := q_w_getP c_31_17
theorem c_31_20 : q_code 31 20 = (.iload_n 2, 1, 0, 0, 0, 0, 0) := by decide +kernel
theorem e_31_20 (d : Nat) (a : Int) (z0 z1 : q_V) (st : List q_V) (v : q_H) (G : q_Gr) (Q : q_V → q_H → q_Gr → Prop) : q_wp d 31 20 [z0, z1, .inl a] st v G Q = q_wp d 31 21 [z0, z1, .inl a] (.inl a :: st) v G Q := q_w_iload_n c_31_20 rfl
theorem c_31_21 : q_code 31 21 = (.baload, 1, 0, 0, 0, 0, 0) := by decide +kernel
theorem e_31_21 (d : Nat) (a : Nat) (i : Int) (z0 z1 z2 : q_V) (st : List q_V) (v : q_H) (G : q_Gr) (Q : q_V → q_H → q_Gr → Prop) : q_wp d 31 21 [z0, z1, z2] (.inl i :: .inr (.inr (.inl (some a))) :: st) v G Q = (((G.2.1 a).1 = 21 ∧ 0 ≤ i ∧ i < (G.2.1 a).2) ∧ q_wp d 31 22 [z0, z1, z2] (.inl (v a i.toNat) :: st) v G Q) := q_w_bald c_31_21
theorem c_31_22 : q_code 31 22 = (.ifCond .eq 15, 3, 0, 0, 0, 0, 0) := by decide +kernel
theorem e_31_22 (d : Nat) (a : Int) (z0 z1 z2 : q_V) (st : List q_V) (v : q_H) (G : q_Gr) (Q : q_V → q_H → q_Gr → Prop) : q_wp d 31 22 [z0, z1, z2] (.inl a :: st) v G Q = ((q_inR a) ∧ if a = 0 then q_wp d 31 37 [z0, z1, z2] st v G Q else q_wp d 31 25 [z0, z1, z2] st v G Q) := q_w_if_eq c_31_22 (by decide)
theorem c_31_25 : q_code 31 25 = (.aload_n 0, 1, 0, 0, 0, 0, 0) := by decide +kernel
theorem e_31_25 (d : Nat) (a : Option Nat) (z1 z2 : q_V) (st : List q_V) (v : q_H) (G : q_Gr) (Q : q_V → q_H → q_Gr → Prop) : q_wp d 31 25 [.inr (.inr (.inl a)), z1, z2] st v G Q = q_wp d 31 26 [.inr (.inr (.inl a)), z1, z2] (.inr (.inr (.inl a)) :: st) v G Q := q_w_aload_n c_31_25 rfl
theorem c_31_26 : q_code 31 26 = (.getfield 34, 3, 2, 6, 1, 201, 0) := by decide +kernel
theorem e_31_26 (d : Nat) (a : Nat) (z0 z1 z2 : q_V) (st : List q_V) (v : q_H) (G : q_Gr) (Q : q_V → q_H → q_Gr → Prop) : q_wp d 31 26 [z0, z1, z2] (.inr (.inr (.inl (some a))) :: st) v G Q = (((G.2.1 a).1 = 2) ∧ q_wp d 31 29 [z0, z1, z2] (.inr (.inr (.inl (G.1 a 6))) :: st) v G Q) := q_w_getP c_31_26
theorem c_31_29 : q_code 31 29 = (.iload_n 2, 1, 0, 0, 0, 0, 0) := by decide +kernel
theorem e_31_29 (d : Nat) (a : Int) (z0 z1 : q_V) (st : List q_V) (v : q_H) (G : q_Gr) (Q : q_V → q_H → q_Gr → Prop) : q_wp d 31 29 [z0, z1, .inl a] st v G Q = q_wp d 31 30 [z0, z1, .inl a] (.inl a :: st) v G Q := q_w_iload_n c_31_29 rfl
theorem c_31_30 : q_code 31 30 = (.iaload, 1, 0, 0, 0, 0, 0) := by decide +kernel
theorem e_31_30 (d : Nat) (a : Nat) (i : Int) (z0 z1 z2 : q_V) (st : List q_V) (v : q_H) (G : q_Gr) (Q : q_V → q_H → q_Gr → Prop) : q_wp d 31 30 [z0, z1, z2] (.inl i :: .inr (.inr (.inl (some a))) :: st) v G Q = (((G.2.1 a).1 = 20 ∧ 0 ≤ i ∧ i < (G.2.1 a).2) ∧ q_wp d 31 31 [z0, z1, z2] (.inl (v a i.toNat) :: st) v G Q) := q_w_iald c_31_30
theorem c_31_31 : q_code 31 31 = (.iload_n 1, 1, 0, 0, 0, 0, 0) := by decide +kernel
theorem e_31_31 (d : Nat) (a : Int) (z0 z2 : q_V) (st : List q_V) (v : q_H) (G : q_Gr) (Q : q_V → q_H → q_Gr → Prop) : q_wp d 31 31 [z0, .inl a, z2] st v G Q = q_wp d 31 32 [z0, .inl a, z2] (.inl a :: st) v G Q := q_w_iload_n c_31_31 rfl
theorem c_31_32 : q_code 31 32 = (.if_icmp .le 5, 3, 0, 0, 0, 0, 0) := by decide +kernel
theorem e_31_32 (d : Nat) (a b : Int) (z0 z1 z2 : q_V) (st : List q_V) (v : q_H) (G : q_Gr) (Q : q_V → q_H → q_Gr → Prop) : q_wp d 31 32 [z0, z1, z2] (.inl b :: .inl a :: st) v G Q = ((q_inR a ∧ q_inR b) ∧ if a ≤ b then q_wp d 31 37 [z0, z1, z2] st v G Q else q_wp d 31 35 [z0, z1, z2] st v G Q) := q_w_icmp_le c_31_32 (by decide)
theorem c_31_35 : q_code 31 35 = (.iload_n 2, 1, 0, 0, 0, 0, 0) := by decide +kernel
theorem e_31_35 (d : Nat) (a : Int) (z0 z1 : q_V) (st : List q_V) (v : q_H) (G : q_Gr) (Q : q_V → q_H → q_Gr → Prop) : q_wp d 31 35 [z0, z1, .inl a] st v G Q = q_wp d 31 36 [z0, z1, .inl a] (.inl a :: st) v G Q := q_w_iload_n c_31_35 rfl
theorem c_31_36 : q_code 31 36 = (.ireturn, 1, 0, 0, 0, 0, 0) := by decide +kernel
theorem e_31_36 (d : Nat) (a : Int) (z0 z1 z2 : q_V) (v : q_H) (G : q_Gr) (Q : q_V → q_H → q_Gr → Prop) : q_wp d 31 36 [z0, z1, z2] [.inl a] v G Q = Q (.inl a) v G := q_w_ireturn c_31_36 rfl
theorem c_31_37 : q_code 31 37 = (.iinc 2 1, 3, 0, 0, 0, 0, 0) := by decide +kernel
theorem e_31_37 (d : Nat) (a : Int) (z0 z1 : q_V) (st : List q_V) (v : q_H) (G : q_Gr) (Q : q_V → q_H → q_Gr → Prop) : q_wp d 31 37 [z0, z1, .inl a] st v G Q = q_wp d 31 40 [z0, z1, .inl (a + 1)] st v G Q := q_w_iinc c_31_37 rfl
theorem c_31_40 : q_code 31 40 = (.goto (-38), 3, 0, 0, 0, 0, 0) := by decide +kernel
theorem e_31_40 (d : Nat)  (z0 z1 z2 : q_V) (st : List q_V) (v : q_H) (G : q_Gr) (Q : q_V → q_H → q_Gr → Prop) : q_wp d 31 40 [z0, z1, z2] st v G Q = q_wp d 31 2 [z0, z1, z2] st v G Q := q_w_goto c_31_40 (by decide)
theorem c_31_43 : q_code 31 43 = (.iconst (-1), 1, 0, 0, 0, 0, 0) := by decide +kernel
theorem e_31_43 (d : Nat)  (z0 z1 z2 : q_V) (st : List q_V) (v : q_H) (G : q_Gr) (Q : q_V → q_H → q_Gr → Prop) : q_wp d 31 43 [z0, z1, z2] st v G Q = q_wp d 31 44 [z0, z1, z2] (.inl (-1) :: st) v G Q := q_w_iconst c_31_43
theorem c_31_44 : q_code 31 44 = (.ireturn, 1, 0, 0, 0, 0, 0) := by decide +kernel
theorem e_31_44 (d : Nat) (a : Int) (z0 z1 z2 : q_V) (v : q_H) (G : q_Gr) (Q : q_V → q_H → q_Gr → Prop) : q_wp d 31 44 [z0, z1, z2] [.inl a] v G Q = Q (.inl a) v G := q_w_ireturn c_31_44 rfl
theorem e_31 (d : Nat) (a0 : Nat) (a1 : Int) (v : q_H) (G : q_Gr) (Q : q_V → q_H → q_Gr → Prop) : q_call (d + 1) 31 [.inr (.inr (.inl (some a0))), .inl a1] v G Q = ((G.2.1 a0).1 = 2 ∧ q_wp d 31 0 [.inr (.inr (.inl (some a0))), .inl a1, .inr (.inr (.inr ()))] [] v G Q) := by
  rw [q_call_in (by decide) (Nat.le_of_ble_eq_true rfl) rfl]
  exact congrArg (· ∧ _) (propext beq_iff_eq)
/-- all but the heads of loops: [2] -/
def E31 := And.intro @e_31 (And.intro @e_31_0 (And.intro @e_31_1 (And.intro @e_31_3 (And.intro @e_31_4 (And.intro @e_31_7 (And.intro @e_31_10 (And.intro @e_31_11 (And.intro @e_31_13 (And.intro @e_31_16 (And.intro @e_31_17 (And.intro @e_31_20 (And.intro @e_31_21 (And.intro @e_31_22 (And.intro @e_31_25 (And.intro @e_31_26 (And.intro @e_31_29 (And.intro @e_31_30 (And.intro @e_31_31 (And.intro @e_31_32 (And.intro @e_31_35 (And.intro @e_31_36 (And.intro @e_31_37 (And.intro @e_31_40 (And.intro @e_31_43 (@e_31_44)))))))))))))))))))))))))
/-! ProvenRows$Checker.isEnough(III)Z -/
theorem c_32_0 : q_code 32 0 = (.iload_n 1, 1, 0, 0, 0, 0, 0) := by decide +kernel
theorem e_32_0 (d : Nat) (a : Int) (z0 z2 z3 z4 : q_V) (st : List q_V) (v : q_H) (G : q_Gr) (Q : q_V → q_H → q_Gr → Prop) : q_wp d 32 0 [z0, .inl a, z2, z3, z4] st v G Q = q_wp d 32 1 [z0, .inl a, z2, z3, z4] (.inl a :: st) v G Q := q_w_iload_n c_32_0 rfl
theorem c_32_1 : q_code 32 1 = (.iconst 1, 1, 0, 0, 0, 0, 0) := by decide +kernel
theorem e_32_1 (d : Nat)  (z0 z1 z2 z3 z4 : q_V) (st : List q_V) (v : q_H) (G : q_Gr) (Q : q_V → q_H → q_Gr → Prop) : q_wp d 32 1 [z0, z1, z2, z3, z4] st v G Q = q_wp d 32 2 [z0, z1, z2, z3, z4] (.inl 1 :: st) v G Q := q_w_iconst c_32_1
theorem c_32_2 : q_code 32 2 = (.if_icmp .ne 29, 3, 0, 0, 0, 0, 0) := by decide +kernel
theorem e_32_2 (d : Nat) (a b : Int) (z0 z1 z2 z3 z4 : q_V) (st : List q_V) (v : q_H) (G : q_Gr) (Q : q_V → q_H → q_Gr → Prop) : q_wp d 32 2 [z0, z1, z2, z3, z4] (.inl b :: .inl a :: st) v G Q = ((q_inR a ∧ q_inR b) ∧ if ¬ a = b then q_wp d 32 31 [z0, z1, z2, z3, z4] st v G Q else q_wp d 32 5 [z0, z1, z2, z3, z4] st v G Q) := q_w_icmp_ne c_32_2 (by decide)
theorem c_32_5 : q_code 32 5 = (.aload_n 0, 1, 0, 0, 0, 0, 0) := by decide +kernel
theorem e_32_5 (d : Nat) (a : Option Nat) (z1 z2 z3 z4 : q_V) (st : List q_V) (v : q_H) (G : q_Gr) (Q : q_V → q_H → q_Gr → Prop) : q_wp d 32 5 [.inr (.inr (.inl a)), z1, z2, z3, z4] st v G Q = q_wp d 32 6 [.inr (.inr (.inl a)), z1, z2, z3, z4] (.inr (.inr (.inl a)) :: st) v G Q := q_w_aload_n c_32_5 rfl
theorem c_32_6 : q_code 32 6 = (.iload_n 2, 1, 0, 0, 0, 0, 0) := by decide +kernel
theorem e_32_6 (d : Nat) (a : Int) (z0 z1 z3 z4 : q_V) (st : List q_V) (v : q_H) (G : q_Gr) (Q : q_V → q_H → q_Gr → Prop) : q_wp d 32 6 [z0, z1, .inl a, z3, z4] st v G Q = q_wp d 32 7 [z0, z1, .inl a, z3, z4] (.inl a :: st) v G Q := q_w_iload_n c_32_6 rfl
theorem c_32_7 : q_code 32 7 = (.iconst 1, 1, 0, 0, 0, 0, 0) := by decide +kernel
theorem e_32_7 (d : Nat)  (z0 z1 z2 z3 z4 : q_V) (st : List q_V) (v : q_H) (G : q_Gr) (Q : q_V → q_H → q_Gr → Prop) : q_wp d 32 7 [z0, z1, z2, z3, z4] st v G Q = q_wp d 32 8 [z0, z1, z2, z3, z4] (.inl 1 :: st) v G Q := q_w_iconst c_32_7
theorem c_32_8 : q_code 32 8 = (.iadd, 1, 0, 0, 0, 0, 0) := by decide +kernel
theorem e_32_8 (d : Nat) (a b : Int) (z0 z1 z2 z3 z4 : q_V) (st : List q_V) (v : q_H) (G : q_Gr) (Q : q_V → q_H → q_Gr → Prop) : q_wp d 32 8 [z0, z1, z2, z3, z4] (.inl b :: .inl a :: st) v G Q = q_wp d 32 9 [z0, z1, z2, z3, z4] (.inl (a + b) :: st) v G Q := q_w_iadd c_32_8
theorem c_32_9 : q_code 32 9 = (.invokevirtual 184, 3, 33, 2, 0, 835, 1) := by decide +kernel
theorem e_32_9 (d : Nat) (x0 x1 : q_V) (z0 z1 z2 z3 z4 : q_V) (v : q_H) (G : q_Gr) (Q : q_V → q_H → q_Gr → Prop) : q_wp d 32 9 [z0, z1, z2, z3, z4] [x1, x0] v G Q = q_call d 33 [x0, x1] v G (fun r v G => q_wp d 32 12 [z0, z1, z2, z3, z4] (q_push r []) v G Q) := q_wp_ca (m2 := 33) (k := 2) (as := [x0, x1]) (rest := []) (congrArg q_kind c_32_9) (congrArg (fun w => w.2.2.1) c_32_9) (congrArg (fun w => w.2.2.2.1) c_32_9) rfl (Nat.le_of_ble_eq_true rfl) rfl
theorem c_32_12 : q_code 32 12 = (.ifCond .eq 17, 3, 0, 0, 0, 0, 0) := by decide +kernel
theorem e_32_12 (d : Nat) (a : Int) (z0 z1 z2 z3 z4 : q_V) (st : List q_V) (v : q_H) (G : q_Gr) (Q : q_V → q_H → q_Gr → Prop) : q_wp d 32 12 [z0, z1, z2, z3, z4] (.inl a :: st) v G Q = ((q_inR a) ∧ if a = 0 then q_wp d 32 29 [z0, z1, z2, z3, z4] st v G Q else q_wp d 32 15 [z0, z1, z2, z3, z4] st v G Q) := q_w_if_eq c_32_12 (by decide)
theorem c_32_15 : q_code 32 15 = (.aload_n 0, 1, 0, 0, 0, 0, 0) := by decide +kernel
theorem e_32_15 (d : Nat) (a : Option Nat) (z1 z2 z3 z4 : q_V) (st : List q_V) (v : q_H) (G : q_Gr) (Q : q_V → q_H → q_Gr → Prop) : q_wp d 32 15 [.inr (.inr (.inl a)), z1, z2, z3, z4] st v G Q = q_wp d 32 16 [.inr (.inr (.inl a)), z1, z2, z3, z4] (.inr (.inr (.inl a)) :: st) v G Q := q_w_aload_n c_32_15 rfl
theorem c_32_16 : q_code 32 16 = (.iload_n 3, 1, 0, 0, 0, 0, 0) := by decide +kernel
theorem e_32_16 (d : Nat) (a : Int) (z0 z1 z2 z4 : q_V) (st : List q_V) (v : q_H) (G : q_Gr) (Q : q_V → q_H → q_Gr → Prop) : q_wp d 32 16 [z0, z1, z2, .inl a, z4] st v G Q = q_wp d 32 17 [z0, z1, z2, .inl a, z4] (.inl a :: st) v G Q := q_w_iload_n c_32_16 rfl
theorem c_32_17 : q_code 32 17 = (.iconst 1, 1, 0, 0, 0, 0, 0) := by decide +kernel
theorem e_32_17 (d : Nat)  (z0 z1 z2 z3 z4 : q_V) (st : List q_V) (v : q_H) (G : q_Gr) (Q : q_V → q_H → q_Gr → Prop) : q_wp d 32 17 [z0, z1, z2, z3, z4] st v G Q = q_wp d 32 18 [z0, z1, z2, z3, z4] (.inl 1 :: st) v G Q := q_w_iconst c_32_17
theorem c_32_18 : q_code 32 18 = (.isub, 1, 0, 0, 0, 0, 0) := by decide +kernel
theorem e_32_18 (d : Nat) (a b : Int) (z0 z1 z2 z3 z4 : q_V) (st : List q_V) (v : q_H) (G : q_Gr) (Q : q_V → q_H → q_Gr → Prop) : q_wp d 32 18 [z0, z1, z2, z3, z4] (.inl b :: .inl a :: st) v G Q = q_wp d 32 19 [z0, z1, z2, z3, z4] (.inl (a - b) :: st) v G Q := q_w_isub c_32_18
theorem c_32_19 : q_code 32 19 = (.invokevirtual 184, 3, 33, 2, 0, 835, 1) := by decide +kernel
theorem e_32_19 (d : Nat) (x0 x1 : q_V) (z0 z1 z2 z3 z4 : q_V) (v : q_H) (G : q_Gr) (Q : q_V → q_H → q_Gr → Prop) : q_wp d 32 19 [z0, z1, z2, z3, z4] [x1, x0] v G Q = q_call d 33 [x0, x1] v G (fun r v G => q_wp d 32 22 [z0, z1, z2, z3, z4] (q_push r []) v G Q) := q_wp_ca (m2 := 33) (k := 2) (as := [x0, x1]) (rest := []) (congrArg q_kind c_32_19) (congrArg (fun w => w.2.2.1) c_32_19) (congrArg (fun w => w.2.2.2.1) c_32_19) rfl (Nat.le_of_ble_eq_true rfl) rfl
theorem c_32_22 : q_code 32 22 = (.ifCond .eq 7, 3, 0, 0, 0, 0, 0) := by decide +kernel
theorem e_32_22 (d : Nat) (a : Int) (z0 z1 z2 z3 z4 : q_V) (st : List q_V) (v : q_H) (G : q_Gr) (Q : q_V → q_H → q_Gr → Prop) : q_wp d 32 22 [z0, z1, z2, z3, z4] (.inl a :: st) v G Q = ((q_inR a) ∧ if a = 0 then q_wp d 32 29 [z0, z1, z2, z3, z4] st v G Q else q_wp d 32 25 [z0, z1, z2, z3, z4] st v G Q) := q_w_if_eq c_32_22 (by decide)
theorem c_32_25 : q_code 32 25 = (.iconst 1, 1, 0, 0, 0, 0, 0) := by decide +kernel
theorem e_32_25 (d : Nat)  (z0 z1 z2 z3 z4 : q_V) (st : List q_V) (v : q_H) (G : q_Gr) (Q : q_V → q_H → q_Gr → Prop) : q_wp d 32 25 [z0, z1, z2, z3, z4] st v G Q = q_wp d 32 26 [z0, z1, z2, z3, z4] (.inl 1 :: st) v G Q := q_w_iconst c_32_25
theorem c_32_26 : q_code 32 26 = (.goto 4, 3, 0, 0, 0, 0, 0) := by decide +kernel
theorem e_32_26 (d : Nat)  (z0 z1 z2 z3 z4 : q_V) (st : List q_V) (v : q_H) (G : q_Gr) (Q : q_V → q_H → q_Gr → Prop) : q_wp d 32 26 [z0, z1, z2, z3, z4] st v G Q = q_wp d 32 30 [z0, z1, z2, z3, z4] st v G Q := q_w_goto c_32_26 (by decide)
theorem c_32_29 : q_code 32 29 = (.iconst 0, 1, 0, 0, 0, 0, 0) := by decide +kernel
theorem e_32_29 (d : Nat)  (z0 z1 z2 z3 z4 : q_V) (st : List q_V) (v : q_H) (G : q_Gr) (Q : q_V → q_H → q_Gr → Prop) : q_wp d 32 29 [z0, z1, z2, z3, z4] st v G Q = q_wp d 32 30 [z0, z1, z2, z3, z4] (.inl 0 :: st) v G Q := q_w_iconst c_32_29
theorem c_32_30 : q_code 32 30 = (.ireturn, 1, 0, 0, 0, 0, 0) := by decide +kernel
theorem e_32_30 (d : Nat) (a : Int) (z0 z1 z2 z3 z4 : q_V) (v : q_H) (G : q_Gr) (Q : q_V → q_H → q_Gr → Prop) : q_wp d 32 30 [z0, z1, z2, z3, z4] [.inl a] v G Q = ((0 ≤ a ∧ a ≤ 1) ∧ Q (.inl a) v G) := q_w_zreturn c_32_30 rfl
theorem c_32_31 : q_code 32 31 = (.iload_n 2, 1, 0, 0, 0, 0, 0) := by decide +kernel
theorem e_32_31 (d : Nat) (a : Int) (z0 z1 z3 z4 : q_V) (st : List q_V) (v : q_H) (G : q_Gr) (Q : q_V → q_H → q_Gr → Prop) : q_wp d 32 31 [z0, z1, .inl a, z3, z4] st v G Q = q_wp d 32 32 [z0, z1, .inl a, z3, z4] (.inl a :: st) v G Q := q_w_iload_n c_32_31 rfl
theorem c_32_32 : q_code 32 32 = (.iconst 1, 1, 0, 0, 0, 0, 0) := by decide +kernel
theorem e_32_32 (d : Nat)  (z0 z1 z2 z3 z4 : q_V) (st : List q_V) (v : q_H) (G : q_Gr) (Q : q_V → q_H → q_Gr → Prop) : q_wp d 32 32 [z0, z1, z2, z3, z4] st v G Q = q_wp d 32 33 [z0, z1, z2, z3, z4] (.inl 1 :: st) v G Q := q_w_iconst c_32_32
theorem c_32_33 : q_code 32 33 = (.iadd, 1, 0, 0, 0, 0, 0) := by decide +kernel
theorem e_32_33 (d : Nat) (a b : Int) (z0 z1 z2 z3 z4 : q_V) (st : List q_V) (v : q_H) (G : q_Gr) (Q : q_V → q_H → q_Gr → Prop) : q_wp d 32 33 [z0, z1, z2, z3, z4] (.inl b :: .inl a :: st) v G Q = q_wp d 32 34 [z0, z1, z2, z3, z4] (.inl (a + b) :: st) v G Q := q_w_iadd c_32_33
theorem c_32_34 : q_code 32 34 = (.istore 4, 2, 0, 0, 0, 0, 0) := by decide +kernel
theorem e_32_34 (d : Nat) (a : Int) (z0 z1 z2 z3 z4 : q_V) (st : List q_V) (v : q_H) (G : q_Gr) (Q : q_V → q_H → q_Gr → Prop) : q_wp d 32 34 [z0, z1, z2, z3, z4] (.inl a :: st) v G Q = q_wp d 32 36 [z0, z1, z2, z3, .inl a] st v G Q := q_w_istore c_32_34
theorem c_32_36 : q_code 32 36 = (.iload 4, 2, 0, 0, 0, 0, 0) := by decide +kernel
theorem e_32_36 (d : Nat) (a : Int) (z0 z1 z2 z3 : q_V) (st : List q_V) (v : q_H) (G : q_Gr) (Q : q_V → q_H → q_Gr → Prop) : q_wp d 32 36 [z0, z1, z2, z3, .inl a] st v G Q = q_wp d 32 38 [z0, z1, z2, z3, .inl a] (.inl a :: st) v G Q := q_w_iload c_32_36 rfl
theorem c_32_38 : q_code 32 38 = (.iload_n 3, 1, 0, 0, 0, 0, 0) := by decide +kernel
theorem e_32_38 (d : Nat) (a : Int) (z0 z1 z2 z4 : q_V) (st : List q_V) (v : q_H) (G : q_Gr) (Q : q_V → q_H → q_Gr → Prop) : q_wp d 32 38 [z0, z1, z2, .inl a, z4] st v G Q = q_wp d 32 39 [z0, z1, z2, .inl a, z4] (.inl a :: st) v G Q := q_w_iload_n c_32_38 rfl
theorem c_32_39 : q_code 32 39 = (.if_icmp .ge 20, 3, 0, 0, 0, 0, 0) := by decide +kernel
theorem e_32_39 (d : Nat) (a b : Int) (z0 z1 z2 z3 z4 : q_V) (st : List q_V) (v : q_H) (G : q_Gr) (Q : q_V → q_H → q_Gr → Prop) : q_wp d 32 39 [z0, z1, z2, z3, z4] (.inl b :: .inl a :: st) v G Q = ((q_inR a ∧ q_inR b) ∧ if b ≤ a then q_wp d 32 59 [z0, z1, z2, z3, z4] st v G Q else q_wp d 32 42 [z0, z1, z2, z3, z4] st v G Q) := q_w_icmp_ge c_32_39 (by decide)
theorem c_32_42 : q_code 32 42 = (.aload_n 0, 1, 0, 0, 0, 0, 0) := by decide +kernel
theorem e_32_42 (d : Nat) (a : Option Nat) (z1 z2 z3 z4 : q_V) (st : List q_V) (v : q_H) (G : q_Gr) (Q : q_V → q_H → q_Gr → Prop) : q_wp d 32 42 [.inr (.inr (.inl a)), z1, z2, z3, z4] st v G Q = q_wp d 32 43 [.inr (.inr (.inl a)), z1, z2, z3, z4] (.inr (.inr (.inl a)) :: st) v G Q := q_w_aload_n c_32_42 rfl
theorem c_32_43 : q_code 32 43 = (.iload 4, 2, 0, 0, 0, 0, 0) := by decide +kernel
theorem e_32_43 (d : Nat) (a : Int) (z0 z1 z2 z3 : q_V) (st : List q_V) (v : q_H) (G : q_Gr) (Q : q_V → q_H → q_Gr → Prop) : q_wp d 32 43 [z0, z1, z2, z3, .inl a] st v G Q = q_wp d 32 45 [z0, z1, z2, z3, .inl a] (.inl a :: st) v G Q := q_w_iload c_32_43 rfl
theorem c_32_45 : q_code 32 45 = (.invokevirtual 184, 3, 33, 2, 0, 835, 1) := by decide +kernel
theorem e_32_45 (d : Nat) (x0 x1 : q_V) (z0 z1 z2 z3 z4 : q_V) (v : q_H) (G : q_Gr) (Q : q_V → q_H → q_Gr → Prop) : q_wp d 32 45 [z0, z1, z2, z3, z4] [x1, x0] v G Q = q_call d 33 [x0, x1] v G (fun r v G => q_wp d 32 48 [z0, z1, z2, z3, z4] (q_push r []) v G Q) := q_wp_ca (m2 := 33) (k := 2) (as := [x0, x1]) (rest := []) (congrArg q_kind c_32_45) (congrArg (fun w => w.2.2.1) c_32_45) (congrArg (fun w => w.2.2.2.1) c_32_45) rfl (Nat.le_of_ble_eq_true rfl) rfl
theorem c_32_48 : q_code 32 48 = (.ifCond .ne 5, 3, 0, 0, 0, 0, 0) := by decide +kernel
theorem e_32_48 (d : Nat) (a : Int) (z0 z1 z2 z3 z4 : q_V) (st : List q_V) (v : q_H) (G : q_Gr) (Q : q_V → q_H → q_Gr → Prop) : q_wp d 32 48 [z0, z1, z2, z3, z4] (.inl a :: st) v G Q = ((q_inR a) ∧ if ¬ a = 0 then q_wp d 32 53 [z0, z1, z2, z3, z4] st v G Q else q_wp d 32 51 [z0, z1, z2, z3, z4] st v G Q) := q_w_if_ne c_32_48 (by decide)
theorem c_32_51 : q_code 32 51 = (.iconst 0, 1, 0, 0, 0, 0, 0) := by decide +kernel
theorem e_32_51 (d : Nat)  (z0 z1 z2 z3 z4 : q_V) (st : List q_V) (v : q_H) (G : q_Gr) (Q : q_V → q_H → q_Gr → Prop) : q_wp d 32 51 [z0, z1, z2, z3, z4] st v G Q = q_wp d 32 52 [z0, z1, z2, z3, z4] (.inl 0 :: st) v G Q := q_w_iconst c_32_51
theorem c_32_52 : q_code 32 52 = (.ireturn, 1, 0, 0, 0, 0, 0) := by decide +kernel
theorem e_32_52 (d : Nat) (a : Int) (z0 z1 z2 z3 z4 : q_V) (v : q_H) (G : q_Gr) (Q : q_V → q_H → q_Gr → Prop) : q_wp d 32 52 [z0, z1, z2, z3, z4] [.inl a] v G Q = ((0 ≤ a ∧ a ≤ 1) ∧ Q (.inl a) v G) := q_w_zreturn c_32_52 rfl
theorem c_32_53 : q_code 32 53 = (.iinc 4 1, 3, 0, 0, 0, 0, 0) := by decide +kernel
theorem e_32_53 (d : Nat) (a : Int) (z0 z1 z2 z3 : q_V) (st : List q_V) (v : q_H) (G : q_Gr) (Q : q_V → q_H → q_Gr → Prop) : q_wp d 32 53 [z0, z1, z2, z3, .inl a] st v G Q = q_wp d 32 56 [z0, z1, z2, z3, .inl (a + 1)] st v G Q := q_w_iinc c_32_53 rfl
theorem c_32_56 : q_code 32 56 = (.goto (-20), 3, 0, 0, 0, 0, 0) := by decide +kernel
theorem e_32_56 (d : Nat)  (z0 z1 z2 z3 z4 : q_V) (st : List q_V) (v : q_H) (G : q_Gr) (Q : q_V → q_H → q_Gr → Prop) : q_wp d 32 56 [z0, z1, z2, z3, z4] st v G Q = q_wp d 32 36 [z0, z1, z2, z3, z4] st v G Q := q_w_goto c_32_56 (by decide)
theorem c_32_59 : q_code 32 59 = (.iconst 1, 1, 0, 0, 0, 0, 0) := by decide +kernel
theorem e_32_59 (d : Nat)  (z0 z1 z2 z3 z4 : q_V) (st : List q_V) (v : q_H) (G : q_Gr) (Q : q_V → q_H → q_Gr → Prop) : q_wp d 32 59 [z0, z1, z2, z3, z4] st v G Q = q_wp d 32 60 [z0, z1, z2, z3, z4] (.inl 1 :: st) v G Q := q_w_iconst c_32_59
theorem c_32_60 : q_code 32 60 = (.ireturn, 1, 0, 0, 0, 0, 0) := by decide +kernel
theorem e_32_60 (d : Nat) (a : Int) (z0 z1 z2 z3 z4 : q_V) (v : q_H) (G : q_Gr) (Q : q_V → q_H → q_Gr → Prop) : q_wp d 32 60 [z0, z1, z2, z3, z4] [.inl a] v G Q = ((0 ≤ a ∧ a ≤ 1) ∧ Q (.inl a) v G) := q_w_zreturn c_32_60 rfl
theorem e_32 (d : Nat) (a0 : Nat) (a1 : Int) (a2 : Int) (a3 : Int) (v : q_H) (G : q_Gr) (Q : q_V → q_H → q_Gr → Prop) : q_call (d + 1) 32 [.inr (.inr (.inl (some a0))), .inl a1, .inl a2, .inl a3] v G Q = ((G.2.1 a0).1 = 2 ∧ q_wp d 32 0 [.inr (.inr (.inl (some a0))), .inl a1, .inl a2, .inl a3, .inr (.inr (.inr ()))] [] v G Q) := by
  rw [q_call_in (by decide) (Nat.le_of_ble_eq_true rfl) rfl]
  exact congrArg (· ∧ _) (propext beq_iff_eq)
/-- all but the heads of loops: [36] -/
def E32 := And.intro @e_32 (And.intro @e_32_0 (And.intro @e_32_1 (And.intro @e_32_2 (And.intro @e_32_5 (And.intro @e_32_6 (And.intro @e_32_7 (And.intro @e_32_8 (And.intro @e_32_9 (And.intro @e_32_12 (And.intro @e_32_15 (And.intro @e_32_16 (And.intro @e_32_17 (And.intro @e_32_18 (And.intro @e_32_19 (And.intro @e_32_22 (And.intro @e_32_25 (And.intro @e_32_26 (And.intro @e_32_29 (And.intro @e_32_30 (And.intro @e_32_31 (And.intro @e_32_32 (And.intro @e_32_33 (And.intro @e_32_34 (And.intro @e_32_38 (And.intro @e_32_39 (And.intro @e_32_42 (And.intro @e_32_43 (And.intro @e_32_45 (And.intro @e_32_48 (And.intro @e_32_51 (And.intro @e_32_52 (And.intro @e_32_53 (And.intro @e_32_56 (And.intro @e_32_59 (@e_32_60)))))))))))))))))))))))))))))))))))
/-! ProvenRows$Checker.isShown(I)Z -/
theorem c_33_0 : q_code 33 0 = (.iload_n 1, 1, 0, 0, 0, 0, 0) := by decide +kernel
theorem e_33_0 (d : Nat) (a : Int) (z0 : q_V) (st : List q_V) (v : q_H) (G : q_Gr) (Q : q_V → q_H → q_Gr → Prop) : q_wp d 33 0 [z0, .inl a] st v G Q = q_wp d 33 1 [z0, .inl a] (.inl a :: st) v G Q := q_w_iload_n c_33_0 rfl
theorem c_33_1 : q_code 33 1 = (.bipush 16, 2, 0, 0, 0, 0, 0) := by decide +kernel
theorem e_33_1 (d : Nat)  (z0 z1 : q_V) (st : List q_V) (v : q_H) (G : q_Gr) (Q : q_V → q_H → q_Gr → Prop) : q_wp d 33 1 [z0, z1] st v G Q = q_wp d 33 3 [z0, z1] (.inl 16 :: st) v G Q := (q_w_bipush c_33_1).trans (by simp only [show ((-128 : Int) ≤ 16 ∧ (16 : Int) ≤ 127) = True by decide, true_and])
theorem c_33_3 : q_code 33 3 = (.invokestatic 125, 3, 144, 2, 1, 16, 1) := by decide +kernel
theorem e_33_3 (d : Nat) (x0 x1 : q_V) (z0 z1 : q_V) (v : q_H) (G : q_Gr) (Q : q_V → q_H → q_Gr → Prop) : q_wp d 33 3 [z0, z1] [x1, x0] v G Q = q_call d 144 [x0, x1] v G (fun r v G => q_wp d 33 6 [z0, z1] (q_push r []) v G Q) := q_wp_ca (m2 := 144) (k := 2) (as := [x0, x1]) (rest := []) (congrArg q_kind c_33_3) (congrArg (fun w => w.2.2.1) c_33_3) (congrArg (fun w => w.2.2.2.1) c_33_3) rfl (Nat.le_of_ble_eq_true rfl) rfl
theorem c_33_6 : q_code 33 6 = (.ifCond .eq 16, 3, 0, 0, 0, 0, 0) := by decide +kernel
theorem e_33_6 (d : Nat) (a : Int) (z0 z1 : q_V) (st : List q_V) (v : q_H) (G : q_Gr) (Q : q_V → q_H → q_Gr → Prop) : q_wp d 33 6 [z0, z1] (.inl a :: st) v G Q = ((q_inR a) ∧ if a = 0 then q_wp d 33 22 [z0, z1] st v G Q else q_wp d 33 9 [z0, z1] st v G Q) := q_w_if_eq c_33_6 (by decide)
theorem c_33_9 : q_code 33 9 = (.aload_n 0, 1, 0, 0, 0, 0, 0) := by decide +kernel
theorem e_33_9 (d : Nat) (a : Option Nat) (z1 : q_V) (st : List q_V) (v : q_H) (G : q_Gr) (Q : q_V → q_H → q_Gr → Prop) : q_wp d 33 9 [.inr (.inr (.inl a)), z1] st v G Q = q_wp d 33 10 [.inr (.inr (.inl a)), z1] (.inr (.inr (.inl a)) :: st) v G Q := q_w_aload_n c_33_9 rfl
theorem c_33_10 : q_code 33 10 = (.getfield 27, 3, 2, 4, 1, 199, 0) := by decide +kernel
theorem e_33_10 (d : Nat) (a : Nat) (z0 z1 : q_V) (st : List q_V) (v : q_H) (G : q_Gr) (Q : q_V → q_H → q_Gr → Prop) : q_wp d 33 10 [z0, z1] (.inr (.inr (.inl (some a))) :: st) v G Q = (((G.2.1 a).1 = 2) ∧ q_wp d 33 13 [z0, z1] (.inr (.inr (.inl (G.1 a 4))) :: st) v G Q) := q_w_getP c_33_10
theorem c_33_13 : q_code 33 13 = (.iload_n 1, 1, 0, 0, 0, 0, 0) := by decide +kernel
theorem e_33_13 (d : Nat) (a : Int) (z0 : q_V) (st : List q_V) (v : q_H) (G : q_Gr) (Q : q_V → q_H → q_Gr → Prop) : q_wp d 33 13 [z0, .inl a] st v G Q = q_wp d 33 14 [z0, .inl a] (.inl a :: st) v G Q := q_w_iload_n c_33_13 rfl
theorem c_33_14 : q_code 33 14 = (.baload, 1, 0, 0, 0, 0, 0) := by decide +kernel
theorem e_33_14 (d : Nat) (a : Nat) (i : Int) (z0 z1 : q_V) (st : List q_V) (v : q_H) (G : q_Gr) (Q : q_V → q_H → q_Gr → Prop) : q_wp d 33 14 [z0, z1] (.inl i :: .inr (.inr (.inl (some a))) :: st) v G Q = (((G.2.1 a).1 = 21 ∧ 0 ≤ i ∧ i < (G.2.1 a).2) ∧ q_wp d 33 15 [z0, z1] (.inl (v a i.toNat) :: st) v G Q) := q_w_bald c_33_14
theorem c_33_15 : q_code 33 15 = (.ifCond .eq 7, 3, 0, 0, 0, 0, 0) := by decide +kernel
theorem e_33_15 (d : Nat) (a : Int) (z0 z1 : q_V) (st : List q_V) (v : q_H) (G : q_Gr) (Q : q_V → q_H → q_Gr → Prop) : q_wp d 33 15 [z0, z1] (.inl a :: st) v G Q = ((q_inR a) ∧ if a = 0 then q_wp d 33 22 [z0, z1] st v G Q else q_wp d 33 18 [z0, z1] st v G Q) := q_w_if_eq c_33_15 (by decide)
theorem c_33_18 : q_code 33 18 = (.iconst 1, 1, 0, 0, 0, 0, 0) := by decide +kernel
theorem e_33_18 (d : Nat)  (z0 z1 : q_V) (st : List q_V) (v : q_H) (G : q_Gr) (Q : q_V → q_H → q_Gr → Prop) : q_wp d 33 18 [z0, z1] st v G Q = q_wp d 33 19 [z0, z1] (.inl 1 :: st) v G Q := q_w_iconst c_33_18
theorem c_33_19 : q_code 33 19 = (.goto 4, 3, 0, 0, 0, 0, 0) := by decide +kernel
theorem e_33_19 (d : Nat)  (z0 z1 : q_V) (st : List q_V) (v : q_H) (G : q_Gr) (Q : q_V → q_H → q_Gr → Prop) : q_wp d 33 19 [z0, z1] st v G Q = q_wp d 33 23 [z0, z1] st v G Q := q_w_goto c_33_19 (by decide)
theorem c_33_22 : q_code 33 22 = (.iconst 0, 1, 0, 0, 0, 0, 0) := by decide +kernel
theorem e_33_22 (d : Nat)  (z0 z1 : q_V) (st : List q_V) (v : q_H) (G : q_Gr) (Q : q_V → q_H → q_Gr → Prop) : q_wp d 33 22 [z0, z1] st v G Q = q_wp d 33 23 [z0, z1] (.inl 0 :: st) v G Q := q_w_iconst c_33_22
theorem c_33_23 : q_code 33 23 = (.ireturn, 1, 0, 0, 0, 0, 0) := by decide +kernel
theorem e_33_23 (d : Nat) (a : Int) (z0 z1 : q_V) (v : q_H) (G : q_Gr) (Q : q_V → q_H → q_Gr → Prop) : q_wp d 33 23 [z0, z1] [.inl a] v G Q = ((0 ≤ a ∧ a ≤ 1) ∧ Q (.inl a) v G) := q_w_zreturn c_33_23 rfl
theorem e_33 (d : Nat) (a0 : Nat) (a1 : Int) (v : q_H) (G : q_Gr) (Q : q_V → q_H → q_Gr → Prop) : q_call (d + 1) 33 [.inr (.inr (.inl (some a0))), .inl a1] v G Q = ((G.2.1 a0).1 = 2 ∧ q_wp d 33 0 [.inr (.inr (.inl (some a0))), .inl a1] [] v G Q) := by
  rw [q_call_in (by decide) (Nat.le_of_ble_eq_true rfl) rfl]
  exact congrArg (· ∧ _) (propext beq_iff_eq)
/-- all but the heads of loops: [] -/
def E33 := And.intro @e_33 (And.intro @e_33_0 (And.intro @e_33_1 (And.intro @e_33_3 (And.intro @e_33_6 (And.intro @e_33_9 (And.intro @e_33_10 (And.intro @e_33_13 (And.intro @e_33_14 (And.intro @e_33_15 (And.intro @e_33_18 (And.intro @e_33_19 (And.intro @e_33_22 (@e_33_23)))))))))))))
/-! ProvenRows$Checker.takeRows(LProvenRows$Rows;II)V -/
theorem c_34_0 : q_code 34 0 = (.iload_n 2, 1, 0, 0, 0, 0, 0) := by decide +kernel
theorem e_34_0 (d : Nat) (a : Int) (z0 z1 z3 z4 : q_V) (st : List q_V) (v : q_H) (G : q_Gr) (Q : q_V → q_H → q_Gr → Prop) : q_wp d 34 0 [z0, z1, .inl a, z3, z4] st v G Q = q_wp d 34 1 [z0, z1, .inl a, z3, z4] (.inl a :: st) v G Q := q_w_iload_n c_34_0 rfl
theorem c_34_1 : q_code 34 1 = (.iconst 1, 1, 0, 0, 0, 0, 0) := by decide +kernel
theorem e_34_1 (d : Nat)  (z0 z1 z2 z3 z4 : q_V) (st : List q_V) (v : q_H) (G : q_Gr) (Q : q_V → q_H → q_Gr → Prop) : q_wp d 34 1 [z0, z1, z2, z3, z4] st v G Q = q_wp d 34 2 [z0, z1, z2, z3, z4] (.inl 1 :: st) v G Q := q_w_iconst c_34_1
theorem c_34_2 : q_code 34 2 = (.iadd, 1, 0, 0, 0, 0, 0) := by decide +kernel
theorem e_34_2 (d : Nat) (a b : Int) (z0 z1 z2 z3 z4 : q_V) (st : List q_V) (v : q_H) (G : q_Gr) (Q : q_V → q_H → q_Gr → Prop) : q_wp d 34 2 [z0, z1, z2, z3, z4] (.inl b :: .inl a :: st) v G Q = q_wp d 34 3 [z0, z1, z2, z3, z4] (.inl (a + b) :: st) v G Q := q_w_iadd c_34_2
theorem c_34_3 : q_code 34 3 = (.istore 4, 2, 0, 0, 0, 0, 0) := by decide +kernel
theorem e_34_3 (d : Nat) (a : Int) (z0 z1 z2 z3 z4 : q_V) (st : List q_V) (v : q_H) (G : q_Gr) (Q : q_V → q_H → q_Gr → Prop) : q_wp d 34 3 [z0, z1, z2, z3, z4] (.inl a :: st) v G Q = q_wp d 34 5 [z0, z1, z2, z3, .inl a] st v G Q := q_w_istore c_34_3
theorem c_34_5 : q_code 34 5 = (.iload 4, 2, 0, 0, 0, 0, 0) := by decide +kernel
theorem e_34_5 (d : Nat) (a : Int) (z0 z1 z2 z3 : q_V) (st : List q_V) (v : q_H) (G : q_Gr) (Q : q_V → q_H → q_Gr → Prop) : q_wp d 34 5 [z0, z1, z2, z3, .inl a] st v G Q = q_wp d 34 7 [z0, z1, z2, z3, .inl a] (.inl a :: st) v G Q := q_w_iload c_34_5 rfl
theorem c_34_7 : q_code 34 7 = (.iload_n 3, 1, 0, 0, 0, 0, 0) := by decide +kernel
theorem e_34_7 (d : Nat) (a : Int) (z0 z1 z2 z4 : q_V) (st : List q_V) (v : q_H) (G : q_Gr) (Q : q_V → q_H → q_Gr → Prop) : q_wp d 34 7 [z0, z1, z2, .inl a, z4] st v G Q = q_wp d 34 8 [z0, z1, z2, .inl a, z4] (.inl a :: st) v G Q := q_w_iload_n c_34_7 rfl
theorem c_34_8 : q_code 34 8 = (.if_icmp .ge 72, 3, 0, 0, 0, 0, 0) := by decide +kernel
theorem e_34_8 (d : Nat) (a b : Int) (z0 z1 z2 z3 z4 : q_V) (st : List q_V) (v : q_H) (G : q_Gr) (Q : q_V → q_H → q_Gr → Prop) : q_wp d 34 8 [z0, z1, z2, z3, z4] (.inl b :: .inl a :: st) v G Q = ((q_inR a ∧ q_inR b) ∧ if b ≤ a then q_wp d 34 80 [z0, z1, z2, z3, z4] st v G Q else q_wp d 34 11 [z0, z1, z2, z3, z4] st v G Q) := q_w_icmp_ge c_34_8 (by decide)
theorem c_34_11 : q_code 34 11 = (.iload 4, 2, 0, 0, 0, 0, 0) := by decide +kernel
theorem e_34_11 (d : Nat) (a : Int) (z0 z1 z2 z3 : q_V) (st : List q_V) (v : q_H) (G : q_Gr) (Q : q_V → q_H → q_Gr → Prop) : q_wp d 34 11 [z0, z1, z2, z3, .inl a] st v G Q = q_wp d 34 13 [z0, z1, z2, z3, .inl a] (.inl a :: st) v G Q := q_w_iload c_34_11 rfl
theorem c_34_13 : q_code 34 13 = (.bipush 16, 2, 0, 0, 0, 0, 0) := by decide +kernel
theorem e_34_13 (d : Nat)  (z0 z1 z2 z3 z4 : q_V) (st : List q_V) (v : q_H) (G : q_Gr) (Q : q_V → q_H → q_Gr → Prop) : q_wp d 34 13 [z0, z1, z2, z3, z4] st v G Q = q_wp d 34 15 [z0, z1, z2, z3, z4] (.inl 16 :: st) v G Q := (q_w_bipush c_34_13).trans (by simp only [show ((-128 : Int) ≤ 16 ∧ (16 : Int) ≤ 127) = True by decide, true_and])
theorem c_34_15 : q_code 34 15 = (.if_icmp .ge 65, 3, 0, 0, 0, 0, 0) := by decide +kernel
theorem e_34_15 (d : Nat) (a b : Int) (z0 z1 z2 z3 z4 : q_V) (st : List q_V) (v : q_H) (G : q_Gr) (Q : q_V → q_H → q_Gr → Prop) : q_wp d 34 15 [z0, z1, z2, z3, z4] (.inl b :: .inl a :: st) v G Q = ((q_inR a ∧ q_inR b) ∧ if b ≤ a then q_wp d 34 80 [z0, z1, z2, z3, z4] st v G Q else q_wp d 34 18 [z0, z1, z2, z3, z4] st v G Q) := q_w_icmp_ge c_34_15 (by decide)
theorem c_34_18 : q_code 34 18 = (.aload_n 0, 1, 0, 0, 0, 0, 0) := by decide +kernel
theorem e_34_18 (d : Nat) (a : Option Nat) (z1 z2 z3 z4 : q_V) (st : List q_V) (v : q_H) (G : q_Gr) (Q : q_V → q_H → q_Gr → Prop) : q_wp d 34 18 [.inr (.inr (.inl a)), z1, z2, z3, z4] st v G Q = q_wp d 34 19 [.inr (.inr (.inl a)), z1, z2, z3, z4] (.inr (.inr (.inl a)) :: st) v G Q := q_w_aload_n c_34_18 rfl
theorem c_34_19 : q_code 34 19 = (.dup, 1, 0, 0, 0, 0, 0) := by decide +kernel
theorem e_34_19 (d : Nat) (a : Option Nat) (z0 z1 z2 z3 z4 : q_V) (st : List q_V) (v : q_H) (G : q_Gr) (Q : q_V → q_H → q_Gr → Prop) : q_wp d 34 19 [z0, z1, z2, z3, z4] (.inr (.inr (.inl a)) :: st) v G Q = q_wp d 34 20 [z0, z1, z2, z3, z4] (.inr (.inr (.inl a)) :: .inr (.inr (.inl a)) :: st) v G Q := q_w_dupP c_34_19
theorem c_34_20 : q_code 34 20 = (.getfield 61, 3, 2, 12, 0, 207, 0) := by decide +kernel
theorem e_34_20 (d : Nat) (a : Nat) (z0 z1 z2 z3 z4 : q_V) (st : List q_V) (v : q_H) (G : q_Gr) (Q : q_V → q_H → q_Gr → Prop) : q_wp d 34 20 [z0, z1, z2, z3, z4] (.inr (.inr (.inl (some a))) :: st) v G Q = (((G.2.1 a).1 = 2) ∧ q_wp d 34 23 [z0, z1, z2, z3, z4] (.inl (v a 12) :: st) v G Q) := q_w_getI c_34_20
theorem c_34_23 : q_code 34 23 = (.aload_n 0, 1, 0, 0, 0, 0, 0) := by decide +kernel
theorem e_34_23 (d : Nat) (a : Option Nat) (z1 z2 z3 z4 : q_V) (st : List q_V) (v : q_H) (G : q_Gr) (Q : q_V → q_H → q_Gr → Prop) : q_wp d 34 23 [.inr (.inr (.inl a)), z1, z2, z3, z4] st v G Q = q_wp d 34 24 [.inr (.inr (.inl a)), z1, z2, z3, z4] (.inr (.inr (.inl a)) :: st) v G Q := q_w_aload_n c_34_23 rfl
theorem c_34_24 : q_code 34 24 = (.getfield 38, 3, 2, 7, 1, 202, 0) := by decide +kernel
theorem e_34_24 (d : Nat) (a : Nat) (z0 z1 z2 z3 z4 : q_V) (st : List q_V) (v : q_H) (G : q_Gr) (Q : q_V → q_H → q_Gr → Prop) : q_wp d 34 24 [z0, z1, z2, z3, z4] (.inr (.inr (.inl (some a))) :: st) v G Q = (((G.2.1 a).1 = 2) ∧ q_wp d 34 27 [z0, z1, z2, z3, z4] (.inr (.inr (.inl (G.1 a 7))) :: st) v G Q) := q_w_getP c_34_24
theorem c_34_27 : q_code 34 27 = (.iload 4, 2, 0, 0, 0, 0, 0) := by decide +kernel
theorem e_34_27 (d : Nat) (a : Int) (z0 z1 z2 z3 : q_V) (st : List q_V) (v : q_H) (G : q_Gr) (Q : q_V → q_H → q_Gr → Prop) : q_wp d 34 27 [z0, z1, z2, z3, .inl a] st v G Q = q_wp d 34 29 [z0, z1, z2, z3, .inl a] (.inl a :: st) v G Q := q_w_iload c_34_27 rfl
theorem c_34_29 : q_code 34 29 = (.iaload, 1, 0, 0, 0, 0, 0) := by decide +kernel
theorem e_34_29 (d : Nat) (a : Nat) (i : Int) (z0 z1 z2 z3 z4 : q_V) (st : List q_V) (v : q_H) (G : q_Gr) (Q : q_V → q_H → q_Gr → Prop) : q_wp d 34 29 [z0, z1, z2, z3, z4] (.inl i :: .inr (.inr (.inl (some a))) :: st) v G Q = (((G.2.1 a).1 = 20 ∧ 0 ≤ i ∧ i < (G.2.1 a).2) ∧ q_wp d 34 30 [z0, z1, z2, z3, z4] (.inl (v a i.toNat) :: st) v G Q) := q_w_iald c_34_29
theorem c_34_30 : q_code 34 30 = (.iadd, 1, 0, 0, 0, 0, 0) := by decide +kernel
theorem e_34_30 (d : Nat) (a b : Int) (z0 z1 z2 z3 z4 : q_V) (st : List q_V) (v : q_H) (G : q_Gr) (Q : q_V → q_H → q_Gr → Prop) : q_wp d 34 30 [z0, z1, z2, z3, z4] (.inl b :: .inl a :: st) v G Q = q_wp d 34 31 [z0, z1, z2, z3, z4] (.inl (a + b) :: st) v G Q := q_w_iadd c_34_30
theorem c_34_31 : q_code 34 31 = (.putfield 61, 3, 2, 12, 0, 207, 0) := by decide +kernel
theorem e_34_31 (d : Nat) (a : Nat) (b : Int) (z0 z1 z2 z3 z4 : q_V) (st : List q_V) (v : q_H) (G : q_Gr) (Q : q_V → q_H → q_Gr → Prop) : q_wp d 34 31 [z0, z1, z2, z3, z4] (.inl b :: .inr (.inr (.inl (some a))) :: st) v G Q = (((G.2.1 a).1 = 2) ∧ q_wp d 34 34 [z0, z1, z2, z3, z4] st (q_up v a 12 b) G Q) := q_w_putI c_34_31
theorem c_34_34 : q_code 34 34 = (.aload_n 0, 1, 0, 0, 0, 0, 0) := by decide +kernel
theorem e_34_34 (d : Nat) (a : Option Nat) (z1 z2 z3 z4 : q_V) (st : List q_V) (v : q_H) (G : q_Gr) (Q : q_V → q_H → q_Gr → Prop) : q_wp d 34 34 [.inr (.inr (.inl a)), z1, z2, z3, z4] st v G Q = q_wp d 34 35 [.inr (.inr (.inl a)), z1, z2, z3, z4] (.inr (.inr (.inl a)) :: st) v G Q := q_w_aload_n c_34_34 rfl
theorem c_34_35 : q_code 34 35 = (.iload 4, 2, 0, 0, 0, 0, 0) := by decide +kernel
theorem e_34_35 (d : Nat) (a : Int) (z0 z1 z2 z3 : q_V) (st : List q_V) (v : q_H) (G : q_Gr) (Q : q_V → q_H → q_Gr → Prop) : q_wp d 34 35 [z0, z1, z2, z3, .inl a] st v G Q = q_wp d 34 37 [z0, z1, z2, z3, .inl a] (.inl a :: st) v G Q := q_w_iload c_34_35 rfl
theorem c_34_37 : q_code 34 37 = (.invokevirtual 184, 3, 33, 2, 0, 835, 1) := by decide +kernel
theorem e_34_37 (d : Nat) (x0 x1 : q_V) (z0 z1 z2 z3 z4 : q_V) (v : q_H) (G : q_Gr) (Q : q_V → q_H → q_Gr → Prop) : q_wp d 34 37 [z0, z1, z2, z3, z4] [x1, x0] v G Q = q_call d 33 [x0, x1] v G (fun r v G => q_wp d 34 40 [z0, z1, z2, z3, z4] (q_push r []) v G Q) := q_wp_ca (m2 := 33) (k := 2) (as := [x0, x1]) (rest := []) (congrArg q_kind c_34_37) (congrArg (fun w => w.2.2.1) c_34_37) (congrArg (fun w => w.2.2.2.1) c_34_37) rfl (Nat.le_of_ble_eq_true rfl) rfl
theorem c_34_40 : q_code 34 40 = (.ifCond .eq 34, 3, 0, 0, 0, 0, 0) := by decide +kernel
theorem e_34_40 (d : Nat) (a : Int) (z0 z1 z2 z3 z4 : q_V) (st : List q_V) (v : q_H) (G : q_Gr) (Q : q_V → q_H → q_Gr → Prop) : q_wp d 34 40 [z0, z1, z2, z3, z4] (.inl a :: st) v G Q = ((q_inR a) ∧ if a = 0 then q_wp d 34 74 [z0, z1, z2, z3, z4] st v G Q else q_wp d 34 43 [z0, z1, z2, z3, z4] st v G Q) := q_w_if_eq c_34_40 (by decide)
theorem c_34_43 : q_code 34 43 = (.aload_n 0, 1, 0, 0, 0, 0, 0) := by decide +kernel
theorem e_34_43 (d : Nat) (a : Option Nat) (z1 z2 z3 z4 : q_V) (st : List q_V) (v : q_H) (G : q_Gr) (Q : q_V → q_H → q_Gr → Prop) : q_wp d 34 43 [.inr (.inr (.inl a)), z1, z2, z3, z4] st v G Q = q_wp d 34 44 [.inr (.inr (.inl a)), z1, z2, z3, z4] (.inr (.inr (.inl a)) :: st) v G Q := q_w_aload_n c_34_43 rfl
theorem c_34_44 : q_code 34 44 = (.getfield 34, 3, 2, 6, 1, 201, 0) := by decide +kernel
theorem e_34_44 (d : Nat) (a : Nat) (z0 z1 z2 z3 z4 : q_V) (st : List q_V) (v : q_H) (G : q_Gr) (Q : q_V → q_H → q_Gr → Prop) : q_wp d 34 44 [z0, z1, z2, z3, z4] (.inr (.inr (.inl (some a))) :: st) v G Q = (((G.2.1 a).1 = 2) ∧ q_wp d 34 47 [z0, z1, z2, z3, z4] (.inr (.inr (.inl (G.1 a 6))) :: st) v G Q) := q_w_getP c_34_44
theorem c_34_47 : q_code 34 47 = (.iload 4, 2, 0, 0, 0, 0, 0) := by decide +kernel
theorem e_34_47 (d : Nat) (a : Int) (z0 z1 z2 z3 : q_V) (st : List q_V) (v : q_H) (G : q_Gr) (Q : q_V → q_H → q_Gr → Prop) : q_wp d 34 47 [z0, z1, z2, z3, .inl a] st v G Q = q_wp d 34 49 [z0, z1, z2, z3, .inl a] (.inl a :: st) v G Q := q_w_iload c_34_47 rfl
theorem c_34_49 : q_code 34 49 = (.iaload, 1, 0, 0, 0, 0, 0) := by decide +kernel
theorem e_34_49 (d : Nat) (a : Nat) (i : Int) (z0 z1 z2 z3 z4 : q_V) (st : List q_V) (v : q_H) (G : q_Gr) (Q : q_V → q_H → q_Gr → Prop) : q_wp d 34 49 [z0, z1, z2, z3, z4] (.inl i :: .inr (.inr (.inl (some a))) :: st) v G Q = (((G.2.1 a).1 = 20 ∧ 0 ≤ i ∧ i < (G.2.1 a).2) ∧ q_wp d 34 50 [z0, z1, z2, z3, z4] (.inl (v a i.toNat) :: st) v G Q) := q_w_iald c_34_49
theorem c_34_50 : q_code 34 50 = (.sipush 1000, 3, 0, 0, 0, 0, 0) := by decide +kernel
theorem e_34_50 (d : Nat)  (z0 z1 z2 z3 z4 : q_V) (st : List q_V) (v : q_H) (G : q_Gr) (Q : q_V → q_H → q_Gr → Prop) : q_wp d 34 50 [z0, z1, z2, z3, z4] st v G Q = q_wp d 34 53 [z0, z1, z2, z3, z4] (.inl 1000 :: st) v G Q := (q_w_sipush c_34_50).trans (by simp only [show ((-32768 : Int) ≤ 1000 ∧ (1000 : Int) ≤ 32767) = True by decide, true_and])
theorem c_34_53 : q_code 34 53 = (.if_icmp .ge 21, 3, 0, 0, 0, 0, 0) := by decide +kernel
theorem e_34_53 (d : Nat) (a b : Int) (z0 z1 z2 z3 z4 : q_V) (st : List q_V) (v : q_H) (G : q_Gr) (Q : q_V → q_H → q_Gr → Prop) : q_wp d 34 53 [z0, z1, z2, z3, z4] (.inl b :: .inl a :: st) v G Q = ((q_inR a ∧ q_inR b) ∧ if b ≤ a then q_wp d 34 74 [z0, z1, z2, z3, z4] st v G Q else q_wp d 34 56 [z0, z1, z2, z3, z4] st v G Q) := q_w_icmp_ge c_34_53 (by decide)
theorem c_34_56 : q_code 34 56 = (.aload_n 1, 1, 0, 0, 0, 0, 0) := by decide +kernel
theorem e_34_56 (d : Nat) (a : Option Nat) (z0 z2 z3 z4 : q_V) (st : List q_V) (v : q_H) (G : q_Gr) (Q : q_V → q_H → q_Gr → Prop) : q_wp d 34 56 [z0, .inr (.inr (.inl a)), z2, z3, z4] st v G Q = q_wp d 34 57 [z0, .inr (.inr (.inl a)), z2, z3, z4] (.inr (.inr (.inl a)) :: st) v G Q := q_w_aload_n c_34_56 rfl
theorem c_34_57 : q_code 34 57 = (.aload_n 0, 1, 0, 0, 0, 0, 0) := by decide +kernel
theorem e_34_57 (d : Nat) (a : Option Nat) (z1 z2 z3 z4 : q_V) (st : List q_V) (v : q_H) (G : q_Gr) (Q : q_V → q_H → q_Gr → Prop) : q_wp d 34 57 [.inr (.inr (.inl a)), z1, z2, z3, z4] st v G Q = q_wp d 34 58 [.inr (.inr (.inl a)), z1, z2, z3, z4] (.inr (.inr (.inl a)) :: st) v G Q := q_w_aload_n c_34_57 rfl
theorem c_34_58 : q_code 34 58 = (.getfield 34, 3, 2, 6, 1, 201, 0) := by decide +kernel
theorem e_34_58 (d : Nat) (a : Nat) (z0 z1 z2 z3 z4 : q_V) (st : List q_V) (v : q_H) (G : q_Gr) (Q : q_V → q_H → q_Gr → Prop) : q_wp d 34 58 [z0, z1, z2, z3, z4] (.inr (.inr (.inl (some a))) :: st) v G Q = (((G.2.1 a).1 = 2) ∧ q_wp d 34 61 [z0, z1, z2, z3, z4] (.inr (.inr (.inl (G.1 a 6))) :: st) v G Q) := q_w_getP c_34_58
theorem c_34_61 : q_code 34 61 = (.iload 4, 2, 0, 0, 0, 0, 0) := by decide +kernel
theorem e_34_61 (d : Nat) (a : Int) (z0 z1 z2 z3 : q_V) (st : List q_V) (v : q_H) (G : q_Gr) (Q : q_V → q_H → q_Gr → Prop) : q_wp d 34 61 [z0, z1, z2, z3, .inl a] st v G Q = q_wp d 34 63 [z0, z1, z2, z3, .inl a] (.inl a :: st) v G Q := q_w_iload c_34_61 rfl
theorem c_34_63 : q_code 34 63 = (.iaload, 1, 0, 0, 0, 0, 0) := by decide +kernel
theorem e_34_63 (d : Nat) (a : Nat) (i : Int) (z0 z1 z2 z3 z4 : q_V) (st : List q_V) (v : q_H) (G : q_Gr) (Q : q_V → q_H → q_Gr → Prop) : q_wp d 34 63 [z0, z1, z2, z3, z4] (.inl i :: .inr (.inr (.inl (some a))) :: st) v G Q = (((G.2.1 a).1 = 20 ∧ 0 ≤ i ∧ i < (G.2.1 a).2) ∧ q_wp d 34 64 [z0, z1, z2, z3, z4] (.inl (v a i.toNat) :: st) v G Q) := q_w_iald c_34_63
theorem c_34_64 : q_code 34 64 = (.aload_n 0, 1, 0, 0, 0, 0, 0) := by decide +kernel
theorem e_34_64 (d : Nat) (a : Option Nat) (z1 z2 z3 z4 : q_V) (st : List q_V) (v : q_H) (G : q_Gr) (Q : q_V → q_H → q_Gr → Prop) : q_wp d 34 64 [.inr (.inr (.inl a)), z1, z2, z3, z4] st v G Q = q_wp d 34 65 [.inr (.inr (.inl a)), z1, z2, z3, z4] (.inr (.inr (.inl a)) :: st) v G Q := q_w_aload_n c_34_64 rfl
theorem c_34_65 : q_code 34 65 = (.getfield 38, 3, 2, 7, 1, 202, 0) := by decide +kernel
theorem e_34_65 (d : Nat) (a : Nat) (z0 z1 z2 z3 z4 : q_V) (st : List q_V) (v : q_H) (G : q_Gr) (Q : q_V → q_H → q_Gr → Prop) : q_wp d 34 65 [z0, z1, z2, z3, z4] (.inr (.inr (.inl (some a))) :: st) v G Q = (((G.2.1 a).1 = 2) ∧ q_wp d 34 68 [z0, z1, z2, z3, z4] (.inr (.inr (.inl (G.1 a 7))) :: st) v G Q) := q_w_getP c_34_65
theorem c_34_68 : q_code 34 68 = (.iload 4, 2, 0, 0, 0, 0, 0) := by decide +kernel
theorem e_34_68 (d : Nat) (a : Int) (z0 z1 z2 z3 : q_V) (st : List q_V) (v : q_H) (G : q_Gr) (Q : q_V → q_H → q_Gr → Prop) : q_wp d 34 68 [z0, z1, z2, z3, .inl a] st v G Q = q_wp d 34 70 [z0, z1, z2, z3, .inl a] (.inl a :: st) v G Q := q_w_iload c_34_68 rfl
theorem c_34_70 : q_code 34 70 = (.iaload, 1, 0, 0, 0, 0, 0) := by decide +kernel
theorem e_34_70 (d : Nat) (a : Nat) (i : Int) (z0 z1 z2 z3 z4 : q_V) (st : List q_V) (v : q_H) (G : q_Gr) (Q : q_V → q_H → q_Gr → Prop) : q_wp d 34 70 [z0, z1, z2, z3, z4] (.inl i :: .inr (.inr (.inl (some a))) :: st) v G Q = (((G.2.1 a).1 = 20 ∧ 0 ≤ i ∧ i < (G.2.1 a).2) ∧ q_wp d 34 71 [z0, z1, z2, z3, z4] (.inl (v a i.toNat) :: st) v G Q) := q_w_iald c_34_70
theorem c_34_71 : q_code 34 71 = (.invokevirtual 187, 3, 78, 3, 0, 841, 0) := by decide +kernel
theorem e_34_71 (d : Nat) (x0 x1 x2 : q_V) (z0 z1 z2 z3 z4 : q_V) (v : q_H) (G : q_Gr) (Q : q_V → q_H → q_Gr → Prop) : q_wp d 34 71 [z0, z1, z2, z3, z4] [x2, x1, x0] v G Q = q_call d 78 [x0, x1, x2] v G (fun r v G => q_wp d 34 74 [z0, z1, z2, z3, z4] (q_push r []) v G Q) := q_wp_ca (m2 := 78) (k := 3) (as := [x0, x1, x2]) (rest := []) (congrArg q_kind c_34_71) (congrArg (fun w => w.2.2.1) c_34_71) (congrArg (fun w => w.2.2.2.1) c_34_71) rfl (Nat.le_of_ble_eq_true rfl) rfl
theorem c_34_74 : q_code 34 74 = (.iinc 4 1, 3, 0, 0, 0, 0, 0) := by decide +kernel
theorem e_34_74 (d : Nat) (a : Int) (z0 z1 z2 z3 : q_V) (st : List q_V) (v : q_H) (G : q_Gr) (Q : q_V → q_H → q_Gr → Prop) : q_wp d 34 74 [z0, z1, z2, z3, .inl a] st v G Q = q_wp d 34 77 [z0, z1, z2, z3, .inl (a + 1)] st v G Q := q_w_iinc c_34_74 rfl
theorem c_34_77 : q_code 34 77 = (.goto (-72), 3, 0, 0, 0, 0, 0) := by decide +kernel
theorem e_34_77 (d : Nat)  (z0 z1 z2 z3 z4 : q_V) (st : List q_V) (v : q_H) (G : q_Gr) (Q : q_V → q_H → q_Gr → Prop) : q_wp d 34 77 [z0, z1, z2, z3, z4] st v G Q = q_wp d 34 5 [z0, z1, z2, z3, z4] st v G Q := q_w_goto c_34_77 (by decide)
theorem c_34_80 : q_code 34 80 = (.return_, 1, 0, 0, 0, 0, 0) := by decide +kernel
theorem e_34_80 (d : Nat)  (z0 z1 z2 z3 z4 : q_V) (v : q_H) (G : q_Gr) (Q : q_V → q_H → q_Gr → Prop) : q_wp d 34 80 [z0, z1, z2, z3, z4] [] v G Q = Q (.inr (.inr (.inr ()))) v G := q_w_return c_34_80 rfl
theorem e_34 (d : Nat) (a0 : Nat) (a1 : Option Nat) (a2 : Int) (a3 : Int) (v : q_H) (G : q_Gr) (Q : q_V → q_H → q_Gr → Prop) : q_call (d + 1) 34 [.inr (.inr (.inl (some a0))), .inr (.inr (.inl a1)), .inl a2, .inl a3] v G Q = ((G.2.1 a0).1 = 2 ∧ q_wp d 34 0 [.inr (.inr (.inl (some a0))), .inr (.inr (.inl a1)), .inl a2, .inl a3, .inr (.inr (.inr ()))] [] v G Q) := by
  rw [q_call_in (by decide) (Nat.le_of_ble_eq_true rfl) rfl]
  exact congrArg (· ∧ _) (propext beq_iff_eq)
/-- all but the heads of loops: [5] -/
def E34 := And.intro @e_34 (And.intro @e_34_0 (And.intro @e_34_1 (And.intro @e_34_2 (And.intro @e_34_3 (And.intro @e_34_7 (And.intro @e_34_8 (And.intro @e_34_11 (And.intro @e_34_13 (And.intro @e_34_15 (And.intro @e_34_18 (And.intro @e_34_19 (And.intro @e_34_20 (And.intro @e_34_23 (And.intro @e_34_24 (And.intro @e_34_27 (And.intro @e_34_29 (And.intro @e_34_30 (And.intro @e_34_31 (And.intro @e_34_34 (And.intro @e_34_35 (And.intro @e_34_37 (And.intro @e_34_40 (And.intro @e_34_43 (And.intro @e_34_44 (And.intro @e_34_47 (And.intro @e_34_49 (And.intro @e_34_50 (And.intro @e_34_53 (And.intro @e_34_56 (And.intro @e_34_57 (And.intro @e_34_58 (And.intro @e_34_61 (And.intro @e_34_63 (And.intro @e_34_64 (And.intro @e_34_65 (And.intro @e_34_68 (And.intro @e_34_70 (And.intro @e_34_71 (And.intro @e_34_74 (And.intro @e_34_77 (@e_34_80)))))))))))))))))))))))))))))))))))))))))
/-! ProvenRows$Numbers.<init>(I)V -/
theorem c_35_0 : q_code 35 0 = (.aload_n 0, 1, 0, 0, 0, 0, 0) := by decide +kernel
theorem e_35_0 (d : Nat) (a : Option Nat) (z1 : q_V) (st : List q_V) (v : q_H) (G : q_Gr) (Q : q_V → q_H → q_Gr → Prop) : q_wp d 35 0 [.inr (.inr (.inl a)), z1] st v G Q = q_wp d 35 1 [.inr (.inr (.inl a)), z1] (.inr (.inr (.inl a)) :: st) v G Q := q_w_aload_n c_35_0 rfl
theorem c_35_1 : q_code 35 1 = (.invokespecial 3, 3, 1000, 1, 0, 144, 0) := by decide +kernel
theorem e_35_1 (d : Nat) (a : Nat) (z0 z1 : q_V) (v : q_H) (G : q_Gr) (Q : q_V → q_H → q_Gr → Prop) : q_wp d 35 1 [z0, z1] [.inr (.inr (.inl (some a)))] v G Q = q_wp d 35 4 [z0, z1] [] v G Q := q_w_obj c_35_1 (Nat.le_of_ble_eq_true rfl)
theorem c_35_4 : q_code 35 4 = (.aload_n 0, 1, 0, 0, 0, 0, 0) := by decide +kernel
theorem e_35_4 (d : Nat) (a : Option Nat) (z1 : q_V) (st : List q_V) (v : q_H) (G : q_Gr) (Q : q_V → q_H → q_Gr → Prop) : q_wp d 35 4 [.inr (.inr (.inl a)), z1] st v G Q = q_wp d 35 5 [.inr (.inr (.inl a)), z1] (.inr (.inr (.inl a)) :: st) v G Q := q_w_aload_n c_35_4 rfl
theorem c_35_5 : q_code 35 5 = (.iload_n 1, 1, 0, 0, 0, 0, 0) := by decide +kernel
theorem e_35_5 (d : Nat) (a : Int) (z0 : q_V) (st : List q_V) (v : q_H) (G : q_Gr) (Q : q_V → q_H → q_Gr → Prop) : q_wp d 35 5 [z0, .inl a] st v G Q = q_wp d 35 6 [z0, .inl a] (.inl a :: st) v G Q := q_w_iload_n c_35_5 rfl
theorem c_35_6 : q_code 35 6 = (.iconst 0, 1, 0, 0, 0, 0, 0) := by decide +kernel
theorem e_35_6 (d : Nat)  (z0 z1 : q_V) (st : List q_V) (v : q_H) (G : q_Gr) (Q : q_V → q_H → q_Gr → Prop) : q_wp d 35 6 [z0, z1] st v G Q = q_wp d 35 7 [z0, z1] (.inl 0 :: st) v G Q := q_w_iconst c_35_6
theorem c_35_7 : q_code 35 7 = (.invokestatic 9, 3, 1004, 2, 0, 145, 1) := by decide +kernel
theorem e_35_7 (d : Nat) (a b : Int) (y0 : q_V) (z0 z1 : q_V) (v : q_H) (G : q_Gr) (Q : q_V → q_H → q_Gr → Prop) : q_wp d 35 7 [z0, z1] [.inl b, .inl a, y0] v G Q = ((q_inR a ∧ q_inR b) ∧ q_wp d 35 10 [z0, z1] [.inl (if a < b then b else a), y0] v G Q) := q_w_max c_35_7 (Nat.le_of_ble_eq_true rfl)
theorem c_35_10 : q_code 35 10 = (.newarray .int, 2, 0, 0, 0, 0, 0) := by decide +kernel
theorem e_35_10 (d : Nat) (a : Int) (z0 z1 : q_V) (st : List q_V) (v : q_H) (G : q_Gr) (Q : q_V → q_H → q_Gr → Prop) : q_wp d 35 10 [z0, z1] (.inl a :: st) v G Q = ((0 ≤ a ∧ q_room G a.toNat) ∧ q_wp d 35 12 [z0, z1] (.inr (.inr (.inl (some (32 + G.2.2.1)))) :: st) (q_zr v (32 + G.2.2.1)) (q_mk G 20 a.toNat) Q) := q_w_newI c_35_10
theorem c_35_12 : q_code 35 12 = (.putfield 15, 3, 3, 0, 1, 148, 0) := by decide +kernel
theorem e_35_12 (d : Nat) (a : Nat) (b : Option Nat) (z0 z1 : q_V) (st : List q_V) (v : q_H) (G : q_Gr) (Q : q_V → q_H → q_Gr → Prop) : q_wp d 35 12 [z0, z1] (.inr (.inr (.inl b)) :: .inr (.inr (.inl (some a))) :: st) v G Q = (((G.2.1 a).1 = 3) ∧ q_wp d 35 15 [z0, z1] st v (q_upr G.1 a 0 b, G.2) Q) := q_w_putP c_35_12
theorem c_35_15 : q_code 35 15 = (.return_, 1, 0, 0, 0, 0, 0) := by decide +kernel
theorem e_35_15 (d : Nat)  (z0 z1 : q_V) (v : q_H) (G : q_Gr) (Q : q_V → q_H → q_Gr → Prop) : q_wp d 35 15 [z0, z1] [] v G Q = Q (.inr (.inr (.inr ()))) v G := q_w_return c_35_15 rfl
theorem e_35 (d : Nat) (a0 : Nat) (a1 : Int) (v : q_H) (G : q_Gr) (Q : q_V → q_H → q_Gr → Prop) : q_call (d + 1) 35 [.inr (.inr (.inl (some a0))), .inl a1] v G Q = ((G.2.1 a0).1 = 3 ∧ q_wp d 35 0 [.inr (.inr (.inl (some a0))), .inl a1] [] v G Q) := by
  rw [q_call_in (by decide) (Nat.le_of_ble_eq_true rfl) rfl]
  exact congrArg (· ∧ _) (propext beq_iff_eq)
/-- all but the heads of loops: [] -/
def E35 := And.intro @e_35 (And.intro @e_35_0 (And.intro @e_35_1 (And.intro @e_35_4 (And.intro @e_35_5 (And.intro @e_35_6 (And.intro @e_35_7 (And.intro @e_35_10 (And.intro @e_35_12 (@e_35_15)))))))))
/-! ProvenRows$Numbers.clear()V -/
theorem c_36_0 : q_code 36 0 = (.aload_n 0, 1, 0, 0, 0, 0, 0) := by decide +kernel
theorem e_36_0 (d : Nat) (a : Option Nat) (st : List q_V) (v : q_H) (G : q_Gr) (Q : q_V → q_H → q_Gr → Prop) : q_wp d 36 0 [.inr (.inr (.inl a))] st v G Q = q_wp d 36 1 [.inr (.inr (.inl a))] (.inr (.inr (.inl a)) :: st) v G Q := q_w_aload_n c_36_0 rfl
theorem c_36_1 : q_code 36 1 = (.iconst 0, 1, 0, 0, 0, 0, 0) := by decide +kernel
theorem e_36_1 (d : Nat)  (z0 : q_V) (st : List q_V) (v : q_H) (G : q_Gr) (Q : q_V → q_H → q_Gr → Prop) : q_wp d 36 1 [z0] st v G Q = q_wp d 36 2 [z0] (.inl 0 :: st) v G Q := q_w_iconst c_36_1
theorem c_36_2 : q_code 36 2 = (.putfield 21, 3, 3, 1, 0, 149, 0) := by decide +kernel
theorem e_36_2 (d : Nat) (a : Nat) (b : Int) (z0 : q_V) (st : List q_V) (v : q_H) (G : q_Gr) (Q : q_V → q_H → q_Gr → Prop) : q_wp d 36 2 [z0] (.inl b :: .inr (.inr (.inl (some a))) :: st) v G Q = (((G.2.1 a).1 = 3) ∧ q_wp d 36 5 [z0] st (q_up v a 1 b) G Q) := q_w_putI c_36_2
theorem c_36_5 : q_code 36 5 = (.return_, 1, 0, 0, 0, 0, 0) := by decide +kernel
theorem e_36_5 (d : Nat)  (z0 : q_V) (v : q_H) (G : q_Gr) (Q : q_V → q_H → q_Gr → Prop) : q_wp d 36 5 [z0] [] v G Q = Q (.inr (.inr (.inr ()))) v G := q_w_return c_36_5 rfl
theorem e_36 (d : Nat) (a0 : Nat) (v : q_H) (G : q_Gr) (Q : q_V → q_H → q_Gr → Prop) : q_call (d + 1) 36 [.inr (.inr (.inl (some a0)))] v G Q = ((G.2.1 a0).1 = 3 ∧ q_wp d 36 0 [.inr (.inr (.inl (some a0)))] [] v G Q) := by
  rw [q_call_in (by decide) (Nat.le_of_ble_eq_true rfl) rfl]
  exact congrArg (· ∧ _) (propext beq_iff_eq)
/-- all but the heads of loops: [] -/
def E36 := And.intro @e_36 (And.intro @e_36_0 (And.intro @e_36_1 (And.intro @e_36_2 (@e_36_5))))
/-! ProvenRows$Numbers.add(I)V -/
theorem c_37_0 : q_code 37 0 = (.aload_n 0, 1, 0, 0, 0, 0, 0) := by decide +kernel
theorem e_37_0 (d : Nat) (a : Option Nat) (z1 : q_V) (st : List q_V) (v : q_H) (G : q_Gr) (Q : q_V → q_H → q_Gr → Prop) : q_wp d 37 0 [.inr (.inr (.inl a)), z1] st v G Q = q_wp d 37 1 [.inr (.inr (.inl a)), z1] (.inr (.inr (.inl a)) :: st) v G Q := q_w_aload_n c_37_0 rfl
theorem c_37_1 : q_code 37 1 = (.getfield 21, 3, 3, 1, 0, 149, 0) := by decide +kernel
theorem e_37_1 (d : Nat) (a : Nat) (z0 z1 : q_V) (st : List q_V) (v : q_H) (G : q_Gr) (Q : q_V → q_H → q_Gr → Prop) : q_wp d 37 1 [z0, z1] (.inr (.inr (.inl (some a))) :: st) v G Q = (((G.2.1 a).1 = 3) ∧ q_wp d 37 4 [z0, z1] (.inl (v a 1) :: st) v G Q) := q_w_getI c_37_1
theorem c_37_4 : q_code 37 4 = (.aload_n 0, 1, 0, 0, 0, 0, 0) := by decide +kernel
theorem e_37_4 (d : Nat) (a : Option Nat) (z1 : q_V) (st : List q_V) (v : q_H) (G : q_Gr) (Q : q_V → q_H → q_Gr → Prop) : q_wp d 37 4 [.inr (.inr (.inl a)), z1] st v G Q = q_wp d 37 5 [.inr (.inr (.inl a)), z1] (.inr (.inr (.inl a)) :: st) v G Q := q_w_aload_n c_37_4 rfl
theorem c_37_5 : q_code 37 5 = (.getfield 15, 3, 3, 0, 1, 148, 0) := by decide +kernel
theorem e_37_5 (d : Nat) (a : Nat) (z0 z1 : q_V) (st : List q_V) (v : q_H) (G : q_Gr) (Q : q_V → q_H → q_Gr → Prop) : q_wp d 37 5 [z0, z1] (.inr (.inr (.inl (some a))) :: st) v G Q = (((G.2.1 a).1 = 3) ∧ q_wp d 37 8 [z0, z1] (.inr (.inr (.inl (G.1 a 0))) :: st) v G Q) := q_w_getP c_37_5
theorem c_37_8 : q_code 37 8 = (.arraylength, 1, 0, 0, 0, 0, 0) := by decide +kernel
theorem e_37_8 (d : Nat) (a : Nat) (z0 z1 : q_V) (st : List q_V) (v : q_H) (G : q_Gr) (Q : q_V → q_H → q_Gr → Prop) : q_wp d 37 8 [z0, z1] (.inr (.inr (.inl (some a))) :: st) v G Q = (((G.2.1 a).1 = 20 ∨ (G.2.1 a).1 = 21) ∧ q_wp d 37 9 [z0, z1] (.inl ((G.2.1 a).2 : Int) :: st) v G Q) := q_w_alen c_37_8
theorem c_37_9 : q_code 37 9 = (.if_icmp .ge 23, 3, 0, 0, 0, 0, 0) := by decide +kernel
theorem e_37_9 (d : Nat) (a b : Int) (z0 z1 : q_V) (st : List q_V) (v : q_H) (G : q_Gr) (Q : q_V → q_H → q_Gr → Prop) : q_wp d 37 9 [z0, z1] (.inl b :: .inl a :: st) v G Q = ((q_inR a ∧ q_inR b) ∧ if b ≤ a then q_wp d 37 32 [z0, z1] st v G Q else q_wp d 37 12 [z0, z1] st v G Q) := q_w_icmp_ge c_37_9 (by decide)
theorem c_37_12 : q_code 37 12 = (.aload_n 0, 1, 0, 0, 0, 0, 0) := by decide +kernel
theorem e_37_12 (d : Nat) (a : Option Nat) (z1 : q_V) (st : List q_V) (v : q_H) (G : q_Gr) (Q : q_V → q_H → q_Gr → Prop) : q_wp d 37 12 [.inr (.inr (.inl a)), z1] st v G Q = q_wp d 37 13 [.inr (.inr (.inl a)), z1] (.inr (.inr (.inl a)) :: st) v G Q := q_w_aload_n c_37_12 rfl
theorem c_37_13 : q_code 37 13 = (.getfield 15, 3, 3, 0, 1, 148, 0) := by decide +kernel
theorem e_37_13 (d : Nat) (a : Nat) (z0 z1 : q_V) (st : List q_V) (v : q_H) (G : q_Gr) (Q : q_V → q_H → q_Gr → Prop) : q_wp d 37 13 [z0, z1] (.inr (.inr (.inl (some a))) :: st) v G Q = (((G.2.1 a).1 = 3) ∧ q_wp d 37 16 [z0, z1] (.inr (.inr (.inl (G.1 a 0))) :: st) v G Q) := q_w_getP c_37_13
theorem c_37_16 : q_code 37 16 = (.aload_n 0, 1, 0, 0, 0, 0, 0) := by decide +kernel
theorem e_37_16 (d : Nat) (a : Option Nat) (z1 : q_V) (st : List q_V) (v : q_H) (G : q_Gr) (Q : q_V → q_H → q_Gr → Prop) : q_wp d 37 16 [.inr (.inr (.inl a)), z1] st v G Q = q_wp d 37 17 [.inr (.inr (.inl a)), z1] (.inr (.inr (.inl a)) :: st) v G Q := q_w_aload_n c_37_16 rfl
theorem c_37_17 : q_code 37 17 = (.getfield 21, 3, 3, 1, 0, 149, 0) := by decide +kernel
theorem e_37_17 (d : Nat) (a : Nat) (z0 z1 : q_V) (st : List q_V) (v : q_H) (G : q_Gr) (Q : q_V → q_H → q_Gr → Prop) : q_wp d 37 17 [z0, z1] (.inr (.inr (.inl (some a))) :: st) v G Q = (((G.2.1 a).1 = 3) ∧ q_wp d 37 20 [z0, z1] (.inl (v a 1) :: st) v G Q) := q_w_getI c_37_17
theorem c_37_20 : q_code 37 20 = (.iload_n 1, 1, 0, 0, 0, 0, 0) := by decide +kernel
theorem e_37_20 (d : Nat) (a : Int) (z0 : q_V) (st : List q_V) (v : q_H) (G : q_Gr) (Q : q_V → q_H → q_Gr → Prop) : q_wp d 37 20 [z0, .inl a] st v G Q = q_wp d 37 21 [z0, .inl a] (.inl a :: st) v G Q := q_w_iload_n c_37_20 rfl
theorem c_37_21 : q_code 37 21 = (.iastore, 1, 0, 0, 0, 0, 0) := by decide +kernel
theorem e_37_21 (d : Nat) (a : Nat) (i b : Int) (z0 z1 : q_V) (st : List q_V) (v : q_H) (G : q_Gr) (Q : q_V → q_H → q_Gr → Prop) : q_wp d 37 21 [z0, z1] (.inl b :: .inl i :: .inr (.inr (.inl (some a))) :: st) v G Q = (((G.2.1 a).1 = 20 ∧ 32 ≤ a ∧ 0 ≤ i ∧ i < (G.2.1 a).2) ∧ q_wp d 37 22 [z0, z1] st (q_up v a i.toNat b) G Q) := q_w_iast c_37_21
theorem c_37_22 : q_code 37 22 = (.aload_n 0, 1, 0, 0, 0, 0, 0) := by decide +kernel
theorem e_37_22 (d : Nat) (a : Option Nat) (z1 : q_V) (st : List q_V) (v : q_H) (G : q_Gr) (Q : q_V → q_H → q_Gr → Prop) : q_wp d 37 22 [.inr (.inr (.inl a)), z1] st v G Q = q_wp d 37 23 [.inr (.inr (.inl a)), z1] (.inr (.inr (.inl a)) :: st) v G Q := q_w_aload_n c_37_22 rfl
theorem c_37_23 : q_code 37 23 = (.dup, 1, 0, 0, 0, 0, 0) := by decide +kernel
theorem e_37_23 (d : Nat) (a : Option Nat) (z0 z1 : q_V) (st : List q_V) (v : q_H) (G : q_Gr) (Q : q_V → q_H → q_Gr → Prop) : q_wp d 37 23 [z0, z1] (.inr (.inr (.inl a)) :: st) v G Q = q_wp d 37 24 [z0, z1] (.inr (.inr (.inl a)) :: .inr (.inr (.inl a)) :: st) v G Q := q_w_dupP c_37_23
theorem c_37_24 : q_code 37 24 = (.getfield 21, 3, 3, 1, 0, 149, 0) := by decide +kernel
theorem e_37_24 (d : Nat) (a : Nat) (z0 z1 : q_V) (st : List q_V) (v : q_H) (G : q_Gr) (Q : q_V → q_H → q_Gr → Prop) : q_wp d 37 24 [z0, z1] (.inr (.inr (.inl (some a))) :: st) v G Q = (((G.2.1 a).1 = 3) ∧ q_wp d 37 27 [z0, z1] (.inl (v a 1) :: st) v G Q) := q_w_getI c_37_24
theorem c_37_27 : q_code 37 27 = (.iconst 1, 1, 0, 0, 0, 0, 0) := by decide +kernel
theorem e_37_27 (d : Nat)  (z0 z1 : q_V) (st : List q_V) (v : q_H) (G : q_Gr) (Q : q_V → q_H → q_Gr → Prop) : q_wp d 37 27 [z0, z1] st v G Q = q_wp d 37 28 [z0, z1] (.inl 1 :: st) v G Q := q_w_iconst c_37_27
theorem c_37_28 : q_code 37 28 = (.iadd, 1, 0, 0, 0, 0, 0) := by decide +kernel
theorem e_37_28 (d : Nat) (a b : Int) (z0 z1 : q_V) (st : List q_V) (v : q_H) (G : q_Gr) (Q : q_V → q_H → q_Gr → Prop) : q_wp d 37 28 [z0, z1] (.inl b :: .inl a :: st) v G Q = q_wp d 37 29 [z0, z1] (.inl (a + b) :: st) v G Q := q_w_iadd c_37_28
theorem c_37_29 : q_code 37 29 = (.putfield 21, 3, 3, 1, 0, 149, 0) := by decide +kernel
theorem e_37_29 (d : Nat) (a : Nat) (b : Int) (z0 z1 : q_V) (st : List q_V) (v : q_H) (G : q_Gr) (Q : q_V → q_H → q_Gr → Prop) : q_wp d 37 29 [z0, z1] (.inl b :: .inr (.inr (.inl (some a))) :: st) v G Q = (((G.2.1 a).1 = 3) ∧ q_wp d 37 32 [z0, z1] st (q_up v a 1 b) G Q) := q_w_putI c_37_29
theorem c_37_32 : q_code 37 32 = (.return_, 1, 0, 0, 0, 0, 0) := by decide +kernel
theorem e_37_32 (d : Nat)  (z0 z1 : q_V) (v : q_H) (G : q_Gr) (Q : q_V → q_H → q_Gr → Prop) : q_wp d 37 32 [z0, z1] [] v G Q = Q (.inr (.inr (.inr ()))) v G := q_w_return c_37_32 rfl
theorem e_37 (d : Nat) (a0 : Nat) (a1 : Int) (v : q_H) (G : q_Gr) (Q : q_V → q_H → q_Gr → Prop) : q_call (d + 1) 37 [.inr (.inr (.inl (some a0))), .inl a1] v G Q = ((G.2.1 a0).1 = 3 ∧ q_wp d 37 0 [.inr (.inr (.inl (some a0))), .inl a1] [] v G Q) := by
  rw [q_call_in (by decide) (Nat.le_of_ble_eq_true rfl) rfl]
  exact congrArg (· ∧ _) (propext beq_iff_eq)
/-- all but the heads of loops: [] -/
def E37 := And.intro @e_37 (And.intro @e_37_0 (And.intro @e_37_1 (And.intro @e_37_4 (And.intro @e_37_5 (And.intro @e_37_8 (And.intro @e_37_9 (And.intro @e_37_12 (And.intro @e_37_13 (And.intro @e_37_16 (And.intro @e_37_17 (And.intro @e_37_20 (And.intro @e_37_21 (And.intro @e_37_22 (And.intro @e_37_23 (And.intro @e_37_24 (And.intro @e_37_27 (And.intro @e_37_28 (And.intro @e_37_29 (@e_37_32)))))))))))))))))))
/-! ProvenRows$Numbers.replace(II)V -/
theorem c_38_0 : q_code 38 0 = (.iload_n 1, 1, 0, 0, 0, 0, 0) := by decide +kernel
theorem e_38_0 (d : Nat) (a : Int) (z0 z2 : q_V) (st : List q_V) (v : q_H) (G : q_Gr) (Q : q_V → q_H → q_Gr → Prop) : q_wp d 38 0 [z0, .inl a, z2] st v G Q = q_wp d 38 1 [z0, .inl a, z2] (.inl a :: st) v G Q := q_w_iload_n c_38_0 rfl
theorem c_38_1 : q_code 38 1 = (.aload_n 0, 1, 0, 0, 0, 0, 0) := by decide +kernel
theorem e_38_1 (d : Nat) (a : Option Nat) (z1 z2 : q_V) (st : List q_V) (v : q_H) (G : q_Gr) (Q : q_V → q_H → q_Gr → Prop) : q_wp d 38 1 [.inr (.inr (.inl a)), z1, z2] st v G Q = q_wp d 38 2 [.inr (.inr (.inl a)), z1, z2] (.inr (.inr (.inl a)) :: st) v G Q := q_w_aload_n c_38_1 rfl
theorem c_38_2 : q_code 38 2 = (.getfield 21, 3, 3, 1, 0, 149, 0) := by decide +kernel
theorem e_38_2 (d : Nat) (a : Nat) (z0 z1 z2 : q_V) (st : List q_V) (v : q_H) (G : q_Gr) (Q : q_V → q_H → q_Gr → Prop) : q_wp d 38 2 [z0, z1, z2] (.inr (.inr (.inl (some a))) :: st) v G Q = (((G.2.1 a).1 = 3) ∧ q_wp d 38 5 [z0, z1, z2] (.inl (v a 1) :: st) v G Q) := q_w_getI c_38_2
theorem c_38_5 : q_code 38 5 = (.invokestatic 25, 3, 144, 2, 1, 17, 1) := by decide +kernel
theorem e_38_5 (d : Nat) (x0 x1 : q_V) (z0 z1 z2 : q_V) (v : q_H) (G : q_Gr) (Q : q_V → q_H → q_Gr → Prop) : q_wp d 38 5 [z0, z1, z2] [x1, x0] v G Q = q_call d 144 [x0, x1] v G (fun r v G => q_wp d 38 8 [z0, z1, z2] (q_push r []) v G Q) := q_wp_ca (m2 := 144) (k := 2) (as := [x0, x1]) (rest := []) (congrArg q_kind c_38_5) (congrArg (fun w => w.2.2.1) c_38_5) (congrArg (fun w => w.2.2.2.1) c_38_5) rfl (Nat.le_of_ble_eq_true rfl) rfl
theorem c_38_8 : q_code 38 8 = (.ifCond .eq 10, 3, 0, 0, 0, 0, 0) := by decide +kernel
theorem e_38_8 (d : Nat) (a : Int) (z0 z1 z2 : q_V) (st : List q_V) (v : q_H) (G : q_Gr) (Q : q_V → q_H → q_Gr → Prop) : q_wp d 38 8 [z0, z1, z2] (.inl a :: st) v G Q = ((q_inR a) ∧ if a = 0 then q_wp d 38 18 [z0, z1, z2] st v G Q else q_wp d 38 11 [z0, z1, z2] st v G Q) := q_w_if_eq c_38_8 (by decide)
theorem c_38_11 : q_code 38 11 = (.aload_n 0, 1, 0, 0, 0, 0, 0) := by decide +kernel
theorem e_38_11 (d : Nat) (a : Option Nat) (z1 z2 : q_V) (st : List q_V) (v : q_H) (G : q_Gr) (Q : q_V → q_H → q_Gr → Prop) : q_wp d 38 11 [.inr (.inr (.inl a)), z1, z2] st v G Q = q_wp d 38 12 [.inr (.inr (.inl a)), z1, z2] (.inr (.inr (.inl a)) :: st) v G Q := q_w_aload_n c_38_11 rfl
theorem c_38_12 : q_code 38 12 = (.getfield 15, 3, 3, 0, 1, 148, 0) := by decide +kernel
theorem e_38_12 (d : Nat) (a : Nat) (z0 z1 z2 : q_V) (st : List q_V) (v : q_H) (G : q_Gr) (Q : q_V → q_H → q_Gr → Prop) : q_wp d 38 12 [z0, z1, z2] (.inr (.inr (.inl (some a))) :: st) v G Q = (((G.2.1 a).1 = 3) ∧ q_wp d 38 15 [z0, z1, z2] (.inr (.inr (.inl (G.1 a 0))) :: st) v G Q) := q_w_getP c_38_12
theorem c_38_15 : q_code 38 15 = (.iload_n 1, 1, 0, 0, 0, 0, 0) := by decide +kernel
theorem e_38_15 (d : Nat) (a : Int) (z0 z2 : q_V) (st : List q_V) (v : q_H) (G : q_Gr) (Q : q_V → q_H → q_Gr → Prop) : q_wp d 38 15 [z0, .inl a, z2] st v G Q = q_wp d 38 16 [z0, .inl a, z2] (.inl a :: st) v G Q := q_w_iload_n c_38_15 rfl
theorem c_38_16 : q_code 38 16 = (.iload_n 2, 1, 0, 0, 0, 0, 0) := by decide +kernel
theorem e_38_16 (d : Nat) (a : Int) (z0 z1 : q_V) (st : List q_V) (v : q_H) (G : q_Gr) (Q : q_V → q_H → q_Gr → Prop) : q_wp d 38 16 [z0, z1, .inl a] st v G Q = q_wp d 38 17 [z0, z1, .inl a] (.inl a :: st) v G Q := q_w_iload_n c_38_16 rfl
theorem c_38_17 : q_code 38 17 = (.iastore, 1, 0, 0, 0, 0, 0) := by decide +kernel
theorem e_38_17 (d : Nat) (a : Nat) (i b : Int) (z0 z1 z2 : q_V) (st : List q_V) (v : q_H) (G : q_Gr) (Q : q_V → q_H → q_Gr → Prop) : q_wp d 38 17 [z0, z1, z2] (.inl b :: .inl i :: .inr (.inr (.inl (some a))) :: st) v G Q = (((G.2.1 a).1 = 20 ∧ 32 ≤ a ∧ 0 ≤ i ∧ i < (G.2.1 a).2) ∧ q_wp d 38 18 [z0, z1, z2] st (q_up v a i.toNat b) G Q) := q_w_iast c_38_17
theorem c_38_18 : q_code 38 18 = (.return_, 1, 0, 0, 0, 0, 0) := by decide +kernel
theorem e_38_18 (d : Nat)  (z0 z1 z2 : q_V) (v : q_H) (G : q_Gr) (Q : q_V → q_H → q_Gr → Prop) : q_wp d 38 18 [z0, z1, z2] [] v G Q = Q (.inr (.inr (.inr ()))) v G := q_w_return c_38_18 rfl
theorem e_38 (d : Nat) (a0 : Nat) (a1 : Int) (a2 : Int) (v : q_H) (G : q_Gr) (Q : q_V → q_H → q_Gr → Prop) : q_call (d + 1) 38 [.inr (.inr (.inl (some a0))), .inl a1, .inl a2] v G Q = ((G.2.1 a0).1 = 3 ∧ q_wp d 38 0 [.inr (.inr (.inl (some a0))), .inl a1, .inl a2] [] v G Q) := by
  rw [q_call_in (by decide) (Nat.le_of_ble_eq_true rfl) rfl]
  exact congrArg (· ∧ _) (propext beq_iff_eq)
/-- all but the heads of loops: [] -/
def E38 := And.intro @e_38 (And.intro @e_38_0 (And.intro @e_38_1 (And.intro @e_38_2 (And.intro @e_38_5 (And.intro @e_38_8 (And.intro @e_38_11 (And.intro @e_38_12 (And.intro @e_38_15 (And.intro @e_38_16 (And.intro @e_38_17 (@e_38_18)))))))))))
/-! ProvenRows$Numbers.become(LProvenRows$Numbers;)V -/
theorem c_39_0 : q_code 39 0 = (.aload_n 0, 1, 0, 0, 0, 0, 0) := by decide +kernel
theorem e_39_0 (d : Nat) (a : Option Nat) (z1 z2 : q_V) (st : List q_V) (v : q_H) (G : q_Gr) (Q : q_V → q_H → q_Gr → Prop) : q_wp d 39 0 [.inr (.inr (.inl a)), z1, z2] st v G Q = q_wp d 39 1 [.inr (.inr (.inl a)), z1, z2] (.inr (.inr (.inl a)) :: st) v G Q := q_w_aload_n c_39_0 rfl
theorem c_39_1 : q_code 39 1 = (.invokevirtual 29, 3, 36, 1, 0, 879, 0) := by decide +kernel
theorem e_39_1 (d : Nat) (x0 : q_V) (z0 z1 z2 : q_V) (v : q_H) (G : q_Gr) (Q : q_V → q_H → q_Gr → Prop) : q_wp d 39 1 [z0, z1, z2] [x0] v G Q = q_call d 36 [x0] v G (fun r v G => q_wp d 39 4 [z0, z1, z2] (q_push r []) v G Q) := q_wp_ca (m2 := 36) (k := 1) (as := [x0]) (rest := []) (congrArg q_kind c_39_1) (congrArg (fun w => w.2.2.1) c_39_1) (congrArg (fun w => w.2.2.2.1) c_39_1) rfl (Nat.le_of_ble_eq_true rfl) rfl
theorem c_39_4 : q_code 39 4 = (.iconst 0, 1, 0, 0, 0, 0, 0) := by decide +kernel
theorem e_39_4 (d : Nat)  (z0 z1 z2 : q_V) (st : List q_V) (v : q_H) (G : q_Gr) (Q : q_V → q_H → q_Gr → Prop) : q_wp d 39 4 [z0, z1, z2] st v G Q = q_wp d 39 5 [z0, z1, z2] (.inl 0 :: st) v G Q := q_w_iconst c_39_4
theorem c_39_5 : q_code 39 5 = (.istore_n 2, 1, 0, 0, 0, 0, 0) := by decide +kernel
theorem e_39_5 (d : Nat) (a : Int) (z0 z1 z2 : q_V) (st : List q_V) (v : q_H) (G : q_Gr) (Q : q_V → q_H → q_Gr → Prop) : q_wp d 39 5 [z0, z1, z2] (.inl a :: st) v G Q = q_wp d 39 6 [z0, z1, .inl a] st v G Q := q_w_istore_n c_39_5
theorem c_39_6 : q_code 39 6 = (.iload_n 2, 1, 0, 0, 0, 0, 0) := by decide +kernel
theorem e_39_6 (d : Nat) (a : Int) (z0 z1 : q_V) (st : List q_V) (v : q_H) (G : q_Gr) (Q : q_V → q_H → q_Gr → Prop) : q_wp d 39 6 [z0, z1, .inl a] st v G Q = q_wp d 39 7 [z0, z1, .inl a] (.inl a :: st) v G Q := q_w_iload_n c_39_6 rfl
theorem c_39_7 : q_code 39 7 = (.aload_n 1, 1, 0, 0, 0, 0, 0) := by decide +kernel
theorem e_39_7 (d : Nat) (a : Option Nat) (z0 z2 : q_V) (st : List q_V) (v : q_H) (G : q_Gr) (Q : q_V → q_H → q_Gr → Prop) : q_wp d 39 7 [z0, .inr (.inr (.inl a)), z2] st v G Q = q_wp d 39 8 [z0, .inr (.inr (.inl a)), z2] (.inr (.inr (.inl a)) :: st) v G Q := q_w_aload_n c_39_7 rfl
theorem c_39_8 : q_code 39 8 = (.getfield 21, 3, 3, 1, 0, 149, 0) := by decide +kernel
theorem e_39_8 (d : Nat) (a : Nat) (z0 z1 z2 : q_V) (st : List q_V) (v : q_H) (G : q_Gr) (Q : q_V → q_H → q_Gr → Prop) : q_wp d 39 8 [z0, z1, z2] (.inr (.inr (.inl (some a))) :: st) v G Q = (((G.2.1 a).1 = 3) ∧ q_wp d 39 11 [z0, z1, z2] (.inl (v a 1) :: st) v G Q) := q_w_getI c_39_8
theorem c_39_11 : q_code 39 11 = (.if_icmp .ge 18, 3, 0, 0, 0, 0, 0) := by decide +kernel
theorem e_39_11 (d : Nat) (a b : Int) (z0 z1 z2 : q_V) (st : List q_V) (v : q_H) (G : q_Gr) (Q : q_V → q_H → q_Gr → Prop) : q_wp d 39 11 [z0, z1, z2] (.inl b :: .inl a :: st) v G Q = ((q_inR a ∧ q_inR b) ∧ if b ≤ a then q_wp d 39 29 [z0, z1, z2] st v G Q else q_wp d 39 14 [z0, z1, z2] st v G Q) := q_w_icmp_ge c_39_11 (by decide)
theorem c_39_14 : q_code 39 14 = (.aload_n 0, 1, 0, 0, 0, 0, 0) := by decide +kernel
theorem e_39_14 (d : Nat) (a : Option Nat) (z1 z2 : q_V) (st : List q_V) (v : q_H) (G : q_Gr) (Q : q_V → q_H → q_Gr → Prop) : q_wp d 39 14 [.inr (.inr (.inl a)), z1, z2] st v G Q = q_wp d 39 15 [.inr (.inr (.inl a)), z1, z2] (.inr (.inr (.inl a)) :: st) v G Q := q_w_aload_n c_39_14 rfl
theorem c_39_15 : q_code 39 15 = (.aload_n 1, 1, 0, 0, 0, 0, 0) := by decide +kernel
theorem e_39_15 (d : Nat) (a : Option Nat) (z0 z2 : q_V) (st : List q_V) (v : q_H) (G : q_Gr) (Q : q_V → q_H → q_Gr → Prop) : q_wp d 39 15 [z0, .inr (.inr (.inl a)), z2] st v G Q = q_wp d 39 16 [z0, .inr (.inr (.inl a)), z2] (.inr (.inr (.inl a)) :: st) v G Q := q_w_aload_n c_39_15 rfl
theorem c_39_16 : q_code 39 16 = (.iload_n 2, 1, 0, 0, 0, 0, 0) := by decide +kernel
theorem e_39_16 (d : Nat) (a : Int) (z0 z1 : q_V) (st : List q_V) (v : q_H) (G : q_Gr) (Q : q_V → q_H → q_Gr → Prop) : q_wp d 39 16 [z0, z1, .inl a] st v G Q = q_wp d 39 17 [z0, z1, .inl a] (.inl a :: st) v G Q := q_w_iload_n c_39_16 rfl
theorem c_39_17 : q_code 39 17 = (.invokevirtual 32, 3, 41, 2, 0, 703, 1) := by decide +kernel
theorem e_39_17 (d : Nat) (x0 x1 y0 : q_V) (z0 z1 z2 : q_V) (v : q_H) (G : q_Gr) (Q : q_V → q_H → q_Gr → Prop) : q_wp d 39 17 [z0, z1, z2] [x1, x0, y0] v G Q = q_call d 41 [x0, x1] v G (fun r v G => q_wp d 39 20 [z0, z1, z2] (q_push r [y0]) v G Q) := q_wp_ca (m2 := 41) (k := 2) (as := [x0, x1]) (rest := [y0]) (congrArg q_kind c_39_17) (congrArg (fun w => w.2.2.1) c_39_17) (congrArg (fun w => w.2.2.2.1) c_39_17) rfl (Nat.le_of_ble_eq_true rfl) rfl
theorem c_39_20 : q_code 39 20 = (.invokevirtual 36, 3, 37, 2, 0, 880, 0) := by decide +kernel
theorem e_39_20 (d : Nat) (x0 x1 : q_V) (z0 z1 z2 : q_V) (v : q_H) (G : q_Gr) (Q : q_V → q_H → q_Gr → Prop) : q_wp d 39 20 [z0, z1, z2] [x1, x0] v G Q = q_call d 37 [x0, x1] v G (fun r v G => q_wp d 39 23 [z0, z1, z2] (q_push r []) v G Q) := q_wp_ca (m2 := 37) (k := 2) (as := [x0, x1]) (rest := []) (congrArg q_kind c_39_20) (congrArg (fun w => w.2.2.1) c_39_20) (congrArg (fun w => w.2.2.2.1) c_39_20) rfl (Nat.le_of_ble_eq_true rfl) rfl
theorem c_39_23 : q_code 39 23 = (.iinc 2 1, 3, 0, 0, 0, 0, 0) := by decide +kernel
theorem e_39_23 (d : Nat) (a : Int) (z0 z1 : q_V) (st : List q_V) (v : q_H) (G : q_Gr) (Q : q_V → q_H → q_Gr → Prop) : q_wp d 39 23 [z0, z1, .inl a] st v G Q = q_wp d 39 26 [z0, z1, .inl (a + 1)] st v G Q := q_w_iinc c_39_23 rfl
theorem c_39_26 : q_code 39 26 = (.goto (-20), 3, 0, 0, 0, 0, 0) := by decide +kernel
theorem e_39_26 (d : Nat)  (z0 z1 z2 : q_V) (st : List q_V) (v : q_H) (G : q_Gr) (Q : q_V → q_H → q_Gr → Prop) : q_wp d 39 26 [z0, z1, z2] st v G Q = q_wp d 39 6 [z0, z1, z2] st v G Q := q_w_goto c_39_26 (by decide)
theorem c_39_29 : q_code 39 29 = (.return_, 1, 0, 0, 0, 0, 0) := by decide +kernel
theorem e_39_29 (d : Nat)  (z0 z1 z2 : q_V) (v : q_H) (G : q_Gr) (Q : q_V → q_H → q_Gr → Prop) : q_wp d 39 29 [z0, z1, z2] [] v G Q = Q (.inr (.inr (.inr ()))) v G := q_w_return c_39_29 rfl
theorem e_39 (d : Nat) (a0 : Nat) (a1 : Option Nat) (v : q_H) (G : q_Gr) (Q : q_V → q_H → q_Gr → Prop) : q_call (d + 1) 39 [.inr (.inr (.inl (some a0))), .inr (.inr (.inl a1))] v G Q = ((G.2.1 a0).1 = 3 ∧ q_wp d 39 0 [.inr (.inr (.inl (some a0))), .inr (.inr (.inl a1)), .inr (.inr (.inr ()))] [] v G Q) := by
  rw [q_call_in (by decide) (Nat.le_of_ble_eq_true rfl) rfl]
  exact congrArg (· ∧ _) (propext beq_iff_eq)
/-- all but the heads of loops: [6] -/
def E39 := And.intro @e_39 (And.intro @e_39_0 (And.intro @e_39_1 (And.intro @e_39_4 (And.intro @e_39_5 (And.intro @e_39_7 (And.intro @e_39_8 (And.intro @e_39_11 (And.intro @e_39_14 (And.intro @e_39_15 (And.intro @e_39_16 (And.intro @e_39_17 (And.intro @e_39_20 (And.intro @e_39_23 (And.intro @e_39_26 (@e_39_29)))))))))))))))
/-! ProvenRows$Numbers.size()I -/
theorem c_40_0 : q_code 40 0 = (.aload_n 0, 1, 0, 0, 0, 0, 0) := by decide +kernel
theorem e_40_0 (d : Nat) (a : Option Nat) (st : List q_V) (v : q_H) (G : q_Gr) (Q : q_V → q_H → q_Gr → Prop) : q_wp d 40 0 [.inr (.inr (.inl a))] st v G Q = q_wp d 40 1 [.inr (.inr (.inl a))] (.inr (.inr (.inl a)) :: st) v G Q := q_w_aload_n c_40_0 rfl
theorem c_40_1 : q_code 40 1 = (.getfield 21, 3, 3, 1, 0, 149, 0) := by decide +kernel
theorem e_40_1 (d : Nat) (a : Nat) (z0 : q_V) (st : List q_V) (v : q_H) (G : q_Gr) (Q : q_V → q_H → q_Gr → Prop) : q_wp d 40 1 [z0] (.inr (.inr (.inl (some a))) :: st) v G Q = (((G.2.1 a).1 = 3) ∧ q_wp d 40 4 [z0] (.inl (v a 1) :: st) v G Q) := q_w_getI c_40_1
theorem c_40_4 : q_code 40 4 = (.ireturn, 1, 0, 0, 0, 0, 0) := by decide +kernel
theorem e_40_4 (d : Nat) (a : Int) (z0 : q_V) (v : q_H) (G : q_Gr) (Q : q_V → q_H → q_Gr → Prop) : q_wp d 40 4 [z0] [.inl a] v G Q = Q (.inl a) v G := q_w_ireturn c_40_4 rfl
theorem e_40 (d : Nat) (a0 : Nat) (v : q_H) (G : q_Gr) (Q : q_V → q_H → q_Gr → Prop) : q_call (d + 1) 40 [.inr (.inr (.inl (some a0)))] v G Q = ((G.2.1 a0).1 = 3 ∧ q_wp d 40 0 [.inr (.inr (.inl (some a0)))] [] v G Q) := by
  rw [q_call_in (by decide) (Nat.le_of_ble_eq_true rfl) rfl]
  exact congrArg (· ∧ _) (propext beq_iff_eq)
/-- all but the heads of loops: [] -/
def E40 := And.intro @e_40 (And.intro @e_40_0 (And.intro @e_40_1 (@e_40_4)))
/-! ProvenRows$Numbers.at(I)I -/
theorem c_41_0 : q_code 41 0 = (.iload_n 1, 1, 0, 0, 0, 0, 0) := by decide +kernel
theorem e_41_0 (d : Nat) (a : Int) (z0 : q_V) (st : List q_V) (v : q_H) (G : q_Gr) (Q : q_V → q_H → q_Gr → Prop) : q_wp d 41 0 [z0, .inl a] st v G Q = q_wp d 41 1 [z0, .inl a] (.inl a :: st) v G Q := q_w_iload_n c_41_0 rfl
theorem c_41_1 : q_code 41 1 = (.ifCond .lt 20, 3, 0, 0, 0, 0, 0) := by decide +kernel
theorem e_41_1 (d : Nat) (a : Int) (z0 z1 : q_V) (st : List q_V) (v : q_H) (G : q_Gr) (Q : q_V → q_H → q_Gr → Prop) : q_wp d 41 1 [z0, z1] (.inl a :: st) v G Q = ((q_inR a) ∧ if a < 0 then q_wp d 41 21 [z0, z1] st v G Q else q_wp d 41 4 [z0, z1] st v G Q) := q_w_if_lt c_41_1 (by decide)
theorem c_41_4 : q_code 41 4 = (.iload_n 1, 1, 0, 0, 0, 0, 0) := by decide +kernel
theorem e_41_4 (d : Nat) (a : Int) (z0 : q_V) (st : List q_V) (v : q_H) (G : q_Gr) (Q : q_V → q_H → q_Gr → Prop) : q_wp d 41 4 [z0, .inl a] st v G Q = q_wp d 41 5 [z0, .inl a] (.inl a :: st) v G Q := q_w_iload_n c_41_4 rfl
theorem c_41_5 : q_code 41 5 = (.aload_n 0, 1, 0, 0, 0, 0, 0) := by decide +kernel
theorem e_41_5 (d : Nat) (a : Option Nat) (z1 : q_V) (st : List q_V) (v : q_H) (G : q_Gr) (Q : q_V → q_H → q_Gr → Prop) : q_wp d 41 5 [.inr (.inr (.inl a)), z1] st v G Q = q_wp d 41 6 [.inr (.inr (.inl a)), z1] (.inr (.inr (.inl a)) :: st) v G Q := q_w_aload_n c_41_5 rfl
theorem c_41_6 : q_code 41 6 = (.getfield 21, 3, 3, 1, 0, 149, 0) := by decide +kernel
theorem e_41_6 (d : Nat) (a : Nat) (z0 z1 : q_V) (st : List q_V) (v : q_H) (G : q_Gr) (Q : q_V → q_H → q_Gr → Prop) : q_wp d 41 6 [z0, z1] (.inr (.inr (.inl (some a))) :: st) v G Q = (((G.2.1 a).1 = 3) ∧ q_wp d 41 9 [z0, z1] (.inl (v a 1) :: st) v G Q) := q_w_getI c_41_6
theorem c_41_9 : q_code 41 9 = (.if_icmp .ge 12, 3, 0, 0, 0, 0, 0) := by decide +kernel
theorem e_41_9 (d : Nat) (a b : Int) (z0 z1 : q_V) (st : List q_V) (v : q_H) (G : q_Gr) (Q : q_V → q_H → q_Gr → Prop) : q_wp d 41 9 [z0, z1] (.inl b :: .inl a :: st) v G Q = ((q_inR a ∧ q_inR b) ∧ if b ≤ a then q_wp d 41 21 [z0, z1] st v G Q else q_wp d 41 12 [z0, z1] st v G Q) := q_w_icmp_ge c_41_9 (by decide)
theorem c_41_12 : q_code 41 12 = (.aload_n 0, 1, 0, 0, 0, 0, 0) := by decide +kernel
theorem e_41_12 (d : Nat) (a : Option Nat) (z1 : q_V) (st : List q_V) (v : q_H) (G : q_Gr) (Q : q_V → q_H → q_Gr → Prop) : q_wp d 41 12 [.inr (.inr (.inl a)), z1] st v G Q = q_wp d 41 13 [.inr (.inr (.inl a)), z1] (.inr (.inr (.inl a)) :: st) v G Q := q_w_aload_n c_41_12 rfl
theorem c_41_13 : q_code 41 13 = (.getfield 15, 3, 3, 0, 1, 148, 0) := by decide +kernel
theorem e_41_13 (d : Nat) (a : Nat) (z0 z1 : q_V) (st : List q_V) (v : q_H) (G : q_Gr) (Q : q_V → q_H → q_Gr → Prop) : q_wp d 41 13 [z0, z1] (.inr (.inr (.inl (some a))) :: st) v G Q = (((G.2.1 a).1 = 3) ∧ q_wp d 41 16 [z0, z1] (.inr (.inr (.inl (G.1 a 0))) :: st) v G Q) := q_w_getP c_41_13
theorem c_41_16 : q_code 41 16 = (.iload_n 1, 1, 0, 0, 0, 0, 0) := by decide +kernel
theorem e_41_16 (d : Nat) (a : Int) (z0 : q_V) (st : List q_V) (v : q_H) (G : q_Gr) (Q : q_V → q_H → q_Gr → Prop) : q_wp d 41 16 [z0, .inl a] st v G Q = q_wp d 41 17 [z0, .inl a] (.inl a :: st) v G Q := q_w_iload_n c_41_16 rfl
theorem c_41_17 : q_code 41 17 = (.iaload, 1, 0, 0, 0, 0, 0) := by decide +kernel
theorem e_41_17 (d : Nat) (a : Nat) (i : Int) (z0 z1 : q_V) (st : List q_V) (v : q_H) (G : q_Gr) (Q : q_V → q_H → q_Gr → Prop) : q_wp d 41 17 [z0, z1] (.inl i :: .inr (.inr (.inl (some a))) :: st) v G Q = (((G.2.1 a).1 = 20 ∧ 0 ≤ i ∧ i < (G.2.1 a).2) ∧ q_wp d 41 18 [z0, z1] (.inl (v a i.toNat) :: st) v G Q) := q_w_iald c_41_17
theorem c_41_18 : q_code 41 18 = (.goto 5, 3, 0, 0, 0, 0, 0) := by decide +kernel
theorem e_41_18 (d : Nat)  (z0 z1 : q_V) (st : List q_V) (v : q_H) (G : q_Gr) (Q : q_V → q_H → q_Gr → Prop) : q_wp d 41 18 [z0, z1] st v G Q = q_wp d 41 23 [z0, z1] st v G Q := q_w_goto c_41_18 (by decide)
theorem c_41_21 : q_code 41 21 = (.ldc 40, 2, 0, 0, 0, 707, (-1000000)) := by decide +kernel
theorem e_41_21 (d : Nat)  (z0 z1 : q_V) (st : List q_V) (v : q_H) (G : q_Gr) (Q : q_V → q_H → q_Gr → Prop) : q_wp d 41 21 [z0, z1] st v G Q = q_wp d 41 23 [z0, z1] (.inl (-1000000) :: st) v G Q := q_w_ldc c_41_21
theorem c_41_23 : q_code 41 23 = (.ireturn, 1, 0, 0, 0, 0, 0) := by decide +kernel
theorem e_41_23 (d : Nat) (a : Int) (z0 z1 : q_V) (v : q_H) (G : q_Gr) (Q : q_V → q_H → q_Gr → Prop) : q_wp d 41 23 [z0, z1] [.inl a] v G Q = Q (.inl a) v G := q_w_ireturn c_41_23 rfl
theorem e_41 (d : Nat) (a0 : Nat) (a1 : Int) (v : q_H) (G : q_Gr) (Q : q_V → q_H → q_Gr → Prop) : q_call (d + 1) 41 [.inr (.inr (.inl (some a0))), .inl a1] v G Q = ((G.2.1 a0).1 = 3 ∧ q_wp d 41 0 [.inr (.inr (.inl (some a0))), .inl a1] [] v G Q) := by
  rw [q_call_in (by decide) (Nat.le_of_ble_eq_true rfl) rfl]
  exact congrArg (· ∧ _) (propext beq_iff_eq)
/-- all but the heads of loops: [] -/
def E41 := And.intro @e_41 (And.intro @e_41_0 (And.intro @e_41_1 (And.intro @e_41_4 (And.intro @e_41_5 (And.intro @e_41_6 (And.intro @e_41_9 (And.intro @e_41_12 (And.intro @e_41_13 (And.intro @e_41_16 (And.intro @e_41_17 (And.intro @e_41_18 (And.intro @e_41_21 (@e_41_23)))))))))))))
/-! ProvenRows$Numbers.numberOrSize(I)I -/
theorem c_42_0 : q_code 42 0 = (.iload_n 1, 1, 0, 0, 0, 0, 0) := by decide +kernel
theorem e_42_0 (d : Nat) (a : Int) (z0 : q_V) (st : List q_V) (v : q_H) (G : q_Gr) (Q : q_V → q_H → q_Gr → Prop) : q_wp d 42 0 [z0, .inl a] st v G Q = q_wp d 42 1 [z0, .inl a] (.inl a :: st) v G Q := q_w_iload_n c_42_0 rfl
theorem c_42_1 : q_code 42 1 = (.iconst (-1), 1, 0, 0, 0, 0, 0) := by decide +kernel
theorem e_42_1 (d : Nat)  (z0 z1 : q_V) (st : List q_V) (v : q_H) (G : q_Gr) (Q : q_V → q_H → q_Gr → Prop) : q_wp d 42 1 [z0, z1] st v G Q = q_wp d 42 2 [z0, z1] (.inl (-1) :: st) v G Q := q_w_iconst c_42_1
theorem c_42_2 : q_code 42 2 = (.if_icmp .ne 10, 3, 0, 0, 0, 0, 0) := by decide +kernel
theorem e_42_2 (d : Nat) (a b : Int) (z0 z1 : q_V) (st : List q_V) (v : q_H) (G : q_Gr) (Q : q_V → q_H → q_Gr → Prop) : q_wp d 42 2 [z0, z1] (.inl b :: .inl a :: st) v G Q = ((q_inR a ∧ q_inR b) ∧ if ¬ a = b then q_wp d 42 12 [z0, z1] st v G Q else q_wp d 42 5 [z0, z1] st v G Q) := q_w_icmp_ne c_42_2 (by decide)
theorem c_42_5 : q_code 42 5 = (.aload_n 0, 1, 0, 0, 0, 0, 0) := by decide +kernel
theorem e_42_5 (d : Nat) (a : Option Nat) (z1 : q_V) (st : List q_V) (v : q_H) (G : q_Gr) (Q : q_V → q_H → q_Gr → Prop) : q_wp d 42 5 [.inr (.inr (.inl a)), z1] st v G Q = q_wp d 42 6 [.inr (.inr (.inl a)), z1] (.inr (.inr (.inl a)) :: st) v G Q := q_w_aload_n c_42_5 rfl
theorem c_42_6 : q_code 42 6 = (.getfield 21, 3, 3, 1, 0, 149, 0) := by decide +kernel
theorem e_42_6 (d : Nat) (a : Nat) (z0 z1 : q_V) (st : List q_V) (v : q_H) (G : q_Gr) (Q : q_V → q_H → q_Gr → Prop) : q_wp d 42 6 [z0, z1] (.inr (.inr (.inl (some a))) :: st) v G Q = (((G.2.1 a).1 = 3) ∧ q_wp d 42 9 [z0, z1] (.inl (v a 1) :: st) v G Q) := q_w_getI c_42_6
theorem c_42_9 : q_code 42 9 = (.goto 8, 3, 0, 0, 0, 0, 0) := by decide +kernel
theorem e_42_9 (d : Nat)  (z0 z1 : q_V) (st : List q_V) (v : q_H) (G : q_Gr) (Q : q_V → q_H → q_Gr → Prop) : q_wp d 42 9 [z0, z1] st v G Q = q_wp d 42 17 [z0, z1] st v G Q := q_w_goto c_42_9 (by decide)
theorem c_42_12 : q_code 42 12 = (.aload_n 0, 1, 0, 0, 0, 0, 0) := by decide +kernel
theorem e_42_12 (d : Nat) (a : Option Nat) (z1 : q_V) (st : List q_V) (v : q_H) (G : q_Gr) (Q : q_V → q_H → q_Gr → Prop) : q_wp d 42 12 [.inr (.inr (.inl a)), z1] st v G Q = q_wp d 42 13 [.inr (.inr (.inl a)), z1] (.inr (.inr (.inl a)) :: st) v G Q := q_w_aload_n c_42_12 rfl
theorem c_42_13 : q_code 42 13 = (.iload_n 1, 1, 0, 0, 0, 0, 0) := by decide +kernel
theorem e_42_13 (d : Nat) (a : Int) (z0 : q_V) (st : List q_V) (v : q_H) (G : q_Gr) (Q : q_V → q_H → q_Gr → Prop) : q_wp d 42 13 [z0, .inl a] st v G Q = q_wp d 42 14 [z0, .inl a] (.inl a :: st) v G Q := q_w_iload_n c_42_13 rfl
theorem c_42_14 : q_code 42 14 = (.invokevirtual 32, 3, 41, 2, 0, 703, 1) := by decide +kernel
theorem e_42_14 (d : Nat) (x0 x1 : q_V) (z0 z1 : q_V) (v : q_H) (G : q_Gr) (Q : q_V → q_H → q_Gr → Prop) : q_wp d 42 14 [z0, z1] [x1, x0] v G Q = q_call d 41 [x0, x1] v G (fun r v G => q_wp d 42 17 [z0, z1] (q_push r []) v G Q) := q_wp_ca (m2 := 41) (k := 2) (as := [x0, x1]) (rest := []) (congrArg q_kind c_42_14) (congrArg (fun w => w.2.2.1) c_42_14) (congrArg (fun w => w.2.2.2.1) c_42_14) rfl (Nat.le_of_ble_eq_true rfl) rfl
theorem c_42_17 : q_code 42 17 = (.ireturn, 1, 0, 0, 0, 0, 0) := by decide +kernel
theorem e_42_17 (d : Nat) (a : Int) (z0 z1 : q_V) (v : q_H) (G : q_Gr) (Q : q_V → q_H → q_Gr → Prop) : q_wp d 42 17 [z0, z1] [.inl a] v G Q = Q (.inl a) v G := q_w_ireturn c_42_17 rfl
theorem e_42 (d : Nat) (a0 : Nat) (a1 : Int) (v : q_H) (G : q_Gr) (Q : q_V → q_H → q_Gr → Prop) : q_call (d + 1) 42 [.inr (.inr (.inl (some a0))), .inl a1] v G Q = ((G.2.1 a0).1 = 3 ∧ q_wp d 42 0 [.inr (.inr (.inl (some a0))), .inl a1] [] v G Q) := by
  rw [q_call_in (by decide) (Nat.le_of_ble_eq_true rfl) rfl]
  exact congrArg (· ∧ _) (propext beq_iff_eq)
/-- all but the heads of loops: [] -/
def E42 := And.intro @e_42 (And.intro @e_42_0 (And.intro @e_42_1 (And.intro @e_42_2 (And.intro @e_42_5 (And.intro @e_42_6 (And.intro @e_42_9 (And.intro @e_42_12 (And.intro @e_42_13 (And.intro @e_42_14 (@e_42_17))))))))))
/-! ProvenRows$Plans.<init>()V -/
theorem c_43_0 : q_code 43 0 = (.aload_n 0, 1, 0, 0, 0, 0, 0) := by decide +kernel
theorem e_43_0 (d : Nat) (a : Option Nat) (st : List q_V) (v : q_H) (G : q_Gr) (Q : q_V → q_H → q_Gr → Prop) : q_wp d 43 0 [.inr (.inr (.inl a))] st v G Q = q_wp d 43 1 [.inr (.inr (.inl a))] (.inr (.inr (.inl a)) :: st) v G Q := q_w_aload_n c_43_0 rfl
theorem c_43_1 : q_code 43 1 = (.invokespecial 3, 3, 1000, 1, 0, 109, 0) := by decide +kernel
theorem e_43_1 (d : Nat) (a : Nat) (z0 : q_V) (v : q_H) (G : q_Gr) (Q : q_V → q_H → q_Gr → Prop) : q_wp d 43 1 [z0] [.inr (.inr (.inl (some a)))] v G Q = q_wp d 43 4 [z0] [] v G Q := q_w_obj c_43_1 (Nat.le_of_ble_eq_true rfl)
theorem c_43_4 : q_code 43 4 = (.aload_n 0, 1, 0, 0, 0, 0, 0) := by decide +kernel
theorem e_43_4 (d : Nat) (a : Option Nat) (st : List q_V) (v : q_H) (G : q_Gr) (Q : q_V → q_H → q_Gr → Prop) : q_wp d 43 4 [.inr (.inr (.inl a))] st v G Q = q_wp d 43 5 [.inr (.inr (.inl a))] (.inr (.inr (.inl a)) :: st) v G Q := q_w_aload_n c_43_4 rfl
theorem c_43_5 : q_code 43 5 = (.sipush 200, 3, 0, 0, 0, 0, 0) := by decide +kernel
theorem e_43_5 (d : Nat)  (z0 : q_V) (st : List q_V) (v : q_H) (G : q_Gr) (Q : q_V → q_H → q_Gr → Prop) : q_wp d 43 5 [z0] st v G Q = q_wp d 43 8 [z0] (.inl 200 :: st) v G Q := (q_w_sipush c_43_5).trans (by simp only [show ((-32768 : Int) ≤ 200 ∧ (200 : Int) ≤ 32767) = True by decide, true_and])
theorem c_43_8 : q_code 43 8 = (.newarray .int, 2, 0, 0, 0, 0, 0) := by decide +kernel
theorem e_43_8 (d : Nat) (a : Int) (z0 : q_V) (st : List q_V) (v : q_H) (G : q_Gr) (Q : q_V → q_H → q_Gr → Prop) : q_wp d 43 8 [z0] (.inl a :: st) v G Q = ((0 ≤ a ∧ q_room G a.toNat) ∧ q_wp d 43 10 [z0] (.inr (.inr (.inl (some (32 + G.2.2.1)))) :: st) (q_zr v (32 + G.2.2.1)) (q_mk G 20 a.toNat) Q) := q_w_newI c_43_8
theorem c_43_10 : q_code 43 10 = (.putfield 11, 3, 4, 0, 1, 111, 0) := by decide +kernel
theorem e_43_10 (d : Nat) (a : Nat) (b : Option Nat) (z0 : q_V) (st : List q_V) (v : q_H) (G : q_Gr) (Q : q_V → q_H → q_Gr → Prop) : q_wp d 43 10 [z0] (.inr (.inr (.inl b)) :: .inr (.inr (.inl (some a))) :: st) v G Q = (((G.2.1 a).1 = 4) ∧ q_wp d 43 13 [z0] st v (q_upr G.1 a 0 b, G.2) Q) := q_w_putP c_43_10
theorem c_43_13 : q_code 43 13 = (.aload_n 0, 1, 0, 0, 0, 0, 0) := by decide +kernel
theorem e_43_13 (d : Nat) (a : Option Nat) (st : List q_V) (v : q_H) (G : q_Gr) (Q : q_V → q_H → q_Gr → Prop) : q_wp d 43 13 [.inr (.inr (.inl a))] st v G Q = q_wp d 43 14 [.inr (.inr (.inl a))] (.inr (.inr (.inl a)) :: st) v G Q := q_w_aload_n c_43_13 rfl
theorem c_43_14 : q_code 43 14 = (.bipush 12, 2, 0, 0, 0, 0, 0) := by decide +kernel
theorem e_43_14 (d : Nat)  (z0 : q_V) (st : List q_V) (v : q_H) (G : q_Gr) (Q : q_V → q_H → q_Gr → Prop) : q_wp d 43 14 [z0] st v G Q = q_wp d 43 16 [z0] (.inl 12 :: st) v G Q := (q_w_bipush c_43_14).trans (by simp only [show ((-128 : Int) ≤ 12 ∧ (12 : Int) ≤ 127) = True by decide, true_and])
theorem c_43_16 : q_code 43 16 = (.anewarray 15, 3, 0, 0, 0, 110, 0) := by decide +kernel
theorem e_43_16 (d : Nat) (a : Int) (z0 : q_V) (st : List q_V) (v : q_H) (G : q_Gr) (Q : q_V → q_H → q_Gr → Prop) : q_wp d 43 16 [z0] (.inl a :: st) v G Q = ((0 ≤ a ∧ q_room G a.toNat) ∧ q_wp d 43 19 [z0] (.inr (.inr (.inl (some (32 + G.2.2.1)))) :: st) (q_zr v (32 + G.2.2.1)) (q_mk G 30 a.toNat) Q) := q_w_anew c_43_16
theorem c_43_19 : q_code 43 19 = (.putfield 17, 3, 4, 2, 1, 113, 0) := by decide +kernel
theorem e_43_19 (d : Nat) (a : Nat) (b : Option Nat) (z0 : q_V) (st : List q_V) (v : q_H) (G : q_Gr) (Q : q_V → q_H → q_Gr → Prop) : q_wp d 43 19 [z0] (.inr (.inr (.inl b)) :: .inr (.inr (.inl (some a))) :: st) v G Q = (((G.2.1 a).1 = 4) ∧ q_wp d 43 22 [z0] st v (q_upr G.1 a 2 b, G.2) Q) := q_w_putP c_43_19
theorem c_43_22 : q_code 43 22 = (.aload_n 0, 1, 0, 0, 0, 0, 0) := by decide +kernel
theorem e_43_22 (d : Nat) (a : Option Nat) (st : List q_V) (v : q_H) (G : q_Gr) (Q : q_V → q_H → q_Gr → Prop) : q_wp d 43 22 [.inr (.inr (.inl a))] st v G Q = q_wp d 43 23 [.inr (.inr (.inl a))] (.inr (.inr (.inl a)) :: st) v G Q := q_w_aload_n c_43_22 rfl
theorem c_43_23 : q_code 43 23 = (.iconst 4, 1, 0, 0, 0, 0, 0) := by decide +kernel
theorem e_43_23 (d : Nat)  (z0 : q_V) (st : List q_V) (v : q_H) (G : q_Gr) (Q : q_V → q_H → q_Gr → Prop) : q_wp d 43 23 [z0] st v G Q = q_wp d 43 24 [z0] (.inl 4 :: st) v G Q := q_w_iconst c_43_23
theorem c_43_24 : q_code 43 24 = (.newarray .int, 2, 0, 0, 0, 0, 0) := by decide +kernel
theorem e_43_24 (d : Nat) (a : Int) (z0 : q_V) (st : List q_V) (v : q_H) (G : q_Gr) (Q : q_V → q_H → q_Gr → Prop) : q_wp d 43 24 [z0] (.inl a :: st) v G Q = ((0 ≤ a ∧ q_room G a.toNat) ∧ q_wp d 43 26 [z0] (.inr (.inr (.inl (some (32 + G.2.2.1)))) :: st) (q_zr v (32 + G.2.2.1)) (q_mk G 20 a.toNat) Q) := q_w_newI c_43_24
theorem c_43_26 : q_code 43 26 = (.putfield 21, 3, 4, 8, 1, 119, 0) := by decide +kernel
theorem e_43_26 (d : Nat) (a : Nat) (b : Option Nat) (z0 : q_V) (st : List q_V) (v : q_H) (G : q_Gr) (Q : q_V → q_H → q_Gr → Prop) : q_wp d 43 26 [z0] (.inr (.inr (.inl b)) :: .inr (.inr (.inl (some a))) :: st) v G Q = (((G.2.1 a).1 = 4) ∧ q_wp d 43 29 [z0] st v (q_upr G.1 a 8 b, G.2) Q) := q_w_putP c_43_26
theorem c_43_29 : q_code 43 29 = (.return_, 1, 0, 0, 0, 0, 0) := by decide +kernel
theorem e_43_29 (d : Nat)  (z0 : q_V) (v : q_H) (G : q_Gr) (Q : q_V → q_H → q_Gr → Prop) : q_wp d 43 29 [z0] [] v G Q = Q (.inr (.inr (.inr ()))) v G := q_w_return c_43_29 rfl
theorem e_43 (d : Nat) (a0 : Nat) (v : q_H) (G : q_Gr) (Q : q_V → q_H → q_Gr → Prop) : q_call (d + 1) 43 [.inr (.inr (.inl (some a0)))] v G Q = ((G.2.1 a0).1 = 4 ∧ q_wp d 43 0 [.inr (.inr (.inl (some a0)))] [] v G Q) := by
  rw [q_call_in (by decide) (Nat.le_of_ble_eq_true rfl) rfl]
  exact congrArg (· ∧ _) (propext beq_iff_eq)
/-- all but the heads of loops: [] -/
def E43 := And.intro @e_43 (And.intro @e_43_0 (And.intro @e_43_1 (And.intro @e_43_4 (And.intro @e_43_5 (And.intro @e_43_8 (And.intro @e_43_10 (And.intro @e_43_13 (And.intro @e_43_14 (And.intro @e_43_16 (And.intro @e_43_19 (And.intro @e_43_22 (And.intro @e_43_23 (And.intro @e_43_24 (And.intro @e_43_26 (@e_43_29)))))))))))))))
/-! ProvenRows$Plans.append(JI)Z -/
theorem c_44_0 : q_code 44 0 = (.aload_n 0, 1, 0, 0, 0, 0, 0) := by decide +kernel
theorem e_44_0 (d : Nat) (a : Option Nat) (z1 z2 z3 z4 : q_V) (st : List q_V) (v : q_H) (G : q_Gr) (Q : q_V → q_H → q_Gr → Prop) : q_wp d 44 0 [.inr (.inr (.inl a)), z1, z2, z3, z4] st v G Q = q_wp d 44 1 [.inr (.inr (.inl a)), z1, z2, z3, z4] (.inr (.inr (.inl a)) :: st) v G Q := q_w_aload_n c_44_0 rfl
theorem c_44_1 : q_code 44 1 = (.getfield 24, 3, 4, 1, 0, 112, 0) := by decide +kernel
theorem e_44_1 (d : Nat) (a : Nat) (z0 z1 z2 z3 z4 : q_V) (st : List q_V) (v : q_H) (G : q_Gr) (Q : q_V → q_H → q_Gr → Prop) : q_wp d 44 1 [z0, z1, z2, z3, z4] (.inr (.inr (.inl (some a))) :: st) v G Q = (((G.2.1 a).1 = 4) ∧ q_wp d 44 4 [z0, z1, z2, z3, z4] (.inl (v a 1) :: st) v G Q) := q_w_getI c_44_1
theorem c_44_4 : q_code 44 4 = (.iload_n 3, 1, 0, 0, 0, 0, 0) := by decide +kernel
theorem e_44_4 (d : Nat) (a : Int) (z0 z1 z2 z4 : q_V) (st : List q_V) (v : q_H) (G : q_Gr) (Q : q_V → q_H → q_Gr → Prop) : q_wp d 44 4 [z0, z1, z2, .inl a, z4] st v G Q = q_wp d 44 5 [z0, z1, z2, .inl a, z4] (.inl a :: st) v G Q := q_w_iload_n c_44_4 rfl
theorem c_44_5 : q_code 44 5 = (.iadd, 1, 0, 0, 0, 0, 0) := by decide +kernel
theorem e_44_5 (d : Nat) (a b : Int) (z0 z1 z2 z3 z4 : q_V) (st : List q_V) (v : q_H) (G : q_Gr) (Q : q_V → q_H → q_Gr → Prop) : q_wp d 44 5 [z0, z1, z2, z3, z4] (.inl b :: .inl a :: st) v G Q = q_wp d 44 6 [z0, z1, z2, z3, z4] (.inl (a + b) :: st) v G Q := q_w_iadd c_44_5
theorem c_44_6 : q_code 44 6 = (.sipush 200, 3, 0, 0, 0, 0, 0) := by decide +kernel
theorem e_44_6 (d : Nat)  (z0 z1 z2 z3 z4 : q_V) (st : List q_V) (v : q_H) (G : q_Gr) (Q : q_V → q_H → q_Gr → Prop) : q_wp d 44 6 [z0, z1, z2, z3, z4] st v G Q = q_wp d 44 9 [z0, z1, z2, z3, z4] (.inl 200 :: st) v G Q := (q_w_sipush c_44_6).trans (by simp only [show ((-32768 : Int) ≤ 200 ∧ (200 : Int) ≤ 32767) = True by decide, true_and])
theorem c_44_9 : q_code 44 9 = (.if_icmp .le 5, 3, 0, 0, 0, 0, 0) := by decide +kernel
theorem e_44_9 (d : Nat) (a b : Int) (z0 z1 z2 z3 z4 : q_V) (st : List q_V) (v : q_H) (G : q_Gr) (Q : q_V → q_H → q_Gr → Prop) : q_wp d 44 9 [z0, z1, z2, z3, z4] (.inl b :: .inl a :: st) v G Q = ((q_inR a ∧ q_inR b) ∧ if a ≤ b then q_wp d 44 14 [z0, z1, z2, z3, z4] st v G Q else q_wp d 44 12 [z0, z1, z2, z3, z4] st v G Q) := q_w_icmp_le c_44_9 (by decide)
theorem c_44_12 : q_code 44 12 = (.iconst 0, 1, 0, 0, 0, 0, 0) := by decide +kernel
theorem e_44_12 (d : Nat)  (z0 z1 z2 z3 z4 : q_V) (st : List q_V) (v : q_H) (G : q_Gr) (Q : q_V → q_H → q_Gr → Prop) : q_wp d 44 12 [z0, z1, z2, z3, z4] st v G Q = q_wp d 44 13 [z0, z1, z2, z3, z4] (.inl 0 :: st) v G Q := q_w_iconst c_44_12
theorem c_44_13 : q_code 44 13 = (.ireturn, 1, 0, 0, 0, 0, 0) := by decide +kernel
theorem e_44_13 (d : Nat) (a : Int) (z0 z1 z2 z3 z4 : q_V) (v : q_H) (G : q_Gr) (Q : q_V → q_H → q_Gr → Prop) : q_wp d 44 13 [z0, z1, z2, z3, z4] [.inl a] v G Q = ((0 ≤ a ∧ a ≤ 1) ∧ Q (.inl a) v G) := q_w_zreturn c_44_13 rfl
theorem c_44_14 : q_code 44 14 = (.iload_n 3, 1, 0, 0, 0, 0, 0) := by decide +kernel
theorem e_44_14 (d : Nat) (a : Int) (z0 z1 z2 z4 : q_V) (st : List q_V) (v : q_H) (G : q_Gr) (Q : q_V → q_H → q_Gr → Prop) : q_wp d 44 14 [z0, z1, z2, .inl a, z4] st v G Q = q_wp d 44 15 [z0, z1, z2, .inl a, z4] (.inl a :: st) v G Q := q_w_iload_n c_44_14 rfl
theorem c_44_15 : q_code 44 15 = (.iconst 1, 1, 0, 0, 0, 0, 0) := by decide +kernel
theorem e_44_15 (d : Nat)  (z0 z1 z2 z3 z4 : q_V) (st : List q_V) (v : q_H) (G : q_Gr) (Q : q_V → q_H → q_Gr → Prop) : q_wp d 44 15 [z0, z1, z2, z3, z4] st v G Q = q_wp d 44 16 [z0, z1, z2, z3, z4] (.inl 1 :: st) v G Q := q_w_iconst c_44_15
theorem c_44_16 : q_code 44 16 = (.isub, 1, 0, 0, 0, 0, 0) := by decide +kernel
theorem e_44_16 (d : Nat) (a b : Int) (z0 z1 z2 z3 z4 : q_V) (st : List q_V) (v : q_H) (G : q_Gr) (Q : q_V → q_H → q_Gr → Prop) : q_wp d 44 16 [z0, z1, z2, z3, z4] (.inl b :: .inl a :: st) v G Q = q_wp d 44 17 [z0, z1, z2, z3, z4] (.inl (a - b) :: st) v G Q := q_w_isub c_44_16
theorem c_44_17 : q_code 44 17 = (.istore 4, 2, 0, 0, 0, 0, 0) := by decide +kernel
theorem e_44_17 (d : Nat) (a : Int) (z0 z1 z2 z3 z4 : q_V) (st : List q_V) (v : q_H) (G : q_Gr) (Q : q_V → q_H → q_Gr → Prop) : q_wp d 44 17 [z0, z1, z2, z3, z4] (.inl a :: st) v G Q = q_wp d 44 19 [z0, z1, z2, z3, .inl a] st v G Q := q_w_istore c_44_17
theorem c_44_19 : q_code 44 19 = (.iload 4, 2, 0, 0, 0, 0, 0) := by decide +kernel
theorem e_44_19 (d : Nat) (a : Int) (z0 z1 z2 z3 : q_V) (st : List q_V) (v : q_H) (G : q_Gr) (Q : q_V → q_H → q_Gr → Prop) : q_wp d 44 19 [z0, z1, z2, z3, .inl a] st v G Q = q_wp d 44 21 [z0, z1, z2, z3, .inl a] (.inl a :: st) v G Q := q_w_iload c_44_19 rfl
theorem c_44_21 : q_code 44 21 = (.ifCond .lt 40, 3, 0, 0, 0, 0, 0) := by decide +kernel
theorem e_44_21 (d : Nat) (a : Int) (z0 z1 z2 z3 z4 : q_V) (st : List q_V) (v : q_H) (G : q_Gr) (Q : q_V → q_H → q_Gr → Prop) : q_wp d 44 21 [z0, z1, z2, z3, z4] (.inl a :: st) v G Q = ((q_inR a) ∧ if a < 0 then q_wp d 44 61 [z0, z1, z2, z3, z4] st v G Q else q_wp d 44 24 [z0, z1, z2, z3, z4] st v G Q) := q_w_if_lt c_44_21 (by decide)
theorem c_44_24 : q_code 44 24 = (.aload_n 0, 1, 0, 0, 0, 0, 0) := by decide +kernel
theorem e_44_24 (d : Nat) (a : Option Nat) (z1 z2 z3 z4 : q_V) (st : List q_V) (v : q_H) (G : q_Gr) (Q : q_V → q_H → q_Gr → Prop) : q_wp d 44 24 [.inr (.inr (.inl a)), z1, z2, z3, z4] st v G Q = q_wp d 44 25 [.inr (.inr (.inl a)), z1, z2, z3, z4] (.inr (.inr (.inl a)) :: st) v G Q := q_w_aload_n c_44_24 rfl
theorem c_44_25 : q_code 44 25 = (.getfield 11, 3, 4, 0, 1, 111, 0) := by decide +kernel
theorem e_44_25 (d : Nat) (a : Nat) (z0 z1 z2 z3 z4 : q_V) (st : List q_V) (v : q_H) (G : q_Gr) (Q : q_V → q_H → q_Gr → Prop) : q_wp d 44 25 [z0, z1, z2, z3, z4] (.inr (.inr (.inl (some a))) :: st) v G Q = (((G.2.1 a).1 = 4) ∧ q_wp d 44 28 [z0, z1, z2, z3, z4] (.inr (.inr (.inl (G.1 a 0))) :: st) v G Q) := q_w_getP c_44_25
theorem c_44_28 : q_code 44 28 = (.aload_n 0, 1, 0, 0, 0, 0, 0) := by decide +kernel
theorem e_44_28 (d : Nat) (a : Option Nat) (z1 z2 z3 z4 : q_V) (st : List q_V) (v : q_H) (G : q_Gr) (Q : q_V → q_H → q_Gr → Prop) : q_wp d 44 28 [.inr (.inr (.inl a)), z1, z2, z3, z4] st v G Q = q_wp d 44 29 [.inr (.inr (.inl a)), z1, z2, z3, z4] (.inr (.inr (.inl a)) :: st) v G Q := q_w_aload_n c_44_28 rfl
theorem c_44_29 : q_code 44 29 = (.getfield 24, 3, 4, 1, 0, 112, 0) := by decide +kernel
theorem e_44_29 (d : Nat) (a : Nat) (z0 z1 z2 z3 z4 : q_V) (st : List q_V) (v : q_H) (G : q_Gr) (Q : q_V → q_H → q_Gr → Prop) : q_wp d 44 29 [z0, z1, z2, z3, z4] (.inr (.inr (.inl (some a))) :: st) v G Q = (((G.2.1 a).1 = 4) ∧ q_wp d 44 32 [z0, z1, z2, z3, z4] (.inl (v a 1) :: st) v G Q) := q_w_getI c_44_29
theorem c_44_32 : q_code 44 32 = (.lload_n 1, 1, 0, 0, 0, 0, 0) := by decide +kernel
theorem e_44_32 (d : Nat) (a : Int) (z0 z2 z3 z4 : q_V) (st : List q_V) (v : q_H) (G : q_Gr) (Q : q_V → q_H → q_Gr → Prop) : q_wp d 44 32 [z0, .inr (.inl a), z2, z3, z4] st v G Q = q_wp d 44 33 [z0, .inr (.inl a), z2, z3, z4] (.inr (.inl a) :: st) v G Q := q_w_lload_n c_44_32 rfl
theorem c_44_33 : q_code 44 33 = (.bipush 8, 2, 0, 0, 0, 0, 0) := by decide +kernel
theorem e_44_33 (d : Nat)  (z0 z1 z2 z3 z4 : q_V) (st : List q_V) (v : q_H) (G : q_Gr) (Q : q_V → q_H → q_Gr → Prop) : q_wp d 44 33 [z0, z1, z2, z3, z4] st v G Q = q_wp d 44 35 [z0, z1, z2, z3, z4] (.inl 8 :: st) v G Q := (q_w_bipush c_44_33).trans (by simp only [show ((-128 : Int) ≤ 8 ∧ (8 : Int) ≤ 127) = True by decide, true_and])
theorem c_44_35 : q_code 44 35 = (.iload 4, 2, 0, 0, 0, 0, 0) := by decide +kernel
theorem e_44_35 (d : Nat) (a : Int) (z0 z1 z2 z3 : q_V) (st : List q_V) (v : q_H) (G : q_Gr) (Q : q_V → q_H → q_Gr → Prop) : q_wp d 44 35 [z0, z1, z2, z3, .inl a] st v G Q = q_wp d 44 37 [z0, z1, z2, z3, .inl a] (.inl a :: st) v G Q := q_w_iload c_44_35 rfl
theorem c_44_37 : q_code 44 37 = (.imul, 1, 0, 0, 0, 0, 0) := by decide +kernel
theorem e_44_37 (d : Nat) (a b : Int) (z0 z1 z2 z3 z4 : q_V) (st : List q_V) (v : q_H) (G : q_Gr) (Q : q_V → q_H → q_Gr → Prop) : q_wp d 44 37 [z0, z1, z2, z3, z4] (.inl b :: .inl a :: st) v G Q = q_wp d 44 38 [z0, z1, z2, z3, z4] (.inl (a * b) :: st) v G Q := q_w_imul c_44_37
theorem c_44_38 : q_code 44 38 = (.lushr, 1, 0, 0, 0, 0, 0) := by decide +kernel
theorem e_44_38 (d : Nat) (a b : Int) (z0 z1 z2 z3 z4 : q_V) (st : List q_V) (v : q_H) (G : q_Gr) (Q : q_V → q_H → q_Gr → Prop) : q_wp d 44 38 [z0, z1, z2, z3, z4] (.inl b :: .inr (.inl a) :: st) v G Q = q_wp d 44 39 [z0, z1, z2, z3, z4] (.inr (.inl ((Int64.ofInt a).toUInt64 >>> ((Int32.ofInt b).toInt64.toUInt64 &&& Int64.toUInt64 63)).toInt64.toInt) :: st) v G Q := q_w_lushr c_44_38
theorem c_44_39 : q_code 44 39 = (.l2i, 1, 0, 0, 0, 0, 0) := by decide +kernel
theorem e_44_39 (d : Nat) (a : Int) (z0 z1 z2 z3 z4 : q_V) (st : List q_V) (v : q_H) (G : q_Gr) (Q : q_V → q_H → q_Gr → Prop) : q_wp d 44 39 [z0, z1, z2, z3, z4] (.inr (.inl a) :: st) v G Q = q_wp d 44 40 [z0, z1, z2, z3, z4] (.inl a :: st) v G Q := q_w_l2i c_44_39
theorem c_44_40 : q_code 44 40 = (.sipush 255, 3, 0, 0, 0, 0, 0) := by decide +kernel
theorem e_44_40 (d : Nat)  (z0 z1 z2 z3 z4 : q_V) (st : List q_V) (v : q_H) (G : q_Gr) (Q : q_V → q_H → q_Gr → Prop) : q_wp d 44 40 [z0, z1, z2, z3, z4] st v G Q = q_wp d 44 43 [z0, z1, z2, z3, z4] (.inl 255 :: st) v G Q := (q_w_sipush c_44_40).trans (by simp only [show ((-32768 : Int) ≤ 255 ∧ (255 : Int) ≤ 32767) = True by decide, true_and])
theorem c_44_43 : q_code 44 43 = (.iand, 1, 0, 0, 0, 0, 0) := by decide +kernel
theorem e_44_43 (d : Nat) (a b : Int) (z0 z1 z2 z3 z4 : q_V) (st : List q_V) (v : q_H) (G : q_Gr) (Q : q_V → q_H → q_Gr → Prop) : q_wp d 44 43 [z0, z1, z2, z3, z4] (.inl b :: .inl a :: st) v G Q = q_wp d 44 44 [z0, z1, z2, z3, z4] (.inl (Int32.ofInt a &&& Int32.ofInt b).toInt :: st) v G Q := q_w_iand c_44_43
theorem c_44_44 : q_code 44 44 = (.iastore, 1, 0, 0, 0, 0, 0) := by decide +kernel
theorem e_44_44 (d : Nat) (a : Nat) (i b : Int) (z0 z1 z2 z3 z4 : q_V) (st : List q_V) (v : q_H) (G : q_Gr) (Q : q_V → q_H → q_Gr → Prop) : q_wp d 44 44 [z0, z1, z2, z3, z4] (.inl b :: .inl i :: .inr (.inr (.inl (some a))) :: st) v G Q = (((G.2.1 a).1 = 20 ∧ 32 ≤ a ∧ 0 ≤ i ∧ i < (G.2.1 a).2) ∧ q_wp d 44 45 [z0, z1, z2, z3, z4] st (q_up v a i.toNat b) G Q) := q_w_iast c_44_44
theorem c_44_45 : q_code 44 45 = (.aload_n 0, 1, 0, 0, 0, 0, 0) := by decide +kernel
theorem e_44_45 (d : Nat) (a : Option Nat) (z1 z2 z3 z4 : q_V) (st : List q_V) (v : q_H) (G : q_Gr) (Q : q_V → q_H → q_Gr → Prop) : q_wp d 44 45 [.inr (.inr (.inl a)), z1, z2, z3, z4] st v G Q = q_wp d 44 46 [.inr (.inr (.inl a)), z1, z2, z3, z4] (.inr (.inr (.inl a)) :: st) v G Q := q_w_aload_n c_44_45 rfl
theorem c_44_46 : q_code 44 46 = (.dup, 1, 0, 0, 0, 0, 0) := by decide +kernel
theorem e_44_46 (d : Nat) (a : Option Nat) (z0 z1 z2 z3 z4 : q_V) (st : List q_V) (v : q_H) (G : q_Gr) (Q : q_V → q_H → q_Gr → Prop) : q_wp d 44 46 [z0, z1, z2, z3, z4] (.inr (.inr (.inl a)) :: st) v G Q = q_wp d 44 47 [z0, z1, z2, z3, z4] (.inr (.inr (.inl a)) :: .inr (.inr (.inl a)) :: st) v G Q := q_w_dupP c_44_46
theorem c_44_47 : q_code 44 47 = (.getfield 24, 3, 4, 1, 0, 112, 0) := by decide +kernel
theorem e_44_47 (d : Nat) (a : Nat) (z0 z1 z2 z3 z4 : q_V) (st : List q_V) (v : q_H) (G : q_Gr) (Q : q_V → q_H → q_Gr → Prop) : q_wp d 44 47 [z0, z1, z2, z3, z4] (.inr (.inr (.inl (some a))) :: st) v G Q = (((G.2.1 a).1 = 4) ∧ q_wp d 44 50 [z0, z1, z2, z3, z4] (.inl (v a 1) :: st) v G Q) := q_w_getI c_44_47
theorem c_44_50 : q_code 44 50 = (.iconst 1, 1, 0, 0, 0, 0, 0) := by decide +kernel
theorem e_44_50 (d : Nat)  (z0 z1 z2 z3 z4 : q_V) (st : List q_V) (v : q_H) (G : q_Gr) (Q : q_V → q_H → q_Gr → Prop) : q_wp d 44 50 [z0, z1, z2, z3, z4] st v G Q = q_wp d 44 51 [z0, z1, z2, z3, z4] (.inl 1 :: st) v G Q := q_w_iconst c_44_50
theorem c_44_51 : q_code 44 51 = (.iadd, 1, 0, 0, 0, 0, 0) := by decide +kernel
theorem e_44_51 (d : Nat) (a b : Int) (z0 z1 z2 z3 z4 : q_V) (st : List q_V) (v : q_H) (G : q_Gr) (Q : q_V → q_H → q_Gr → Prop) : q_wp d 44 51 [z0, z1, z2, z3, z4] (.inl b :: .inl a :: st) v G Q = q_wp d 44 52 [z0, z1, z2, z3, z4] (.inl (a + b) :: st) v G Q := q_w_iadd c_44_51
theorem c_44_52 : q_code 44 52 = (.putfield 24, 3, 4, 1, 0, 112, 0) := by decide +kernel
theorem e_44_52 (d : Nat) (a : Nat) (b : Int) (z0 z1 z2 z3 z4 : q_V) (st : List q_V) (v : q_H) (G : q_Gr) (Q : q_V → q_H → q_Gr → Prop) : q_wp d 44 52 [z0, z1, z2, z3, z4] (.inl b :: .inr (.inr (.inl (some a))) :: st) v G Q = (((G.2.1 a).1 = 4) ∧ q_wp d 44 55 [z0, z1, z2, z3, z4] st (q_up v a 1 b) G Q) := q_w_putI c_44_52
theorem c_44_55 : q_code 44 55 = (.iinc 4 (-1), 3, 0, 0, 0, 0, 0) := by decide +kernel
theorem e_44_55 (d : Nat) (a : Int) (z0 z1 z2 z3 : q_V) (st : List q_V) (v : q_H) (G : q_Gr) (Q : q_V → q_H → q_Gr → Prop) : q_wp d 44 55 [z0, z1, z2, z3, .inl a] st v G Q = q_wp d 44 58 [z0, z1, z2, z3, .inl (a + (-1))] st v G Q := q_w_iinc c_44_55 rfl
theorem c_44_58 : q_code 44 58 = (.goto (-39), 3, 0, 0, 0, 0, 0) := by decide +kernel
theorem e_44_58 (d : Nat)  (z0 z1 z2 z3 z4 : q_V) (st : List q_V) (v : q_H) (G : q_Gr) (Q : q_V → q_H → q_Gr → Prop) : q_wp d 44 58 [z0, z1, z2, z3, z4] st v G Q = q_wp d 44 19 [z0, z1, z2, z3, z4] st v G Q := q_w_goto c_44_58 (by decide)
theorem c_44_61 : q_code 44 61 = (.iconst 1, 1, 0, 0, 0, 0, 0) := by decide +kernel
theorem e_44_61 (d : Nat)  (z0 z1 z2 z3 z4 : q_V) (st : List q_V) (v : q_H) (G : q_Gr) (Q : q_V → q_H → q_Gr → Prop) : q_wp d 44 61 [z0, z1, z2, z3, z4] st v G Q = q_wp d 44 62 [z0, z1, z2, z3, z4] (.inl 1 :: st) v G Q := q_w_iconst c_44_61
theorem c_44_62 : q_code 44 62 = (.ireturn, 1, 0, 0, 0, 0, 0) := by decide +kernel
theorem e_44_62 (d : Nat) (a : Int) (z0 z1 z2 z3 z4 : q_V) (v : q_H) (G : q_Gr) (Q : q_V → q_H → q_Gr → Prop) : q_wp d 44 62 [z0, z1, z2, z3, z4] [.inl a] v G Q = ((0 ≤ a ∧ a ≤ 1) ∧ Q (.inl a) v G) := q_w_zreturn c_44_62 rfl
theorem e_44 (d : Nat) (a0 : Nat) (a1 : Int) (a2 : Int) (v : q_H) (G : q_Gr) (Q : q_V → q_H → q_Gr → Prop) : q_call (d + 1) 44 [.inr (.inr (.inl (some a0))), .inr (.inl a1), .inl a2] v G Q = ((G.2.1 a0).1 = 4 ∧ q_wp d 44 0 [.inr (.inr (.inl (some a0))), .inr (.inl a1), .inr (.inr (.inr ())), .inl a2, .inr (.inr (.inr ()))] [] v G Q) := by
  rw [q_call_in (by decide) (Nat.le_of_ble_eq_true rfl) rfl]
  exact congrArg (· ∧ _) (propext beq_iff_eq)
/-- all but the heads of loops: [19] -/
def E44 := And.intro @e_44 (And.intro @e_44_0 (And.intro @e_44_1 (And.intro @e_44_4 (And.intro @e_44_5 (And.intro @e_44_6 (And.intro @e_44_9 (And.intro @e_44_12 (And.intro @e_44_13 (And.intro @e_44_14 (And.intro @e_44_15 (And.intro @e_44_16 (And.intro @e_44_17 (And.intro @e_44_21 (And.intro @e_44_24 (And.intro @e_44_25 (And.intro @e_44_28 (And.intro @e_44_29 (And.intro @e_44_32 (And.intro @e_44_33 (And.intro @e_44_35 (And.intro @e_44_37 (And.intro @e_44_38 (And.intro @e_44_39 (And.intro @e_44_40 (And.intro @e_44_43 (And.intro @e_44_44 (And.intro @e_44_45 (And.intro @e_44_46 (And.intro @e_44_47 (And.intro @e_44_50 (And.intro @e_44_51 (And.intro @e_44_52 (And.intro @e_44_55 (And.intro @e_44_58 (And.intro @e_44_61 (@e_44_62))))))))))))))))))))))))))))))))))))
/-! ProvenRows$Plans.bytes()I -/
theorem c_45_0 : q_code 45 0 = (.aload_n 0, 1, 0, 0, 0, 0, 0) := by decide +kernel
theorem e_45_0 (d : Nat) (a : Option Nat) (st : List q_V) (v : q_H) (G : q_Gr) (Q : q_V → q_H → q_Gr → Prop) : q_wp d 45 0 [.inr (.inr (.inl a))] st v G Q = q_wp d 45 1 [.inr (.inr (.inl a))] (.inr (.inr (.inl a)) :: st) v G Q := q_w_aload_n c_45_0 rfl
theorem c_45_1 : q_code 45 1 = (.getfield 24, 3, 4, 1, 0, 112, 0) := by decide +kernel
theorem e_45_1 (d : Nat) (a : Nat) (z0 : q_V) (st : List q_V) (v : q_H) (G : q_Gr) (Q : q_V → q_H → q_Gr → Prop) : q_wp d 45 1 [z0] (.inr (.inr (.inl (some a))) :: st) v G Q = (((G.2.1 a).1 = 4) ∧ q_wp d 45 4 [z0] (.inl (v a 1) :: st) v G Q) := q_w_getI c_45_1
theorem c_45_4 : q_code 45 4 = (.ireturn, 1, 0, 0, 0, 0, 0) := by decide +kernel
theorem e_45_4 (d : Nat) (a : Int) (z0 : q_V) (v : q_H) (G : q_Gr) (Q : q_V → q_H → q_Gr → Prop) : q_wp d 45 4 [z0] [.inl a] v G Q = Q (.inl a) v G := q_w_ireturn c_45_4 rfl
theorem e_45 (d : Nat) (a0 : Nat) (v : q_H) (G : q_Gr) (Q : q_V → q_H → q_Gr → Prop) : q_call (d + 1) 45 [.inr (.inr (.inl (some a0)))] v G Q = ((G.2.1 a0).1 = 4 ∧ q_wp d 45 0 [.inr (.inr (.inl (some a0)))] [] v G Q) := by
  rw [q_call_in (by decide) (Nat.le_of_ble_eq_true rfl) rfl]
  exact congrArg (· ∧ _) (propext beq_iff_eq)
/-- all but the heads of loops: [] -/
def E45 := And.intro @e_45 (And.intro @e_45_0 (And.intro @e_45_1 (@e_45_4)))
/-! ProvenRows$Plans.acts()I -/
theorem c_46_0 : q_code 46 0 = (.aload_n 0, 1, 0, 0, 0, 0, 0) := by decide +kernel
theorem e_46_0 (d : Nat) (a : Option Nat) (st : List q_V) (v : q_H) (G : q_Gr) (Q : q_V → q_H → q_Gr → Prop) : q_wp d 46 0 [.inr (.inr (.inl a))] st v G Q = q_wp d 46 1 [.inr (.inr (.inl a))] (.inr (.inr (.inl a)) :: st) v G Q := q_w_aload_n c_46_0 rfl
theorem c_46_1 : q_code 46 1 = (.getfield 28, 3, 4, 3, 0, 114, 0) := by decide +kernel
theorem e_46_1 (d : Nat) (a : Nat) (z0 : q_V) (st : List q_V) (v : q_H) (G : q_Gr) (Q : q_V → q_H → q_Gr → Prop) : q_wp d 46 1 [z0] (.inr (.inr (.inl (some a))) :: st) v G Q = (((G.2.1 a).1 = 4) ∧ q_wp d 46 4 [z0] (.inl (v a 3) :: st) v G Q) := q_w_getI c_46_1
theorem c_46_4 : q_code 46 4 = (.ireturn, 1, 0, 0, 0, 0, 0) := by decide +kernel
theorem e_46_4 (d : Nat) (a : Int) (z0 : q_V) (v : q_H) (G : q_Gr) (Q : q_V → q_H → q_Gr → Prop) : q_wp d 46 4 [z0] [.inl a] v G Q = Q (.inl a) v G := q_w_ireturn c_46_4 rfl
theorem e_46 (d : Nat) (a0 : Nat) (v : q_H) (G : q_Gr) (Q : q_V → q_H → q_Gr → Prop) : q_call (d + 1) 46 [.inr (.inr (.inl (some a0)))] v G Q = ((G.2.1 a0).1 = 4 ∧ q_wp d 46 0 [.inr (.inr (.inl (some a0)))] [] v G Q) := by
  rw [q_call_in (by decide) (Nat.le_of_ble_eq_true rfl) rfl]
  exact congrArg (· ∧ _) (propext beq_iff_eq)
/-- all but the heads of loops: [] -/
def E46 := And.intro @e_46 (And.intro @e_46_0 (And.intro @e_46_1 (@e_46_4)))
/-! ProvenRows$Plans.act(I)LProvenRows$Act; -/
theorem c_47_0 : q_code 47 0 = (.iload_n 1, 1, 0, 0, 0, 0, 0) := by decide +kernel
theorem e_47_0 (d : Nat) (a : Int) (z0 : q_V) (st : List q_V) (v : q_H) (G : q_Gr) (Q : q_V → q_H → q_Gr → Prop) : q_wp d 47 0 [z0, .inl a] st v G Q = q_wp d 47 1 [z0, .inl a] (.inl a :: st) v G Q := q_w_iload_n c_47_0 rfl
theorem c_47_1 : q_code 47 1 = (.aload_n 0, 1, 0, 0, 0, 0, 0) := by decide +kernel
theorem e_47_1 (d : Nat) (a : Option Nat) (z1 : q_V) (st : List q_V) (v : q_H) (G : q_Gr) (Q : q_V → q_H → q_Gr → Prop) : q_wp d 47 1 [.inr (.inr (.inl a)), z1] st v G Q = q_wp d 47 2 [.inr (.inr (.inl a)), z1] (.inr (.inr (.inl a)) :: st) v G Q := q_w_aload_n c_47_1 rfl
theorem c_47_2 : q_code 47 2 = (.getfield 28, 3, 4, 3, 0, 114, 0) := by decide +kernel
theorem e_47_2 (d : Nat) (a : Nat) (z0 z1 : q_V) (st : List q_V) (v : q_H) (G : q_Gr) (Q : q_V → q_H → q_Gr → Prop) : q_wp d 47 2 [z0, z1] (.inr (.inr (.inl (some a))) :: st) v G Q = (((G.2.1 a).1 = 4) ∧ q_wp d 47 5 [z0, z1] (.inl (v a 3) :: st) v G Q) := q_w_getI c_47_2
theorem c_47_5 : q_code 47 5 = (.invokestatic 31, 3, 144, 2, 1, 14, 1) := by decide +kernel
theorem e_47_5 (d : Nat) (x0 x1 : q_V) (z0 z1 : q_V) (v : q_H) (G : q_Gr) (Q : q_V → q_H → q_Gr → Prop) : q_wp d 47 5 [z0, z1] [x1, x0] v G Q = q_call d 144 [x0, x1] v G (fun r v G => q_wp d 47 8 [z0, z1] (q_push r []) v G Q) := q_wp_ca (m2 := 144) (k := 2) (as := [x0, x1]) (rest := []) (congrArg q_kind c_47_5) (congrArg (fun w => w.2.2.1) c_47_5) (congrArg (fun w => w.2.2.2.1) c_47_5) rfl (Nat.le_of_ble_eq_true rfl) rfl
theorem c_47_8 : q_code 47 8 = (.ifCond .eq 12, 3, 0, 0, 0, 0, 0) := by decide +kernel
theorem e_47_8 (d : Nat) (a : Int) (z0 z1 : q_V) (st : List q_V) (v : q_H) (G : q_Gr) (Q : q_V → q_H → q_Gr → Prop) : q_wp d 47 8 [z0, z1] (.inl a :: st) v G Q = ((q_inR a) ∧ if a = 0 then q_wp d 47 20 [z0, z1] st v G Q else q_wp d 47 11 [z0, z1] st v G Q) := q_w_if_eq c_47_8 (by decide)
theorem c_47_11 : q_code 47 11 = (.aload_n 0, 1, 0, 0, 0, 0, 0) := by decide +kernel
theorem e_47_11 (d : Nat) (a : Option Nat) (z1 : q_V) (st : List q_V) (v : q_H) (G : q_Gr) (Q : q_V → q_H → q_Gr → Prop) : q_wp d 47 11 [.inr (.inr (.inl a)), z1] st v G Q = q_wp d 47 12 [.inr (.inr (.inl a)), z1] (.inr (.inr (.inl a)) :: st) v G Q := q_w_aload_n c_47_11 rfl
theorem c_47_12 : q_code 47 12 = (.getfield 17, 3, 4, 2, 1, 113, 0) := by decide +kernel
theorem e_47_12 (d : Nat) (a : Nat) (z0 z1 : q_V) (st : List q_V) (v : q_H) (G : q_Gr) (Q : q_V → q_H → q_Gr → Prop) : q_wp d 47 12 [z0, z1] (.inr (.inr (.inl (some a))) :: st) v G Q = (((G.2.1 a).1 = 4) ∧ q_wp d 47 15 [z0, z1] (.inr (.inr (.inl (G.1 a 2))) :: st) v G Q) := q_w_getP c_47_12
theorem c_47_15 : q_code 47 15 = (.iload_n 1, 1, 0, 0, 0, 0, 0) := by decide +kernel
theorem e_47_15 (d : Nat) (a : Int) (z0 : q_V) (st : List q_V) (v : q_H) (G : q_Gr) (Q : q_V → q_H → q_Gr → Prop) : q_wp d 47 15 [z0, .inl a] st v G Q = q_wp d 47 16 [z0, .inl a] (.inl a :: st) v G Q := q_w_iload_n c_47_15 rfl
theorem c_47_16 : q_code 47 16 = (.aaload, 1, 0, 0, 0, 0, 0) := by decide +kernel
theorem e_47_16 (d : Nat) (a : Nat) (i : Int) (z0 z1 : q_V) (st : List q_V) (v : q_H) (G : q_Gr) (Q : q_V → q_H → q_Gr → Prop) : q_wp d 47 16 [z0, z1] (.inl i :: .inr (.inr (.inl (some a))) :: st) v G Q = ((30 ≤ (G.2.1 a).1 ∧ (G.2.1 a).1 < 42 ∧ 0 ≤ i ∧ i < (G.2.1 a).2) ∧ q_wp d 47 17 [z0, z1] (.inr (.inr (.inl (G.1 a i.toNat))) :: st) v G Q) := q_w_aald c_47_16
theorem c_47_17 : q_code 47 17 = (.goto 4, 3, 0, 0, 0, 0, 0) := by decide +kernel
theorem e_47_17 (d : Nat)  (z0 z1 : q_V) (st : List q_V) (v : q_H) (G : q_Gr) (Q : q_V → q_H → q_Gr → Prop) : q_wp d 47 17 [z0, z1] st v G Q = q_wp d 47 21 [z0, z1] st v G Q := q_w_goto c_47_17 (by decide)
theorem c_47_20 : q_code 47 20 = (.aconst_null, 1, 0, 0, 0, 0, 0) := by decide +kernel
theorem e_47_20 (d : Nat)  (z0 z1 : q_V) (st : List q_V) (v : q_H) (G : q_Gr) (Q : q_V → q_H → q_Gr → Prop) : q_wp d 47 20 [z0, z1] st v G Q = q_wp d 47 21 [z0, z1] (.inr (.inr (.inl none)) :: st) v G Q := q_w_null c_47_20
theorem c_47_21 : q_code 47 21 = (.areturn, 1, 0, 0, 0, 0, 0) := by decide +kernel
theorem e_47_21 (d : Nat) (a : Option Nat) (z0 z1 : q_V) (v : q_H) (G : q_Gr) (Q : q_V → q_H → q_Gr → Prop) : q_wp d 47 21 [z0, z1] [.inr (.inr (.inl a))] v G Q = Q (.inr (.inr (.inl a))) v G := q_w_areturn c_47_21 ⟨_, rfl⟩
theorem e_47 (d : Nat) (a0 : Nat) (a1 : Int) (v : q_H) (G : q_Gr) (Q : q_V → q_H → q_Gr → Prop) : q_call (d + 1) 47 [.inr (.inr (.inl (some a0))), .inl a1] v G Q = ((G.2.1 a0).1 = 4 ∧ q_wp d 47 0 [.inr (.inr (.inl (some a0))), .inl a1] [] v G Q) := by
  rw [q_call_in (by decide) (Nat.le_of_ble_eq_true rfl) rfl]
  exact congrArg (· ∧ _) (propext beq_iff_eq)
/-- all but the heads of loops: [] -/
def E47 := And.intro @e_47 (And.intro @e_47_0 (And.intro @e_47_1 (And.intro @e_47_2 (And.intro @e_47_5 (And.intro @e_47_8 (And.intro @e_47_11 (And.intro @e_47_12 (And.intro @e_47_15 (And.intro @e_47_16 (And.intro @e_47_17 (And.intro @e_47_20 (@e_47_21))))))))))))
/-! ProvenRows$Plans.actsOf(I)I -/
theorem c_48_0 : q_code 48 0 = (.iconst 0, 1, 0, 0, 0, 0, 0) := by decide +kernel
theorem e_48_0 (d : Nat)  (z0 z1 z2 z3 z4 : q_V) (st : List q_V) (v : q_H) (G : q_Gr) (Q : q_V → q_H → q_Gr → Prop) : q_wp d 48 0 [z0, z1, z2, z3, z4] st v G Q = q_wp d 48 1 [z0, z1, z2, z3, z4] (.inl 0 :: st) v G Q := q_w_iconst c_48_0
theorem c_48_1 : q_code 48 1 = (.istore_n 2, 1, 0, 0, 0, 0, 0) := by decide +kernel
theorem e_48_1 (d : Nat) (a : Int) (z0 z1 z2 z3 z4 : q_V) (st : List q_V) (v : q_H) (G : q_Gr) (Q : q_V → q_H → q_Gr → Prop) : q_wp d 48 1 [z0, z1, z2, z3, z4] (.inl a :: st) v G Q = q_wp d 48 2 [z0, z1, .inl a, z3, z4] st v G Q := q_w_istore_n c_48_1
theorem c_48_2 : q_code 48 2 = (.iconst 0, 1, 0, 0, 0, 0, 0) := by decide +kernel
theorem e_48_2 (d : Nat)  (z0 z1 z2 z3 z4 : q_V) (st : List q_V) (v : q_H) (G : q_Gr) (Q : q_V → q_H → q_Gr → Prop) : q_wp d 48 2 [z0, z1, z2, z3, z4] st v G Q = q_wp d 48 3 [z0, z1, z2, z3, z4] (.inl 0 :: st) v G Q := q_w_iconst c_48_2
theorem c_48_3 : q_code 48 3 = (.istore_n 3, 1, 0, 0, 0, 0, 0) := by decide +kernel
theorem e_48_3 (d : Nat) (a : Int) (z0 z1 z2 z3 z4 : q_V) (st : List q_V) (v : q_H) (G : q_Gr) (Q : q_V → q_H → q_Gr → Prop) : q_wp d 48 3 [z0, z1, z2, z3, z4] (.inl a :: st) v G Q = q_wp d 48 4 [z0, z1, z2, .inl a, z4] st v G Q := q_w_istore_n c_48_3
theorem c_48_4 : q_code 48 4 = (.iload_n 3, 1, 0, 0, 0, 0, 0) := by decide +kernel
theorem e_48_4 (d : Nat) (a : Int) (z0 z1 z2 z4 : q_V) (st : List q_V) (v : q_H) (G : q_Gr) (Q : q_V → q_H → q_Gr → Prop) : q_wp d 48 4 [z0, z1, z2, .inl a, z4] st v G Q = q_wp d 48 5 [z0, z1, z2, .inl a, z4] (.inl a :: st) v G Q := q_w_iload_n c_48_4 rfl
theorem c_48_5 : q_code 48 5 = (.aload_n 0, 1, 0, 0, 0, 0, 0) := by decide +kernel
theorem e_48_5 (d : Nat) (a : Option Nat) (z1 z2 z3 z4 : q_V) (st : List q_V) (v : q_H) (G : q_Gr) (Q : q_V → q_H → q_Gr → Prop) : q_wp d 48 5 [.inr (.inr (.inl a)), z1, z2, z3, z4] st v G Q = q_wp d 48 6 [.inr (.inr (.inl a)), z1, z2, z3, z4] (.inr (.inr (.inl a)) :: st) v G Q := q_w_aload_n c_48_5 rfl
theorem c_48_6 : q_code 48 6 = (.getfield 28, 3, 4, 3, 0, 114, 0) := by decide +kernel
theorem e_48_6 (d : Nat) (a : Nat) (z0 z1 z2 z3 z4 : q_V) (st : List q_V) (v : q_H) (G : q_Gr) (Q : q_V → q_H → q_Gr → Prop) : q_wp d 48 6 [z0, z1, z2, z3, z4] (.inr (.inr (.inl (some a))) :: st) v G Q = (((G.2.1 a).1 = 4) ∧ q_wp d 48 9 [z0, z1, z2, z3, z4] (.inl (v a 3) :: st) v G Q) := q_w_getI c_48_6
theorem c_48_9 : q_code 48 9 = (.if_icmp .ge 38, 3, 0, 0, 0, 0, 0) := by decide +kernel
theorem e_48_9 (d : Nat) (a b : Int) (z0 z1 z2 z3 z4 : q_V) (st : List q_V) (v : q_H) (G : q_Gr) (Q : q_V → q_H → q_Gr → Prop) : q_wp d 48 9 [z0, z1, z2, z3, z4] (.inl b :: .inl a :: st) v G Q = ((q_inR a ∧ q_inR b) ∧ if b ≤ a then q_wp d 48 47 [z0, z1, z2, z3, z4] st v G Q else q_wp d 48 12 [z0, z1, z2, z3, z4] st v G Q) := q_w_icmp_ge c_48_9 (by decide)
theorem c_48_12 : q_code 48 12 = (.aload_n 0, 1, 0, 0, 0, 0, 0) := by decide +kernel
theorem e_48_12 (d : Nat) (a : Option Nat) (z1 z2 z3 z4 : q_V) (st : List q_V) (v : q_H) (G : q_Gr) (Q : q_V → q_H → q_Gr → Prop) : q_wp d 48 12 [.inr (.inr (.inl a)), z1, z2, z3, z4] st v G Q = q_wp d 48 13 [.inr (.inr (.inl a)), z1, z2, z3, z4] (.inr (.inr (.inl a)) :: st) v G Q := q_w_aload_n c_48_12 rfl
theorem c_48_13 : q_code 48 13 = (.iload_n 3, 1, 0, 0, 0, 0, 0) := by decide +kernel
theorem e_48_13 (d : Nat) (a : Int) (z0 z1 z2 z4 : q_V) (st : List q_V) (v : q_H) (G : q_Gr) (Q : q_V → q_H → q_Gr → Prop) : q_wp d 48 13 [z0, z1, z2, .inl a, z4] st v G Q = q_wp d 48 14 [z0, z1, z2, .inl a, z4] (.inl a :: st) v G Q := q_w_iload_n c_48_13 rfl
theorem c_48_14 : q_code 48 14 = (.invokevirtual 35, 3, 47, 2, 0, 943, 3) := by decide +kernel
theorem e_48_14 (d : Nat) (x0 x1 : q_V) (z0 z1 z2 z3 z4 : q_V) (v : q_H) (G : q_Gr) (Q : q_V → q_H → q_Gr → Prop) : q_wp d 48 14 [z0, z1, z2, z3, z4] [x1, x0] v G Q = q_call d 47 [x0, x1] v G (fun r v G => q_wp d 48 17 [z0, z1, z2, z3, z4] (q_push r []) v G Q) := q_wp_ca (m2 := 47) (k := 2) (as := [x0, x1]) (rest := []) (congrArg q_kind c_48_14) (congrArg (fun w => w.2.2.1) c_48_14) (congrArg (fun w => w.2.2.2.1) c_48_14) rfl (Nat.le_of_ble_eq_true rfl) rfl
theorem c_48_17 : q_code 48 17 = (.astore 4, 2, 0, 0, 0, 0, 0) := by decide +kernel
theorem e_48_17 (d : Nat) (a : Option Nat) (z0 z1 z2 z3 z4 : q_V) (st : List q_V) (v : q_H) (G : q_Gr) (Q : q_V → q_H → q_Gr → Prop) : q_wp d 48 17 [z0, z1, z2, z3, z4] (.inr (.inr (.inl a)) :: st) v G Q = q_wp d 48 19 [z0, z1, z2, z3, .inr (.inr (.inl a))] st v G Q := q_w_astore c_48_17
theorem c_48_19 : q_code 48 19 = (.iload_n 2, 1, 0, 0, 0, 0, 0) := by decide +kernel
theorem e_48_19 (d : Nat) (a : Int) (z0 z1 z3 z4 : q_V) (st : List q_V) (v : q_H) (G : q_Gr) (Q : q_V → q_H → q_Gr → Prop) : q_wp d 48 19 [z0, z1, .inl a, z3, z4] st v G Q = q_wp d 48 20 [z0, z1, .inl a, z3, z4] (.inl a :: st) v G Q := q_w_iload_n c_48_19 rfl
theorem c_48_20 : q_code 48 20 = (.aload 4, 2, 0, 0, 0, 0, 0) := by decide +kernel
theorem e_48_20 (d : Nat) (a : Option Nat) (z0 z1 z2 z3 : q_V) (st : List q_V) (v : q_H) (G : q_Gr) (Q : q_V → q_H → q_Gr → Prop) : q_wp d 48 20 [z0, z1, z2, z3, .inr (.inr (.inl a))] st v G Q = q_wp d 48 22 [z0, z1, z2, z3, .inr (.inr (.inl a))] (.inr (.inr (.inl a)) :: st) v G Q := q_w_aload c_48_20 rfl
theorem c_48_22 : q_code 48 22 = (.ifnull 16, 3, 0, 0, 0, 0, 0) := by decide +kernel
theorem e_48_22 (d : Nat) (a : Nat) (z0 z1 z2 z3 z4 : q_V) (st : List q_V) (v : q_H) (G : q_Gr) (Q : q_V → q_H → q_Gr → Prop) : q_wp d 48 22 [z0, z1, z2, z3, z4] (.inr (.inr (.inl none)) :: st) v G Q = q_wp d 48 38 [z0, z1, z2, z3, z4] st v G Q := q_w_ifnull_N (a := a) (t := 38) c_48_22 (by decide)
theorem e_48_22b (d : Nat) (a : Nat) (z0 z1 z2 z3 z4 : q_V) (st : List q_V) (v : q_H) (G : q_Gr) (Q : q_V → q_H → q_Gr → Prop) : q_wp d 48 22 [z0, z1, z2, z3, z4] (.inr (.inr (.inl (some a))) :: st) v G Q = q_wp d 48 25 [z0, z1, z2, z3, z4] st v G Q := q_w_ifnull_S (t := 38) c_48_22 (by decide)
theorem c_48_25 : q_code 48 25 = (.aload 4, 2, 0, 0, 0, 0, 0) := by decide +kernel
theorem e_48_25 (d : Nat) (a : Option Nat) (z0 z1 z2 z3 : q_V) (st : List q_V) (v : q_H) (G : q_Gr) (Q : q_V → q_H → q_Gr → Prop) : q_wp d 48 25 [z0, z1, z2, z3, .inr (.inr (.inl a))] st v G Q = q_wp d 48 27 [z0, z1, z2, z3, .inr (.inr (.inl a))] (.inr (.inr (.inl a)) :: st) v G Q := q_w_aload c_48_25 rfl
theorem c_48_27 : q_code 48 27 = (.iload_n 1, 1, 0, 0, 0, 0, 0) := by decide +kernel
theorem e_48_27 (d : Nat) (a : Int) (z0 z2 z3 z4 : q_V) (st : List q_V) (v : q_H) (G : q_Gr) (Q : q_V → q_H → q_Gr → Prop) : q_wp d 48 27 [z0, .inl a, z2, z3, z4] st v G Q = q_wp d 48 28 [z0, .inl a, z2, z3, z4] (.inl a :: st) v G Q := q_w_iload_n c_48_27 rfl
theorem c_48_28 : q_code 48 28 = (.invokevirtual 39, 3, 2, 2, 0, 944, 1) := by decide +kernel
theorem e_48_28 (d : Nat) (x0 x1 y0 : q_V) (z0 z1 z2 z3 z4 : q_V) (v : q_H) (G : q_Gr) (Q : q_V → q_H → q_Gr → Prop) : q_wp d 48 28 [z0, z1, z2, z3, z4] [x1, x0, y0] v G Q = q_call d 2 [x0, x1] v G (fun r v G => q_wp d 48 31 [z0, z1, z2, z3, z4] (q_push r [y0]) v G Q) := q_wp_ca (m2 := 2) (k := 2) (as := [x0, x1]) (rest := [y0]) (congrArg q_kind c_48_28) (congrArg (fun w => w.2.2.1) c_48_28) (congrArg (fun w => w.2.2.2.1) c_48_28) rfl (Nat.le_of_ble_eq_true rfl) rfl
theorem c_48_31 : q_code 48 31 = (.ifCond .eq 7, 3, 0, 0, 0, 0, 0) := by decide +kernel
theorem e_48_31 (d : Nat) (a : Int) (z0 z1 z2 z3 z4 : q_V) (st : List q_V) (v : q_H) (G : q_Gr) (Q : q_V → q_H → q_Gr → Prop) : q_wp d 48 31 [z0, z1, z2, z3, z4] (.inl a :: st) v G Q = ((q_inR a) ∧ if a = 0 then q_wp d 48 38 [z0, z1, z2, z3, z4] st v G Q else q_wp d 48 34 [z0, z1, z2, z3, z4] st v G Q) := q_w_if_eq c_48_31 (by decide)
theorem c_48_34 : q_code 48 34 = (.iconst 1, 1, 0, 0, 0, 0, 0) := by decide +kernel
theorem e_48_34 (d : Nat)  (z0 z1 z2 z3 z4 : q_V) (st : List q_V) (v : q_H) (G : q_Gr) (Q : q_V → q_H → q_Gr → Prop) : q_wp d 48 34 [z0, z1, z2, z3, z4] st v G Q = q_wp d 48 35 [z0, z1, z2, z3, z4] (.inl 1 :: st) v G Q := q_w_iconst c_48_34
theorem c_48_35 : q_code 48 35 = (.goto 4, 3, 0, 0, 0, 0, 0) := by decide +kernel
theorem e_48_35 (d : Nat)  (z0 z1 z2 z3 z4 : q_V) (st : List q_V) (v : q_H) (G : q_Gr) (Q : q_V → q_H → q_Gr → Prop) : q_wp d 48 35 [z0, z1, z2, z3, z4] st v G Q = q_wp d 48 39 [z0, z1, z2, z3, z4] st v G Q := q_w_goto c_48_35 (by decide)
theorem c_48_38 : q_code 48 38 = (.iconst 0, 1, 0, 0, 0, 0, 0) := by decide +kernel
theorem e_48_38 (d : Nat)  (z0 z1 z2 z3 z4 : q_V) (st : List q_V) (v : q_H) (G : q_Gr) (Q : q_V → q_H → q_Gr → Prop) : q_wp d 48 38 [z0, z1, z2, z3, z4] st v G Q = q_wp d 48 39 [z0, z1, z2, z3, z4] (.inl 0 :: st) v G Q := q_w_iconst c_48_38
theorem c_48_39 : q_code 48 39 = (.iadd, 1, 0, 0, 0, 0, 0) := by decide +kernel
theorem e_48_39 (d : Nat) (a b : Int) (z0 z1 z2 z3 z4 : q_V) (st : List q_V) (v : q_H) (G : q_Gr) (Q : q_V → q_H → q_Gr → Prop) : q_wp d 48 39 [z0, z1, z2, z3, z4] (.inl b :: .inl a :: st) v G Q = q_wp d 48 40 [z0, z1, z2, z3, z4] (.inl (a + b) :: st) v G Q := q_w_iadd c_48_39
theorem c_48_40 : q_code 48 40 = (.istore_n 2, 1, 0, 0, 0, 0, 0) := by decide +kernel
theorem e_48_40 (d : Nat) (a : Int) (z0 z1 z2 z3 z4 : q_V) (st : List q_V) (v : q_H) (G : q_Gr) (Q : q_V → q_H → q_Gr → Prop) : q_wp d 48 40 [z0, z1, z2, z3, z4] (.inl a :: st) v G Q = q_wp d 48 41 [z0, z1, .inl a, z3, z4] st v G Q := q_w_istore_n c_48_40
theorem c_48_41 : q_code 48 41 = (.iinc 3 1, 3, 0, 0, 0, 0, 0) := by decide +kernel
theorem e_48_41 (d : Nat) (a : Int) (z0 z1 z2 z4 : q_V) (st : List q_V) (v : q_H) (G : q_Gr) (Q : q_V → q_H → q_Gr → Prop) : q_wp d 48 41 [z0, z1, z2, .inl a, z4] st v G Q = q_wp d 48 44 [z0, z1, z2, .inl (a + 1), z4] st v G Q := q_w_iinc c_48_41 rfl
theorem c_48_44 : q_code 48 44 = (.goto (-40), 3, 0, 0, 0, 0, 0) := by decide +kernel
theorem e_48_44 (d : Nat)  (z0 z1 z2 z3 z4 : q_V) (st : List q_V) (v : q_H) (G : q_Gr) (Q : q_V → q_H → q_Gr → Prop) : q_wp d 48 44 [z0, z1, z2, z3, z4] st v G Q = q_wp d 48 4 [z0, z1, z2, z3, z4] st v G Q := q_w_goto c_48_44 (by decide)
theorem c_48_47 : q_code 48 47 = (.iload_n 2, 1, 0, 0, 0, 0, 0) := by decide +kernel
theorem e_48_47 (d : Nat) (a : Int) (z0 z1 z3 z4 : q_V) (st : List q_V) (v : q_H) (G : q_Gr) (Q : q_V → q_H → q_Gr → Prop) : q_wp d 48 47 [z0, z1, .inl a, z3, z4] st v G Q = q_wp d 48 48 [z0, z1, .inl a, z3, z4] (.inl a :: st) v G Q := q_w_iload_n c_48_47 rfl
theorem c_48_48 : q_code 48 48 = (.ireturn, 1, 0, 0, 0, 0, 0) := by decide +kernel
theorem e_48_48 (d : Nat) (a : Int) (z0 z1 z2 z3 z4 : q_V) (v : q_H) (G : q_Gr) (Q : q_V → q_H → q_Gr → Prop) : q_wp d 48 48 [z0, z1, z2, z3, z4] [.inl a] v G Q = Q (.inl a) v G := q_w_ireturn c_48_48 rfl
theorem e_48 (d : Nat) (a0 : Nat) (a1 : Int) (v : q_H) (G : q_Gr) (Q : q_V → q_H → q_Gr → Prop) : q_call (d + 1) 48 [.inr (.inr (.inl (some a0))), .inl a1] v G Q = ((G.2.1 a0).1 = 4 ∧ q_wp d 48 0 [.inr (.inr (.inl (some a0))), .inl a1, .inr (.inr (.inr ())), .inr (.inr (.inr ())), .inr (.inr (.inr ()))] [] v G Q) := by
  rw [q_call_in (by decide) (Nat.le_of_ble_eq_true rfl) rfl]
  exact congrArg (· ∧ _) (propext beq_iff_eq)
/-- all but the heads of loops: [4] -/
def E48 := And.intro @e_48 (And.intro @e_48_0 (And.intro @e_48_1 (And.intro @e_48_2 (And.intro @e_48_3 (And.intro @e_48_5 (And.intro @e_48_6 (And.intro @e_48_9 (And.intro @e_48_12 (And.intro @e_48_13 (And.intro @e_48_14 (And.intro @e_48_17 (And.intro @e_48_19 (And.intro @e_48_20 (And.intro @e_48_22 (And.intro @e_48_22b (And.intro @e_48_25 (And.intro @e_48_27 (And.intro @e_48_28 (And.intro @e_48_31 (And.intro @e_48_34 (And.intro @e_48_35 (And.intro @e_48_38 (And.intro @e_48_39 (And.intro @e_48_40 (And.intro @e_48_41 (And.intro @e_48_44 (And.intro @e_48_47 (@e_48_48))))))))))))))))))))))))))))
/-! ProvenRows$Plans.latestFault()I -/
theorem c_49_0 : q_code 49 0 = (.aload_n 0, 1, 0, 0, 0, 0, 0) := by decide +kernel
theorem e_49_0 (d : Nat) (a : Option Nat) (st : List q_V) (v : q_H) (G : q_Gr) (Q : q_V → q_H → q_Gr → Prop) : q_wp d 49 0 [.inr (.inr (.inl a))] st v G Q = q_wp d 49 1 [.inr (.inr (.inl a))] (.inr (.inr (.inl a)) :: st) v G Q := q_w_aload_n c_49_0 rfl
theorem c_49_1 : q_code 49 1 = (.getfield 43, 3, 4, 10, 0, 121, 0) := by decide +kernel
theorem e_49_1 (d : Nat) (a : Nat) (z0 : q_V) (st : List q_V) (v : q_H) (G : q_Gr) (Q : q_V → q_H → q_Gr → Prop) : q_wp d 49 1 [z0] (.inr (.inr (.inl (some a))) :: st) v G Q = (((G.2.1 a).1 = 4) ∧ q_wp d 49 4 [z0] (.inl (v a 10) :: st) v G Q) := q_w_getI c_49_1
theorem c_49_4 : q_code 49 4 = (.ireturn, 1, 0, 0, 0, 0, 0) := by decide +kernel
theorem e_49_4 (d : Nat) (a : Int) (z0 : q_V) (v : q_H) (G : q_Gr) (Q : q_V → q_H → q_Gr → Prop) : q_wp d 49 4 [z0] [.inl a] v G Q = Q (.inl a) v G := q_w_ireturn c_49_4 rfl
theorem e_49 (d : Nat) (a0 : Nat) (v : q_H) (G : q_Gr) (Q : q_V → q_H → q_Gr → Prop) : q_call (d + 1) 49 [.inr (.inr (.inl (some a0)))] v G Q = ((G.2.1 a0).1 = 4 ∧ q_wp d 49 0 [.inr (.inr (.inl (some a0)))] [] v G Q) := by
  rw [q_call_in (by decide) (Nat.le_of_ble_eq_true rfl) rfl]
  exact congrArg (· ∧ _) (propext beq_iff_eq)
/-- all but the heads of loops: [] -/
def E49 := And.intro @e_49 (And.intro @e_49_0 (And.intro @e_49_1 (@e_49_4)))
/-! ProvenRows$Plans.readTape()I -/
theorem c_50_0 : q_code 50 0 = (.aload_n 0, 1, 0, 0, 0, 0, 0) := by decide +kernel
theorem e_50_0 (d : Nat) (a : Option Nat) (z1 z2 z3 : q_V) (st : List q_V) (v : q_H) (G : q_Gr) (Q : q_V → q_H → q_Gr → Prop) : q_wp d 50 0 [.inr (.inr (.inl a)), z1, z2, z3] st v G Q = q_wp d 50 1 [.inr (.inr (.inl a)), z1, z2, z3] (.inr (.inr (.inl a)) :: st) v G Q := q_w_aload_n c_50_0 rfl
theorem c_50_1 : q_code 50 1 = (.getfield 28, 3, 4, 3, 0, 114, 0) := by decide +kernel
theorem e_50_1 (d : Nat) (a : Nat) (z0 z1 z2 z3 : q_V) (st : List q_V) (v : q_H) (G : q_Gr) (Q : q_V → q_H → q_Gr → Prop) : q_wp d 50 1 [z0, z1, z2, z3] (.inr (.inr (.inl (some a))) :: st) v G Q = (((G.2.1 a).1 = 4) ∧ q_wp d 50 4 [z0, z1, z2, z3] (.inl (v a 3) :: st) v G Q) := q_w_getI c_50_1
theorem c_50_4 : q_code 50 4 = (.istore_n 1, 1, 0, 0, 0, 0, 0) := by decide +kernel
theorem e_50_4 (d : Nat) (a : Int) (z0 z1 z2 z3 : q_V) (st : List q_V) (v : q_H) (G : q_Gr) (Q : q_V → q_H → q_Gr → Prop) : q_wp d 50 4 [z0, z1, z2, z3] (.inl a :: st) v G Q = q_wp d 50 5 [z0, .inl a, z2, z3] st v G Q := q_w_istore_n c_50_4
theorem c_50_5 : q_code 50 5 = (.aload_n 0, 1, 0, 0, 0, 0, 0) := by decide +kernel
theorem e_50_5 (d : Nat) (a : Option Nat) (z1 z2 z3 : q_V) (st : List q_V) (v : q_H) (G : q_Gr) (Q : q_V → q_H → q_Gr → Prop) : q_wp d 50 5 [.inr (.inr (.inl a)), z1, z2, z3] st v G Q = q_wp d 50 6 [.inr (.inr (.inl a)), z1, z2, z3] (.inr (.inr (.inl a)) :: st) v G Q := q_w_aload_n c_50_5 rfl
theorem c_50_6 : q_code 50 6 = (.iconst 0, 1, 0, 0, 0, 0, 0) := by decide +kernel
theorem e_50_6 (d : Nat)  (z0 z1 z2 z3 : q_V) (st : List q_V) (v : q_H) (G : q_Gr) (Q : q_V → q_H → q_Gr → Prop) : q_wp d 50 6 [z0, z1, z2, z3] st v G Q = q_wp d 50 7 [z0, z1, z2, z3] (.inl 0 :: st) v G Q := q_w_iconst c_50_6
theorem c_50_7 : q_code 50 7 = (.putfield 46, 3, 4, 9, 0, 120, 0) := by decide +kernel
theorem e_50_7 (d : Nat) (a : Nat) (b : Int) (z0 z1 z2 z3 : q_V) (st : List q_V) (v : q_H) (G : q_Gr) (Q : q_V → q_H → q_Gr → Prop) : q_wp d 50 7 [z0, z1, z2, z3] (.inl b :: .inr (.inr (.inl (some a))) :: st) v G Q = (((G.2.1 a).1 = 4) ∧ q_wp d 50 10 [z0, z1, z2, z3] st (q_up v a 9 b) G Q) := q_w_putI c_50_7
theorem c_50_10 : q_code 50 10 = (.aload_n 0, 1, 0, 0, 0, 0, 0) := by decide +kernel
theorem e_50_10 (d : Nat) (a : Option Nat) (z1 z2 z3 : q_V) (st : List q_V) (v : q_H) (G : q_Gr) (Q : q_V → q_H → q_Gr → Prop) : q_wp d 50 10 [.inr (.inr (.inl a)), z1, z2, z3] st v G Q = q_wp d 50 11 [.inr (.inr (.inl a)), z1, z2, z3] (.inr (.inr (.inl a)) :: st) v G Q := q_w_aload_n c_50_10 rfl
theorem c_50_11 : q_code 50 11 = (.iconst 0, 1, 0, 0, 0, 0, 0) := by decide +kernel
theorem e_50_11 (d : Nat)  (z0 z1 z2 z3 : q_V) (st : List q_V) (v : q_H) (G : q_Gr) (Q : q_V → q_H → q_Gr → Prop) : q_wp d 50 11 [z0, z1, z2, z3] st v G Q = q_wp d 50 12 [z0, z1, z2, z3] (.inl 0 :: st) v G Q := q_w_iconst c_50_11
theorem c_50_12 : q_code 50 12 = (.putfield 49, 3, 4, 6, 0, 117, 0) := by decide +kernel
theorem e_50_12 (d : Nat) (a : Nat) (b : Int) (z0 z1 z2 z3 : q_V) (st : List q_V) (v : q_H) (G : q_Gr) (Q : q_V → q_H → q_Gr → Prop) : q_wp d 50 12 [z0, z1, z2, z3] (.inl b :: .inr (.inr (.inl (some a))) :: st) v G Q = (((G.2.1 a).1 = 4) ∧ q_wp d 50 15 [z0, z1, z2, z3] st (q_up v a 6 b) G Q) := q_w_putI c_50_12
theorem c_50_15 : q_code 50 15 = (.aload_n 0, 1, 0, 0, 0, 0, 0) := by decide +kernel
theorem e_50_15 (d : Nat) (a : Option Nat) (z1 z2 z3 : q_V) (st : List q_V) (v : q_H) (G : q_Gr) (Q : q_V → q_H → q_Gr → Prop) : q_wp d 50 15 [.inr (.inr (.inl a)), z1, z2, z3] st v G Q = q_wp d 50 16 [.inr (.inr (.inl a)), z1, z2, z3] (.inr (.inr (.inl a)) :: st) v G Q := q_w_aload_n c_50_15 rfl
theorem c_50_16 : q_code 50 16 = (.invokevirtual 52, 3, 56, 1, 0, 507, 0) := by decide +kernel
theorem e_50_16 (d : Nat) (x0 : q_V) (z0 z1 z2 z3 : q_V) (v : q_H) (G : q_Gr) (Q : q_V → q_H → q_Gr → Prop) : q_wp d 50 16 [z0, z1, z2, z3] [x0] v G Q = q_call d 56 [x0] v G (fun r v G => q_wp d 50 19 [z0, z1, z2, z3] (q_push r []) v G Q) := q_wp_ca (m2 := 56) (k := 1) (as := [x0]) (rest := []) (congrArg q_kind c_50_16) (congrArg (fun w => w.2.2.1) c_50_16) (congrArg (fun w => w.2.2.2.1) c_50_16) rfl (Nat.le_of_ble_eq_true rfl) rfl
theorem c_50_19 : q_code 50 19 = (.iconst 0, 1, 0, 0, 0, 0, 0) := by decide +kernel
theorem e_50_19 (d : Nat)  (z0 z1 z2 z3 : q_V) (st : List q_V) (v : q_H) (G : q_Gr) (Q : q_V → q_H → q_Gr → Prop) : q_wp d 50 19 [z0, z1, z2, z3] st v G Q = q_wp d 50 20 [z0, z1, z2, z3] (.inl 0 :: st) v G Q := q_w_iconst c_50_19
theorem c_50_20 : q_code 50 20 = (.istore_n 2, 1, 0, 0, 0, 0, 0) := by decide +kernel
theorem e_50_20 (d : Nat) (a : Int) (z0 z1 z2 z3 : q_V) (st : List q_V) (v : q_H) (G : q_Gr) (Q : q_V → q_H → q_Gr → Prop) : q_wp d 50 20 [z0, z1, z2, z3] (.inl a :: st) v G Q = q_wp d 50 21 [z0, z1, .inl a, z3] st v G Q := q_w_istore_n c_50_20
theorem c_50_21 : q_code 50 21 = (.iload_n 2, 1, 0, 0, 0, 0, 0) := by decide +kernel
theorem e_50_21 (d : Nat) (a : Int) (z0 z1 z3 : q_V) (st : List q_V) (v : q_H) (G : q_Gr) (Q : q_V → q_H → q_Gr → Prop) : q_wp d 50 21 [z0, z1, .inl a, z3] st v G Q = q_wp d 50 22 [z0, z1, .inl a, z3] (.inl a :: st) v G Q := q_w_iload_n c_50_21 rfl
theorem c_50_22 : q_code 50 22 = (.sipush 200, 3, 0, 0, 0, 0, 0) := by decide +kernel
theorem e_50_22 (d : Nat)  (z0 z1 z2 z3 : q_V) (st : List q_V) (v : q_H) (G : q_Gr) (Q : q_V → q_H → q_Gr → Prop) : q_wp d 50 22 [z0, z1, z2, z3] st v G Q = q_wp d 50 25 [z0, z1, z2, z3] (.inl 200 :: st) v G Q := (q_w_sipush c_50_22).trans (by simp only [show ((-32768 : Int) ≤ 200 ∧ (200 : Int) ≤ 32767) = True by decide, true_and])
theorem c_50_25 : q_code 50 25 = (.if_icmp .ge 55, 3, 0, 0, 0, 0, 0) := by decide +kernel
theorem e_50_25 (d : Nat) (a b : Int) (z0 z1 z2 z3 : q_V) (st : List q_V) (v : q_H) (G : q_Gr) (Q : q_V → q_H → q_Gr → Prop) : q_wp d 50 25 [z0, z1, z2, z3] (.inl b :: .inl a :: st) v G Q = ((q_inR a ∧ q_inR b) ∧ if b ≤ a then q_wp d 50 80 [z0, z1, z2, z3] st v G Q else q_wp d 50 28 [z0, z1, z2, z3] st v G Q) := q_w_icmp_ge c_50_25 (by decide)
theorem c_50_28 : q_code 50 28 = (.aload_n 0, 1, 0, 0, 0, 0, 0) := by decide +kernel
theorem e_50_28 (d : Nat) (a : Option Nat) (z1 z2 z3 : q_V) (st : List q_V) (v : q_H) (G : q_Gr) (Q : q_V → q_H → q_Gr → Prop) : q_wp d 50 28 [.inr (.inr (.inl a)), z1, z2, z3] st v G Q = q_wp d 50 29 [.inr (.inr (.inl a)), z1, z2, z3] (.inr (.inr (.inl a)) :: st) v G Q := q_w_aload_n c_50_28 rfl
theorem c_50_29 : q_code 50 29 = (.getfield 55, 3, 4, 4, 0, 115, 0) := by decide +kernel
theorem e_50_29 (d : Nat) (a : Nat) (z0 z1 z2 z3 : q_V) (st : List q_V) (v : q_H) (G : q_Gr) (Q : q_V → q_H → q_Gr → Prop) : q_wp d 50 29 [z0, z1, z2, z3] (.inr (.inr (.inl (some a))) :: st) v G Q = (((G.2.1 a).1 = 4) ∧ q_wp d 50 32 [z0, z1, z2, z3] (.inl (v a 4) :: st) v G Q) := q_w_getI c_50_29
theorem c_50_32 : q_code 50 32 = (.ifCond .eq 48, 3, 0, 0, 0, 0, 0) := by decide +kernel
theorem e_50_32 (d : Nat) (a : Int) (z0 z1 z2 z3 : q_V) (st : List q_V) (v : q_H) (G : q_Gr) (Q : q_V → q_H → q_Gr → Prop) : q_wp d 50 32 [z0, z1, z2, z3] (.inl a :: st) v G Q = ((q_inR a) ∧ if a = 0 then q_wp d 50 80 [z0, z1, z2, z3] st v G Q else q_wp d 50 35 [z0, z1, z2, z3] st v G Q) := q_w_if_eq c_50_32 (by decide)
theorem c_50_35 : q_code 50 35 = (.aload_n 0, 1, 0, 0, 0, 0, 0) := by decide +kernel
theorem e_50_35 (d : Nat) (a : Option Nat) (z1 z2 z3 : q_V) (st : List q_V) (v : q_H) (G : q_Gr) (Q : q_V → q_H → q_Gr → Prop) : q_wp d 50 35 [.inr (.inr (.inl a)), z1, z2, z3] st v G Q = q_wp d 50 36 [.inr (.inr (.inl a)), z1, z2, z3] (.inr (.inr (.inl a)) :: st) v G Q := q_w_aload_n c_50_35 rfl
theorem c_50_36 : q_code 50 36 = (.getfield 46, 3, 4, 9, 0, 120, 0) := by decide +kernel
theorem e_50_36 (d : Nat) (a : Nat) (z0 z1 z2 z3 : q_V) (st : List q_V) (v : q_H) (G : q_Gr) (Q : q_V → q_H → q_Gr → Prop) : q_wp d 50 36 [z0, z1, z2, z3] (.inr (.inr (.inl (some a))) :: st) v G Q = (((G.2.1 a).1 = 4) ∧ q_wp d 50 39 [z0, z1, z2, z3] (.inl (v a 9) :: st) v G Q) := q_w_getI c_50_36
theorem c_50_39 : q_code 50 39 = (.ifCond .ne 41, 3, 0, 0, 0, 0, 0) := by decide +kernel
theorem e_50_39 (d : Nat) (a : Int) (z0 z1 z2 z3 : q_V) (st : List q_V) (v : q_H) (G : q_Gr) (Q : q_V → q_H → q_Gr → Prop) : q_wp d 50 39 [z0, z1, z2, z3] (.inl a :: st) v G Q = ((q_inR a) ∧ if ¬ a = 0 then q_wp d 50 80 [z0, z1, z2, z3] st v G Q else q_wp d 50 42 [z0, z1, z2, z3] st v G Q) := q_w_if_ne c_50_39 (by decide)
theorem c_50_42 : q_code 50 42 = (.aload_n 0, 1, 0, 0, 0, 0, 0) := by decide +kernel
theorem e_50_42 (d : Nat) (a : Option Nat) (z1 z2 z3 : q_V) (st : List q_V) (v : q_H) (G : q_Gr) (Q : q_V → q_H → q_Gr → Prop) : q_wp d 50 42 [.inr (.inr (.inl a)), z1, z2, z3] st v G Q = q_wp d 50 43 [.inr (.inr (.inl a)), z1, z2, z3] (.inr (.inr (.inl a)) :: st) v G Q := q_w_aload_n c_50_42 rfl
theorem c_50_43 : q_code 50 43 = (.iload_n 1, 1, 0, 0, 0, 0, 0) := by decide +kernel
theorem e_50_43 (d : Nat) (a : Int) (z0 z2 z3 : q_V) (st : List q_V) (v : q_H) (G : q_Gr) (Q : q_V → q_H → q_Gr → Prop) : q_wp d 50 43 [z0, .inl a, z2, z3] st v G Q = q_wp d 50 44 [z0, .inl a, z2, z3] (.inl a :: st) v G Q := q_w_iload_n c_50_43 rfl
theorem c_50_44 : q_code 50 44 = (.invokevirtual 58, 3, 51, 2, 0, 525, 3) := by decide +kernel
theorem e_50_44 (d : Nat) (x0 x1 : q_V) (z0 z1 z2 z3 : q_V) (v : q_H) (G : q_Gr) (Q : q_V → q_H → q_Gr → Prop) : q_wp d 50 44 [z0, z1, z2, z3] [x1, x0] v G Q = q_call d 51 [x0, x1] v G (fun r v G => q_wp d 50 47 [z0, z1, z2, z3] (q_push r []) v G Q) := q_wp_ca (m2 := 51) (k := 2) (as := [x0, x1]) (rest := []) (congrArg q_kind c_50_44) (congrArg (fun w => w.2.2.1) c_50_44) (congrArg (fun w => w.2.2.2.1) c_50_44) rfl (Nat.le_of_ble_eq_true rfl) rfl
theorem c_50_47 : q_code 50 47 = (.astore_n 3, 1, 0, 0, 0, 0, 0) := by decide +kernel
theorem e_50_47 (d : Nat) (a : Option Nat) (z0 z1 z2 z3 : q_V) (st : List q_V) (v : q_H) (G : q_Gr) (Q : q_V → q_H → q_Gr → Prop) : q_wp d 50 47 [z0, z1, z2, z3] (.inr (.inr (.inl a)) :: st) v G Q = q_wp d 50 48 [z0, z1, z2, .inr (.inr (.inl a))] st v G Q := q_w_astore_n c_50_47
theorem c_50_48 : q_code 50 48 = (.aload_n 0, 1, 0, 0, 0, 0, 0) := by decide +kernel
theorem e_50_48 (d : Nat) (a : Option Nat) (z1 z2 z3 : q_V) (st : List q_V) (v : q_H) (G : q_Gr) (Q : q_V → q_H → q_Gr → Prop) : q_wp d 50 48 [.inr (.inr (.inl a)), z1, z2, z3] st v G Q = q_wp d 50 49 [.inr (.inr (.inl a)), z1, z2, z3] (.inr (.inr (.inl a)) :: st) v G Q := q_w_aload_n c_50_48 rfl
theorem c_50_49 : q_code 50 49 = (.getfield 46, 3, 4, 9, 0, 120, 0) := by decide +kernel
theorem e_50_49 (d : Nat) (a : Nat) (z0 z1 z2 z3 : q_V) (st : List q_V) (v : q_H) (G : q_Gr) (Q : q_V → q_H → q_Gr → Prop) : q_wp d 50 49 [z0, z1, z2, z3] (.inr (.inr (.inl (some a))) :: st) v G Q = (((G.2.1 a).1 = 4) ∧ q_wp d 50 52 [z0, z1, z2, z3] (.inl (v a 9) :: st) v G Q) := q_w_getI c_50_49
theorem c_50_52 : q_code 50 52 = (.ifCond .ne 22, 3, 0, 0, 0, 0, 0) := by decide +kernel
theorem e_50_52 (d : Nat) (a : Int) (z0 z1 z2 z3 : q_V) (st : List q_V) (v : q_H) (G : q_Gr) (Q : q_V → q_H → q_Gr → Prop) : q_wp d 50 52 [z0, z1, z2, z3] (.inl a :: st) v G Q = ((q_inR a) ∧ if ¬ a = 0 then q_wp d 50 74 [z0, z1, z2, z3] st v G Q else q_wp d 50 55 [z0, z1, z2, z3] st v G Q) := q_w_if_ne c_50_52 (by decide)
theorem c_50_55 : q_code 50 55 = (.iload_n 1, 1, 0, 0, 0, 0, 0) := by decide +kernel
theorem e_50_55 (d : Nat) (a : Int) (z0 z2 z3 : q_V) (st : List q_V) (v : q_H) (G : q_Gr) (Q : q_V → q_H → q_Gr → Prop) : q_wp d 50 55 [z0, .inl a, z2, z3] st v G Q = q_wp d 50 56 [z0, .inl a, z2, z3] (.inl a :: st) v G Q := q_w_iload_n c_50_55 rfl
theorem c_50_56 : q_code 50 56 = (.bipush 12, 2, 0, 0, 0, 0, 0) := by decide +kernel
theorem e_50_56 (d : Nat)  (z0 z1 z2 z3 : q_V) (st : List q_V) (v : q_H) (G : q_Gr) (Q : q_V → q_H → q_Gr → Prop) : q_wp d 50 56 [z0, z1, z2, z3] st v G Q = q_wp d 50 58 [z0, z1, z2, z3] (.inl 12 :: st) v G Q := (q_w_bipush c_50_56).trans (by simp only [show ((-128 : Int) ≤ 12 ∧ (12 : Int) ≤ 127) = True by decide, true_and])
theorem c_50_58 : q_code 50 58 = (.invokestatic 31, 3, 144, 2, 1, 14, 1) := by decide +kernel
theorem e_50_58 (d : Nat) (x0 x1 : q_V) (z0 z1 z2 z3 : q_V) (v : q_H) (G : q_Gr) (Q : q_V → q_H → q_Gr → Prop) : q_wp d 50 58 [z0, z1, z2, z3] [x1, x0] v G Q = q_call d 144 [x0, x1] v G (fun r v G => q_wp d 50 61 [z0, z1, z2, z3] (q_push r []) v G Q) := q_wp_ca (m2 := 144) (k := 2) (as := [x0, x1]) (rest := []) (congrArg q_kind c_50_58) (congrArg (fun w => w.2.2.1) c_50_58) (congrArg (fun w => w.2.2.2.1) c_50_58) rfl (Nat.le_of_ble_eq_true rfl) rfl
theorem c_50_61 : q_code 50 61 = (.ifCond .eq 13, 3, 0, 0, 0, 0, 0) := by decide +kernel
theorem e_50_61 (d : Nat) (a : Int) (z0 z1 z2 z3 : q_V) (st : List q_V) (v : q_H) (G : q_Gr) (Q : q_V → q_H → q_Gr → Prop) : q_wp d 50 61 [z0, z1, z2, z3] (.inl a :: st) v G Q = ((q_inR a) ∧ if a = 0 then q_wp d 50 74 [z0, z1, z2, z3] st v G Q else q_wp d 50 64 [z0, z1, z2, z3] st v G Q) := q_w_if_eq c_50_61 (by decide)
theorem c_50_64 : q_code 50 64 = (.aload_n 0, 1, 0, 0, 0, 0, 0) := by decide +kernel
theorem e_50_64 (d : Nat) (a : Option Nat) (z1 z2 z3 : q_V) (st : List q_V) (v : q_H) (G : q_Gr) (Q : q_V → q_H → q_Gr → Prop) : q_wp d 50 64 [.inr (.inr (.inl a)), z1, z2, z3] st v G Q = q_wp d 50 65 [.inr (.inr (.inl a)), z1, z2, z3] (.inr (.inr (.inl a)) :: st) v G Q := q_w_aload_n c_50_64 rfl
theorem c_50_65 : q_code 50 65 = (.getfield 17, 3, 4, 2, 1, 113, 0) := by decide +kernel
theorem e_50_65 (d : Nat) (a : Nat) (z0 z1 z2 z3 : q_V) (st : List q_V) (v : q_H) (G : q_Gr) (Q : q_V → q_H → q_Gr → Prop) : q_wp d 50 65 [z0, z1, z2, z3] (.inr (.inr (.inl (some a))) :: st) v G Q = (((G.2.1 a).1 = 4) ∧ q_wp d 50 68 [z0, z1, z2, z3] (.inr (.inr (.inl (G.1 a 2))) :: st) v G Q) := q_w_getP c_50_65
theorem c_50_68 : q_code 50 68 = (.iload_n 1, 1, 0, 0, 0, 0, 0) := by decide +kernel
theorem e_50_68 (d : Nat) (a : Int) (z0 z2 z3 : q_V) (st : List q_V) (v : q_H) (G : q_Gr) (Q : q_V → q_H → q_Gr → Prop) : q_wp d 50 68 [z0, .inl a, z2, z3] st v G Q = q_wp d 50 69 [z0, .inl a, z2, z3] (.inl a :: st) v G Q := q_w_iload_n c_50_68 rfl
theorem c_50_69 : q_code 50 69 = (.aload_n 3, 1, 0, 0, 0, 0, 0) := by decide +kernel
theorem e_50_69 (d : Nat) (a : Option Nat) (z0 z1 z2 : q_V) (st : List q_V) (v : q_H) (G : q_Gr) (Q : q_V → q_H → q_Gr → Prop) : q_wp d 50 69 [z0, z1, z2, .inr (.inr (.inl a))] st v G Q = q_wp d 50 70 [z0, z1, z2, .inr (.inr (.inl a))] (.inr (.inr (.inl a)) :: st) v G Q := q_w_aload_n c_50_69 rfl
theorem c_50_70 : q_code 50 70 = (.aastore, 1, 0, 0, 0, 0, 0) := by decide +kernel
theorem e_50_70 (d : Nat) (a b : Nat) (i : Int) (z0 z1 z2 z3 : q_V) (st : List q_V) (v : q_H) (G : q_Gr) (Q : q_V → q_H → q_Gr → Prop) : q_wp d 50 70 [z0, z1, z2, z3] (.inr (.inr (.inl (some b))) :: .inl i :: .inr (.inr (.inl (some a))) :: st) v G Q = (((G.2.1 b).1 < 12 ∧ (G.2.1 a).1 = 30 + (G.2.1 b).1 ∧ 0 ≤ i ∧ i < (G.2.1 a).2) ∧ q_wp d 50 71 [z0, z1, z2, z3] st v (q_upr G.1 a i.toNat (some b), G.2) Q) := q_w_aast c_50_70
theorem c_50_71 : q_code 50 71 = (.iinc 1 1, 3, 0, 0, 0, 0, 0) := by decide +kernel
theorem e_50_71 (d : Nat) (a : Int) (z0 z2 z3 : q_V) (st : List q_V) (v : q_H) (G : q_Gr) (Q : q_V → q_H → q_Gr → Prop) : q_wp d 50 71 [z0, .inl a, z2, z3] st v G Q = q_wp d 50 74 [z0, .inl (a + 1), z2, z3] st v G Q := q_w_iinc c_50_71 rfl
theorem c_50_74 : q_code 50 74 = (.iinc 2 1, 3, 0, 0, 0, 0, 0) := by decide +kernel
theorem e_50_74 (d : Nat) (a : Int) (z0 z1 z3 : q_V) (st : List q_V) (v : q_H) (G : q_Gr) (Q : q_V → q_H → q_Gr → Prop) : q_wp d 50 74 [z0, z1, .inl a, z3] st v G Q = q_wp d 50 77 [z0, z1, .inl (a + 1), z3] st v G Q := q_w_iinc c_50_74 rfl
theorem c_50_77 : q_code 50 77 = (.goto (-56), 3, 0, 0, 0, 0, 0) := by decide +kernel
theorem e_50_77 (d : Nat)  (z0 z1 z2 z3 : q_V) (st : List q_V) (v : q_H) (G : q_Gr) (Q : q_V → q_H → q_Gr → Prop) : q_wp d 50 77 [z0, z1, z2, z3] st v G Q = q_wp d 50 21 [z0, z1, z2, z3] st v G Q := q_w_goto c_50_77 (by decide)
theorem c_50_80 : q_code 50 80 = (.aload_n 0, 1, 0, 0, 0, 0, 0) := by decide +kernel
theorem e_50_80 (d : Nat) (a : Option Nat) (z1 z2 z3 : q_V) (st : List q_V) (v : q_H) (G : q_Gr) (Q : q_V → q_H → q_Gr → Prop) : q_wp d 50 80 [.inr (.inr (.inl a)), z1, z2, z3] st v G Q = q_wp d 50 81 [.inr (.inr (.inl a)), z1, z2, z3] (.inr (.inr (.inl a)) :: st) v G Q := q_w_aload_n c_50_80 rfl
theorem c_50_81 : q_code 50 81 = (.iconst 0, 1, 0, 0, 0, 0, 0) := by decide +kernel
theorem e_50_81 (d : Nat)  (z0 z1 z2 z3 : q_V) (st : List q_V) (v : q_H) (G : q_Gr) (Q : q_V → q_H → q_Gr → Prop) : q_wp d 50 81 [z0, z1, z2, z3] st v G Q = q_wp d 50 82 [z0, z1, z2, z3] (.inl 0 :: st) v G Q := q_w_iconst c_50_81
theorem c_50_82 : q_code 50 82 = (.putfield 24, 3, 4, 1, 0, 112, 0) := by decide +kernel
theorem e_50_82 (d : Nat) (a : Nat) (b : Int) (z0 z1 z2 z3 : q_V) (st : List q_V) (v : q_H) (G : q_Gr) (Q : q_V → q_H → q_Gr → Prop) : q_wp d 50 82 [z0, z1, z2, z3] (.inl b :: .inr (.inr (.inl (some a))) :: st) v G Q = (((G.2.1 a).1 = 4) ∧ q_wp d 50 85 [z0, z1, z2, z3] st (q_up v a 1 b) G Q) := q_w_putI c_50_82
theorem c_50_85 : q_code 50 85 = (.aload_n 0, 1, 0, 0, 0, 0, 0) := by decide +kernel
theorem e_50_85 (d : Nat) (a : Option Nat) (z1 z2 z3 : q_V) (st : List q_V) (v : q_H) (G : q_Gr) (Q : q_V → q_H → q_Gr → Prop) : q_wp d 50 85 [.inr (.inr (.inl a)), z1, z2, z3] st v G Q = q_wp d 50 86 [.inr (.inr (.inl a)), z1, z2, z3] (.inr (.inr (.inl a)) :: st) v G Q := q_w_aload_n c_50_85 rfl
theorem c_50_86 : q_code 50 86 = (.getfield 46, 3, 4, 9, 0, 120, 0) := by decide +kernel
theorem e_50_86 (d : Nat) (a : Nat) (z0 z1 z2 z3 : q_V) (st : List q_V) (v : q_H) (G : q_Gr) (Q : q_V → q_H → q_Gr → Prop) : q_wp d 50 86 [z0, z1, z2, z3] (.inr (.inr (.inl (some a))) :: st) v G Q = (((G.2.1 a).1 = 4) ∧ q_wp d 50 89 [z0, z1, z2, z3] (.inl (v a 9) :: st) v G Q) := q_w_getI c_50_86
theorem c_50_89 : q_code 50 89 = (.ifCond .eq 16, 3, 0, 0, 0, 0, 0) := by decide +kernel
theorem e_50_89 (d : Nat) (a : Int) (z0 z1 z2 z3 : q_V) (st : List q_V) (v : q_H) (G : q_Gr) (Q : q_V → q_H → q_Gr → Prop) : q_wp d 50 89 [z0, z1, z2, z3] (.inl a :: st) v G Q = ((q_inR a) ∧ if a = 0 then q_wp d 50 105 [z0, z1, z2, z3] st v G Q else q_wp d 50 92 [z0, z1, z2, z3] st v G Q) := q_w_if_eq c_50_89 (by decide)
theorem c_50_92 : q_code 50 92 = (.aload_n 0, 1, 0, 0, 0, 0, 0) := by decide +kernel
theorem e_50_92 (d : Nat) (a : Option Nat) (z1 z2 z3 : q_V) (st : List q_V) (v : q_H) (G : q_Gr) (Q : q_V → q_H → q_Gr → Prop) : q_wp d 50 92 [.inr (.inr (.inl a)), z1, z2, z3] st v G Q = q_wp d 50 93 [.inr (.inr (.inl a)), z1, z2, z3] (.inr (.inr (.inl a)) :: st) v G Q := q_w_aload_n c_50_92 rfl
theorem c_50_93 : q_code 50 93 = (.aload_n 0, 1, 0, 0, 0, 0, 0) := by decide +kernel
theorem e_50_93 (d : Nat) (a : Option Nat) (z1 z2 z3 : q_V) (st : List q_V) (v : q_H) (G : q_Gr) (Q : q_V → q_H → q_Gr → Prop) : q_wp d 50 93 [.inr (.inr (.inl a)), z1, z2, z3] st v G Q = q_wp d 50 94 [.inr (.inr (.inl a)), z1, z2, z3] (.inr (.inr (.inl a)) :: st) v G Q := q_w_aload_n c_50_93 rfl
theorem c_50_94 : q_code 50 94 = (.getfield 46, 3, 4, 9, 0, 120, 0) := by decide +kernel
theorem e_50_94 (d : Nat) (a : Nat) (z0 z1 z2 z3 : q_V) (st : List q_V) (v : q_H) (G : q_Gr) (Q : q_V → q_H → q_Gr → Prop) : q_wp d 50 94 [z0, z1, z2, z3] (.inr (.inr (.inl (some a))) :: st) v G Q = (((G.2.1 a).1 = 4) ∧ q_wp d 50 97 [z0, z1, z2, z3] (.inl (v a 9) :: st) v G Q) := q_w_getI c_50_94
theorem c_50_97 : q_code 50 97 = (.putfield 43, 3, 4, 10, 0, 121, 0) := by decide +kernel
theorem e_50_97 (d : Nat) (a : Nat) (b : Int) (z0 z1 z2 z3 : q_V) (st : List q_V) (v : q_H) (G : q_Gr) (Q : q_V → q_H → q_Gr → Prop) : q_wp d 50 97 [z0, z1, z2, z3] (.inl b :: .inr (.inr (.inl (some a))) :: st) v G Q = (((G.2.1 a).1 = 4) ∧ q_wp d 50 100 [z0, z1, z2, z3] st (q_up v a 10 b) G Q) := q_w_putI c_50_97
theorem c_50_100 : q_code 50 100 = (.aload_n 0, 1, 0, 0, 0, 0, 0) := by decide +kernel
theorem e_50_100 (d : Nat) (a : Option Nat) (z1 z2 z3 : q_V) (st : List q_V) (v : q_H) (G : q_Gr) (Q : q_V → q_H → q_Gr → Prop) : q_wp d 50 100 [.inr (.inr (.inl a)), z1, z2, z3] st v G Q = q_wp d 50 101 [.inr (.inr (.inl a)), z1, z2, z3] (.inr (.inr (.inl a)) :: st) v G Q := q_w_aload_n c_50_100 rfl
theorem c_50_101 : q_code 50 101 = (.getfield 61, 3, 4, 5, 0, 116, 0) := by decide +kernel
theorem e_50_101 (d : Nat) (a : Nat) (z0 z1 z2 z3 : q_V) (st : List q_V) (v : q_H) (G : q_Gr) (Q : q_V → q_H → q_Gr → Prop) : q_wp d 50 101 [z0, z1, z2, z3] (.inr (.inr (.inl (some a))) :: st) v G Q = (((G.2.1 a).1 = 4) ∧ q_wp d 50 104 [z0, z1, z2, z3] (.inl (v a 5) :: st) v G Q) := q_w_getI c_50_101
theorem c_50_104 : q_code 50 104 = (.ireturn, 1, 0, 0, 0, 0, 0) := by decide +kernel
theorem e_50_104 (d : Nat) (a : Int) (z0 z1 z2 z3 : q_V) (v : q_H) (G : q_Gr) (Q : q_V → q_H → q_Gr → Prop) : q_wp d 50 104 [z0, z1, z2, z3] [.inl a] v G Q = Q (.inl a) v G := q_w_ireturn c_50_104 rfl
theorem c_50_105 : q_code 50 105 = (.aload_n 0, 1, 0, 0, 0, 0, 0) := by decide +kernel
theorem e_50_105 (d : Nat) (a : Option Nat) (z1 z2 z3 : q_V) (st : List q_V) (v : q_H) (G : q_Gr) (Q : q_V → q_H → q_Gr → Prop) : q_wp d 50 105 [.inr (.inr (.inl a)), z1, z2, z3] st v G Q = q_wp d 50 106 [.inr (.inr (.inl a)), z1, z2, z3] (.inr (.inr (.inl a)) :: st) v G Q := q_w_aload_n c_50_105 rfl
theorem c_50_106 : q_code 50 106 = (.iload_n 1, 1, 0, 0, 0, 0, 0) := by decide +kernel
theorem e_50_106 (d : Nat) (a : Int) (z0 z2 z3 : q_V) (st : List q_V) (v : q_H) (G : q_Gr) (Q : q_V → q_H → q_Gr → Prop) : q_wp d 50 106 [z0, .inl a, z2, z3] st v G Q = q_wp d 50 107 [z0, .inl a, z2, z3] (.inl a :: st) v G Q := q_w_iload_n c_50_106 rfl
theorem c_50_107 : q_code 50 107 = (.putfield 28, 3, 4, 3, 0, 114, 0) := by decide +kernel
theorem e_50_107 (d : Nat) (a : Nat) (b : Int) (z0 z1 z2 z3 : q_V) (st : List q_V) (v : q_H) (G : q_Gr) (Q : q_V → q_H → q_Gr → Prop) : q_wp d 50 107 [z0, z1, z2, z3] (.inl b :: .inr (.inr (.inl (some a))) :: st) v G Q = (((G.2.1 a).1 = 4) ∧ q_wp d 50 110 [z0, z1, z2, z3] st (q_up v a 3 b) G Q) := q_w_putI c_50_107
theorem c_50_110 : q_code 50 110 = (.iconst (-1), 1, 0, 0, 0, 0, 0) := by decide +kernel
theorem e_50_110 (d : Nat)  (z0 z1 z2 z3 : q_V) (st : List q_V) (v : q_H) (G : q_Gr) (Q : q_V → q_H → q_Gr → Prop) : q_wp d 50 110 [z0, z1, z2, z3] st v G Q = q_wp d 50 111 [z0, z1, z2, z3] (.inl (-1) :: st) v G Q := q_w_iconst c_50_110
theorem c_50_111 : q_code 50 111 = (.ireturn, 1, 0, 0, 0, 0, 0) := by decide +kernel
theorem e_50_111 (d : Nat) (a : Int) (z0 z1 z2 z3 : q_V) (v : q_H) (G : q_Gr) (Q : q_V → q_H → q_Gr → Prop) : q_wp d 50 111 [z0, z1, z2, z3] [.inl a] v G Q = Q (.inl a) v G := q_w_ireturn c_50_111 rfl
theorem e_50 (d : Nat) (a0 : Nat) (v : q_H) (G : q_Gr) (Q : q_V → q_H → q_Gr → Prop) : q_call (d + 1) 50 [.inr (.inr (.inl (some a0)))] v G Q = ((G.2.1 a0).1 = 4 ∧ q_wp d 50 0 [.inr (.inr (.inl (some a0))), .inr (.inr (.inr ())), .inr (.inr (.inr ())), .inr (.inr (.inr ()))] [] v G Q) := by
  rw [q_call_in (by decide) (Nat.le_of_ble_eq_true rfl) rfl]
  exact congrArg (· ∧ _) (propext beq_iff_eq)
/-- all but the heads of loops: [21] -/
def E50 := And.intro @e_50 (And.intro @e_50_0 (And.intro @e_50_1 (And.intro @e_50_4 (And.intro @e_50_5 (And.intro @e_50_6 (And.intro @e_50_7 (And.intro @e_50_10 (And.intro @e_50_11 (And.intro @e_50_12 (And.intro @e_50_15 (And.intro @e_50_16 (And.intro @e_50_19 (And.intro @e_50_20 (And.intro @e_50_22 (And.intro @e_50_25 (And.intro @e_50_28 (And.intro @e_50_29 (And.intro @e_50_32 (And.intro @e_50_35 (And.intro @e_50_36 (And.intro @e_50_39 (And.intro @e_50_42 (And.intro @e_50_43 (And.intro @e_50_44 (And.intro @e_50_47 (And.intro @e_50_48 (And.intro @e_50_49 (And.intro @e_50_52 (And.intro @e_50_55 (And.intro @e_50_56 (And.intro @e_50_58 (And.intro @e_50_61 (And.intro @e_50_64 (And.intro @e_50_65 (And.intro @e_50_68 (And.intro @e_50_69 (And.intro @e_50_70 (And.intro @e_50_71 (And.intro @e_50_74 (And.intro @e_50_77 (And.intro @e_50_80 (And.intro @e_50_81 (And.intro @e_50_82 (And.intro @e_50_85 (And.intro @e_50_86 (And.intro @e_50_89 (And.intro @e_50_92 (And.intro @e_50_93 (And.intro @e_50_94 (And.intro @e_50_97 (And.intro @e_50_100 (And.intro @e_50_101 (And.intro @e_50_104 (And.intro @e_50_105 (And.intro @e_50_106 (And.intro @e_50_107 (And.intro @e_50_110 (@e_50_111))))))))))))))))))))))))))))))))))))))))))))))))))))))))))
/-! ProvenRows$Plans.readAct(I)LProvenRows$Act; -/
theorem c_51_0 : q_code 51 0 = (.aload_n 0, 1, 0, 0, 0, 0, 0) := by decide +kernel
theorem e_51_0 (d : Nat) (a : Option Nat) (z1 z2 z3 : q_V) (st : List q_V) (v : q_H) (G : q_Gr) (Q : q_V → q_H → q_Gr → Prop) : q_wp d 51 0 [.inr (.inr (.inl a)), z1, z2, z3] st v G Q = q_wp d 51 1 [.inr (.inr (.inl a)), z1, z2, z3] (.inr (.inr (.inl a)) :: st) v G Q := q_w_aload_n c_51_0 rfl
theorem c_51_1 : q_code 51 1 = (.getfield 55, 3, 4, 4, 0, 115, 0) := by decide +kernel
theorem e_51_1 (d : Nat) (a : Nat) (z0 z1 z2 z3 : q_V) (st : List q_V) (v : q_H) (G : q_Gr) (Q : q_V → q_H → q_Gr → Prop) : q_wp d 51 1 [z0, z1, z2, z3] (.inr (.inr (.inl (some a))) :: st) v G Q = (((G.2.1 a).1 = 4) ∧ q_wp d 51 4 [z0, z1, z2, z3] (.inl (v a 4) :: st) v G Q) := q_w_getI c_51_1
theorem c_51_4 : q_code 51 4 = (.iconst 1, 1, 0, 0, 0, 0, 0) := by decide +kernel
theorem e_51_4 (d : Nat)  (z0 z1 z2 z3 : q_V) (st : List q_V) (v : q_H) (G : q_Gr) (Q : q_V → q_H → q_Gr → Prop) : q_wp d 51 4 [z0, z1, z2, z3] st v G Q = q_wp d 51 5 [z0, z1, z2, z3] (.inl 1 :: st) v G Q := q_w_iconst c_51_4
theorem c_51_5 : q_code 51 5 = (.if_icmp .ne 10, 3, 0, 0, 0, 0, 0) := by decide +kernel
theorem e_51_5 (d : Nat) (a b : Int) (z0 z1 z2 z3 : q_V) (st : List q_V) (v : q_H) (G : q_Gr) (Q : q_V → q_H → q_Gr → Prop) : q_wp d 51 5 [z0, z1, z2, z3] (.inl b :: .inl a :: st) v G Q = ((q_inR a ∧ q_inR b) ∧ if ¬ a = b then q_wp d 51 15 [z0, z1, z2, z3] st v G Q else q_wp d 51 8 [z0, z1, z2, z3] st v G Q) := q_w_icmp_ne c_51_5 (by decide)
theorem c_51_8 : q_code 51 8 = (.aload_n 0, 1, 0, 0, 0, 0, 0) := by decide +kernel
theorem e_51_8 (d : Nat) (a : Option Nat) (z1 z2 z3 : q_V) (st : List q_V) (v : q_H) (G : q_Gr) (Q : q_V → q_H → q_Gr → Prop) : q_wp d 51 8 [.inr (.inr (.inl a)), z1, z2, z3] st v G Q = q_wp d 51 9 [.inr (.inr (.inl a)), z1, z2, z3] (.inr (.inr (.inl a)) :: st) v G Q := q_w_aload_n c_51_8 rfl
theorem c_51_9 : q_code 51 9 = (.invokevirtual 64, 3, 62, 1, 0, 528, 1) := by decide +kernel
theorem e_51_9 (d : Nat) (x0 : q_V) (z0 z1 z2 z3 : q_V) (v : q_H) (G : q_Gr) (Q : q_V → q_H → q_Gr → Prop) : q_wp d 51 9 [z0, z1, z2, z3] [x0] v G Q = q_call d 62 [x0] v G (fun r v G => q_wp d 51 12 [z0, z1, z2, z3] (q_push r []) v G Q) := q_wp_ca (m2 := 62) (k := 1) (as := [x0]) (rest := []) (congrArg q_kind c_51_9) (congrArg (fun w => w.2.2.1) c_51_9) (congrArg (fun w => w.2.2.2.1) c_51_9) rfl (Nat.le_of_ble_eq_true rfl) rfl
theorem c_51_12 : q_code 51 12 = (.goto 4, 3, 0, 0, 0, 0, 0) := by decide +kernel
theorem e_51_12 (d : Nat)  (z0 z1 z2 z3 : q_V) (st : List q_V) (v : q_H) (G : q_Gr) (Q : q_V → q_H → q_Gr → Prop) : q_wp d 51 12 [z0, z1, z2, z3] st v G Q = q_wp d 51 16 [z0, z1, z2, z3] st v G Q := q_w_goto c_51_12 (by decide)
theorem c_51_15 : q_code 51 15 = (.iconst (-1), 1, 0, 0, 0, 0, 0) := by decide +kernel
theorem e_51_15 (d : Nat)  (z0 z1 z2 z3 : q_V) (st : List q_V) (v : q_H) (G : q_Gr) (Q : q_V → q_H → q_Gr → Prop) : q_wp d 51 15 [z0, z1, z2, z3] st v G Q = q_wp d 51 16 [z0, z1, z2, z3] (.inl (-1) :: st) v G Q := q_w_iconst c_51_15
theorem c_51_16 : q_code 51 16 = (.istore_n 2, 1, 0, 0, 0, 0, 0) := by decide +kernel
theorem e_51_16 (d : Nat) (a : Int) (z0 z1 z2 z3 : q_V) (st : List q_V) (v : q_H) (G : q_Gr) (Q : q_V → q_H → q_Gr → Prop) : q_wp d 51 16 [z0, z1, z2, z3] (.inl a :: st) v G Q = q_wp d 51 17 [z0, z1, .inl a, z3] st v G Q := q_w_istore_n c_51_16
theorem c_51_17 : q_code 51 17 = (.iload_n 2, 1, 0, 0, 0, 0, 0) := by decide +kernel
theorem e_51_17 (d : Nat) (a : Int) (z0 z1 z3 : q_V) (st : List q_V) (v : q_H) (G : q_Gr) (Q : q_V → q_H → q_Gr → Prop) : q_wp d 51 17 [z0, z1, .inl a, z3] st v G Q = q_wp d 51 18 [z0, z1, .inl a, z3] (.inl a :: st) v G Q := q_w_iload_n c_51_17 rfl
theorem c_51_18 : q_code 51 18 = (.ifCond .ge 11, 3, 0, 0, 0, 0, 0) := by decide +kernel
theorem e_51_18 (d : Nat) (a : Int) (z0 z1 z2 z3 : q_V) (st : List q_V) (v : q_H) (G : q_Gr) (Q : q_V → q_H → q_Gr → Prop) : q_wp d 51 18 [z0, z1, z2, z3] (.inl a :: st) v G Q = ((q_inR a) ∧ if 0 ≤ a then q_wp d 51 29 [z0, z1, z2, z3] st v G Q else q_wp d 51 21 [z0, z1, z2, z3] st v G Q) := q_w_if_ge c_51_18 (by decide)
theorem c_51_21 : q_code 51 21 = (.aload_n 0, 1, 0, 0, 0, 0, 0) := by decide +kernel
theorem e_51_21 (d : Nat) (a : Option Nat) (z1 z2 z3 : q_V) (st : List q_V) (v : q_H) (G : q_Gr) (Q : q_V → q_H → q_Gr → Prop) : q_wp d 51 21 [.inr (.inr (.inl a)), z1, z2, z3] st v G Q = q_wp d 51 22 [.inr (.inr (.inl a)), z1, z2, z3] (.inr (.inr (.inl a)) :: st) v G Q := q_w_aload_n c_51_21 rfl
theorem c_51_22 : q_code 51 22 = (.iconst 1, 1, 0, 0, 0, 0, 0) := by decide +kernel
theorem e_51_22 (d : Nat)  (z0 z1 z2 z3 : q_V) (st : List q_V) (v : q_H) (G : q_Gr) (Q : q_V → q_H → q_Gr → Prop) : q_wp d 51 22 [z0, z1, z2, z3] st v G Q = q_wp d 51 23 [z0, z1, z2, z3] (.inl 1 :: st) v G Q := q_w_iconst c_51_22
theorem c_51_23 : q_code 51 23 = (.putfield 46, 3, 4, 9, 0, 120, 0) := by decide +kernel
theorem e_51_23 (d : Nat) (a : Nat) (b : Int) (z0 z1 z2 z3 : q_V) (st : List q_V) (v : q_H) (G : q_Gr) (Q : q_V → q_H → q_Gr → Prop) : q_wp d 51 23 [z0, z1, z2, z3] (.inl b :: .inr (.inr (.inl (some a))) :: st) v G Q = (((G.2.1 a).1 = 4) ∧ q_wp d 51 26 [z0, z1, z2, z3] st (q_up v a 9 b) G Q) := q_w_putI c_51_23
theorem c_51_26 : q_code 51 26 = (.goto 14, 3, 0, 0, 0, 0, 0) := by decide +kernel
theorem e_51_26 (d : Nat)  (z0 z1 z2 z3 : q_V) (st : List q_V) (v : q_H) (G : q_Gr) (Q : q_V → q_H → q_Gr → Prop) : q_wp d 51 26 [z0, z1, z2, z3] st v G Q = q_wp d 51 40 [z0, z1, z2, z3] st v G Q := q_w_goto c_51_26 (by decide)
theorem c_51_29 : q_code 51 29 = (.iload_n 1, 1, 0, 0, 0, 0, 0) := by decide +kernel
theorem e_51_29 (d : Nat) (a : Int) (z0 z2 z3 : q_V) (st : List q_V) (v : q_H) (G : q_Gr) (Q : q_V → q_H → q_Gr → Prop) : q_wp d 51 29 [z0, .inl a, z2, z3] st v G Q = q_wp d 51 30 [z0, .inl a, z2, z3] (.inl a :: st) v G Q := q_w_iload_n c_51_29 rfl
theorem c_51_30 : q_code 51 30 = (.bipush 12, 2, 0, 0, 0, 0, 0) := by decide +kernel
theorem e_51_30 (d : Nat)  (z0 z1 z2 z3 : q_V) (st : List q_V) (v : q_H) (G : q_Gr) (Q : q_V → q_H → q_Gr → Prop) : q_wp d 51 30 [z0, z1, z2, z3] st v G Q = q_wp d 51 32 [z0, z1, z2, z3] (.inl 12 :: st) v G Q := (q_w_bipush c_51_30).trans (by simp only [show ((-128 : Int) ≤ 12 ∧ (12 : Int) ≤ 127) = True by decide, true_and])
theorem c_51_32 : q_code 51 32 = (.if_icmp .lt 8, 3, 0, 0, 0, 0, 0) := by decide +kernel
theorem e_51_32 (d : Nat) (a b : Int) (z0 z1 z2 z3 : q_V) (st : List q_V) (v : q_H) (G : q_Gr) (Q : q_V → q_H → q_Gr → Prop) : q_wp d 51 32 [z0, z1, z2, z3] (.inl b :: .inl a :: st) v G Q = ((q_inR a ∧ q_inR b) ∧ if a < b then q_wp d 51 40 [z0, z1, z2, z3] st v G Q else q_wp d 51 35 [z0, z1, z2, z3] st v G Q) := q_w_icmp_lt c_51_32 (by decide)
theorem c_51_35 : q_code 51 35 = (.aload_n 0, 1, 0, 0, 0, 0, 0) := by decide +kernel
theorem e_51_35 (d : Nat) (a : Option Nat) (z1 z2 z3 : q_V) (st : List q_V) (v : q_H) (G : q_Gr) (Q : q_V → q_H → q_Gr → Prop) : q_wp d 51 35 [.inr (.inr (.inl a)), z1, z2, z3] st v G Q = q_wp d 51 36 [.inr (.inr (.inl a)), z1, z2, z3] (.inr (.inr (.inl a)) :: st) v G Q := q_w_aload_n c_51_35 rfl
theorem c_51_36 : q_code 51 36 = (.iconst 3, 1, 0, 0, 0, 0, 0) := by decide +kernel
theorem e_51_36 (d : Nat)  (z0 z1 z2 z3 : q_V) (st : List q_V) (v : q_H) (G : q_Gr) (Q : q_V → q_H → q_Gr → Prop) : q_wp d 51 36 [z0, z1, z2, z3] st v G Q = q_wp d 51 37 [z0, z1, z2, z3] (.inl 3 :: st) v G Q := q_w_iconst c_51_36
theorem c_51_37 : q_code 51 37 = (.putfield 46, 3, 4, 9, 0, 120, 0) := by decide +kernel
theorem e_51_37 (d : Nat) (a : Nat) (b : Int) (z0 z1 z2 z3 : q_V) (st : List q_V) (v : q_H) (G : q_Gr) (Q : q_V → q_H → q_Gr → Prop) : q_wp d 51 37 [z0, z1, z2, z3] (.inl b :: .inr (.inr (.inl (some a))) :: st) v G Q = (((G.2.1 a).1 = 4) ∧ q_wp d 51 40 [z0, z1, z2, z3] st (q_up v a 9 b) G Q) := q_w_putI c_51_37
theorem c_51_40 : q_code 51 40 = (.iconst 0, 1, 0, 0, 0, 0, 0) := by decide +kernel
theorem e_51_40 (d : Nat)  (z0 z1 z2 z3 : q_V) (st : List q_V) (v : q_H) (G : q_Gr) (Q : q_V → q_H → q_Gr → Prop) : q_wp d 51 40 [z0, z1, z2, z3] st v G Q = q_wp d 51 41 [z0, z1, z2, z3] (.inl 0 :: st) v G Q := q_w_iconst c_51_40
theorem c_51_41 : q_code 51 41 = (.istore_n 3, 1, 0, 0, 0, 0, 0) := by decide +kernel
theorem e_51_41 (d : Nat) (a : Int) (z0 z1 z2 z3 : q_V) (st : List q_V) (v : q_H) (G : q_Gr) (Q : q_V → q_H → q_Gr → Prop) : q_wp d 51 41 [z0, z1, z2, z3] (.inl a :: st) v G Q = q_wp d 51 42 [z0, z1, z2, .inl a] st v G Q := q_w_istore_n c_51_41
theorem c_51_42 : q_code 51 42 = (.iload_n 3, 1, 0, 0, 0, 0, 0) := by decide +kernel
theorem e_51_42 (d : Nat) (a : Int) (z0 z1 z2 : q_V) (st : List q_V) (v : q_H) (G : q_Gr) (Q : q_V → q_H → q_Gr → Prop) : q_wp d 51 42 [z0, z1, z2, .inl a] st v G Q = q_wp d 51 43 [z0, z1, z2, .inl a] (.inl a :: st) v G Q := q_w_iload_n c_51_42 rfl
theorem c_51_43 : q_code 51 43 = (.iload_n 2, 1, 0, 0, 0, 0, 0) := by decide +kernel
theorem e_51_43 (d : Nat) (a : Int) (z0 z1 z3 : q_V) (st : List q_V) (v : q_H) (G : q_Gr) (Q : q_V → q_H → q_Gr → Prop) : q_wp d 51 43 [z0, z1, .inl a, z3] st v G Q = q_wp d 51 44 [z0, z1, .inl a, z3] (.inl a :: st) v G Q := q_w_iload_n c_51_43 rfl
theorem c_51_44 : q_code 51 44 = (.invokestatic 68, 3, 54, 1, 0, 580, 1) := by decide +kernel
theorem e_51_44 (d : Nat) (x0 y0 : q_V) (z0 z1 z2 z3 : q_V) (v : q_H) (G : q_Gr) (Q : q_V → q_H → q_Gr → Prop) : q_wp d 51 44 [z0, z1, z2, z3] [x0, y0] v G Q = q_call d 54 [x0] v G (fun r v G => q_wp d 51 47 [z0, z1, z2, z3] (q_push r [y0]) v G Q) := q_wp_ca (m2 := 54) (k := 1) (as := [x0]) (rest := [y0]) (congrArg q_kind c_51_44) (congrArg (fun w => w.2.2.1) c_51_44) (congrArg (fun w => w.2.2.2.1) c_51_44) rfl (Nat.le_of_ble_eq_true rfl) rfl
theorem c_51_47 : q_code 51 47 = (.if_icmp .ge 26, 3, 0, 0, 0, 0, 0) := by decide +kernel
theorem e_51_47 (d : Nat) (a b : Int) (z0 z1 z2 z3 : q_V) (st : List q_V) (v : q_H) (G : q_Gr) (Q : q_V → q_H → q_Gr → Prop) : q_wp d 51 47 [z0, z1, z2, z3] (.inl b :: .inl a :: st) v G Q = ((q_inR a ∧ q_inR b) ∧ if b ≤ a then q_wp d 51 73 [z0, z1, z2, z3] st v G Q else q_wp d 51 50 [z0, z1, z2, z3] st v G Q) := q_w_icmp_ge c_51_47 (by decide)
theorem c_51_50 : q_code 51 50 = (.aload_n 0, 1, 0, 0, 0, 0, 0) := by decide +kernel
theorem e_51_50 (d : Nat) (a : Option Nat) (z1 z2 z3 : q_V) (st : List q_V) (v : q_H) (G : q_Gr) (Q : q_V → q_H → q_Gr → Prop) : q_wp d 51 50 [.inr (.inr (.inl a)), z1, z2, z3] st v G Q = q_wp d 51 51 [.inr (.inr (.inl a)), z1, z2, z3] (.inr (.inr (.inl a)) :: st) v G Q := q_w_aload_n c_51_50 rfl
theorem c_51_51 : q_code 51 51 = (.getfield 46, 3, 4, 9, 0, 120, 0) := by decide +kernel
theorem e_51_51 (d : Nat) (a : Nat) (z0 z1 z2 z3 : q_V) (st : List q_V) (v : q_H) (G : q_Gr) (Q : q_V → q_H → q_Gr → Prop) : q_wp d 51 51 [z0, z1, z2, z3] (.inr (.inr (.inl (some a))) :: st) v G Q = (((G.2.1 a).1 = 4) ∧ q_wp d 51 54 [z0, z1, z2, z3] (.inl (v a 9) :: st) v G Q) := q_w_getI c_51_51
theorem c_51_54 : q_code 51 54 = (.ifCond .ne 19, 3, 0, 0, 0, 0, 0) := by decide +kernel
theorem e_51_54 (d : Nat) (a : Int) (z0 z1 z2 z3 : q_V) (st : List q_V) (v : q_H) (G : q_Gr) (Q : q_V → q_H → q_Gr → Prop) : q_wp d 51 54 [z0, z1, z2, z3] (.inl a :: st) v G Q = ((q_inR a) ∧ if ¬ a = 0 then q_wp d 51 73 [z0, z1, z2, z3] st v G Q else q_wp d 51 57 [z0, z1, z2, z3] st v G Q) := q_w_if_ne c_51_54 (by decide)
theorem c_51_57 : q_code 51 57 = (.aload_n 0, 1, 0, 0, 0, 0, 0) := by decide +kernel
theorem e_51_57 (d : Nat) (a : Option Nat) (z1 z2 z3 : q_V) (st : List q_V) (v : q_H) (G : q_Gr) (Q : q_V → q_H → q_Gr → Prop) : q_wp d 51 57 [.inr (.inr (.inl a)), z1, z2, z3] st v G Q = q_wp d 51 58 [.inr (.inr (.inl a)), z1, z2, z3] (.inr (.inr (.inl a)) :: st) v G Q := q_w_aload_n c_51_57 rfl
theorem c_51_58 : q_code 51 58 = (.invokevirtual 52, 3, 56, 1, 0, 507, 0) := by decide +kernel
theorem e_51_58 (d : Nat) (x0 : q_V) (z0 z1 z2 z3 : q_V) (v : q_H) (G : q_Gr) (Q : q_V → q_H → q_Gr → Prop) : q_wp d 51 58 [z0, z1, z2, z3] [x0] v G Q = q_call d 56 [x0] v G (fun r v G => q_wp d 51 61 [z0, z1, z2, z3] (q_push r []) v G Q) := q_wp_ca (m2 := 56) (k := 1) (as := [x0]) (rest := []) (congrArg q_kind c_51_58) (congrArg (fun w => w.2.2.1) c_51_58) (congrArg (fun w => w.2.2.2.1) c_51_58) rfl (Nat.le_of_ble_eq_true rfl) rfl
theorem c_51_61 : q_code 51 61 = (.aload_n 0, 1, 0, 0, 0, 0, 0) := by decide +kernel
theorem e_51_61 (d : Nat) (a : Option Nat) (z1 z2 z3 : q_V) (st : List q_V) (v : q_H) (G : q_Gr) (Q : q_V → q_H → q_Gr → Prop) : q_wp d 51 61 [.inr (.inr (.inl a)), z1, z2, z3] st v G Q = q_wp d 51 62 [.inr (.inr (.inl a)), z1, z2, z3] (.inr (.inr (.inl a)) :: st) v G Q := q_w_aload_n c_51_61 rfl
theorem c_51_62 : q_code 51 62 = (.iload_n 2, 1, 0, 0, 0, 0, 0) := by decide +kernel
theorem e_51_62 (d : Nat) (a : Int) (z0 z1 z3 : q_V) (st : List q_V) (v : q_H) (G : q_Gr) (Q : q_V → q_H → q_Gr → Prop) : q_wp d 51 62 [z0, z1, .inl a, z3] st v G Q = q_wp d 51 63 [z0, z1, .inl a, z3] (.inl a :: st) v G Q := q_w_iload_n c_51_62 rfl
theorem c_51_63 : q_code 51 63 = (.iload_n 3, 1, 0, 0, 0, 0, 0) := by decide +kernel
theorem e_51_63 (d : Nat) (a : Int) (z0 z1 z2 : q_V) (st : List q_V) (v : q_H) (G : q_Gr) (Q : q_V → q_H → q_Gr → Prop) : q_wp d 51 63 [z0, z1, z2, .inl a] st v G Q = q_wp d 51 64 [z0, z1, z2, .inl a] (.inl a :: st) v G Q := q_w_iload_n c_51_63 rfl
theorem c_51_64 : q_code 51 64 = (.invokevirtual 72, 3, 52, 3, 0, 583, 0) := by decide +kernel
theorem e_51_64 (d : Nat) (x0 x1 x2 : q_V) (z0 z1 z2 z3 : q_V) (v : q_H) (G : q_Gr) (Q : q_V → q_H → q_Gr → Prop) : q_wp d 51 64 [z0, z1, z2, z3] [x2, x1, x0] v G Q = q_call d 52 [x0, x1, x2] v G (fun r v G => q_wp d 51 67 [z0, z1, z2, z3] (q_push r []) v G Q) := q_wp_ca (m2 := 52) (k := 3) (as := [x0, x1, x2]) (rest := []) (congrArg q_kind c_51_64) (congrArg (fun w => w.2.2.1) c_51_64) (congrArg (fun w => w.2.2.2.1) c_51_64) rfl (Nat.le_of_ble_eq_true rfl) rfl
theorem c_51_67 : q_code 51 67 = (.iinc 3 1, 3, 0, 0, 0, 0, 0) := by decide +kernel
theorem e_51_67 (d : Nat) (a : Int) (z0 z1 z2 : q_V) (st : List q_V) (v : q_H) (G : q_Gr) (Q : q_V → q_H → q_Gr → Prop) : q_wp d 51 67 [z0, z1, z2, .inl a] st v G Q = q_wp d 51 70 [z0, z1, z2, .inl (a + 1)] st v G Q := q_w_iinc c_51_67 rfl
theorem c_51_70 : q_code 51 70 = (.goto (-28), 3, 0, 0, 0, 0, 0) := by decide +kernel
theorem e_51_70 (d : Nat)  (z0 z1 z2 z3 : q_V) (st : List q_V) (v : q_H) (G : q_Gr) (Q : q_V → q_H → q_Gr → Prop) : q_wp d 51 70 [z0, z1, z2, z3] st v G Q = q_wp d 51 42 [z0, z1, z2, z3] st v G Q := q_w_goto c_51_70 (by decide)
theorem c_51_73 : q_code 51 73 = (.aload_n 0, 1, 0, 0, 0, 0, 0) := by decide +kernel
theorem e_51_73 (d : Nat) (a : Option Nat) (z1 z2 z3 : q_V) (st : List q_V) (v : q_H) (G : q_Gr) (Q : q_V → q_H → q_Gr → Prop) : q_wp d 51 73 [.inr (.inr (.inl a)), z1, z2, z3] st v G Q = q_wp d 51 74 [.inr (.inr (.inl a)), z1, z2, z3] (.inr (.inr (.inl a)) :: st) v G Q := q_w_aload_n c_51_73 rfl
theorem c_51_74 : q_code 51 74 = (.getfield 46, 3, 4, 9, 0, 120, 0) := by decide +kernel
theorem e_51_74 (d : Nat) (a : Nat) (z0 z1 z2 z3 : q_V) (st : List q_V) (v : q_H) (G : q_Gr) (Q : q_V → q_H → q_Gr → Prop) : q_wp d 51 74 [z0, z1, z2, z3] (.inr (.inr (.inl (some a))) :: st) v G Q = (((G.2.1 a).1 = 4) ∧ q_wp d 51 77 [z0, z1, z2, z3] (.inl (v a 9) :: st) v G Q) := q_w_getI c_51_74
theorem c_51_77 : q_code 51 77 = (.ifCond .ne 24, 3, 0, 0, 0, 0, 0) := by decide +kernel
theorem e_51_77 (d : Nat) (a : Int) (z0 z1 z2 z3 : q_V) (st : List q_V) (v : q_H) (G : q_Gr) (Q : q_V → q_H → q_Gr → Prop) : q_wp d 51 77 [z0, z1, z2, z3] (.inl a :: st) v G Q = ((q_inR a) ∧ if ¬ a = 0 then q_wp d 51 101 [z0, z1, z2, z3] st v G Q else q_wp d 51 80 [z0, z1, z2, z3] st v G Q) := q_w_if_ne c_51_77 (by decide)
theorem c_51_80 : q_code 51 80 = (.aload_n 0, 1, 0, 0, 0, 0, 0) := by decide +kernel
theorem e_51_80 (d : Nat) (a : Option Nat) (z1 z2 z3 : q_V) (st : List q_V) (v : q_H) (G : q_Gr) (Q : q_V → q_H → q_Gr → Prop) : q_wp d 51 80 [.inr (.inr (.inl a)), z1, z2, z3] st v G Q = q_wp d 51 81 [.inr (.inr (.inl a)), z1, z2, z3] (.inr (.inr (.inl a)) :: st) v G Q := q_w_aload_n c_51_80 rfl
theorem c_51_81 : q_code 51 81 = (.invokevirtual 52, 3, 56, 1, 0, 507, 0) := by decide +kernel
theorem e_51_81 (d : Nat) (x0 : q_V) (z0 z1 z2 z3 : q_V) (v : q_H) (G : q_Gr) (Q : q_V → q_H → q_Gr → Prop) : q_wp d 51 81 [z0, z1, z2, z3] [x0] v G Q = q_call d 56 [x0] v G (fun r v G => q_wp d 51 84 [z0, z1, z2, z3] (q_push r []) v G Q) := q_wp_ca (m2 := 56) (k := 1) (as := [x0]) (rest := []) (congrArg q_kind c_51_81) (congrArg (fun w => w.2.2.1) c_51_81) (congrArg (fun w => w.2.2.2.1) c_51_81) rfl (Nat.le_of_ble_eq_true rfl) rfl
theorem c_51_84 : q_code 51 84 = (.aload_n 0, 1, 0, 0, 0, 0, 0) := by decide +kernel
theorem e_51_84 (d : Nat) (a : Option Nat) (z1 z2 z3 : q_V) (st : List q_V) (v : q_H) (G : q_Gr) (Q : q_V → q_H → q_Gr → Prop) : q_wp d 51 84 [.inr (.inr (.inl a)), z1, z2, z3] st v G Q = q_wp d 51 85 [.inr (.inr (.inl a)), z1, z2, z3] (.inr (.inr (.inl a)) :: st) v G Q := q_w_aload_n c_51_84 rfl
theorem c_51_85 : q_code 51 85 = (.aload_n 0, 1, 0, 0, 0, 0, 0) := by decide +kernel
theorem e_51_85 (d : Nat) (a : Option Nat) (z1 z2 z3 : q_V) (st : List q_V) (v : q_H) (G : q_Gr) (Q : q_V → q_H → q_Gr → Prop) : q_wp d 51 85 [.inr (.inr (.inl a)), z1, z2, z3] st v G Q = q_wp d 51 86 [.inr (.inr (.inl a)), z1, z2, z3] (.inr (.inr (.inl a)) :: st) v G Q := q_w_aload_n c_51_85 rfl
theorem c_51_86 : q_code 51 86 = (.getfield 55, 3, 4, 4, 0, 115, 0) := by decide +kernel
theorem e_51_86 (d : Nat) (a : Nat) (z0 z1 z2 z3 : q_V) (st : List q_V) (v : q_H) (G : q_Gr) (Q : q_V → q_H → q_Gr → Prop) : q_wp d 51 86 [z0, z1, z2, z3] (.inr (.inr (.inl (some a))) :: st) v G Q = (((G.2.1 a).1 = 4) ∧ q_wp d 51 89 [z0, z1, z2, z3] (.inl (v a 4) :: st) v G Q) := q_w_getI c_51_86
theorem c_51_89 : q_code 51 89 = (.iconst 3, 1, 0, 0, 0, 0, 0) := by decide +kernel
theorem e_51_89 (d : Nat)  (z0 z1 z2 z3 : q_V) (st : List q_V) (v : q_H) (G : q_Gr) (Q : q_V → q_H → q_Gr → Prop) : q_wp d 51 89 [z0, z1, z2, z3] st v G Q = q_wp d 51 90 [z0, z1, z2, z3] (.inl 3 :: st) v G Q := q_w_iconst c_51_89
theorem c_51_90 : q_code 51 90 = (.if_icmp .ne 7, 3, 0, 0, 0, 0, 0) := by decide +kernel
theorem e_51_90 (d : Nat) (a b : Int) (z0 z1 z2 z3 : q_V) (st : List q_V) (v : q_H) (G : q_Gr) (Q : q_V → q_H → q_Gr → Prop) : q_wp d 51 90 [z0, z1, z2, z3] (.inl b :: .inl a :: st) v G Q = ((q_inR a ∧ q_inR b) ∧ if ¬ a = b then q_wp d 51 97 [z0, z1, z2, z3] st v G Q else q_wp d 51 93 [z0, z1, z2, z3] st v G Q) := q_w_icmp_ne c_51_90 (by decide)
theorem c_51_93 : q_code 51 93 = (.iconst 0, 1, 0, 0, 0, 0, 0) := by decide +kernel
theorem e_51_93 (d : Nat)  (z0 z1 z2 z3 : q_V) (st : List q_V) (v : q_H) (G : q_Gr) (Q : q_V → q_H → q_Gr → Prop) : q_wp d 51 93 [z0, z1, z2, z3] st v G Q = q_wp d 51 94 [z0, z1, z2, z3] (.inl 0 :: st) v G Q := q_w_iconst c_51_93
theorem c_51_94 : q_code 51 94 = (.goto 4, 3, 0, 0, 0, 0, 0) := by decide +kernel
theorem e_51_94 (d : Nat)  (z0 z1 z2 z3 : q_V) (st : List q_V) (v : q_H) (G : q_Gr) (Q : q_V → q_H → q_Gr → Prop) : q_wp d 51 94 [z0, z1, z2, z3] st v G Q = q_wp d 51 98 [z0, z1, z2, z3] st v G Q := q_w_goto c_51_94 (by decide)
theorem c_51_97 : q_code 51 97 = (.iconst 1, 1, 0, 0, 0, 0, 0) := by decide +kernel
theorem e_51_97 (d : Nat)  (z0 z1 z2 z3 : q_V) (st : List q_V) (v : q_H) (G : q_Gr) (Q : q_V → q_H → q_Gr → Prop) : q_wp d 51 97 [z0, z1, z2, z3] st v G Q = q_wp d 51 98 [z0, z1, z2, z3] (.inl 1 :: st) v G Q := q_w_iconst c_51_97
theorem c_51_98 : q_code 51 98 = (.putfield 46, 3, 4, 9, 0, 120, 0) := by decide +kernel
theorem e_51_98 (d : Nat) (a : Nat) (b : Int) (z0 z1 z2 z3 : q_V) (st : List q_V) (v : q_H) (G : q_Gr) (Q : q_V → q_H → q_Gr → Prop) : q_wp d 51 98 [z0, z1, z2, z3] (.inl b :: .inr (.inr (.inl (some a))) :: st) v G Q = (((G.2.1 a).1 = 4) ∧ q_wp d 51 101 [z0, z1, z2, z3] st (q_up v a 9 b) G Q) := q_w_putI c_51_98
theorem c_51_101 : q_code 51 101 = (.aload_n 0, 1, 0, 0, 0, 0, 0) := by decide +kernel
theorem e_51_101 (d : Nat) (a : Option Nat) (z1 z2 z3 : q_V) (st : List q_V) (v : q_H) (G : q_Gr) (Q : q_V → q_H → q_Gr → Prop) : q_wp d 51 101 [.inr (.inr (.inl a)), z1, z2, z3] st v G Q = q_wp d 51 102 [.inr (.inr (.inl a)), z1, z2, z3] (.inr (.inr (.inl a)) :: st) v G Q := q_w_aload_n c_51_101 rfl
theorem c_51_102 : q_code 51 102 = (.getfield 46, 3, 4, 9, 0, 120, 0) := by decide +kernel
theorem e_51_102 (d : Nat) (a : Nat) (z0 z1 z2 z3 : q_V) (st : List q_V) (v : q_H) (G : q_Gr) (Q : q_V → q_H → q_Gr → Prop) : q_wp d 51 102 [z0, z1, z2, z3] (.inr (.inr (.inl (some a))) :: st) v G Q = (((G.2.1 a).1 = 4) ∧ q_wp d 51 105 [z0, z1, z2, z3] (.inl (v a 9) :: st) v G Q) := q_w_getI c_51_102
theorem c_51_105 : q_code 51 105 = (.ifCond .eq 5, 3, 0, 0, 0, 0, 0) := by decide +kernel
theorem e_51_105 (d : Nat) (a : Int) (z0 z1 z2 z3 : q_V) (st : List q_V) (v : q_H) (G : q_Gr) (Q : q_V → q_H → q_Gr → Prop) : q_wp d 51 105 [z0, z1, z2, z3] (.inl a :: st) v G Q = ((q_inR a) ∧ if a = 0 then q_wp d 51 110 [z0, z1, z2, z3] st v G Q else q_wp d 51 108 [z0, z1, z2, z3] st v G Q) := q_w_if_eq c_51_105 (by decide)
theorem c_51_108 : q_code 51 108 = (.aconst_null, 1, 0, 0, 0, 0, 0) := by decide +kernel
theorem e_51_108 (d : Nat)  (z0 z1 z2 z3 : q_V) (st : List q_V) (v : q_H) (G : q_Gr) (Q : q_V → q_H → q_Gr → Prop) : q_wp d 51 108 [z0, z1, z2, z3] st v G Q = q_wp d 51 109 [z0, z1, z2, z3] (.inr (.inr (.inl none)) :: st) v G Q := q_w_null c_51_108
theorem c_51_109 : q_code 51 109 = (.areturn, 1, 0, 0, 0, 0, 0) := by decide +kernel
theorem e_51_109 (d : Nat) (a : Option Nat) (z0 z1 z2 z3 : q_V) (v : q_H) (G : q_Gr) (Q : q_V → q_H → q_Gr → Prop) : q_wp d 51 109 [z0, z1, z2, z3] [.inr (.inr (.inl a))] v G Q = Q (.inr (.inr (.inl a))) v G := q_w_areturn c_51_109 ⟨_, rfl⟩
theorem c_51_110 : q_code 51 110 = (.aload_n 0, 1, 0, 0, 0, 0, 0) := by decide +kernel
theorem e_51_110 (d : Nat) (a : Option Nat) (z1 z2 z3 : q_V) (st : List q_V) (v : q_H) (G : q_Gr) (Q : q_V → q_H → q_Gr → Prop) : q_wp d 51 110 [.inr (.inr (.inl a)), z1, z2, z3] st v G Q = q_wp d 51 111 [.inr (.inr (.inl a)), z1, z2, z3] (.inr (.inr (.inl a)) :: st) v G Q := q_w_aload_n c_51_110 rfl
theorem c_51_111 : q_code 51 111 = (.invokevirtual 52, 3, 56, 1, 0, 507, 0) := by decide +kernel
theorem e_51_111 (d : Nat) (x0 : q_V) (z0 z1 z2 z3 : q_V) (v : q_H) (G : q_Gr) (Q : q_V → q_H → q_Gr → Prop) : q_wp d 51 111 [z0, z1, z2, z3] [x0] v G Q = q_call d 56 [x0] v G (fun r v G => q_wp d 51 114 [z0, z1, z2, z3] (q_push r []) v G Q) := q_wp_ca (m2 := 56) (k := 1) (as := [x0]) (rest := []) (congrArg q_kind c_51_111) (congrArg (fun w => w.2.2.1) c_51_111) (congrArg (fun w => w.2.2.2.1) c_51_111) rfl (Nat.le_of_ble_eq_true rfl) rfl
theorem c_51_114 : q_code 51 114 = (.aload_n 0, 1, 0, 0, 0, 0, 0) := by decide +kernel
theorem e_51_114 (d : Nat) (a : Option Nat) (z1 z2 z3 : q_V) (st : List q_V) (v : q_H) (G : q_Gr) (Q : q_V → q_H → q_Gr → Prop) : q_wp d 51 114 [.inr (.inr (.inl a)), z1, z2, z3] st v G Q = q_wp d 51 115 [.inr (.inr (.inl a)), z1, z2, z3] (.inr (.inr (.inl a)) :: st) v G Q := q_w_aload_n c_51_114 rfl
theorem c_51_115 : q_code 51 115 = (.iload_n 2, 1, 0, 0, 0, 0, 0) := by decide +kernel
theorem e_51_115 (d : Nat) (a : Int) (z0 z1 z3 : q_V) (st : List q_V) (v : q_H) (G : q_Gr) (Q : q_V → q_H → q_Gr → Prop) : q_wp d 51 115 [z0, z1, .inl a, z3] st v G Q = q_wp d 51 116 [z0, z1, .inl a, z3] (.inl a :: st) v G Q := q_w_iload_n c_51_115 rfl
theorem c_51_116 : q_code 51 116 = (.invokevirtual 76, 3, 53, 2, 0, 589, 3) := by decide +kernel
theorem e_51_116 (d : Nat) (x0 x1 : q_V) (z0 z1 z2 z3 : q_V) (v : q_H) (G : q_Gr) (Q : q_V → q_H → q_Gr → Prop) : q_wp d 51 116 [z0, z1, z2, z3] [x1, x0] v G Q = q_call d 53 [x0, x1] v G (fun r v G => q_wp d 51 119 [z0, z1, z2, z3] (q_push r []) v G Q) := q_wp_ca (m2 := 53) (k := 2) (as := [x0, x1]) (rest := []) (congrArg q_kind c_51_116) (congrArg (fun w => w.2.2.1) c_51_116) (congrArg (fun w => w.2.2.2.1) c_51_116) rfl (Nat.le_of_ble_eq_true rfl) rfl
theorem c_51_119 : q_code 51 119 = (.areturn, 1, 0, 0, 0, 0, 0) := by decide +kernel
theorem e_51_119 (d : Nat) (a : Option Nat) (z0 z1 z2 z3 : q_V) (v : q_H) (G : q_Gr) (Q : q_V → q_H → q_Gr → Prop) : q_wp d 51 119 [z0, z1, z2, z3] [.inr (.inr (.inl a))] v G Q = Q (.inr (.inr (.inl a))) v G := q_w_areturn c_51_119 ⟨_, rfl⟩
theorem e_51 (d : Nat) (a0 : Nat) (a1 : Int) (v : q_H) (G : q_Gr) (Q : q_V → q_H → q_Gr → Prop) : q_call (d + 1) 51 [.inr (.inr (.inl (some a0))), .inl a1] v G Q = ((G.2.1 a0).1 = 4 ∧ q_wp d 51 0 [.inr (.inr (.inl (some a0))), .inl a1, .inr (.inr (.inr ())), .inr (.inr (.inr ()))] [] v G Q) := by
  rw [q_call_in (by decide) (Nat.le_of_ble_eq_true rfl) rfl]
  exact congrArg (· ∧ _) (propext beq_iff_eq)
/-- all but the heads of loops: [42] -/
def E51 := And.intro @e_51 (And.intro @e_51_0 (And.intro @e_51_1 (And.intro @e_51_4 (And.intro @e_51_5 (And.intro @e_51_8 (And.intro @e_51_9 (And.intro @e_51_12 (And.intro @e_51_15 (And.intro @e_51_16 (And.intro @e_51_17 (And.intro @e_51_18 (And.intro @e_51_21 (And.intro @e_51_22 (And.intro @e_51_23 (And.intro @e_51_26 (And.intro @e_51_29 (And.intro @e_51_30 (And.intro @e_51_32 (And.intro @e_51_35 (And.intro @e_51_36 (And.intro @e_51_37 (And.intro @e_51_40 (And.intro @e_51_41 (And.intro @e_51_43 (And.intro @e_51_44 (And.intro @e_51_47 (And.intro @e_51_50 (And.intro @e_51_51 (And.intro @e_51_54 (And.intro @e_51_57 (And.intro @e_51_58 (And.intro @e_51_61 (And.intro @e_51_62 (And.intro @e_51_63 (And.intro @e_51_64 (And.intro @e_51_67 (And.intro @e_51_70 (And.intro @e_51_73 (And.intro @e_51_74 (And.intro @e_51_77 (And.intro @e_51_80 (And.intro @e_51_81 (And.intro @e_51_84 (And.intro @e_51_85 (And.intro @e_51_86 (And.intro @e_51_89 (And.intro @e_51_90 (And.intro @e_51_93 (And.intro @e_51_94 (And.intro @e_51_97 (And.intro @e_51_98 (And.intro @e_51_101 (And.intro @e_51_102 (And.intro @e_51_105 (And.intro @e_51_108 (And.intro @e_51_109 (And.intro @e_51_110 (And.intro @e_51_111 (And.intro @e_51_114 (And.intro @e_51_115 (And.intro @e_51_116 (@e_51_119))))))))))))))))))))))))))))))))))))))))))))))))))))))))))))))
/-! ProvenRows$Plans.readNumber(II)V -/
theorem c_52_0 : q_code 52 0 = (.aload_n 0, 1, 0, 0, 0, 0, 0) := by decide +kernel
theorem e_52_0 (d : Nat) (a : Option Nat) (z1 z2 : q_V) (st : List q_V) (v : q_H) (G : q_Gr) (Q : q_V → q_H → q_Gr → Prop) : q_wp d 52 0 [.inr (.inr (.inl a)), z1, z2] st v G Q = q_wp d 52 1 [.inr (.inr (.inl a)), z1, z2] (.inr (.inr (.inl a)) :: st) v G Q := q_w_aload_n c_52_0 rfl
theorem c_52_1 : q_code 52 1 = (.getfield 55, 3, 4, 4, 0, 115, 0) := by decide +kernel
theorem e_52_1 (d : Nat) (a : Nat) (z0 z1 z2 : q_V) (st : List q_V) (v : q_H) (G : q_Gr) (Q : q_V → q_H → q_Gr → Prop) : q_wp d 52 1 [z0, z1, z2] (.inr (.inr (.inl (some a))) :: st) v G Q = (((G.2.1 a).1 = 4) ∧ q_wp d 52 4 [z0, z1, z2] (.inl (v a 4) :: st) v G Q) := q_w_getI c_52_1
theorem c_52_4 : q_code 52 4 = (.iconst 2, 1, 0, 0, 0, 0, 0) := by decide +kernel
theorem e_52_4 (d : Nat)  (z0 z1 z2 : q_V) (st : List q_V) (v : q_H) (G : q_Gr) (Q : q_V → q_H → q_Gr → Prop) : q_wp d 52 4 [z0, z1, z2] st v G Q = q_wp d 52 5 [z0, z1, z2] (.inl 2 :: st) v G Q := q_w_iconst c_52_4
theorem c_52_5 : q_code 52 5 = (.if_icmp .eq 11, 3, 0, 0, 0, 0, 0) := by decide +kernel
theorem e_52_5 (d : Nat) (a b : Int) (z0 z1 z2 : q_V) (st : List q_V) (v : q_H) (G : q_Gr) (Q : q_V → q_H → q_Gr → Prop) : q_wp d 52 5 [z0, z1, z2] (.inl b :: .inl a :: st) v G Q = ((q_inR a ∧ q_inR b) ∧ if a = b then q_wp d 52 16 [z0, z1, z2] st v G Q else q_wp d 52 8 [z0, z1, z2] st v G Q) := q_w_icmp_eq c_52_5 (by decide)
theorem c_52_8 : q_code 52 8 = (.aload_n 0, 1, 0, 0, 0, 0, 0) := by decide +kernel
theorem e_52_8 (d : Nat) (a : Option Nat) (z1 z2 : q_V) (st : List q_V) (v : q_H) (G : q_Gr) (Q : q_V → q_H → q_Gr → Prop) : q_wp d 52 8 [.inr (.inr (.inl a)), z1, z2] st v G Q = q_wp d 52 9 [.inr (.inr (.inl a)), z1, z2] (.inr (.inr (.inl a)) :: st) v G Q := q_w_aload_n c_52_8 rfl
theorem c_52_9 : q_code 52 9 = (.iconst 1, 1, 0, 0, 0, 0, 0) := by decide +kernel
theorem e_52_9 (d : Nat)  (z0 z1 z2 : q_V) (st : List q_V) (v : q_H) (G : q_Gr) (Q : q_V → q_H → q_Gr → Prop) : q_wp d 52 9 [z0, z1, z2] st v G Q = q_wp d 52 10 [z0, z1, z2] (.inl 1 :: st) v G Q := q_w_iconst c_52_9
theorem c_52_10 : q_code 52 10 = (.putfield 46, 3, 4, 9, 0, 120, 0) := by decide +kernel
theorem e_52_10 (d : Nat) (a : Nat) (b : Int) (z0 z1 z2 : q_V) (st : List q_V) (v : q_H) (G : q_Gr) (Q : q_V → q_H → q_Gr → Prop) : q_wp d 52 10 [z0, z1, z2] (.inl b :: .inr (.inr (.inl (some a))) :: st) v G Q = (((G.2.1 a).1 = 4) ∧ q_wp d 52 13 [z0, z1, z2] st (q_up v a 9 b) G Q) := q_w_putI c_52_10
theorem c_52_13 : q_code 52 13 = (.goto 42, 3, 0, 0, 0, 0, 0) := by decide +kernel
theorem e_52_13 (d : Nat)  (z0 z1 z2 : q_V) (st : List q_V) (v : q_H) (G : q_Gr) (Q : q_V → q_H → q_Gr → Prop) : q_wp d 52 13 [z0, z1, z2] st v G Q = q_wp d 52 55 [z0, z1, z2] st v G Q := q_w_goto c_52_13 (by decide)
theorem c_52_16 : q_code 52 16 = (.aload_n 0, 1, 0, 0, 0, 0, 0) := by decide +kernel
theorem e_52_16 (d : Nat) (a : Option Nat) (z1 z2 : q_V) (st : List q_V) (v : q_H) (G : q_Gr) (Q : q_V → q_H → q_Gr → Prop) : q_wp d 52 16 [.inr (.inr (.inl a)), z1, z2] st v G Q = q_wp d 52 17 [.inr (.inr (.inl a)), z1, z2] (.inr (.inr (.inl a)) :: st) v G Q := q_w_aload_n c_52_16 rfl
theorem c_52_17 : q_code 52 17 = (.iload_n 1, 1, 0, 0, 0, 0, 0) := by decide +kernel
theorem e_52_17 (d : Nat) (a : Int) (z0 z2 : q_V) (st : List q_V) (v : q_H) (G : q_Gr) (Q : q_V → q_H → q_Gr → Prop) : q_wp d 52 17 [z0, .inl a, z2] st v G Q = q_wp d 52 18 [z0, .inl a, z2] (.inl a :: st) v G Q := q_w_iload_n c_52_17 rfl
theorem c_52_18 : q_code 52 18 = (.iload_n 2, 1, 0, 0, 0, 0, 0) := by decide +kernel
theorem e_52_18 (d : Nat) (a : Int) (z0 z1 : q_V) (st : List q_V) (v : q_H) (G : q_Gr) (Q : q_V → q_H → q_Gr → Prop) : q_wp d 52 18 [z0, z1, .inl a] st v G Q = q_wp d 52 19 [z0, z1, .inl a] (.inl a :: st) v G Q := q_w_iload_n c_52_18 rfl
theorem c_52_19 : q_code 52 19 = (.aload_n 0, 1, 0, 0, 0, 0, 0) := by decide +kernel
theorem e_52_19 (d : Nat) (a : Option Nat) (z1 z2 : q_V) (st : List q_V) (v : q_H) (G : q_Gr) (Q : q_V → q_H → q_Gr → Prop) : q_wp d 52 19 [.inr (.inr (.inl a)), z1, z2] st v G Q = q_wp d 52 20 [.inr (.inr (.inl a)), z1, z2] (.inr (.inr (.inl a)) :: st) v G Q := q_w_aload_n c_52_19 rfl
theorem c_52_20 : q_code 52 20 = (.getfield 79, 3, 4, 7, 0, 118, 0) := by decide +kernel
theorem e_52_20 (d : Nat) (a : Nat) (z0 z1 z2 : q_V) (st : List q_V) (v : q_H) (G : q_Gr) (Q : q_V → q_H → q_Gr → Prop) : q_wp d 52 20 [z0, z1, z2] (.inr (.inr (.inl (some a))) :: st) v G Q = (((G.2.1 a).1 = 4) ∧ q_wp d 52 23 [z0, z1, z2] (.inl (v a 7) :: st) v G Q) := q_w_getI c_52_20
theorem c_52_23 : q_code 52 23 = (.invokevirtual 82, 3, 55, 4, 0, 586, 1) := by decide +kernel
theorem e_52_23 (d : Nat) (x0 x1 x2 x3 : q_V) (z0 z1 z2 : q_V) (v : q_H) (G : q_Gr) (Q : q_V → q_H → q_Gr → Prop) : q_wp d 52 23 [z0, z1, z2] [x3, x2, x1, x0] v G Q = q_call d 55 [x0, x1, x2, x3] v G (fun r v G => q_wp d 52 26 [z0, z1, z2] (q_push r []) v G Q) := q_wp_ca (m2 := 55) (k := 4) (as := [x0, x1, x2, x3]) (rest := []) (congrArg q_kind c_52_23) (congrArg (fun w => w.2.2.1) c_52_23) (congrArg (fun w => w.2.2.2.1) c_52_23) rfl (Nat.le_of_ble_eq_true rfl) rfl
theorem c_52_26 : q_code 52 26 = (.ifCond .ne 11, 3, 0, 0, 0, 0, 0) := by decide +kernel
theorem e_52_26 (d : Nat) (a : Int) (z0 z1 z2 : q_V) (st : List q_V) (v : q_H) (G : q_Gr) (Q : q_V → q_H → q_Gr → Prop) : q_wp d 52 26 [z0, z1, z2] (.inl a :: st) v G Q = ((q_inR a) ∧ if ¬ a = 0 then q_wp d 52 37 [z0, z1, z2] st v G Q else q_wp d 52 29 [z0, z1, z2] st v G Q) := q_w_if_ne c_52_26 (by decide)
theorem c_52_29 : q_code 52 29 = (.aload_n 0, 1, 0, 0, 0, 0, 0) := by decide +kernel
theorem e_52_29 (d : Nat) (a : Option Nat) (z1 z2 : q_V) (st : List q_V) (v : q_H) (G : q_Gr) (Q : q_V → q_H → q_Gr → Prop) : q_wp d 52 29 [.inr (.inr (.inl a)), z1, z2] st v G Q = q_wp d 52 30 [.inr (.inr (.inl a)), z1, z2] (.inr (.inr (.inl a)) :: st) v G Q := q_w_aload_n c_52_29 rfl
theorem c_52_30 : q_code 52 30 = (.iconst 2, 1, 0, 0, 0, 0, 0) := by decide +kernel
theorem e_52_30 (d : Nat)  (z0 z1 z2 : q_V) (st : List q_V) (v : q_H) (G : q_Gr) (Q : q_V → q_H → q_Gr → Prop) : q_wp d 52 30 [z0, z1, z2] st v G Q = q_wp d 52 31 [z0, z1, z2] (.inl 2 :: st) v G Q := q_w_iconst c_52_30
theorem c_52_31 : q_code 52 31 = (.putfield 46, 3, 4, 9, 0, 120, 0) := by decide +kernel
theorem e_52_31 (d : Nat) (a : Nat) (b : Int) (z0 z1 z2 : q_V) (st : List q_V) (v : q_H) (G : q_Gr) (Q : q_V → q_H → q_Gr → Prop) : q_wp d 52 31 [z0, z1, z2] (.inl b :: .inr (.inr (.inl (some a))) :: st) v G Q = (((G.2.1 a).1 = 4) ∧ q_wp d 52 34 [z0, z1, z2] st (q_up v a 9 b) G Q) := q_w_putI c_52_31
theorem c_52_34 : q_code 52 34 = (.goto 21, 3, 0, 0, 0, 0, 0) := by decide +kernel
theorem e_52_34 (d : Nat)  (z0 z1 z2 : q_V) (st : List q_V) (v : q_H) (G : q_Gr) (Q : q_V → q_H → q_Gr → Prop) : q_wp d 52 34 [z0, z1, z2] st v G Q = q_wp d 52 55 [z0, z1, z2] st v G Q := q_w_goto c_52_34 (by decide)
theorem c_52_37 : q_code 52 37 = (.iload_n 2, 1, 0, 0, 0, 0, 0) := by decide +kernel
theorem e_52_37 (d : Nat) (a : Int) (z0 z1 : q_V) (st : List q_V) (v : q_H) (G : q_Gr) (Q : q_V → q_H → q_Gr → Prop) : q_wp d 52 37 [z0, z1, .inl a] st v G Q = q_wp d 52 38 [z0, z1, .inl a] (.inl a :: st) v G Q := q_w_iload_n c_52_37 rfl
theorem c_52_38 : q_code 52 38 = (.iconst 4, 1, 0, 0, 0, 0, 0) := by decide +kernel
theorem e_52_38 (d : Nat)  (z0 z1 z2 : q_V) (st : List q_V) (v : q_H) (G : q_Gr) (Q : q_V → q_H → q_Gr → Prop) : q_wp d 52 38 [z0, z1, z2] st v G Q = q_wp d 52 39 [z0, z1, z2] (.inl 4 :: st) v G Q := q_w_iconst c_52_38
theorem c_52_39 : q_code 52 39 = (.invokestatic 31, 3, 144, 2, 1, 14, 1) := by decide +kernel
theorem e_52_39 (d : Nat) (x0 x1 : q_V) (z0 z1 z2 : q_V) (v : q_H) (G : q_Gr) (Q : q_V → q_H → q_Gr → Prop) : q_wp d 52 39 [z0, z1, z2] [x1, x0] v G Q = q_call d 144 [x0, x1] v G (fun r v G => q_wp d 52 42 [z0, z1, z2] (q_push r []) v G Q) := q_wp_ca (m2 := 144) (k := 2) (as := [x0, x1]) (rest := []) (congrArg q_kind c_52_39) (congrArg (fun w => w.2.2.1) c_52_39) (congrArg (fun w => w.2.2.2.1) c_52_39) rfl (Nat.le_of_ble_eq_true rfl) rfl
theorem c_52_42 : q_code 52 42 = (.ifCond .eq 13, 3, 0, 0, 0, 0, 0) := by decide +kernel
theorem e_52_42 (d : Nat) (a : Int) (z0 z1 z2 : q_V) (st : List q_V) (v : q_H) (G : q_Gr) (Q : q_V → q_H → q_Gr → Prop) : q_wp d 52 42 [z0, z1, z2] (.inl a :: st) v G Q = ((q_inR a) ∧ if a = 0 then q_wp d 52 55 [z0, z1, z2] st v G Q else q_wp d 52 45 [z0, z1, z2] st v G Q) := q_w_if_eq c_52_42 (by decide)
theorem c_52_45 : q_code 52 45 = (.aload_n 0, 1, 0, 0, 0, 0, 0) := by decide +kernel
theorem e_52_45 (d : Nat) (a : Option Nat) (z1 z2 : q_V) (st : List q_V) (v : q_H) (G : q_Gr) (Q : q_V → q_H → q_Gr → Prop) : q_wp d 52 45 [.inr (.inr (.inl a)), z1, z2] st v G Q = q_wp d 52 46 [.inr (.inr (.inl a)), z1, z2] (.inr (.inr (.inl a)) :: st) v G Q := q_w_aload_n c_52_45 rfl
theorem c_52_46 : q_code 52 46 = (.getfield 21, 3, 4, 8, 1, 119, 0) := by decide +kernel
theorem e_52_46 (d : Nat) (a : Nat) (z0 z1 z2 : q_V) (st : List q_V) (v : q_H) (G : q_Gr) (Q : q_V → q_H → q_Gr → Prop) : q_wp d 52 46 [z0, z1, z2] (.inr (.inr (.inl (some a))) :: st) v G Q = (((G.2.1 a).1 = 4) ∧ q_wp d 52 49 [z0, z1, z2] (.inr (.inr (.inl (G.1 a 8))) :: st) v G Q) := q_w_getP c_52_46
theorem c_52_49 : q_code 52 49 = (.iload_n 2, 1, 0, 0, 0, 0, 0) := by decide +kernel
theorem e_52_49 (d : Nat) (a : Int) (z0 z1 : q_V) (st : List q_V) (v : q_H) (G : q_Gr) (Q : q_V → q_H → q_Gr → Prop) : q_wp d 52 49 [z0, z1, .inl a] st v G Q = q_wp d 52 50 [z0, z1, .inl a] (.inl a :: st) v G Q := q_w_iload_n c_52_49 rfl
theorem c_52_50 : q_code 52 50 = (.aload_n 0, 1, 0, 0, 0, 0, 0) := by decide +kernel
theorem e_52_50 (d : Nat) (a : Option Nat) (z1 z2 : q_V) (st : List q_V) (v : q_H) (G : q_Gr) (Q : q_V → q_H → q_Gr → Prop) : q_wp d 52 50 [.inr (.inr (.inl a)), z1, z2] st v G Q = q_wp d 52 51 [.inr (.inr (.inl a)), z1, z2] (.inr (.inr (.inl a)) :: st) v G Q := q_w_aload_n c_52_50 rfl
theorem c_52_51 : q_code 52 51 = (.getfield 79, 3, 4, 7, 0, 118, 0) := by decide +kernel
theorem e_52_51 (d : Nat) (a : Nat) (z0 z1 z2 : q_V) (st : List q_V) (v : q_H) (G : q_Gr) (Q : q_V → q_H → q_Gr → Prop) : q_wp d 52 51 [z0, z1, z2] (.inr (.inr (.inl (some a))) :: st) v G Q = (((G.2.1 a).1 = 4) ∧ q_wp d 52 54 [z0, z1, z2] (.inl (v a 7) :: st) v G Q) := q_w_getI c_52_51
theorem c_52_54 : q_code 52 54 = (.iastore, 1, 0, 0, 0, 0, 0) := by decide +kernel
theorem e_52_54 (d : Nat) (a : Nat) (i b : Int) (z0 z1 z2 : q_V) (st : List q_V) (v : q_H) (G : q_Gr) (Q : q_V → q_H → q_Gr → Prop) : q_wp d 52 54 [z0, z1, z2] (.inl b :: .inl i :: .inr (.inr (.inl (some a))) :: st) v G Q = (((G.2.1 a).1 = 20 ∧ 32 ≤ a ∧ 0 ≤ i ∧ i < (G.2.1 a).2) ∧ q_wp d 52 55 [z0, z1, z2] st (q_up v a i.toNat b) G Q) := q_w_iast c_52_54
theorem c_52_55 : q_code 52 55 = (.return_, 1, 0, 0, 0, 0, 0) := by decide +kernel
theorem e_52_55 (d : Nat)  (z0 z1 z2 : q_V) (v : q_H) (G : q_Gr) (Q : q_V → q_H → q_Gr → Prop) : q_wp d 52 55 [z0, z1, z2] [] v G Q = Q (.inr (.inr (.inr ()))) v G := q_w_return c_52_55 rfl
theorem e_52 (d : Nat) (a0 : Nat) (a1 : Int) (a2 : Int) (v : q_H) (G : q_Gr) (Q : q_V → q_H → q_Gr → Prop) : q_call (d + 1) 52 [.inr (.inr (.inl (some a0))), .inl a1, .inl a2] v G Q = ((G.2.1 a0).1 = 4 ∧ q_wp d 52 0 [.inr (.inr (.inl (some a0))), .inl a1, .inl a2] [] v G Q) := by
  rw [q_call_in (by decide) (Nat.le_of_ble_eq_true rfl) rfl]
  exact congrArg (· ∧ _) (propext beq_iff_eq)
/-- all but the heads of loops: [] -/
def E52 := And.intro @e_52 (And.intro @e_52_0 (And.intro @e_52_1 (And.intro @e_52_4 (And.intro @e_52_5 (And.intro @e_52_8 (And.intro @e_52_9 (And.intro @e_52_10 (And.intro @e_52_13 (And.intro @e_52_16 (And.intro @e_52_17 (And.intro @e_52_18 (And.intro @e_52_19 (And.intro @e_52_20 (And.intro @e_52_23 (And.intro @e_52_26 (And.intro @e_52_29 (And.intro @e_52_30 (And.intro @e_52_31 (And.intro @e_52_34 (And.intro @e_52_37 (And.intro @e_52_38 (And.intro @e_52_39 (And.intro @e_52_42 (And.intro @e_52_45 (And.intro @e_52_46 (And.intro @e_52_49 (And.intro @e_52_50 (And.intro @e_52_51 (And.intro @e_52_54 (@e_52_55))))))))))))))))))))))))))))))
/-! ProvenRows$Plans.actOf(I)LProvenRows$Act; -/
theorem c_53_0 : q_code 53 0 = (.iload_n 1, 1, 0, 0, 0, 0, 0) := by decide +kernel
theorem e_53_0 (d : Nat) (a : Int) (z0 z2 z3 : q_V) (st : List q_V) (v : q_H) (G : q_Gr) (Q : q_V → q_H → q_Gr → Prop) : q_wp d 53 0 [z0, .inl a, z2, z3] st v G Q = q_wp d 53 1 [z0, .inl a, z2, z3] (.inl a :: st) v G Q := q_w_iload_n c_53_0 rfl
theorem c_53_1 : q_code 53 1 = (.iconst 4, 1, 0, 0, 0, 0, 0) := by decide +kernel
theorem e_53_1 (d : Nat)  (z0 z1 z2 z3 : q_V) (st : List q_V) (v : q_H) (G : q_Gr) (Q : q_V → q_H → q_Gr → Prop) : q_wp d 53 1 [z0, z1, z2, z3] st v G Q = q_wp d 53 2 [z0, z1, z2, z3] (.inl 4 :: st) v G Q := q_w_iconst c_53_1
theorem c_53_2 : q_code 53 2 = (.if_icmp .lt 37, 3, 0, 0, 0, 0, 0) := by decide +kernel
theorem e_53_2 (d : Nat) (a b : Int) (z0 z1 z2 z3 : q_V) (st : List q_V) (v : q_H) (G : q_Gr) (Q : q_V → q_H → q_Gr → Prop) : q_wp d 53 2 [z0, z1, z2, z3] (.inl b :: .inl a :: st) v G Q = ((q_inR a ∧ q_inR b) ∧ if a < b then q_wp d 53 39 [z0, z1, z2, z3] st v G Q else q_wp d 53 5 [z0, z1, z2, z3] st v G Q) := q_w_icmp_lt c_53_2 (by decide)
theorem c_53_5 : q_code 53 5 = (.new 15, 3, 0, 6, 0, 110, 0) := by decide +kernel
theorem e_53_5 (d : Nat)  (z0 z1 z2 z3 : q_V) (st : List q_V) (v : q_H) (G : q_Gr) (Q : q_V → q_H → q_Gr → Prop) : q_wp d 53 5 [z0, z1, z2, z3] st v G Q = ((q_room G 6) ∧ q_wp d 53 8 [z0, z1, z2, z3] (.inr (.inr (.inl (some (32 + G.2.2.1)))) :: st) (q_zr v (32 + G.2.2.1)) (q_mk G 0 6) Q) := q_w_new c_53_5
theorem c_53_8 : q_code 53 8 = (.dup, 1, 0, 0, 0, 0, 0) := by decide +kernel
theorem e_53_8 (d : Nat) (a : Option Nat) (z0 z1 z2 z3 : q_V) (st : List q_V) (v : q_H) (G : q_Gr) (Q : q_V → q_H → q_Gr → Prop) : q_wp d 53 8 [z0, z1, z2, z3] (.inr (.inr (.inl a)) :: st) v G Q = q_wp d 53 9 [z0, z1, z2, z3] (.inr (.inr (.inl a)) :: .inr (.inr (.inl a)) :: st) v G Q := q_w_dupP c_53_8
theorem c_53_9 : q_code 53 9 = (.iload_n 1, 1, 0, 0, 0, 0, 0) := by decide +kernel
theorem e_53_9 (d : Nat) (a : Int) (z0 z2 z3 : q_V) (st : List q_V) (v : q_H) (G : q_Gr) (Q : q_V → q_H → q_Gr → Prop) : q_wp d 53 9 [z0, .inl a, z2, z3] st v G Q = q_wp d 53 10 [z0, .inl a, z2, z3] (.inl a :: st) v G Q := q_w_iload_n c_53_9 rfl
theorem c_53_10 : q_code 53 10 = (.aload_n 0, 1, 0, 0, 0, 0, 0) := by decide +kernel
theorem e_53_10 (d : Nat) (a : Option Nat) (z1 z2 z3 : q_V) (st : List q_V) (v : q_H) (G : q_Gr) (Q : q_V → q_H → q_Gr → Prop) : q_wp d 53 10 [.inr (.inr (.inl a)), z1, z2, z3] st v G Q = q_wp d 53 11 [.inr (.inr (.inl a)), z1, z2, z3] (.inr (.inr (.inl a)) :: st) v G Q := q_w_aload_n c_53_10 rfl
theorem c_53_11 : q_code 53 11 = (.getfield 21, 3, 4, 8, 1, 119, 0) := by decide +kernel
theorem e_53_11 (d : Nat) (a : Nat) (z0 z1 z2 z3 : q_V) (st : List q_V) (v : q_H) (G : q_Gr) (Q : q_V → q_H → q_Gr → Prop) : q_wp d 53 11 [z0, z1, z2, z3] (.inr (.inr (.inl (some a))) :: st) v G Q = (((G.2.1 a).1 = 4) ∧ q_wp d 53 14 [z0, z1, z2, z3] (.inr (.inr (.inl (G.1 a 8))) :: st) v G Q) := q_w_getP c_53_11
theorem c_53_14 : q_code 53 14 = (.iconst 0, 1, 0, 0, 0, 0, 0) := by decide +kernel
theorem e_53_14 (d : Nat)  (z0 z1 z2 z3 : q_V) (st : List q_V) (v : q_H) (G : q_Gr) (Q : q_V → q_H → q_Gr → Prop) : q_wp d 53 14 [z0, z1, z2, z3] st v G Q = q_wp d 53 15 [z0, z1, z2, z3] (.inl 0 :: st) v G Q := q_w_iconst c_53_14
theorem c_53_15 : q_code 53 15 = (.iaload, 1, 0, 0, 0, 0, 0) := by decide +kernel
theorem e_53_15 (d : Nat) (a : Nat) (i : Int) (z0 z1 z2 z3 : q_V) (st : List q_V) (v : q_H) (G : q_Gr) (Q : q_V → q_H → q_Gr → Prop) : q_wp d 53 15 [z0, z1, z2, z3] (.inl i :: .inr (.inr (.inl (some a))) :: st) v G Q = (((G.2.1 a).1 = 20 ∧ 0 ≤ i ∧ i < (G.2.1 a).2) ∧ q_wp d 53 16 [z0, z1, z2, z3] (.inl (v a i.toNat) :: st) v G Q) := q_w_iald c_53_15
theorem c_53_16 : q_code 53 16 = (.aload_n 0, 1, 0, 0, 0, 0, 0) := by decide +kernel
theorem e_53_16 (d : Nat) (a : Option Nat) (z1 z2 z3 : q_V) (st : List q_V) (v : q_H) (G : q_Gr) (Q : q_V → q_H → q_Gr → Prop) : q_wp d 53 16 [.inr (.inr (.inl a)), z1, z2, z3] st v G Q = q_wp d 53 17 [.inr (.inr (.inl a)), z1, z2, z3] (.inr (.inr (.inl a)) :: st) v G Q := q_w_aload_n c_53_16 rfl
theorem c_53_17 : q_code 53 17 = (.getfield 21, 3, 4, 8, 1, 119, 0) := by decide +kernel
theorem e_53_17 (d : Nat) (a : Nat) (z0 z1 z2 z3 : q_V) (st : List q_V) (v : q_H) (G : q_Gr) (Q : q_V → q_H → q_Gr → Prop) : q_wp d 53 17 [z0, z1, z2, z3] (.inr (.inr (.inl (some a))) :: st) v G Q = (((G.2.1 a).1 = 4) ∧ q_wp d 53 20 [z0, z1, z2, z3] (.inr (.inr (.inl (G.1 a 8))) :: st) v G Q) := q_w_getP c_53_17
theorem c_53_20 : q_code 53 20 = (.iconst 1, 1, 0, 0, 0, 0, 0) := by decide +kernel
theorem e_53_20 (d : Nat)  (z0 z1 z2 z3 : q_V) (st : List q_V) (v : q_H) (G : q_Gr) (Q : q_V → q_H → q_Gr → Prop) : q_wp d 53 20 [z0, z1, z2, z3] st v G Q = q_wp d 53 21 [z0, z1, z2, z3] (.inl 1 :: st) v G Q := q_w_iconst c_53_20
theorem c_53_21 : q_code 53 21 = (.iaload, 1, 0, 0, 0, 0, 0) := by decide +kernel
theorem e_53_21 (d : Nat) (a : Nat) (i : Int) (z0 z1 z2 z3 : q_V) (st : List q_V) (v : q_H) (G : q_Gr) (Q : q_V → q_H → q_Gr → Prop) : q_wp d 53 21 [z0, z1, z2, z3] (.inl i :: .inr (.inr (.inl (some a))) :: st) v G Q = (((G.2.1 a).1 = 20 ∧ 0 ≤ i ∧ i < (G.2.1 a).2) ∧ q_wp d 53 22 [z0, z1, z2, z3] (.inl (v a i.toNat) :: st) v G Q) := q_w_iald c_53_21
theorem c_53_22 : q_code 53 22 = (.aload_n 0, 1, 0, 0, 0, 0, 0) := by decide +kernel
theorem e_53_22 (d : Nat) (a : Option Nat) (z1 z2 z3 : q_V) (st : List q_V) (v : q_H) (G : q_Gr) (Q : q_V → q_H → q_Gr → Prop) : q_wp d 53 22 [.inr (.inr (.inl a)), z1, z2, z3] st v G Q = q_wp d 53 23 [.inr (.inr (.inl a)), z1, z2, z3] (.inr (.inr (.inl a)) :: st) v G Q := q_w_aload_n c_53_22 rfl
theorem c_53_23 : q_code 53 23 = (.getfield 21, 3, 4, 8, 1, 119, 0) := by decide +kernel
theorem e_53_23 (d : Nat) (a : Nat) (z0 z1 z2 z3 : q_V) (st : List q_V) (v : q_H) (G : q_Gr) (Q : q_V → q_H → q_Gr → Prop) : q_wp d 53 23 [z0, z1, z2, z3] (.inr (.inr (.inl (some a))) :: st) v G Q = (((G.2.1 a).1 = 4) ∧ q_wp d 53 26 [z0, z1, z2, z3] (.inr (.inr (.inl (G.1 a 8))) :: st) v G Q) := q_w_getP c_53_23
theorem c_53_26 : q_code 53 26 = (.iconst 2, 1, 0, 0, 0, 0, 0) := by decide +kernel
theorem e_53_26 (d : Nat)  (z0 z1 z2 z3 : q_V) (st : List q_V) (v : q_H) (G : q_Gr) (Q : q_V → q_H → q_Gr → Prop) : q_wp d 53 26 [z0, z1, z2, z3] st v G Q = q_wp d 53 27 [z0, z1, z2, z3] (.inl 2 :: st) v G Q := q_w_iconst c_53_26
theorem c_53_27 : q_code 53 27 = (.iaload, 1, 0, 0, 0, 0, 0) := by decide +kernel
theorem e_53_27 (d : Nat) (a : Nat) (i : Int) (z0 z1 z2 z3 : q_V) (st : List q_V) (v : q_H) (G : q_Gr) (Q : q_V → q_H → q_Gr → Prop) : q_wp d 53 27 [z0, z1, z2, z3] (.inl i :: .inr (.inr (.inl (some a))) :: st) v G Q = (((G.2.1 a).1 = 20 ∧ 0 ≤ i ∧ i < (G.2.1 a).2) ∧ q_wp d 53 28 [z0, z1, z2, z3] (.inl (v a i.toNat) :: st) v G Q) := q_w_iald c_53_27
theorem c_53_28 : q_code 53 28 = (.aload_n 0, 1, 0, 0, 0, 0, 0) := by decide +kernel
theorem e_53_28 (d : Nat) (a : Option Nat) (z1 z2 z3 : q_V) (st : List q_V) (v : q_H) (G : q_Gr) (Q : q_V → q_H → q_Gr → Prop) : q_wp d 53 28 [.inr (.inr (.inl a)), z1, z2, z3] st v G Q = q_wp d 53 29 [.inr (.inr (.inl a)), z1, z2, z3] (.inr (.inr (.inl a)) :: st) v G Q := q_w_aload_n c_53_28 rfl
theorem c_53_29 : q_code 53 29 = (.getfield 21, 3, 4, 8, 1, 119, 0) := by decide +kernel
theorem e_53_29 (d : Nat) (a : Nat) (z0 z1 z2 z3 : q_V) (st : List q_V) (v : q_H) (G : q_Gr) (Q : q_V → q_H → q_Gr → Prop) : q_wp d 53 29 [z0, z1, z2, z3] (.inr (.inr (.inl (some a))) :: st) v G Q = (((G.2.1 a).1 = 4) ∧ q_wp d 53 32 [z0, z1, z2, z3] (.inr (.inr (.inl (G.1 a 8))) :: st) v G Q) := q_w_getP c_53_29
theorem c_53_32 : q_code 53 32 = (.iconst 3, 1, 0, 0, 0, 0, 0) := by decide +kernel
theorem e_53_32 (d : Nat)  (z0 z1 z2 z3 : q_V) (st : List q_V) (v : q_H) (G : q_Gr) (Q : q_V → q_H → q_Gr → Prop) : q_wp d 53 32 [z0, z1, z2, z3] st v G Q = q_wp d 53 33 [z0, z1, z2, z3] (.inl 3 :: st) v G Q := q_w_iconst c_53_32
theorem c_53_33 : q_code 53 33 = (.iaload, 1, 0, 0, 0, 0, 0) := by decide +kernel
theorem e_53_33 (d : Nat) (a : Nat) (i : Int) (z0 z1 z2 z3 : q_V) (st : List q_V) (v : q_H) (G : q_Gr) (Q : q_V → q_H → q_Gr → Prop) : q_wp d 53 33 [z0, z1, z2, z3] (.inl i :: .inr (.inr (.inl (some a))) :: st) v G Q = (((G.2.1 a).1 = 20 ∧ 0 ≤ i ∧ i < (G.2.1 a).2) ∧ q_wp d 53 34 [z0, z1, z2, z3] (.inl (v a i.toNat) :: st) v G Q) := q_w_iald c_53_33
theorem c_53_34 : q_code 53 34 = (.iconst 0, 1, 0, 0, 0, 0, 0) := by decide +kernel
theorem e_53_34 (d : Nat)  (z0 z1 z2 z3 : q_V) (st : List q_V) (v : q_H) (G : q_Gr) (Q : q_V → q_H → q_Gr → Prop) : q_wp d 53 34 [z0, z1, z2, z3] st v G Q = q_wp d 53 35 [z0, z1, z2, z3] (.inl 0 :: st) v G Q := q_w_iconst c_53_34
theorem c_53_35 : q_code 53 35 = (.invokespecial 86, 3, 0, 7, 0, 593, 0) := by decide +kernel
theorem e_53_35 (d : Nat) (x0 x1 x2 x3 x4 x5 x6 y0 : q_V) (z0 z1 z2 z3 : q_V) (v : q_H) (G : q_Gr) (Q : q_V → q_H → q_Gr → Prop) : q_wp d 53 35 [z0, z1, z2, z3] [x6, x5, x4, x3, x2, x1, x0, y0] v G Q = q_call d 0 [x0, x1, x2, x3, x4, x5, x6] v G (fun r v G => q_wp d 53 38 [z0, z1, z2, z3] (q_push r [y0]) v G Q) := q_wp_ca (m2 := 0) (k := 7) (as := [x0, x1, x2, x3, x4, x5, x6]) (rest := [y0]) (congrArg q_kind c_53_35) (congrArg (fun w => w.2.2.1) c_53_35) (congrArg (fun w => w.2.2.2.1) c_53_35) rfl (Nat.le_of_ble_eq_true rfl) rfl
theorem c_53_38 : q_code 53 38 = (.areturn, 1, 0, 0, 0, 0, 0) := by decide +kernel
theorem e_53_38 (d : Nat) (a : Option Nat) (z0 z1 z2 z3 : q_V) (v : q_H) (G : q_Gr) (Q : q_V → q_H → q_Gr → Prop) : q_wp d 53 38 [z0, z1, z2, z3] [.inr (.inr (.inl a))] v G Q = Q (.inr (.inr (.inl a))) v G := q_w_areturn c_53_38 ⟨_, rfl⟩
theorem c_53_39 : q_code 53 39 = (.iload_n 1, 1, 0, 0, 0, 0, 0) := by decide +kernel
theorem e_53_39 (d : Nat) (a : Int) (z0 z2 z3 : q_V) (st : List q_V) (v : q_H) (G : q_Gr) (Q : q_V → q_H → q_Gr → Prop) : q_wp d 53 39 [z0, .inl a, z2, z3] st v G Q = q_wp d 53 40 [z0, .inl a, z2, z3] (.inl a :: st) v G Q := q_w_iload_n c_53_39 rfl
theorem c_53_40 : q_code 53 40 = (.ifCond .eq 8, 3, 0, 0, 0, 0, 0) := by decide +kernel
theorem e_53_40 (d : Nat) (a : Int) (z0 z1 z2 z3 : q_V) (st : List q_V) (v : q_H) (G : q_Gr) (Q : q_V → q_H → q_Gr → Prop) : q_wp d 53 40 [z0, z1, z2, z3] (.inl a :: st) v G Q = ((q_inR a) ∧ if a = 0 then q_wp d 53 48 [z0, z1, z2, z3] st v G Q else q_wp d 53 43 [z0, z1, z2, z3] st v G Q) := q_w_if_eq c_53_40 (by decide)
theorem c_53_43 : q_code 53 43 = (.iload_n 1, 1, 0, 0, 0, 0, 0) := by decide +kernel
theorem e_53_43 (d : Nat) (a : Int) (z0 z2 z3 : q_V) (st : List q_V) (v : q_H) (G : q_Gr) (Q : q_V → q_H → q_Gr → Prop) : q_wp d 53 43 [z0, .inl a, z2, z3] st v G Q = q_wp d 53 44 [z0, .inl a, z2, z3] (.inl a :: st) v G Q := q_w_iload_n c_53_43 rfl
theorem c_53_44 : q_code 53 44 = (.iconst 1, 1, 0, 0, 0, 0, 0) := by decide +kernel
theorem e_53_44 (d : Nat)  (z0 z1 z2 z3 : q_V) (st : List q_V) (v : q_H) (G : q_Gr) (Q : q_V → q_H → q_Gr → Prop) : q_wp d 53 44 [z0, z1, z2, z3] st v G Q = q_wp d 53 45 [z0, z1, z2, z3] (.inl 1 :: st) v G Q := q_w_iconst c_53_44
theorem c_53_45 : q_code 53 45 = (.if_icmp .ne 12, 3, 0, 0, 0, 0, 0) := by decide +kernel
theorem e_53_45 (d : Nat) (a b : Int) (z0 z1 z2 z3 : q_V) (st : List q_V) (v : q_H) (G : q_Gr) (Q : q_V → q_H → q_Gr → Prop) : q_wp d 53 45 [z0, z1, z2, z3] (.inl b :: .inl a :: st) v G Q = ((q_inR a ∧ q_inR b) ∧ if ¬ a = b then q_wp d 53 57 [z0, z1, z2, z3] st v G Q else q_wp d 53 48 [z0, z1, z2, z3] st v G Q) := q_w_icmp_ne c_53_45 (by decide)
theorem c_53_48 : q_code 53 48 = (.aload_n 0, 1, 0, 0, 0, 0, 0) := by decide +kernel
theorem e_53_48 (d : Nat) (a : Option Nat) (z1 z2 z3 : q_V) (st : List q_V) (v : q_H) (G : q_Gr) (Q : q_V → q_H → q_Gr → Prop) : q_wp d 53 48 [.inr (.inr (.inl a)), z1, z2, z3] st v G Q = q_wp d 53 49 [.inr (.inr (.inl a)), z1, z2, z3] (.inr (.inr (.inl a)) :: st) v G Q := q_w_aload_n c_53_48 rfl
theorem c_53_49 : q_code 53 49 = (.getfield 21, 3, 4, 8, 1, 119, 0) := by decide +kernel
theorem e_53_49 (d : Nat) (a : Nat) (z0 z1 z2 z3 : q_V) (st : List q_V) (v : q_H) (G : q_Gr) (Q : q_V → q_H → q_Gr → Prop) : q_wp d 53 49 [z0, z1, z2, z3] (.inr (.inr (.inl (some a))) :: st) v G Q = (((G.2.1 a).1 = 4) ∧ q_wp d 53 52 [z0, z1, z2, z3] (.inr (.inr (.inl (G.1 a 8))) :: st) v G Q) := q_w_getP c_53_49
theorem c_53_52 : q_code 53 52 = (.iconst 2, 1, 0, 0, 0, 0, 0) := by decide +kernel
theorem e_53_52 (d : Nat)  (z0 z1 z2 z3 : q_V) (st : List q_V) (v : q_H) (G : q_Gr) (Q : q_V → q_H → q_Gr → Prop) : q_wp d 53 52 [z0, z1, z2, z3] st v G Q = q_wp d 53 53 [z0, z1, z2, z3] (.inl 2 :: st) v G Q := q_w_iconst c_53_52
theorem c_53_53 : q_code 53 53 = (.iaload, 1, 0, 0, 0, 0, 0) := by decide +kernel
theorem e_53_53 (d : Nat) (a : Nat) (i : Int) (z0 z1 z2 z3 : q_V) (st : List q_V) (v : q_H) (G : q_Gr) (Q : q_V → q_H → q_Gr → Prop) : q_wp d 53 53 [z0, z1, z2, z3] (.inl i :: .inr (.inr (.inl (some a))) :: st) v G Q = (((G.2.1 a).1 = 20 ∧ 0 ≤ i ∧ i < (G.2.1 a).2) ∧ q_wp d 53 54 [z0, z1, z2, z3] (.inl (v a i.toNat) :: st) v G Q) := q_w_iald c_53_53
theorem c_53_54 : q_code 53 54 = (.goto 9, 3, 0, 0, 0, 0, 0) := by decide +kernel
theorem e_53_54 (d : Nat)  (z0 z1 z2 z3 : q_V) (st : List q_V) (v : q_H) (G : q_Gr) (Q : q_V → q_H → q_Gr → Prop) : q_wp d 53 54 [z0, z1, z2, z3] st v G Q = q_wp d 53 63 [z0, z1, z2, z3] st v G Q := q_w_goto c_53_54 (by decide)
theorem c_53_57 : q_code 53 57 = (.aload_n 0, 1, 0, 0, 0, 0, 0) := by decide +kernel
theorem e_53_57 (d : Nat) (a : Option Nat) (z1 z2 z3 : q_V) (st : List q_V) (v : q_H) (G : q_Gr) (Q : q_V → q_H → q_Gr → Prop) : q_wp d 53 57 [.inr (.inr (.inl a)), z1, z2, z3] st v G Q = q_wp d 53 58 [.inr (.inr (.inl a)), z1, z2, z3] (.inr (.inr (.inl a)) :: st) v G Q := q_w_aload_n c_53_57 rfl
theorem c_53_58 : q_code 53 58 = (.getfield 21, 3, 4, 8, 1, 119, 0) := by decide +kernel
theorem e_53_58 (d : Nat) (a : Nat) (z0 z1 z2 z3 : q_V) (st : List q_V) (v : q_H) (G : q_Gr) (Q : q_V → q_H → q_Gr → Prop) : q_wp d 53 58 [z0, z1, z2, z3] (.inr (.inr (.inl (some a))) :: st) v G Q = (((G.2.1 a).1 = 4) ∧ q_wp d 53 61 [z0, z1, z2, z3] (.inr (.inr (.inl (G.1 a 8))) :: st) v G Q) := q_w_getP c_53_58
theorem c_53_61 : q_code 53 61 = (.iconst 1, 1, 0, 0, 0, 0, 0) := by decide +kernel
theorem e_53_61 (d : Nat)  (z0 z1 z2 z3 : q_V) (st : List q_V) (v : q_H) (G : q_Gr) (Q : q_V → q_H → q_Gr → Prop) : q_wp d 53 61 [z0, z1, z2, z3] st v G Q = q_wp d 53 62 [z0, z1, z2, z3] (.inl 1 :: st) v G Q := q_w_iconst c_53_61
theorem c_53_62 : q_code 53 62 = (.iaload, 1, 0, 0, 0, 0, 0) := by decide +kernel
theorem e_53_62 (d : Nat) (a : Nat) (i : Int) (z0 z1 z2 z3 : q_V) (st : List q_V) (v : q_H) (G : q_Gr) (Q : q_V → q_H → q_Gr → Prop) : q_wp d 53 62 [z0, z1, z2, z3] (.inl i :: .inr (.inr (.inl (some a))) :: st) v G Q = (((G.2.1 a).1 = 20 ∧ 0 ≤ i ∧ i < (G.2.1 a).2) ∧ q_wp d 53 63 [z0, z1, z2, z3] (.inl (v a i.toNat) :: st) v G Q) := q_w_iald c_53_62
theorem c_53_63 : q_code 53 63 = (.istore_n 2, 1, 0, 0, 0, 0, 0) := by decide +kernel
theorem e_53_63 (d : Nat) (a : Int) (z0 z1 z2 z3 : q_V) (st : List q_V) (v : q_H) (G : q_Gr) (Q : q_V → q_H → q_Gr → Prop) : q_wp d 53 63 [z0, z1, z2, z3] (.inl a :: st) v G Q = q_wp d 53 64 [z0, z1, .inl a, z3] st v G Q := q_w_istore_n c_53_63
theorem c_53_64 : q_code 53 64 = (.iload_n 1, 1, 0, 0, 0, 0, 0) := by decide +kernel
theorem e_53_64 (d : Nat) (a : Int) (z0 z2 z3 : q_V) (st : List q_V) (v : q_H) (G : q_Gr) (Q : q_V → q_H → q_Gr → Prop) : q_wp d 53 64 [z0, .inl a, z2, z3] st v G Q = q_wp d 53 65 [z0, .inl a, z2, z3] (.inl a :: st) v G Q := q_w_iload_n c_53_64 rfl
theorem c_53_65 : q_code 53 65 = (.iconst 2, 1, 0, 0, 0, 0, 0) := by decide +kernel
theorem e_53_65 (d : Nat)  (z0 z1 z2 z3 : q_V) (st : List q_V) (v : q_H) (G : q_Gr) (Q : q_V → q_H → q_Gr → Prop) : q_wp d 53 65 [z0, z1, z2, z3] st v G Q = q_wp d 53 66 [z0, z1, z2, z3] (.inl 2 :: st) v G Q := q_w_iconst c_53_65
theorem c_53_66 : q_code 53 66 = (.if_icmp .ne 12, 3, 0, 0, 0, 0, 0) := by decide +kernel
theorem e_53_66 (d : Nat) (a b : Int) (z0 z1 z2 z3 : q_V) (st : List q_V) (v : q_H) (G : q_Gr) (Q : q_V → q_H → q_Gr → Prop) : q_wp d 53 66 [z0, z1, z2, z3] (.inl b :: .inl a :: st) v G Q = ((q_inR a ∧ q_inR b) ∧ if ¬ a = b then q_wp d 53 78 [z0, z1, z2, z3] st v G Q else q_wp d 53 69 [z0, z1, z2, z3] st v G Q) := q_w_icmp_ne c_53_66 (by decide)
theorem c_53_69 : q_code 53 69 = (.aload_n 0, 1, 0, 0, 0, 0, 0) := by decide +kernel
theorem e_53_69 (d : Nat) (a : Option Nat) (z1 z2 z3 : q_V) (st : List q_V) (v : q_H) (G : q_Gr) (Q : q_V → q_H → q_Gr → Prop) : q_wp d 53 69 [.inr (.inr (.inl a)), z1, z2, z3] st v G Q = q_wp d 53 70 [.inr (.inr (.inl a)), z1, z2, z3] (.inr (.inr (.inl a)) :: st) v G Q := q_w_aload_n c_53_69 rfl
theorem c_53_70 : q_code 53 70 = (.getfield 21, 3, 4, 8, 1, 119, 0) := by decide +kernel
theorem e_53_70 (d : Nat) (a : Nat) (z0 z1 z2 z3 : q_V) (st : List q_V) (v : q_H) (G : q_Gr) (Q : q_V → q_H → q_Gr → Prop) : q_wp d 53 70 [z0, z1, z2, z3] (.inr (.inr (.inl (some a))) :: st) v G Q = (((G.2.1 a).1 = 4) ∧ q_wp d 53 73 [z0, z1, z2, z3] (.inr (.inr (.inl (G.1 a 8))) :: st) v G Q) := q_w_getP c_53_70
theorem c_53_73 : q_code 53 73 = (.iconst 2, 1, 0, 0, 0, 0, 0) := by decide +kernel
theorem e_53_73 (d : Nat)  (z0 z1 z2 z3 : q_V) (st : List q_V) (v : q_H) (G : q_Gr) (Q : q_V → q_H → q_Gr → Prop) : q_wp d 53 73 [z0, z1, z2, z3] st v G Q = q_wp d 53 74 [z0, z1, z2, z3] (.inl 2 :: st) v G Q := q_w_iconst c_53_73
theorem c_53_74 : q_code 53 74 = (.iaload, 1, 0, 0, 0, 0, 0) := by decide +kernel
theorem e_53_74 (d : Nat) (a : Nat) (i : Int) (z0 z1 z2 z3 : q_V) (st : List q_V) (v : q_H) (G : q_Gr) (Q : q_V → q_H → q_Gr → Prop) : q_wp d 53 74 [z0, z1, z2, z3] (.inl i :: .inr (.inr (.inl (some a))) :: st) v G Q = (((G.2.1 a).1 = 20 ∧ 0 ≤ i ∧ i < (G.2.1 a).2) ∧ q_wp d 53 75 [z0, z1, z2, z3] (.inl (v a i.toNat) :: st) v G Q) := q_w_iald c_53_74
theorem c_53_75 : q_code 53 75 = (.goto 4, 3, 0, 0, 0, 0, 0) := by decide +kernel
theorem e_53_75 (d : Nat)  (z0 z1 z2 z3 : q_V) (st : List q_V) (v : q_H) (G : q_Gr) (Q : q_V → q_H → q_Gr → Prop) : q_wp d 53 75 [z0, z1, z2, z3] st v G Q = q_wp d 53 79 [z0, z1, z2, z3] st v G Q := q_w_goto c_53_75 (by decide)
theorem c_53_78 : q_code 53 78 = (.iconst 0, 1, 0, 0, 0, 0, 0) := by decide +kernel
theorem e_53_78 (d : Nat)  (z0 z1 z2 z3 : q_V) (st : List q_V) (v : q_H) (G : q_Gr) (Q : q_V → q_H → q_Gr → Prop) : q_wp d 53 78 [z0, z1, z2, z3] st v G Q = q_wp d 53 79 [z0, z1, z2, z3] (.inl 0 :: st) v G Q := q_w_iconst c_53_78
theorem c_53_79 : q_code 53 79 = (.istore_n 3, 1, 0, 0, 0, 0, 0) := by decide +kernel
theorem e_53_79 (d : Nat) (a : Int) (z0 z1 z2 z3 : q_V) (st : List q_V) (v : q_H) (G : q_Gr) (Q : q_V → q_H → q_Gr → Prop) : q_wp d 53 79 [z0, z1, z2, z3] (.inl a :: st) v G Q = q_wp d 53 80 [z0, z1, z2, .inl a] st v G Q := q_w_istore_n c_53_79
theorem c_53_80 : q_code 53 80 = (.new 15, 3, 0, 6, 0, 110, 0) := by decide +kernel
theorem e_53_80 (d : Nat)  (z0 z1 z2 z3 : q_V) (st : List q_V) (v : q_H) (G : q_Gr) (Q : q_V → q_H → q_Gr → Prop) : q_wp d 53 80 [z0, z1, z2, z3] st v G Q = ((q_room G 6) ∧ q_wp d 53 83 [z0, z1, z2, z3] (.inr (.inr (.inl (some (32 + G.2.2.1)))) :: st) (q_zr v (32 + G.2.2.1)) (q_mk G 0 6) Q) := q_w_new c_53_80
theorem c_53_83 : q_code 53 83 = (.dup, 1, 0, 0, 0, 0, 0) := by decide +kernel
theorem e_53_83 (d : Nat) (a : Option Nat) (z0 z1 z2 z3 : q_V) (st : List q_V) (v : q_H) (G : q_Gr) (Q : q_V → q_H → q_Gr → Prop) : q_wp d 53 83 [z0, z1, z2, z3] (.inr (.inr (.inl a)) :: st) v G Q = q_wp d 53 84 [z0, z1, z2, z3] (.inr (.inr (.inl a)) :: .inr (.inr (.inl a)) :: st) v G Q := q_w_dupP c_53_83
theorem c_53_84 : q_code 53 84 = (.iload_n 1, 1, 0, 0, 0, 0, 0) := by decide +kernel
theorem e_53_84 (d : Nat) (a : Int) (z0 z2 z3 : q_V) (st : List q_V) (v : q_H) (G : q_Gr) (Q : q_V → q_H → q_Gr → Prop) : q_wp d 53 84 [z0, .inl a, z2, z3] st v G Q = q_wp d 53 85 [z0, .inl a, z2, z3] (.inl a :: st) v G Q := q_w_iload_n c_53_84 rfl
theorem c_53_85 : q_code 53 85 = (.aload_n 0, 1, 0, 0, 0, 0, 0) := by decide +kernel
theorem e_53_85 (d : Nat) (a : Option Nat) (z1 z2 z3 : q_V) (st : List q_V) (v : q_H) (G : q_Gr) (Q : q_V → q_H → q_Gr → Prop) : q_wp d 53 85 [.inr (.inr (.inl a)), z1, z2, z3] st v G Q = q_wp d 53 86 [.inr (.inr (.inl a)), z1, z2, z3] (.inr (.inr (.inl a)) :: st) v G Q := q_w_aload_n c_53_85 rfl
theorem c_53_86 : q_code 53 86 = (.getfield 21, 3, 4, 8, 1, 119, 0) := by decide +kernel
theorem e_53_86 (d : Nat) (a : Nat) (z0 z1 z2 z3 : q_V) (st : List q_V) (v : q_H) (G : q_Gr) (Q : q_V → q_H → q_Gr → Prop) : q_wp d 53 86 [z0, z1, z2, z3] (.inr (.inr (.inl (some a))) :: st) v G Q = (((G.2.1 a).1 = 4) ∧ q_wp d 53 89 [z0, z1, z2, z3] (.inr (.inr (.inl (G.1 a 8))) :: st) v G Q) := q_w_getP c_53_86
theorem c_53_89 : q_code 53 89 = (.iconst 0, 1, 0, 0, 0, 0, 0) := by decide +kernel
theorem e_53_89 (d : Nat)  (z0 z1 z2 z3 : q_V) (st : List q_V) (v : q_H) (G : q_Gr) (Q : q_V → q_H → q_Gr → Prop) : q_wp d 53 89 [z0, z1, z2, z3] st v G Q = q_wp d 53 90 [z0, z1, z2, z3] (.inl 0 :: st) v G Q := q_w_iconst c_53_89
theorem c_53_90 : q_code 53 90 = (.iaload, 1, 0, 0, 0, 0, 0) := by decide +kernel
theorem e_53_90 (d : Nat) (a : Nat) (i : Int) (z0 z1 z2 z3 : q_V) (st : List q_V) (v : q_H) (G : q_Gr) (Q : q_V → q_H → q_Gr → Prop) : q_wp d 53 90 [z0, z1, z2, z3] (.inl i :: .inr (.inr (.inl (some a))) :: st) v G Q = (((G.2.1 a).1 = 20 ∧ 0 ≤ i ∧ i < (G.2.1 a).2) ∧ q_wp d 53 91 [z0, z1, z2, z3] (.inl (v a i.toNat) :: st) v G Q) := q_w_iald c_53_90
theorem c_53_91 : q_code 53 91 = (.aload_n 0, 1, 0, 0, 0, 0, 0) := by decide +kernel
theorem e_53_91 (d : Nat) (a : Option Nat) (z1 z2 z3 : q_V) (st : List q_V) (v : q_H) (G : q_Gr) (Q : q_V → q_H → q_Gr → Prop) : q_wp d 53 91 [.inr (.inr (.inl a)), z1, z2, z3] st v G Q = q_wp d 53 92 [.inr (.inr (.inl a)), z1, z2, z3] (.inr (.inr (.inl a)) :: st) v G Q := q_w_aload_n c_53_91 rfl
theorem c_53_92 : q_code 53 92 = (.getfield 21, 3, 4, 8, 1, 119, 0) := by decide +kernel
theorem e_53_92 (d : Nat) (a : Nat) (z0 z1 z2 z3 : q_V) (st : List q_V) (v : q_H) (G : q_Gr) (Q : q_V → q_H → q_Gr → Prop) : q_wp d 53 92 [z0, z1, z2, z3] (.inr (.inr (.inl (some a))) :: st) v G Q = (((G.2.1 a).1 = 4) ∧ q_wp d 53 95 [z0, z1, z2, z3] (.inr (.inr (.inl (G.1 a 8))) :: st) v G Q) := q_w_getP c_53_92
theorem c_53_95 : q_code 53 95 = (.iconst 0, 1, 0, 0, 0, 0, 0) := by decide +kernel
theorem e_53_95 (d : Nat)  (z0 z1 z2 z3 : q_V) (st : List q_V) (v : q_H) (G : q_Gr) (Q : q_V → q_H → q_Gr → Prop) : q_wp d 53 95 [z0, z1, z2, z3] st v G Q = q_wp d 53 96 [z0, z1, z2, z3] (.inl 0 :: st) v G Q := q_w_iconst c_53_95
theorem c_53_96 : q_code 53 96 = (.iaload, 1, 0, 0, 0, 0, 0) := by decide +kernel
theorem e_53_96 (d : Nat) (a : Nat) (i : Int) (z0 z1 z2 z3 : q_V) (st : List q_V) (v : q_H) (G : q_Gr) (Q : q_V → q_H → q_Gr → Prop) : q_wp d 53 96 [z0, z1, z2, z3] (.inl i :: .inr (.inr (.inl (some a))) :: st) v G Q = (((G.2.1 a).1 = 20 ∧ 0 ≤ i ∧ i < (G.2.1 a).2) ∧ q_wp d 53 97 [z0, z1, z2, z3] (.inl (v a i.toNat) :: st) v G Q) := q_w_iald c_53_96
theorem c_53_97 : q_code 53 97 = (.aload_n 0, 1, 0, 0, 0, 0, 0) := by decide +kernel
theorem e_53_97 (d : Nat) (a : Option Nat) (z1 z2 z3 : q_V) (st : List q_V) (v : q_H) (G : q_Gr) (Q : q_V → q_H → q_Gr → Prop) : q_wp d 53 97 [.inr (.inr (.inl a)), z1, z2, z3] st v G Q = q_wp d 53 98 [.inr (.inr (.inl a)), z1, z2, z3] (.inr (.inr (.inl a)) :: st) v G Q := q_w_aload_n c_53_97 rfl
theorem c_53_98 : q_code 53 98 = (.getfield 21, 3, 4, 8, 1, 119, 0) := by decide +kernel
theorem e_53_98 (d : Nat) (a : Nat) (z0 z1 z2 z3 : q_V) (st : List q_V) (v : q_H) (G : q_Gr) (Q : q_V → q_H → q_Gr → Prop) : q_wp d 53 98 [z0, z1, z2, z3] (.inr (.inr (.inl (some a))) :: st) v G Q = (((G.2.1 a).1 = 4) ∧ q_wp d 53 101 [z0, z1, z2, z3] (.inr (.inr (.inl (G.1 a 8))) :: st) v G Q) := q_w_getP c_53_98
theorem c_53_101 : q_code 53 101 = (.iconst 1, 1, 0, 0, 0, 0, 0) := by decide +kernel
theorem e_53_101 (d : Nat)  (z0 z1 z2 z3 : q_V) (st : List q_V) (v : q_H) (G : q_Gr) (Q : q_V → q_H → q_Gr → Prop) : q_wp d 53 101 [z0, z1, z2, z3] st v G Q = q_wp d 53 102 [z0, z1, z2, z3] (.inl 1 :: st) v G Q := q_w_iconst c_53_101
theorem c_53_102 : q_code 53 102 = (.iaload, 1, 0, 0, 0, 0, 0) := by decide +kernel
theorem e_53_102 (d : Nat) (a : Nat) (i : Int) (z0 z1 z2 z3 : q_V) (st : List q_V) (v : q_H) (G : q_Gr) (Q : q_V → q_H → q_Gr → Prop) : q_wp d 53 102 [z0, z1, z2, z3] (.inl i :: .inr (.inr (.inl (some a))) :: st) v G Q = (((G.2.1 a).1 = 20 ∧ 0 ≤ i ∧ i < (G.2.1 a).2) ∧ q_wp d 53 103 [z0, z1, z2, z3] (.inl (v a i.toNat) :: st) v G Q) := q_w_iald c_53_102
theorem c_53_103 : q_code 53 103 = (.iload_n 2, 1, 0, 0, 0, 0, 0) := by decide +kernel
theorem e_53_103 (d : Nat) (a : Int) (z0 z1 z3 : q_V) (st : List q_V) (v : q_H) (G : q_Gr) (Q : q_V → q_H → q_Gr → Prop) : q_wp d 53 103 [z0, z1, .inl a, z3] st v G Q = q_wp d 53 104 [z0, z1, .inl a, z3] (.inl a :: st) v G Q := q_w_iload_n c_53_103 rfl
theorem c_53_104 : q_code 53 104 = (.iload_n 3, 1, 0, 0, 0, 0, 0) := by decide +kernel
theorem e_53_104 (d : Nat) (a : Int) (z0 z1 z2 : q_V) (st : List q_V) (v : q_H) (G : q_Gr) (Q : q_V → q_H → q_Gr → Prop) : q_wp d 53 104 [z0, z1, z2, .inl a] st v G Q = q_wp d 53 105 [z0, z1, z2, .inl a] (.inl a :: st) v G Q := q_w_iload_n c_53_104 rfl
theorem c_53_105 : q_code 53 105 = (.invokespecial 86, 3, 0, 7, 0, 593, 0) := by decide +kernel
theorem e_53_105 (d : Nat) (x0 x1 x2 x3 x4 x5 x6 y0 : q_V) (z0 z1 z2 z3 : q_V) (v : q_H) (G : q_Gr) (Q : q_V → q_H → q_Gr → Prop) : q_wp d 53 105 [z0, z1, z2, z3] [x6, x5, x4, x3, x2, x1, x0, y0] v G Q = q_call d 0 [x0, x1, x2, x3, x4, x5, x6] v G (fun r v G => q_wp d 53 108 [z0, z1, z2, z3] (q_push r [y0]) v G Q) := q_wp_ca (m2 := 0) (k := 7) (as := [x0, x1, x2, x3, x4, x5, x6]) (rest := [y0]) (congrArg q_kind c_53_105) (congrArg (fun w => w.2.2.1) c_53_105) (congrArg (fun w => w.2.2.2.1) c_53_105) rfl (Nat.le_of_ble_eq_true rfl) rfl
theorem c_53_108 : q_code 53 108 = (.areturn, 1, 0, 0, 0, 0, 0) := by decide +kernel
theorem e_53_108 (d : Nat) (a : Option Nat) (z0 z1 z2 z3 : q_V) (v : q_H) (G : q_Gr) (Q : q_V → q_H → q_Gr → Prop) : q_wp d 53 108 [z0, z1, z2, z3] [.inr (.inr (.inl a))] v G Q = Q (.inr (.inr (.inl a))) v G := q_w_areturn c_53_108 ⟨_, rfl⟩
theorem e_53 (d : Nat) (a0 : Nat) (a1 : Int) (v : q_H) (G : q_Gr) (Q : q_V → q_H → q_Gr → Prop) : q_call (d + 1) 53 [.inr (.inr (.inl (some a0))), .inl a1] v G Q = ((G.2.1 a0).1 = 4 ∧ q_wp d 53 0 [.inr (.inr (.inl (some a0))), .inl a1, .inr (.inr (.inr ())), .inr (.inr (.inr ()))] [] v G Q) := by
  rw [q_call_in (by decide) (Nat.le_of_ble_eq_true rfl) rfl]
  exact congrArg (· ∧ _) (propext beq_iff_eq)
/-- all but the heads of loops: [] -/
def E53 := And.intro @e_53 (And.intro @e_53_0 (And.intro @e_53_1 (And.intro @e_53_2 (And.intro @e_53_5 (And.intro @e_53_8 (And.intro @e_53_9 (And.intro @e_53_10 (And.intro @e_53_11 (And.intro @e_53_14 (And.intro @e_53_15 (And.intro @e_53_16 (And.intro @e_53_17 (And.intro @e_53_20 (And.intro @e_53_21 (And.intro @e_53_22 (And.intro @e_53_23 (And.intro @e_53_26 (And.intro @e_53_27 (And.intro @e_53_28 (And.intro @e_53_29 (And.intro @e_53_32 (And.intro @e_53_33 (And.intro @e_53_34 (And.intro @e_53_35 (And.intro @e_53_38 (And.intro @e_53_39 (And.intro @e_53_40 (And.intro @e_53_43 (And.intro @e_53_44 (And.intro @e_53_45 (And.intro @e_53_48 (And.intro @e_53_49 (And.intro @e_53_52 (And.intro @e_53_53 (And.intro @e_53_54 (And.intro @e_53_57 (And.intro @e_53_58 (And.intro @e_53_61 (And.intro @e_53_62 (And.intro @e_53_63 (And.intro @e_53_64 (And.intro @e_53_65 (And.intro @e_53_66 (And.intro @e_53_69 (And.intro @e_53_70 (And.intro @e_53_73 (And.intro @e_53_74 (And.intro @e_53_75 (And.intro @e_53_78 (And.intro @e_53_79 (And.intro @e_53_80 (And.intro @e_53_83 (And.intro @e_53_84 (And.intro @e_53_85 (And.intro @e_53_86 (And.intro @e_53_89 (And.intro @e_53_90 (And.intro @e_53_91 (And.intro @e_53_92 (And.intro @e_53_95 (And.intro @e_53_96 (And.intro @e_53_97 (And.intro @e_53_98 (And.intro @e_53_101 (And.intro @e_53_102 (And.intro @e_53_103 (And.intro @e_53_104 (And.intro @e_53_105 (@e_53_108)))))))))))))))))))))))))))))))))))))))))))))))))))))))))))))))))))))
/-! ProvenRows$Plans.numbersOf(I)I -/
theorem c_54_0 : q_code 54 0 = (.iload_n 0, 1, 0, 0, 0, 0, 0) := by decide +kernel
theorem e_54_0 (d : Nat) (a : Int) (st : List q_V) (v : q_H) (G : q_Gr) (Q : q_V → q_H → q_Gr → Prop) : q_wp d 54 0 [.inl a] st v G Q = q_wp d 54 1 [.inl a] (.inl a :: st) v G Q := q_w_iload_n c_54_0 rfl
theorem c_54_1 : q_code 54 1 = (.iconst 4, 1, 0, 0, 0, 0, 0) := by decide +kernel
theorem e_54_1 (d : Nat)  (z0 : q_V) (st : List q_V) (v : q_H) (G : q_Gr) (Q : q_V → q_H → q_Gr → Prop) : q_wp d 54 1 [z0] st v G Q = q_wp d 54 2 [z0] (.inl 4 :: st) v G Q := q_w_iconst c_54_1
theorem c_54_2 : q_code 54 2 = (.if_icmp .lt 7, 3, 0, 0, 0, 0, 0) := by decide +kernel
theorem e_54_2 (d : Nat) (a b : Int) (z0 : q_V) (st : List q_V) (v : q_H) (G : q_Gr) (Q : q_V → q_H → q_Gr → Prop) : q_wp d 54 2 [z0] (.inl b :: .inl a :: st) v G Q = ((q_inR a ∧ q_inR b) ∧ if a < b then q_wp d 54 9 [z0] st v G Q else q_wp d 54 5 [z0] st v G Q) := q_w_icmp_lt c_54_2 (by decide)
theorem c_54_5 : q_code 54 5 = (.iconst 4, 1, 0, 0, 0, 0, 0) := by decide +kernel
theorem e_54_5 (d : Nat)  (z0 : q_V) (st : List q_V) (v : q_H) (G : q_Gr) (Q : q_V → q_H → q_Gr → Prop) : q_wp d 54 5 [z0] st v G Q = q_wp d 54 6 [z0] (.inl 4 :: st) v G Q := q_w_iconst c_54_5
theorem c_54_6 : q_code 54 6 = (.goto 13, 3, 0, 0, 0, 0, 0) := by decide +kernel
theorem e_54_6 (d : Nat)  (z0 : q_V) (st : List q_V) (v : q_H) (G : q_Gr) (Q : q_V → q_H → q_Gr → Prop) : q_wp d 54 6 [z0] st v G Q = q_wp d 54 19 [z0] st v G Q := q_w_goto c_54_6 (by decide)
theorem c_54_9 : q_code 54 9 = (.iload_n 0, 1, 0, 0, 0, 0, 0) := by decide +kernel
theorem e_54_9 (d : Nat) (a : Int) (st : List q_V) (v : q_H) (G : q_Gr) (Q : q_V → q_H → q_Gr → Prop) : q_wp d 54 9 [.inl a] st v G Q = q_wp d 54 10 [.inl a] (.inl a :: st) v G Q := q_w_iload_n c_54_9 rfl
theorem c_54_10 : q_code 54 10 = (.iconst 3, 1, 0, 0, 0, 0, 0) := by decide +kernel
theorem e_54_10 (d : Nat)  (z0 : q_V) (st : List q_V) (v : q_H) (G : q_Gr) (Q : q_V → q_H → q_Gr → Prop) : q_wp d 54 10 [z0] st v G Q = q_wp d 54 11 [z0] (.inl 3 :: st) v G Q := q_w_iconst c_54_10
theorem c_54_11 : q_code 54 11 = (.if_icmp .ne 7, 3, 0, 0, 0, 0, 0) := by decide +kernel
theorem e_54_11 (d : Nat) (a b : Int) (z0 : q_V) (st : List q_V) (v : q_H) (G : q_Gr) (Q : q_V → q_H → q_Gr → Prop) : q_wp d 54 11 [z0] (.inl b :: .inl a :: st) v G Q = ((q_inR a ∧ q_inR b) ∧ if ¬ a = b then q_wp d 54 18 [z0] st v G Q else q_wp d 54 14 [z0] st v G Q) := q_w_icmp_ne c_54_11 (by decide)
theorem c_54_14 : q_code 54 14 = (.iconst 2, 1, 0, 0, 0, 0, 0) := by decide +kernel
theorem e_54_14 (d : Nat)  (z0 : q_V) (st : List q_V) (v : q_H) (G : q_Gr) (Q : q_V → q_H → q_Gr → Prop) : q_wp d 54 14 [z0] st v G Q = q_wp d 54 15 [z0] (.inl 2 :: st) v G Q := q_w_iconst c_54_14
theorem c_54_15 : q_code 54 15 = (.goto 4, 3, 0, 0, 0, 0, 0) := by decide +kernel
theorem e_54_15 (d : Nat)  (z0 : q_V) (st : List q_V) (v : q_H) (G : q_Gr) (Q : q_V → q_H → q_Gr → Prop) : q_wp d 54 15 [z0] st v G Q = q_wp d 54 19 [z0] st v G Q := q_w_goto c_54_15 (by decide)
theorem c_54_18 : q_code 54 18 = (.iconst 3, 1, 0, 0, 0, 0, 0) := by decide +kernel
theorem e_54_18 (d : Nat)  (z0 : q_V) (st : List q_V) (v : q_H) (G : q_Gr) (Q : q_V → q_H → q_Gr → Prop) : q_wp d 54 18 [z0] st v G Q = q_wp d 54 19 [z0] (.inl 3 :: st) v G Q := q_w_iconst c_54_18
theorem c_54_19 : q_code 54 19 = (.ireturn, 1, 0, 0, 0, 0, 0) := by decide +kernel
theorem e_54_19 (d : Nat) (a : Int) (z0 : q_V) (v : q_H) (G : q_Gr) (Q : q_V → q_H → q_Gr → Prop) : q_wp d 54 19 [z0] [.inl a] v G Q = Q (.inl a) v G := q_w_ireturn c_54_19 rfl
theorem e_54 (d : Nat) (a0 : Int) (v : q_H) (G : q_Gr) (Q : q_V → q_H → q_Gr → Prop) : q_call (d + 1) 54 [.inl a0] v G Q = q_wp d 54 0 [.inl a0] [] v G Q := by
  rw [q_call_in (by decide) (Nat.le_of_ble_eq_true rfl) rfl]
  show (true = true ∧ _) = _
  simp only [true_and]
  rfl
/-- all but the heads of loops: [] -/
def E54 := And.intro @e_54 (And.intro @e_54_0 (And.intro @e_54_1 (And.intro @e_54_2 (And.intro @e_54_5 (And.intro @e_54_6 (And.intro @e_54_9 (And.intro @e_54_10 (And.intro @e_54_11 (And.intro @e_54_14 (And.intro @e_54_15 (And.intro @e_54_18 (@e_54_19))))))))))))
/-! ProvenRows$Plans.isAsTold(III)Z -/
theorem c_55_0 : q_code 55 0 = (.iload_n 2, 1, 0, 0, 0, 0, 0) := by decide +kernel
theorem e_55_0 (d : Nat) (a : Int) (z0 z1 z3 z4 : q_V) (st : List q_V) (v : q_H) (G : q_Gr) (Q : q_V → q_H → q_Gr → Prop) : q_wp d 55 0 [z0, z1, .inl a, z3, z4] st v G Q = q_wp d 55 1 [z0, z1, .inl a, z3, z4] (.inl a :: st) v G Q := q_w_iload_n c_55_0 rfl
theorem c_55_1 : q_code 55 1 = (.ifCond .eq 13, 3, 0, 0, 0, 0, 0) := by decide +kernel
theorem e_55_1 (d : Nat) (a : Int) (z0 z1 z2 z3 z4 : q_V) (st : List q_V) (v : q_H) (G : q_Gr) (Q : q_V → q_H → q_Gr → Prop) : q_wp d 55 1 [z0, z1, z2, z3, z4] (.inl a :: st) v G Q = ((q_inR a) ∧ if a = 0 then q_wp d 55 14 [z0, z1, z2, z3, z4] st v G Q else q_wp d 55 4 [z0, z1, z2, z3, z4] st v G Q) := q_w_if_eq c_55_1 (by decide)
theorem c_55_4 : q_code 55 4 = (.iload_n 2, 1, 0, 0, 0, 0, 0) := by decide +kernel
theorem e_55_4 (d : Nat) (a : Int) (z0 z1 z3 z4 : q_V) (st : List q_V) (v : q_H) (G : q_Gr) (Q : q_V → q_H → q_Gr → Prop) : q_wp d 55 4 [z0, z1, .inl a, z3, z4] st v G Q = q_wp d 55 5 [z0, z1, .inl a, z3, z4] (.inl a :: st) v G Q := q_w_iload_n c_55_4 rfl
theorem c_55_5 : q_code 55 5 = (.iconst 1, 1, 0, 0, 0, 0, 0) := by decide +kernel
theorem e_55_5 (d : Nat)  (z0 z1 z2 z3 z4 : q_V) (st : List q_V) (v : q_H) (G : q_Gr) (Q : q_V → q_H → q_Gr → Prop) : q_wp d 55 5 [z0, z1, z2, z3, z4] st v G Q = q_wp d 55 6 [z0, z1, z2, z3, z4] (.inl 1 :: st) v G Q := q_w_iconst c_55_5
theorem c_55_6 : q_code 55 6 = (.if_icmp .ne 19, 3, 0, 0, 0, 0, 0) := by decide +kernel
theorem e_55_6 (d : Nat) (a b : Int) (z0 z1 z2 z3 z4 : q_V) (st : List q_V) (v : q_H) (G : q_Gr) (Q : q_V → q_H → q_Gr → Prop) : q_wp d 55 6 [z0, z1, z2, z3, z4] (.inl b :: .inl a :: st) v G Q = ((q_inR a ∧ q_inR b) ∧ if ¬ a = b then q_wp d 55 25 [z0, z1, z2, z3, z4] st v G Q else q_wp d 55 9 [z0, z1, z2, z3, z4] st v G Q) := q_w_icmp_ne c_55_6 (by decide)
theorem c_55_9 : q_code 55 9 = (.iload_n 1, 1, 0, 0, 0, 0, 0) := by decide +kernel
theorem e_55_9 (d : Nat) (a : Int) (z0 z2 z3 z4 : q_V) (st : List q_V) (v : q_H) (G : q_Gr) (Q : q_V → q_H → q_Gr → Prop) : q_wp d 55 9 [z0, .inl a, z2, z3, z4] st v G Q = q_wp d 55 10 [z0, .inl a, z2, z3, z4] (.inl a :: st) v G Q := q_w_iload_n c_55_9 rfl
theorem c_55_10 : q_code 55 10 = (.iconst 4, 1, 0, 0, 0, 0, 0) := by decide +kernel
theorem e_55_10 (d : Nat)  (z0 z1 z2 z3 z4 : q_V) (st : List q_V) (v : q_H) (G : q_Gr) (Q : q_V → q_H → q_Gr → Prop) : q_wp d 55 10 [z0, z1, z2, z3, z4] st v G Q = q_wp d 55 11 [z0, z1, z2, z3, z4] (.inl 4 :: st) v G Q := q_w_iconst c_55_10
theorem c_55_11 : q_code 55 11 = (.if_icmp .lt 14, 3, 0, 0, 0, 0, 0) := by decide +kernel
theorem e_55_11 (d : Nat) (a b : Int) (z0 z1 z2 z3 z4 : q_V) (st : List q_V) (v : q_H) (G : q_Gr) (Q : q_V → q_H → q_Gr → Prop) : q_wp d 55 11 [z0, z1, z2, z3, z4] (.inl b :: .inl a :: st) v G Q = ((q_inR a ∧ q_inR b) ∧ if a < b then q_wp d 55 25 [z0, z1, z2, z3, z4] st v G Q else q_wp d 55 14 [z0, z1, z2, z3, z4] st v G Q) := q_w_icmp_lt c_55_11 (by decide)
theorem c_55_14 : q_code 55 14 = (.iload_n 3, 1, 0, 0, 0, 0, 0) := by decide +kernel
theorem e_55_14 (d : Nat) (a : Int) (z0 z1 z2 z4 : q_V) (st : List q_V) (v : q_H) (G : q_Gr) (Q : q_V → q_H → q_Gr → Prop) : q_wp d 55 14 [z0, z1, z2, .inl a, z4] st v G Q = q_wp d 55 15 [z0, z1, z2, .inl a, z4] (.inl a :: st) v G Q := q_w_iload_n c_55_14 rfl
theorem c_55_15 : q_code 55 15 = (.iconst 3, 1, 0, 0, 0, 0, 0) := by decide +kernel
theorem e_55_15 (d : Nat)  (z0 z1 z2 z3 z4 : q_V) (st : List q_V) (v : q_H) (G : q_Gr) (Q : q_V → q_H → q_Gr → Prop) : q_wp d 55 15 [z0, z1, z2, z3, z4] st v G Q = q_wp d 55 16 [z0, z1, z2, z3, z4] (.inl 3 :: st) v G Q := q_w_iconst c_55_15
theorem c_55_16 : q_code 55 16 = (.if_icmp .ge 7, 3, 0, 0, 0, 0, 0) := by decide +kernel
theorem e_55_16 (d : Nat) (a b : Int) (z0 z1 z2 z3 z4 : q_V) (st : List q_V) (v : q_H) (G : q_Gr) (Q : q_V → q_H → q_Gr → Prop) : q_wp d 55 16 [z0, z1, z2, z3, z4] (.inl b :: .inl a :: st) v G Q = ((q_inR a ∧ q_inR b) ∧ if b ≤ a then q_wp d 55 23 [z0, z1, z2, z3, z4] st v G Q else q_wp d 55 19 [z0, z1, z2, z3, z4] st v G Q) := q_w_icmp_ge c_55_16 (by decide)
theorem c_55_19 : q_code 55 19 = (.iconst 1, 1, 0, 0, 0, 0, 0) := by decide +kernel
theorem e_55_19 (d : Nat)  (z0 z1 z2 z3 z4 : q_V) (st : List q_V) (v : q_H) (G : q_Gr) (Q : q_V → q_H → q_Gr → Prop) : q_wp d 55 19 [z0, z1, z2, z3, z4] st v G Q = q_wp d 55 20 [z0, z1, z2, z3, z4] (.inl 1 :: st) v G Q := q_w_iconst c_55_19
theorem c_55_20 : q_code 55 20 = (.goto 4, 3, 0, 0, 0, 0, 0) := by decide +kernel
theorem e_55_20 (d : Nat)  (z0 z1 z2 z3 z4 : q_V) (st : List q_V) (v : q_H) (G : q_Gr) (Q : q_V → q_H → q_Gr → Prop) : q_wp d 55 20 [z0, z1, z2, z3, z4] st v G Q = q_wp d 55 24 [z0, z1, z2, z3, z4] st v G Q := q_w_goto c_55_20 (by decide)
theorem c_55_23 : q_code 55 23 = (.iconst 0, 1, 0, 0, 0, 0, 0) := by decide +kernel
theorem e_55_23 (d : Nat)  (z0 z1 z2 z3 z4 : q_V) (st : List q_V) (v : q_H) (G : q_Gr) (Q : q_V → q_H → q_Gr → Prop) : q_wp d 55 23 [z0, z1, z2, z3, z4] st v G Q = q_wp d 55 24 [z0, z1, z2, z3, z4] (.inl 0 :: st) v G Q := q_w_iconst c_55_23
theorem c_55_24 : q_code 55 24 = (.ireturn, 1, 0, 0, 0, 0, 0) := by decide +kernel
theorem e_55_24 (d : Nat) (a : Int) (z0 z1 z2 z3 z4 : q_V) (v : q_H) (G : q_Gr) (Q : q_V → q_H → q_Gr → Prop) : q_wp d 55 24 [z0, z1, z2, z3, z4] [.inl a] v G Q = ((0 ≤ a ∧ a ≤ 1) ∧ Q (.inl a) v G) := q_w_zreturn c_55_24 rfl
theorem c_55_25 : q_code 55 25 = (.iload_n 1, 1, 0, 0, 0, 0, 0) := by decide +kernel
theorem e_55_25 (d : Nat) (a : Int) (z0 z2 z3 z4 : q_V) (st : List q_V) (v : q_H) (G : q_Gr) (Q : q_V → q_H → q_Gr → Prop) : q_wp d 55 25 [z0, .inl a, z2, z3, z4] st v G Q = q_wp d 55 26 [z0, .inl a, z2, z3, z4] (.inl a :: st) v G Q := q_w_iload_n c_55_25 rfl
theorem c_55_26 : q_code 55 26 = (.iconst 2, 1, 0, 0, 0, 0, 0) := by decide +kernel
theorem e_55_26 (d : Nat)  (z0 z1 z2 z3 z4 : q_V) (st : List q_V) (v : q_H) (G : q_Gr) (Q : q_V → q_H → q_Gr → Prop) : q_wp d 55 26 [z0, z1, z2, z3, z4] st v G Q = q_wp d 55 27 [z0, z1, z2, z3, z4] (.inl 2 :: st) v G Q := q_w_iconst c_55_26
theorem c_55_27 : q_code 55 27 = (.if_icmp .ne 25, 3, 0, 0, 0, 0, 0) := by decide +kernel
theorem e_55_27 (d : Nat) (a b : Int) (z0 z1 z2 z3 z4 : q_V) (st : List q_V) (v : q_H) (G : q_Gr) (Q : q_V → q_H → q_Gr → Prop) : q_wp d 55 27 [z0, z1, z2, z3, z4] (.inl b :: .inl a :: st) v G Q = ((q_inR a ∧ q_inR b) ∧ if ¬ a = b then q_wp d 55 52 [z0, z1, z2, z3, z4] st v G Q else q_wp d 55 30 [z0, z1, z2, z3, z4] st v G Q) := q_w_icmp_ne c_55_27 (by decide)
theorem c_55_30 : q_code 55 30 = (.iload_n 2, 1, 0, 0, 0, 0, 0) := by decide +kernel
theorem e_55_30 (d : Nat) (a : Int) (z0 z1 z3 z4 : q_V) (st : List q_V) (v : q_H) (G : q_Gr) (Q : q_V → q_H → q_Gr → Prop) : q_wp d 55 30 [z0, z1, .inl a, z3, z4] st v G Q = q_wp d 55 31 [z0, z1, .inl a, z3, z4] (.inl a :: st) v G Q := q_w_iload_n c_55_30 rfl
theorem c_55_31 : q_code 55 31 = (.iconst 2, 1, 0, 0, 0, 0, 0) := by decide +kernel
theorem e_55_31 (d : Nat)  (z0 z1 z2 z3 z4 : q_V) (st : List q_V) (v : q_H) (G : q_Gr) (Q : q_V → q_H → q_Gr → Prop) : q_wp d 55 31 [z0, z1, z2, z3, z4] st v G Q = q_wp d 55 32 [z0, z1, z2, z3, z4] (.inl 2 :: st) v G Q := q_w_iconst c_55_31
theorem c_55_32 : q_code 55 32 = (.if_icmp .ne 20, 3, 0, 0, 0, 0, 0) := by decide +kernel
theorem e_55_32 (d : Nat) (a b : Int) (z0 z1 z2 z3 z4 : q_V) (st : List q_V) (v : q_H) (G : q_Gr) (Q : q_V → q_H → q_Gr → Prop) : q_wp d 55 32 [z0, z1, z2, z3, z4] (.inl b :: .inl a :: st) v G Q = ((q_inR a ∧ q_inR b) ∧ if ¬ a = b then q_wp d 55 52 [z0, z1, z2, z3, z4] st v G Q else q_wp d 55 35 [z0, z1, z2, z3, z4] st v G Q) := q_w_icmp_ne c_55_32 (by decide)
theorem c_55_35 : q_code 55 35 = (.iload_n 3, 1, 0, 0, 0, 0, 0) := by decide +kernel
theorem e_55_35 (d : Nat) (a : Int) (z0 z1 z2 z4 : q_V) (st : List q_V) (v : q_H) (G : q_Gr) (Q : q_V → q_H → q_Gr → Prop) : q_wp d 55 35 [z0, z1, z2, .inl a, z4] st v G Q = q_wp d 55 36 [z0, z1, z2, .inl a, z4] (.inl a :: st) v G Q := q_w_iload_n c_55_35 rfl
theorem c_55_36 : q_code 55 36 = (.iconst 1, 1, 0, 0, 0, 0, 0) := by decide +kernel
theorem e_55_36 (d : Nat)  (z0 z1 z2 z3 z4 : q_V) (st : List q_V) (v : q_H) (G : q_Gr) (Q : q_V → q_H → q_Gr → Prop) : q_wp d 55 36 [z0, z1, z2, z3, z4] st v G Q = q_wp d 55 37 [z0, z1, z2, z3, z4] (.inl 1 :: st) v G Q := q_w_iconst c_55_36
theorem c_55_37 : q_code 55 37 = (.if_icmp .lt 13, 3, 0, 0, 0, 0, 0) := by decide +kernel
theorem e_55_37 (d : Nat) (a b : Int) (z0 z1 z2 z3 z4 : q_V) (st : List q_V) (v : q_H) (G : q_Gr) (Q : q_V → q_H → q_Gr → Prop) : q_wp d 55 37 [z0, z1, z2, z3, z4] (.inl b :: .inl a :: st) v G Q = ((q_inR a ∧ q_inR b) ∧ if a < b then q_wp d 55 50 [z0, z1, z2, z3, z4] st v G Q else q_wp d 55 40 [z0, z1, z2, z3, z4] st v G Q) := q_w_icmp_lt c_55_37 (by decide)
theorem c_55_40 : q_code 55 40 = (.iload_n 3, 1, 0, 0, 0, 0, 0) := by decide +kernel
theorem e_55_40 (d : Nat) (a : Int) (z0 z1 z2 z4 : q_V) (st : List q_V) (v : q_H) (G : q_Gr) (Q : q_V → q_H → q_Gr → Prop) : q_wp d 55 40 [z0, z1, z2, .inl a, z4] st v G Q = q_wp d 55 41 [z0, z1, z2, .inl a, z4] (.inl a :: st) v G Q := q_w_iload_n c_55_40 rfl
theorem c_55_41 : q_code 55 41 = (.bipush 14, 2, 0, 0, 0, 0, 0) := by decide +kernel
theorem e_55_41 (d : Nat)  (z0 z1 z2 z3 z4 : q_V) (st : List q_V) (v : q_H) (G : q_Gr) (Q : q_V → q_H → q_Gr → Prop) : q_wp d 55 41 [z0, z1, z2, z3, z4] st v G Q = q_wp d 55 43 [z0, z1, z2, z3, z4] (.inl 14 :: st) v G Q := (q_w_bipush c_55_41).trans (by simp only [show ((-128 : Int) ≤ 14 ∧ (14 : Int) ≤ 127) = True by decide, true_and])
theorem c_55_43 : q_code 55 43 = (.if_icmp .gt 7, 3, 0, 0, 0, 0, 0) := by decide +kernel
theorem e_55_43 (d : Nat) (a b : Int) (z0 z1 z2 z3 z4 : q_V) (st : List q_V) (v : q_H) (G : q_Gr) (Q : q_V → q_H → q_Gr → Prop) : q_wp d 55 43 [z0, z1, z2, z3, z4] (.inl b :: .inl a :: st) v G Q = ((q_inR a ∧ q_inR b) ∧ if b < a then q_wp d 55 50 [z0, z1, z2, z3, z4] st v G Q else q_wp d 55 46 [z0, z1, z2, z3, z4] st v G Q) := q_w_icmp_gt c_55_43 (by decide)
theorem c_55_46 : q_code 55 46 = (.iconst 1, 1, 0, 0, 0, 0, 0) := by decide +kernel
theorem e_55_46 (d : Nat)  (z0 z1 z2 z3 z4 : q_V) (st : List q_V) (v : q_H) (G : q_Gr) (Q : q_V → q_H → q_Gr → Prop) : q_wp d 55 46 [z0, z1, z2, z3, z4] st v G Q = q_wp d 55 47 [z0, z1, z2, z3, z4] (.inl 1 :: st) v G Q := q_w_iconst c_55_46
theorem c_55_47 : q_code 55 47 = (.goto 4, 3, 0, 0, 0, 0, 0) := by decide +kernel
theorem e_55_47 (d : Nat)  (z0 z1 z2 z3 z4 : q_V) (st : List q_V) (v : q_H) (G : q_Gr) (Q : q_V → q_H → q_Gr → Prop) : q_wp d 55 47 [z0, z1, z2, z3, z4] st v G Q = q_wp d 55 51 [z0, z1, z2, z3, z4] st v G Q := q_w_goto c_55_47 (by decide)
theorem c_55_50 : q_code 55 50 = (.iconst 0, 1, 0, 0, 0, 0, 0) := by decide +kernel
theorem e_55_50 (d : Nat)  (z0 z1 z2 z3 z4 : q_V) (st : List q_V) (v : q_H) (G : q_Gr) (Q : q_V → q_H → q_Gr → Prop) : q_wp d 55 50 [z0, z1, z2, z3, z4] st v G Q = q_wp d 55 51 [z0, z1, z2, z3, z4] (.inl 0 :: st) v G Q := q_w_iconst c_55_50
theorem c_55_51 : q_code 55 51 = (.ireturn, 1, 0, 0, 0, 0, 0) := by decide +kernel
theorem e_55_51 (d : Nat) (a : Int) (z0 z1 z2 z3 z4 : q_V) (v : q_H) (G : q_Gr) (Q : q_V → q_H → q_Gr → Prop) : q_wp d 55 51 [z0, z1, z2, z3, z4] [.inl a] v G Q = ((0 ≤ a ∧ a ≤ 1) ∧ Q (.inl a) v G) := q_w_zreturn c_55_51 rfl
theorem c_55_52 : q_code 55 52 = (.iload_n 2, 1, 0, 0, 0, 0, 0) := by decide +kernel
theorem e_55_52 (d : Nat) (a : Int) (z0 z1 z3 z4 : q_V) (st : List q_V) (v : q_H) (G : q_Gr) (Q : q_V → q_H → q_Gr → Prop) : q_wp d 55 52 [z0, z1, .inl a, z3, z4] st v G Q = q_wp d 55 53 [z0, z1, .inl a, z3, z4] (.inl a :: st) v G Q := q_w_iload_n c_55_52 rfl
theorem c_55_53 : q_code 55 53 = (.iload_n 1, 1, 0, 0, 0, 0, 0) := by decide +kernel
theorem e_55_53 (d : Nat) (a : Int) (z0 z2 z3 z4 : q_V) (st : List q_V) (v : q_H) (G : q_Gr) (Q : q_V → q_H → q_Gr → Prop) : q_wp d 55 53 [z0, .inl a, z2, z3, z4] st v G Q = q_wp d 55 54 [z0, .inl a, z2, z3, z4] (.inl a :: st) v G Q := q_w_iload_n c_55_53 rfl
theorem c_55_54 : q_code 55 54 = (.iconst 4, 1, 0, 0, 0, 0, 0) := by decide +kernel
theorem e_55_54 (d : Nat)  (z0 z1 z2 z3 z4 : q_V) (st : List q_V) (v : q_H) (G : q_Gr) (Q : q_V → q_H → q_Gr → Prop) : q_wp d 55 54 [z0, z1, z2, z3, z4] st v G Q = q_wp d 55 55 [z0, z1, z2, z3, z4] (.inl 4 :: st) v G Q := q_w_iconst c_55_54
theorem c_55_55 : q_code 55 55 = (.if_icmp .lt 7, 3, 0, 0, 0, 0, 0) := by decide +kernel
theorem e_55_55 (d : Nat) (a b : Int) (z0 z1 z2 z3 z4 : q_V) (st : List q_V) (v : q_H) (G : q_Gr) (Q : q_V → q_H → q_Gr → Prop) : q_wp d 55 55 [z0, z1, z2, z3, z4] (.inl b :: .inl a :: st) v G Q = ((q_inR a ∧ q_inR b) ∧ if a < b then q_wp d 55 62 [z0, z1, z2, z3, z4] st v G Q else q_wp d 55 58 [z0, z1, z2, z3, z4] st v G Q) := q_w_icmp_lt c_55_55 (by decide)
theorem c_55_58 : q_code 55 58 = (.iconst 3, 1, 0, 0, 0, 0, 0) := by decide +kernel
theorem e_55_58 (d : Nat)  (z0 z1 z2 z3 z4 : q_V) (st : List q_V) (v : q_H) (G : q_Gr) (Q : q_V → q_H → q_Gr → Prop) : q_wp d 55 58 [z0, z1, z2, z3, z4] st v G Q = q_wp d 55 59 [z0, z1, z2, z3, z4] (.inl 3 :: st) v G Q := q_w_iconst c_55_58
theorem c_55_59 : q_code 55 59 = (.goto 4, 3, 0, 0, 0, 0, 0) := by decide +kernel
theorem e_55_59 (d : Nat)  (z0 z1 z2 z3 z4 : q_V) (st : List q_V) (v : q_H) (G : q_Gr) (Q : q_V → q_H → q_Gr → Prop) : q_wp d 55 59 [z0, z1, z2, z3, z4] st v G Q = q_wp d 55 63 [z0, z1, z2, z3, z4] st v G Q := q_w_goto c_55_59 (by decide)
theorem c_55_62 : q_code 55 62 = (.iconst 2, 1, 0, 0, 0, 0, 0) := by decide +kernel
theorem e_55_62 (d : Nat)  (z0 z1 z2 z3 z4 : q_V) (st : List q_V) (v : q_H) (G : q_Gr) (Q : q_V → q_H → q_Gr → Prop) : q_wp d 55 62 [z0, z1, z2, z3, z4] st v G Q = q_wp d 55 63 [z0, z1, z2, z3, z4] (.inl 2 :: st) v G Q := q_w_iconst c_55_62
theorem c_55_63 : q_code 55 63 = (.if_icmp .ne 7, 3, 0, 0, 0, 0, 0) := by decide +kernel
theorem e_55_63 (d : Nat) (a b : Int) (z0 z1 z2 z3 z4 : q_V) (st : List q_V) (v : q_H) (G : q_Gr) (Q : q_V → q_H → q_Gr → Prop) : q_wp d 55 63 [z0, z1, z2, z3, z4] (.inl b :: .inl a :: st) v G Q = ((q_inR a ∧ q_inR b) ∧ if ¬ a = b then q_wp d 55 70 [z0, z1, z2, z3, z4] st v G Q else q_wp d 55 66 [z0, z1, z2, z3, z4] st v G Q) := q_w_icmp_ne c_55_63 (by decide)
theorem c_55_66 : q_code 55 66 = (.iconst 1, 1, 0, 0, 0, 0, 0) := by decide +kernel
theorem e_55_66 (d : Nat)  (z0 z1 z2 z3 z4 : q_V) (st : List q_V) (v : q_H) (G : q_Gr) (Q : q_V → q_H → q_Gr → Prop) : q_wp d 55 66 [z0, z1, z2, z3, z4] st v G Q = q_wp d 55 67 [z0, z1, z2, z3, z4] (.inl 1 :: st) v G Q := q_w_iconst c_55_66
theorem c_55_67 : q_code 55 67 = (.goto 4, 3, 0, 0, 0, 0, 0) := by decide +kernel
theorem e_55_67 (d : Nat)  (z0 z1 z2 z3 z4 : q_V) (st : List q_V) (v : q_H) (G : q_Gr) (Q : q_V → q_H → q_Gr → Prop) : q_wp d 55 67 [z0, z1, z2, z3, z4] st v G Q = q_wp d 55 71 [z0, z1, z2, z3, z4] st v G Q := q_w_goto c_55_67 (by decide)
theorem c_55_70 : q_code 55 70 = (.iconst 0, 1, 0, 0, 0, 0, 0) := by decide +kernel
theorem e_55_70 (d : Nat)  (z0 z1 z2 z3 z4 : q_V) (st : List q_V) (v : q_H) (G : q_Gr) (Q : q_V → q_H → q_Gr → Prop) : q_wp d 55 70 [z0, z1, z2, z3, z4] st v G Q = q_wp d 55 71 [z0, z1, z2, z3, z4] (.inl 0 :: st) v G Q := q_w_iconst c_55_70
theorem c_55_71 : q_code 55 71 = (.istore 4, 2, 0, 0, 0, 0, 0) := by decide +kernel
theorem e_55_71 (d : Nat) (a : Int) (z0 z1 z2 z3 z4 : q_V) (st : List q_V) (v : q_H) (G : q_Gr) (Q : q_V → q_H → q_Gr → Prop) : q_wp d 55 71 [z0, z1, z2, z3, z4] (.inl a :: st) v G Q = q_wp d 55 73 [z0, z1, z2, z3, .inl a] st v G Q := q_w_istore c_55_71
theorem c_55_73 : q_code 55 73 = (.iload 4, 2, 0, 0, 0, 0, 0) := by decide +kernel
theorem e_55_73 (d : Nat) (a : Int) (z0 z1 z2 z3 : q_V) (st : List q_V) (v : q_H) (G : q_Gr) (Q : q_V → q_H → q_Gr → Prop) : q_wp d 55 73 [z0, z1, z2, z3, .inl a] st v G Q = q_wp d 55 75 [z0, z1, z2, z3, .inl a] (.inl a :: st) v G Q := q_w_iload c_55_73 rfl
theorem c_55_75 : q_code 55 75 = (.ifCond .eq 15, 3, 0, 0, 0, 0, 0) := by decide +kernel
theorem e_55_75 (d : Nat) (a : Int) (z0 z1 z2 z3 z4 : q_V) (st : List q_V) (v : q_H) (G : q_Gr) (Q : q_V → q_H → q_Gr → Prop) : q_wp d 55 75 [z0, z1, z2, z3, z4] (.inl a :: st) v G Q = ((q_inR a) ∧ if a = 0 then q_wp d 55 90 [z0, z1, z2, z3, z4] st v G Q else q_wp d 55 78 [z0, z1, z2, z3, z4] st v G Q) := q_w_if_eq c_55_75 (by decide)
theorem c_55_78 : q_code 55 78 = (.iload_n 3, 1, 0, 0, 0, 0, 0) := by decide +kernel
theorem e_55_78 (d : Nat) (a : Int) (z0 z1 z2 z4 : q_V) (st : List q_V) (v : q_H) (G : q_Gr) (Q : q_V → q_H → q_Gr → Prop) : q_wp d 55 78 [z0, z1, z2, .inl a, z4] st v G Q = q_wp d 55 79 [z0, z1, z2, .inl a, z4] (.inl a :: st) v G Q := q_w_iload_n c_55_78 rfl
theorem c_55_79 : q_code 55 79 = (.aload_n 0, 1, 0, 0, 0, 0, 0) := by decide +kernel
theorem e_55_79 (d : Nat) (a : Option Nat) (z1 z2 z3 z4 : q_V) (st : List q_V) (v : q_H) (G : q_Gr) (Q : q_V → q_H → q_Gr → Prop) : q_wp d 55 79 [.inr (.inr (.inl a)), z1, z2, z3, z4] st v G Q = q_wp d 55 80 [.inr (.inr (.inl a)), z1, z2, z3, z4] (.inr (.inr (.inl a)) :: st) v G Q := q_w_aload_n c_55_79 rfl
theorem c_55_80 : q_code 55 80 = (.getfield 21, 3, 4, 8, 1, 119, 0) := by decide +kernel
theorem e_55_80 (d : Nat) (a : Nat) (z0 z1 z2 z3 z4 : q_V) (st : List q_V) (v : q_H) (G : q_Gr) (Q : q_V → q_H → q_Gr → Prop) : q_wp d 55 80 [z0, z1, z2, z3, z4] (.inr (.inr (.inl (some a))) :: st) v G Q = (((G.2.1 a).1 = 4) ∧ q_wp d 55 83 [z0, z1, z2, z3, z4] (.inr (.inr (.inl (G.1 a 8))) :: st) v G Q) := q_w_getP c_55_80
theorem c_55_83 : q_code 55 83 = (.iload_n 2, 1, 0, 0, 0, 0, 0) := by decide +kernel
theorem e_55_83 (d : Nat) (a : Int) (z0 z1 z3 z4 : q_V) (st : List q_V) (v : q_H) (G : q_Gr) (Q : q_V → q_H → q_Gr → Prop) : q_wp d 55 83 [z0, z1, .inl a, z3, z4] st v G Q = q_wp d 55 84 [z0, z1, .inl a, z3, z4] (.inl a :: st) v G Q := q_w_iload_n c_55_83 rfl
theorem c_55_84 : q_code 55 84 = (.iconst 1, 1, 0, 0, 0, 0, 0) := by decide +kernel
theorem e_55_84 (d : Nat)  (z0 z1 z2 z3 z4 : q_V) (st : List q_V) (v : q_H) (G : q_Gr) (Q : q_V → q_H → q_Gr → Prop) : q_wp d 55 84 [z0, z1, z2, z3, z4] st v G Q = q_wp d 55 85 [z0, z1, z2, z3, z4] (.inl 1 :: st) v G Q := q_w_iconst c_55_84
theorem c_55_85 : q_code 55 85 = (.isub, 1, 0, 0, 0, 0, 0) := by decide +kernel
theorem e_55_85 (d : Nat) (a b : Int) (z0 z1 z2 z3 z4 : q_V) (st : List q_V) (v : q_H) (G : q_Gr) (Q : q_V → q_H → q_Gr → Prop) : q_wp d 55 85 [z0, z1, z2, z3, z4] (.inl b :: .inl a :: st) v G Q = q_wp d 55 86 [z0, z1, z2, z3, z4] (.inl (a - b) :: st) v G Q := q_w_isub c_55_85
theorem c_55_86 : q_code 55 86 = (.iaload, 1, 0, 0, 0, 0, 0) := by decide +kernel
theorem e_55_86 (d : Nat) (a : Nat) (i : Int) (z0 z1 z2 z3 z4 : q_V) (st : List q_V) (v : q_H) (G : q_Gr) (Q : q_V → q_H → q_Gr → Prop) : q_wp d 55 86 [z0, z1, z2, z3, z4] (.inl i :: .inr (.inr (.inl (some a))) :: st) v G Q = (((G.2.1 a).1 = 20 ∧ 0 ≤ i ∧ i < (G.2.1 a).2) ∧ q_wp d 55 87 [z0, z1, z2, z3, z4] (.inl (v a i.toNat) :: st) v G Q) := q_w_iald c_55_86
theorem c_55_87 : q_code 55 87 = (.if_icmp .lt 7, 3, 0, 0, 0, 0, 0) := by decide +kernel
theorem e_55_87 (d : Nat) (a b : Int) (z0 z1 z2 z3 z4 : q_V) (st : List q_V) (v : q_H) (G : q_Gr) (Q : q_V → q_H → q_Gr → Prop) : q_wp d 55 87 [z0, z1, z2, z3, z4] (.inl b :: .inl a :: st) v G Q = ((q_inR a ∧ q_inR b) ∧ if a < b then q_wp d 55 94 [z0, z1, z2, z3, z4] st v G Q else q_wp d 55 90 [z0, z1, z2, z3, z4] st v G Q) := q_w_icmp_lt c_55_87 (by decide)
theorem c_55_90 : q_code 55 90 = (.iconst 1, 1, 0, 0, 0, 0, 0) := by decide +kernel
theorem e_55_90 (d : Nat)  (z0 z1 z2 z3 z4 : q_V) (st : List q_V) (v : q_H) (G : q_Gr) (Q : q_V → q_H → q_Gr → Prop) : q_wp d 55 90 [z0, z1, z2, z3, z4] st v G Q = q_wp d 55 91 [z0, z1, z2, z3, z4] (.inl 1 :: st) v G Q := q_w_iconst c_55_90
theorem c_55_91 : q_code 55 91 = (.goto 4, 3, 0, 0, 0, 0, 0) := by decide +kernel
theorem e_55_91 (d : Nat)  (z0 z1 z2 z3 z4 : q_V) (st : List q_V) (v : q_H) (G : q_Gr) (Q : q_V → q_H → q_Gr → Prop) : q_wp d 55 91 [z0, z1, z2, z3, z4] st v G Q = q_wp d 55 95 [z0, z1, z2, z3, z4] st v G Q := q_w_goto c_55_91 (by decide)
theorem c_55_94 : q_code 55 94 = (.iconst 0, 1, 0, 0, 0, 0, 0) := by decide +kernel
theorem e_55_94 (d : Nat)  (z0 z1 z2 z3 z4 : q_V) (st : List q_V) (v : q_H) (G : q_Gr) (Q : q_V → q_H → q_Gr → Prop) : q_wp d 55 94 [z0, z1, z2, z3, z4] st v G Q = q_wp d 55 95 [z0, z1, z2, z3, z4] (.inl 0 :: st) v G Q := q_w_iconst c_55_94
theorem c_55_95 : q_code 55 95 = (.ireturn, 1, 0, 0, 0, 0, 0) := by decide +kernel
theorem e_55_95 (d : Nat) (a : Int) (z0 z1 z2 z3 z4 : q_V) (v : q_H) (G : q_Gr) (Q : q_V → q_H → q_Gr → Prop) : q_wp d 55 95 [z0, z1, z2, z3, z4] [.inl a] v G Q = ((0 ≤ a ∧ a ≤ 1) ∧ Q (.inl a) v G) := q_w_zreturn c_55_95 rfl
theorem e_55 (d : Nat) (a0 : Nat) (a1 : Int) (a2 : Int) (a3 : Int) (v : q_H) (G : q_Gr) (Q : q_V → q_H → q_Gr → Prop) : q_call (d + 1) 55 [.inr (.inr (.inl (some a0))), .inl a1, .inl a2, .inl a3] v G Q = ((G.2.1 a0).1 = 4 ∧ q_wp d 55 0 [.inr (.inr (.inl (some a0))), .inl a1, .inl a2, .inl a3, .inr (.inr (.inr ()))] [] v G Q) := by
  rw [q_call_in (by decide) (Nat.le_of_ble_eq_true rfl) rfl]
  exact congrArg (· ∧ _) (propext beq_iff_eq)
/-- all but the heads of loops: [] -/
def E55 := And.intro @e_55 (And.intro @e_55_0 (And.intro @e_55_1 (And.intro @e_55_4 (And.intro @e_55_5 (And.intro @e_55_6 (And.intro @e_55_9 (And.intro @e_55_10 (And.intro @e_55_11 (And.intro @e_55_14 (And.intro @e_55_15 (And.intro @e_55_16 (And.intro @e_55_19 (And.intro @e_55_20 (And.intro @e_55_23 (And.intro @e_55_24 (And.intro @e_55_25 (And.intro @e_55_26 (And.intro @e_55_27 (And.intro @e_55_30 (And.intro @e_55_31 (And.intro @e_55_32 (And.intro @e_55_35 (And.intro @e_55_36 (And.intro @e_55_37 (And.intro @e_55_40 (And.intro @e_55_41 (And.intro @e_55_43 (And.intro @e_55_46 (And.intro @e_55_47 (And.intro @e_55_50 (And.intro @e_55_51 (And.intro @e_55_52 (And.intro @e_55_53 (And.intro @e_55_54 (And.intro @e_55_55 (And.intro @e_55_58 (And.intro @e_55_59 (And.intro @e_55_62 (And.intro @e_55_63 (And.intro @e_55_66 (And.intro @e_55_67 (And.intro @e_55_70 (And.intro @e_55_71 (And.intro @e_55_73 (And.intro @e_55_75 (And.intro @e_55_78 (And.intro @e_55_79 (And.intro @e_55_80 (And.intro @e_55_83 (And.intro @e_55_84 (And.intro @e_55_85 (And.intro @e_55_86 (And.intro @e_55_87 (And.intro @e_55_90 (And.intro @e_55_91 (And.intro @e_55_94 (@e_55_95)))))))))))))))))))))))))))))))))))))))))))))))))))))))))
/-! ProvenRows$Plans.nextToken()V -/
theorem c_56_0 : q_code 56 0 = (.aload_n 0, 1, 0, 0, 0, 0, 0) := by decide +kernel
theorem e_56_0 (d : Nat) (a : Option Nat) (z1 : q_V) (st : List q_V) (v : q_H) (G : q_Gr) (Q : q_V → q_H → q_Gr → Prop) : q_wp d 56 0 [.inr (.inr (.inl a)), z1] st v G Q = q_wp d 56 1 [.inr (.inr (.inl a)), z1] (.inr (.inr (.inl a)) :: st) v G Q := q_w_aload_n c_56_0 rfl
theorem c_56_1 : q_code 56 1 = (.getfield 49, 3, 4, 6, 0, 117, 0) := by decide +kernel
theorem e_56_1 (d : Nat) (a : Nat) (z0 z1 : q_V) (st : List q_V) (v : q_H) (G : q_Gr) (Q : q_V → q_H → q_Gr → Prop) : q_wp d 56 1 [z0, z1] (.inr (.inr (.inl (some a))) :: st) v G Q = (((G.2.1 a).1 = 4) ∧ q_wp d 56 4 [z0, z1] (.inl (v a 6) :: st) v G Q) := q_w_getI c_56_1
theorem c_56_4 : q_code 56 4 = (.istore_n 1, 1, 0, 0, 0, 0, 0) := by decide +kernel
theorem e_56_4 (d : Nat) (a : Int) (z0 z1 : q_V) (st : List q_V) (v : q_H) (G : q_Gr) (Q : q_V → q_H → q_Gr → Prop) : q_wp d 56 4 [z0, z1] (.inl a :: st) v G Q = q_wp d 56 5 [z0, .inl a] st v G Q := q_w_istore_n c_56_4
theorem c_56_5 : q_code 56 5 = (.iload_n 1, 1, 0, 0, 0, 0, 0) := by decide +kernel
theorem e_56_5 (d : Nat) (a : Int) (z0 : q_V) (st : List q_V) (v : q_H) (G : q_Gr) (Q : q_V → q_H → q_Gr → Prop) : q_wp d 56 5 [z0, .inl a] st v G Q = q_wp d 56 6 [z0, .inl a] (.inl a :: st) v G Q := q_w_iload_n c_56_5 rfl
theorem c_56_6 : q_code 56 6 = (.aload_n 0, 1, 0, 0, 0, 0, 0) := by decide +kernel
theorem e_56_6 (d : Nat) (a : Option Nat) (z1 : q_V) (st : List q_V) (v : q_H) (G : q_Gr) (Q : q_V → q_H → q_Gr → Prop) : q_wp d 56 6 [.inr (.inr (.inl a)), z1] st v G Q = q_wp d 56 7 [.inr (.inr (.inl a)), z1] (.inr (.inr (.inl a)) :: st) v G Q := q_w_aload_n c_56_6 rfl
theorem c_56_7 : q_code 56 7 = (.getfield 24, 3, 4, 1, 0, 112, 0) := by decide +kernel
theorem e_56_7 (d : Nat) (a : Nat) (z0 z1 : q_V) (st : List q_V) (v : q_H) (G : q_Gr) (Q : q_V → q_H → q_Gr → Prop) : q_wp d 56 7 [z0, z1] (.inr (.inr (.inl (some a))) :: st) v G Q = (((G.2.1 a).1 = 4) ∧ q_wp d 56 10 [z0, z1] (.inl (v a 1) :: st) v G Q) := q_w_getI c_56_7
theorem c_56_10 : q_code 56 10 = (.if_icmp .ge 29, 3, 0, 0, 0, 0, 0) := by decide +kernel
theorem e_56_10 (d : Nat) (a b : Int) (z0 z1 : q_V) (st : List q_V) (v : q_H) (G : q_Gr) (Q : q_V → q_H → q_Gr → Prop) : q_wp d 56 10 [z0, z1] (.inl b :: .inl a :: st) v G Q = ((q_inR a ∧ q_inR b) ∧ if b ≤ a then q_wp d 56 39 [z0, z1] st v G Q else q_wp d 56 13 [z0, z1] st v G Q) := q_w_icmp_ge c_56_10 (by decide)
theorem c_56_13 : q_code 56 13 = (.aload_n 0, 1, 0, 0, 0, 0, 0) := by decide +kernel
theorem e_56_13 (d : Nat) (a : Option Nat) (z1 : q_V) (st : List q_V) (v : q_H) (G : q_Gr) (Q : q_V → q_H → q_Gr → Prop) : q_wp d 56 13 [.inr (.inr (.inl a)), z1] st v G Q = q_wp d 56 14 [.inr (.inr (.inl a)), z1] (.inr (.inr (.inl a)) :: st) v G Q := q_w_aload_n c_56_13 rfl
theorem c_56_14 : q_code 56 14 = (.iload_n 1, 1, 0, 0, 0, 0, 0) := by decide +kernel
theorem e_56_14 (d : Nat) (a : Int) (z0 : q_V) (st : List q_V) (v : q_H) (G : q_Gr) (Q : q_V → q_H → q_Gr → Prop) : q_wp d 56 14 [z0, .inl a] st v G Q = q_wp d 56 15 [z0, .inl a] (.inl a :: st) v G Q := q_w_iload_n c_56_14 rfl
theorem c_56_15 : q_code 56 15 = (.invokevirtual 89, 3, 59, 2, 0, 510, 1) := by decide +kernel
theorem e_56_15 (d : Nat) (x0 x1 : q_V) (z0 z1 : q_V) (v : q_H) (G : q_Gr) (Q : q_V → q_H → q_Gr → Prop) : q_wp d 56 15 [z0, z1] [x1, x0] v G Q = q_call d 59 [x0, x1] v G (fun r v G => q_wp d 56 18 [z0, z1] (q_push r []) v G Q) := q_wp_ca (m2 := 59) (k := 2) (as := [x0, x1]) (rest := []) (congrArg q_kind c_56_15) (congrArg (fun w => w.2.2.1) c_56_15) (congrArg (fun w => w.2.2.2.1) c_56_15) rfl (Nat.le_of_ble_eq_true rfl) rfl
theorem c_56_18 : q_code 56 18 = (.bipush 32, 2, 0, 0, 0, 0, 0) := by decide +kernel
theorem e_56_18 (d : Nat)  (z0 z1 : q_V) (st : List q_V) (v : q_H) (G : q_Gr) (Q : q_V → q_H → q_Gr → Prop) : q_wp d 56 18 [z0, z1] st v G Q = q_wp d 56 20 [z0, z1] (.inl 32 :: st) v G Q := (q_w_bipush c_56_18).trans (by simp only [show ((-128 : Int) ≤ 32 ∧ (32 : Int) ≤ 127) = True by decide, true_and])
theorem c_56_20 : q_code 56 20 = (.if_icmp .eq 13, 3, 0, 0, 0, 0, 0) := by decide +kernel
theorem e_56_20 (d : Nat) (a b : Int) (z0 z1 : q_V) (st : List q_V) (v : q_H) (G : q_Gr) (Q : q_V → q_H → q_Gr → Prop) : q_wp d 56 20 [z0, z1] (.inl b :: .inl a :: st) v G Q = ((q_inR a ∧ q_inR b) ∧ if a = b then q_wp d 56 33 [z0, z1] st v G Q else q_wp d 56 23 [z0, z1] st v G Q) := q_w_icmp_eq c_56_20 (by decide)
theorem c_56_23 : q_code 56 23 = (.aload_n 0, 1, 0, 0, 0, 0, 0) := by decide +kernel
theorem e_56_23 (d : Nat) (a : Option Nat) (z1 : q_V) (st : List q_V) (v : q_H) (G : q_Gr) (Q : q_V → q_H → q_Gr → Prop) : q_wp d 56 23 [.inr (.inr (.inl a)), z1] st v G Q = q_wp d 56 24 [.inr (.inr (.inl a)), z1] (.inr (.inr (.inl a)) :: st) v G Q := q_w_aload_n c_56_23 rfl
theorem c_56_24 : q_code 56 24 = (.iload_n 1, 1, 0, 0, 0, 0, 0) := by decide +kernel
theorem e_56_24 (d : Nat) (a : Int) (z0 : q_V) (st : List q_V) (v : q_H) (G : q_Gr) (Q : q_V → q_H → q_Gr → Prop) : q_wp d 56 24 [z0, .inl a] st v G Q = q_wp d 56 25 [z0, .inl a] (.inl a :: st) v G Q := q_w_iload_n c_56_24 rfl
theorem c_56_25 : q_code 56 25 = (.invokevirtual 89, 3, 59, 2, 0, 510, 1) := by decide +kernel
theorem e_56_25 (d : Nat) (x0 x1 : q_V) (z0 z1 : q_V) (v : q_H) (G : q_Gr) (Q : q_V → q_H → q_Gr → Prop) : q_wp d 56 25 [z0, z1] [x1, x0] v G Q = q_call d 59 [x0, x1] v G (fun r v G => q_wp d 56 28 [z0, z1] (q_push r []) v G Q) := q_wp_ca (m2 := 59) (k := 2) (as := [x0, x1]) (rest := []) (congrArg q_kind c_56_25) (congrArg (fun w => w.2.2.1) c_56_25) (congrArg (fun w => w.2.2.2.1) c_56_25) rfl (Nat.le_of_ble_eq_true rfl) rfl
theorem c_56_28 : q_code 56 28 = (.bipush 10, 2, 0, 0, 0, 0, 0) := by decide +kernel
theorem e_56_28 (d : Nat)  (z0 z1 : q_V) (st : List q_V) (v : q_H) (G : q_Gr) (Q : q_V → q_H → q_Gr → Prop) : q_wp d 56 28 [z0, z1] st v G Q = q_wp d 56 30 [z0, z1] (.inl 10 :: st) v G Q := (q_w_bipush c_56_28).trans (by simp only [show ((-128 : Int) ≤ 10 ∧ (10 : Int) ≤ 127) = True by decide, true_and])
theorem c_56_30 : q_code 56 30 = (.if_icmp .ne 9, 3, 0, 0, 0, 0, 0) := by decide +kernel
theorem e_56_30 (d : Nat) (a b : Int) (z0 z1 : q_V) (st : List q_V) (v : q_H) (G : q_Gr) (Q : q_V → q_H → q_Gr → Prop) : q_wp d 56 30 [z0, z1] (.inl b :: .inl a :: st) v G Q = ((q_inR a ∧ q_inR b) ∧ if ¬ a = b then q_wp d 56 39 [z0, z1] st v G Q else q_wp d 56 33 [z0, z1] st v G Q) := q_w_icmp_ne c_56_30 (by decide)
theorem c_56_33 : q_code 56 33 = (.iinc 1 1, 3, 0, 0, 0, 0, 0) := by decide +kernel
theorem e_56_33 (d : Nat) (a : Int) (z0 : q_V) (st : List q_V) (v : q_H) (G : q_Gr) (Q : q_V → q_H → q_Gr → Prop) : q_wp d 56 33 [z0, .inl a] st v G Q = q_wp d 56 36 [z0, .inl (a + 1)] st v G Q := q_w_iinc c_56_33 rfl
theorem c_56_36 : q_code 56 36 = (.goto (-31), 3, 0, 0, 0, 0, 0) := by decide +kernel
theorem e_56_36 (d : Nat)  (z0 z1 : q_V) (st : List q_V) (v : q_H) (G : q_Gr) (Q : q_V → q_H → q_Gr → Prop) : q_wp d 56 36 [z0, z1] st v G Q = q_wp d 56 5 [z0, z1] st v G Q := q_w_goto c_56_36 (by decide)
theorem c_56_39 : q_code 56 39 = (.aload_n 0, 1, 0, 0, 0, 0, 0) := by decide +kernel
theorem e_56_39 (d : Nat) (a : Option Nat) (z1 : q_V) (st : List q_V) (v : q_H) (G : q_Gr) (Q : q_V → q_H → q_Gr → Prop) : q_wp d 56 39 [.inr (.inr (.inl a)), z1] st v G Q = q_wp d 56 40 [.inr (.inr (.inl a)), z1] (.inr (.inr (.inl a)) :: st) v G Q := q_w_aload_n c_56_39 rfl
theorem c_56_40 : q_code 56 40 = (.iload_n 1, 1, 0, 0, 0, 0, 0) := by decide +kernel
theorem e_56_40 (d : Nat) (a : Int) (z0 : q_V) (st : List q_V) (v : q_H) (G : q_Gr) (Q : q_V → q_H → q_Gr → Prop) : q_wp d 56 40 [z0, .inl a] st v G Q = q_wp d 56 41 [z0, .inl a] (.inl a :: st) v G Q := q_w_iload_n c_56_40 rfl
theorem c_56_41 : q_code 56 41 = (.putfield 61, 3, 4, 5, 0, 116, 0) := by decide +kernel
theorem e_56_41 (d : Nat) (a : Nat) (b : Int) (z0 z1 : q_V) (st : List q_V) (v : q_H) (G : q_Gr) (Q : q_V → q_H → q_Gr → Prop) : q_wp d 56 41 [z0, z1] (.inl b :: .inr (.inr (.inl (some a))) :: st) v G Q = (((G.2.1 a).1 = 4) ∧ q_wp d 56 44 [z0, z1] st (q_up v a 5 b) G Q) := q_w_putI c_56_41
theorem c_56_44 : q_code 56 44 = (.aload_n 0, 1, 0, 0, 0, 0, 0) := by decide +kernel
theorem e_56_44 (d : Nat) (a : Option Nat) (z1 : q_V) (st : List q_V) (v : q_H) (G : q_Gr) (Q : q_V → q_H → q_Gr → Prop) : q_wp d 56 44 [.inr (.inr (.inl a)), z1] st v G Q = q_wp d 56 45 [.inr (.inr (.inl a)), z1] (.inr (.inr (.inl a)) :: st) v G Q := q_w_aload_n c_56_44 rfl
theorem c_56_45 : q_code 56 45 = (.iload_n 1, 1, 0, 0, 0, 0, 0) := by decide +kernel
theorem e_56_45 (d : Nat) (a : Int) (z0 : q_V) (st : List q_V) (v : q_H) (G : q_Gr) (Q : q_V → q_H → q_Gr → Prop) : q_wp d 56 45 [z0, .inl a] st v G Q = q_wp d 56 46 [z0, .inl a] (.inl a :: st) v G Q := q_w_iload_n c_56_45 rfl
theorem c_56_46 : q_code 56 46 = (.iconst 1, 1, 0, 0, 0, 0, 0) := by decide +kernel
theorem e_56_46 (d : Nat)  (z0 z1 : q_V) (st : List q_V) (v : q_H) (G : q_Gr) (Q : q_V → q_H → q_Gr → Prop) : q_wp d 56 46 [z0, z1] st v G Q = q_wp d 56 47 [z0, z1] (.inl 1 :: st) v G Q := q_w_iconst c_56_46
theorem c_56_47 : q_code 56 47 = (.iadd, 1, 0, 0, 0, 0, 0) := by decide +kernel
theorem e_56_47 (d : Nat) (a b : Int) (z0 z1 : q_V) (st : List q_V) (v : q_H) (G : q_Gr) (Q : q_V → q_H → q_Gr → Prop) : q_wp d 56 47 [z0, z1] (.inl b :: .inl a :: st) v G Q = q_wp d 56 48 [z0, z1] (.inl (a + b) :: st) v G Q := q_w_iadd c_56_47
theorem c_56_48 : q_code 56 48 = (.putfield 49, 3, 4, 6, 0, 117, 0) := by decide +kernel
theorem e_56_48 (d : Nat) (a : Nat) (b : Int) (z0 z1 : q_V) (st : List q_V) (v : q_H) (G : q_Gr) (Q : q_V → q_H → q_Gr → Prop) : q_wp d 56 48 [z0, z1] (.inl b :: .inr (.inr (.inl (some a))) :: st) v G Q = (((G.2.1 a).1 = 4) ∧ q_wp d 56 51 [z0, z1] st (q_up v a 6 b) G Q) := q_w_putI c_56_48
theorem c_56_51 : q_code 56 51 = (.iload_n 1, 1, 0, 0, 0, 0, 0) := by decide +kernel
theorem e_56_51 (d : Nat) (a : Int) (z0 : q_V) (st : List q_V) (v : q_H) (G : q_Gr) (Q : q_V → q_H → q_Gr → Prop) : q_wp d 56 51 [z0, .inl a] st v G Q = q_wp d 56 52 [z0, .inl a] (.inl a :: st) v G Q := q_w_iload_n c_56_51 rfl
theorem c_56_52 : q_code 56 52 = (.aload_n 0, 1, 0, 0, 0, 0, 0) := by decide +kernel
theorem e_56_52 (d : Nat) (a : Option Nat) (z1 : q_V) (st : List q_V) (v : q_H) (G : q_Gr) (Q : q_V → q_H → q_Gr → Prop) : q_wp d 56 52 [.inr (.inr (.inl a)), z1] st v G Q = q_wp d 56 53 [.inr (.inr (.inl a)), z1] (.inr (.inr (.inl a)) :: st) v G Q := q_w_aload_n c_56_52 rfl
theorem c_56_53 : q_code 56 53 = (.getfield 24, 3, 4, 1, 0, 112, 0) := by decide +kernel
theorem e_56_53 (d : Nat) (a : Nat) (z0 z1 : q_V) (st : List q_V) (v : q_H) (G : q_Gr) (Q : q_V → q_H → q_Gr → Prop) : q_wp d 56 53 [z0, z1] (.inr (.inr (.inl (some a))) :: st) v G Q = (((G.2.1 a).1 = 4) ∧ q_wp d 56 56 [z0, z1] (.inl (v a 1) :: st) v G Q) := q_w_getI c_56_53
theorem c_56_56 : q_code 56 56 = (.if_icmp .lt 19, 3, 0, 0, 0, 0, 0) := by decide +kernel
theorem e_56_56 (d : Nat) (a b : Int) (z0 z1 : q_V) (st : List q_V) (v : q_H) (G : q_Gr) (Q : q_V → q_H → q_Gr → Prop) : q_wp d 56 56 [z0, z1] (.inl b :: .inl a :: st) v G Q = ((q_inR a ∧ q_inR b) ∧ if a < b then q_wp d 56 75 [z0, z1] st v G Q else q_wp d 56 59 [z0, z1] st v G Q) := q_w_icmp_lt c_56_56 (by decide)
theorem c_56_59 : q_code 56 59 = (.aload_n 0, 1, 0, 0, 0, 0, 0) := by decide +kernel
theorem e_56_59 (d : Nat) (a : Option Nat) (z1 : q_V) (st : List q_V) (v : q_H) (G : q_Gr) (Q : q_V → q_H → q_Gr → Prop) : q_wp d 56 59 [.inr (.inr (.inl a)), z1] st v G Q = q_wp d 56 60 [.inr (.inr (.inl a)), z1] (.inr (.inr (.inl a)) :: st) v G Q := q_w_aload_n c_56_59 rfl
theorem c_56_60 : q_code 56 60 = (.iconst 0, 1, 0, 0, 0, 0, 0) := by decide +kernel
theorem e_56_60 (d : Nat)  (z0 z1 : q_V) (st : List q_V) (v : q_H) (G : q_Gr) (Q : q_V → q_H → q_Gr → Prop) : q_wp d 56 60 [z0, z1] st v G Q = q_wp d 56 61 [z0, z1] (.inl 0 :: st) v G Q := q_w_iconst c_56_60
theorem c_56_61 : q_code 56 61 = (.putfield 55, 3, 4, 4, 0, 115, 0) := by decide +kernel
theorem e_56_61 (d : Nat) (a : Nat) (b : Int) (z0 z1 : q_V) (st : List q_V) (v : q_H) (G : q_Gr) (Q : q_V → q_H → q_Gr → Prop) : q_wp d 56 61 [z0, z1] (.inl b :: .inr (.inr (.inl (some a))) :: st) v G Q = (((G.2.1 a).1 = 4) ∧ q_wp d 56 64 [z0, z1] st (q_up v a 4 b) G Q) := q_w_putI c_56_61
theorem c_56_64 : q_code 56 64 = (.aload_n 0, 1, 0, 0, 0, 0, 0) := by decide +kernel
theorem e_56_64 (d : Nat) (a : Option Nat) (z1 : q_V) (st : List q_V) (v : q_H) (G : q_Gr) (Q : q_V → q_H → q_Gr → Prop) : q_wp d 56 64 [.inr (.inr (.inl a)), z1] st v G Q = q_wp d 56 65 [.inr (.inr (.inl a)), z1] (.inr (.inr (.inl a)) :: st) v G Q := q_w_aload_n c_56_64 rfl
theorem c_56_65 : q_code 56 65 = (.aload_n 0, 1, 0, 0, 0, 0, 0) := by decide +kernel
theorem e_56_65 (d : Nat) (a : Option Nat) (z1 : q_V) (st : List q_V) (v : q_H) (G : q_Gr) (Q : q_V → q_H → q_Gr → Prop) : q_wp d 56 65 [.inr (.inr (.inl a)), z1] st v G Q = q_wp d 56 66 [.inr (.inr (.inl a)), z1] (.inr (.inr (.inl a)) :: st) v G Q := q_w_aload_n c_56_65 rfl
theorem c_56_66 : q_code 56 66 = (.getfield 24, 3, 4, 1, 0, 112, 0) := by decide +kernel
theorem e_56_66 (d : Nat) (a : Nat) (z0 z1 : q_V) (st : List q_V) (v : q_H) (G : q_Gr) (Q : q_V → q_H → q_Gr → Prop) : q_wp d 56 66 [z0, z1] (.inr (.inr (.inl (some a))) :: st) v G Q = (((G.2.1 a).1 = 4) ∧ q_wp d 56 69 [z0, z1] (.inl (v a 1) :: st) v G Q) := q_w_getI c_56_66
theorem c_56_69 : q_code 56 69 = (.putfield 49, 3, 4, 6, 0, 117, 0) := by decide +kernel
theorem e_56_69 (d : Nat) (a : Nat) (b : Int) (z0 z1 : q_V) (st : List q_V) (v : q_H) (G : q_Gr) (Q : q_V → q_H → q_Gr → Prop) : q_wp d 56 69 [z0, z1] (.inl b :: .inr (.inr (.inl (some a))) :: st) v G Q = (((G.2.1 a).1 = 4) ∧ q_wp d 56 72 [z0, z1] st (q_up v a 6 b) G Q) := q_w_putI c_56_69
theorem c_56_72 : q_code 56 72 = (.goto 63, 3, 0, 0, 0, 0, 0) := by decide +kernel
theorem e_56_72 (d : Nat)  (z0 z1 : q_V) (st : List q_V) (v : q_H) (G : q_Gr) (Q : q_V → q_H → q_Gr → Prop) : q_wp d 56 72 [z0, z1] st v G Q = q_wp d 56 135 [z0, z1] st v G Q := q_w_goto c_56_72 (by decide)
theorem c_56_75 : q_code 56 75 = (.aload_n 0, 1, 0, 0, 0, 0, 0) := by decide +kernel
theorem e_56_75 (d : Nat) (a : Option Nat) (z1 : q_V) (st : List q_V) (v : q_H) (G : q_Gr) (Q : q_V → q_H → q_Gr → Prop) : q_wp d 56 75 [.inr (.inr (.inl a)), z1] st v G Q = q_wp d 56 76 [.inr (.inr (.inl a)), z1] (.inr (.inr (.inl a)) :: st) v G Q := q_w_aload_n c_56_75 rfl
theorem c_56_76 : q_code 56 76 = (.iload_n 1, 1, 0, 0, 0, 0, 0) := by decide +kernel
theorem e_56_76 (d : Nat) (a : Int) (z0 : q_V) (st : List q_V) (v : q_H) (G : q_Gr) (Q : q_V → q_H → q_Gr → Prop) : q_wp d 56 76 [z0, .inl a] st v G Q = q_wp d 56 77 [z0, .inl a] (.inl a :: st) v G Q := q_w_iload_n c_56_76 rfl
theorem c_56_77 : q_code 56 77 = (.invokevirtual 89, 3, 59, 2, 0, 510, 1) := by decide +kernel
theorem e_56_77 (d : Nat) (x0 x1 : q_V) (z0 z1 : q_V) (v : q_H) (G : q_Gr) (Q : q_V → q_H → q_Gr → Prop) : q_wp d 56 77 [z0, z1] [x1, x0] v G Q = q_call d 59 [x0, x1] v G (fun r v G => q_wp d 56 80 [z0, z1] (q_push r []) v G Q) := q_wp_ca (m2 := 59) (k := 2) (as := [x0, x1]) (rest := []) (congrArg q_kind c_56_77) (congrArg (fun w => w.2.2.1) c_56_77) (congrArg (fun w => w.2.2.2.1) c_56_77) rfl (Nat.le_of_ble_eq_true rfl) rfl
theorem c_56_80 : q_code 56 80 = (.invokestatic 92, 3, 60, 1, 0, 513, 1) := by decide +kernel
theorem e_56_80 (d : Nat) (x0 : q_V) (z0 z1 : q_V) (v : q_H) (G : q_Gr) (Q : q_V → q_H → q_Gr → Prop) : q_wp d 56 80 [z0, z1] [x0] v G Q = q_call d 60 [x0] v G (fun r v G => q_wp d 56 83 [z0, z1] (q_push r []) v G Q) := q_wp_ca (m2 := 60) (k := 1) (as := [x0]) (rest := []) (congrArg q_kind c_56_80) (congrArg (fun w => w.2.2.1) c_56_80) (congrArg (fun w => w.2.2.2.1) c_56_80) rfl (Nat.le_of_ble_eq_true rfl) rfl
theorem c_56_83 : q_code 56 83 = (.ifCond .eq 15, 3, 0, 0, 0, 0, 0) := by decide +kernel
theorem e_56_83 (d : Nat) (a : Int) (z0 z1 : q_V) (st : List q_V) (v : q_H) (G : q_Gr) (Q : q_V → q_H → q_Gr → Prop) : q_wp d 56 83 [z0, z1] (.inl a :: st) v G Q = ((q_inR a) ∧ if a = 0 then q_wp d 56 98 [z0, z1] st v G Q else q_wp d 56 86 [z0, z1] st v G Q) := q_w_if_eq c_56_83 (by decide)
theorem c_56_86 : q_code 56 86 = (.aload_n 0, 1, 0, 0, 0, 0, 0) := by decide +kernel
theorem e_56_86 (d : Nat) (a : Option Nat) (z1 : q_V) (st : List q_V) (v : q_H) (G : q_Gr) (Q : q_V → q_H → q_Gr → Prop) : q_wp d 56 86 [.inr (.inr (.inl a)), z1] st v G Q = q_wp d 56 87 [.inr (.inr (.inl a)), z1] (.inr (.inr (.inl a)) :: st) v G Q := q_w_aload_n c_56_86 rfl
theorem c_56_87 : q_code 56 87 = (.iconst 1, 1, 0, 0, 0, 0, 0) := by decide +kernel
theorem e_56_87 (d : Nat)  (z0 z1 : q_V) (st : List q_V) (v : q_H) (G : q_Gr) (Q : q_V → q_H → q_Gr → Prop) : q_wp d 56 87 [z0, z1] st v G Q = q_wp d 56 88 [z0, z1] (.inl 1 :: st) v G Q := q_w_iconst c_56_87
theorem c_56_88 : q_code 56 88 = (.putfield 55, 3, 4, 4, 0, 115, 0) := by decide +kernel
theorem e_56_88 (d : Nat) (a : Nat) (b : Int) (z0 z1 : q_V) (st : List q_V) (v : q_H) (G : q_Gr) (Q : q_V → q_H → q_Gr → Prop) : q_wp d 56 88 [z0, z1] (.inl b :: .inr (.inr (.inl (some a))) :: st) v G Q = (((G.2.1 a).1 = 4) ∧ q_wp d 56 91 [z0, z1] st (q_up v a 4 b) G Q) := q_w_putI c_56_88
theorem c_56_91 : q_code 56 91 = (.aload_n 0, 1, 0, 0, 0, 0, 0) := by decide +kernel
theorem e_56_91 (d : Nat) (a : Option Nat) (z1 : q_V) (st : List q_V) (v : q_H) (G : q_Gr) (Q : q_V → q_H → q_Gr → Prop) : q_wp d 56 91 [.inr (.inr (.inl a)), z1] st v G Q = q_wp d 56 92 [.inr (.inr (.inl a)), z1] (.inr (.inr (.inl a)) :: st) v G Q := q_w_aload_n c_56_91 rfl
theorem c_56_92 : q_code 56 92 = (.invokevirtual 95, 3, 57, 1, 0, 516, 0) := by decide +kernel
theorem e_56_92 (d : Nat) (x0 : q_V) (z0 z1 : q_V) (v : q_H) (G : q_Gr) (Q : q_V → q_H → q_Gr → Prop) : q_wp d 56 92 [z0, z1] [x0] v G Q = q_call d 57 [x0] v G (fun r v G => q_wp d 56 95 [z0, z1] (q_push r []) v G Q) := q_wp_ca (m2 := 57) (k := 1) (as := [x0]) (rest := []) (congrArg q_kind c_56_92) (congrArg (fun w => w.2.2.1) c_56_92) (congrArg (fun w => w.2.2.2.1) c_56_92) rfl (Nat.le_of_ble_eq_true rfl) rfl
theorem c_56_95 : q_code 56 95 = (.goto 40, 3, 0, 0, 0, 0, 0) := by decide +kernel
theorem e_56_95 (d : Nat)  (z0 z1 : q_V) (st : List q_V) (v : q_H) (G : q_Gr) (Q : q_V → q_H → q_Gr → Prop) : q_wp d 56 95 [z0, z1] st v G Q = q_wp d 56 135 [z0, z1] st v G Q := q_w_goto c_56_95 (by decide)
theorem c_56_98 : q_code 56 98 = (.aload_n 0, 1, 0, 0, 0, 0, 0) := by decide +kernel
theorem e_56_98 (d : Nat) (a : Option Nat) (z1 : q_V) (st : List q_V) (v : q_H) (G : q_Gr) (Q : q_V → q_H → q_Gr → Prop) : q_wp d 56 98 [.inr (.inr (.inl a)), z1] st v G Q = q_wp d 56 99 [.inr (.inr (.inl a)), z1] (.inr (.inr (.inl a)) :: st) v G Q := q_w_aload_n c_56_98 rfl
theorem c_56_99 : q_code 56 99 = (.iload_n 1, 1, 0, 0, 0, 0, 0) := by decide +kernel
theorem e_56_99 (d : Nat) (a : Int) (z0 : q_V) (st : List q_V) (v : q_H) (G : q_Gr) (Q : q_V → q_H → q_Gr → Prop) : q_wp d 56 99 [z0, .inl a] st v G Q = q_wp d 56 100 [z0, .inl a] (.inl a :: st) v G Q := q_w_iload_n c_56_99 rfl
theorem c_56_100 : q_code 56 100 = (.invokevirtual 89, 3, 59, 2, 0, 510, 1) := by decide +kernel
theorem e_56_100 (d : Nat) (x0 x1 : q_V) (z0 z1 : q_V) (v : q_H) (G : q_Gr) (Q : q_V → q_H → q_Gr → Prop) : q_wp d 56 100 [z0, z1] [x1, x0] v G Q = q_call d 59 [x0, x1] v G (fun r v G => q_wp d 56 103 [z0, z1] (q_push r []) v G Q) := q_wp_ca (m2 := 59) (k := 2) (as := [x0, x1]) (rest := []) (congrArg q_kind c_56_100) (congrArg (fun w => w.2.2.1) c_56_100) (congrArg (fun w => w.2.2.2.1) c_56_100) rfl (Nat.le_of_ble_eq_true rfl) rfl
theorem c_56_103 : q_code 56 103 = (.invokestatic 98, 3, 61, 1, 0, 519, 1) := by decide +kernel
theorem e_56_103 (d : Nat) (x0 : q_V) (z0 z1 : q_V) (v : q_H) (G : q_Gr) (Q : q_V → q_H → q_Gr → Prop) : q_wp d 56 103 [z0, z1] [x0] v G Q = q_call d 61 [x0] v G (fun r v G => q_wp d 56 106 [z0, z1] (q_push r []) v G Q) := q_wp_ca (m2 := 61) (k := 1) (as := [x0]) (rest := []) (congrArg q_kind c_56_103) (congrArg (fun w => w.2.2.1) c_56_103) (congrArg (fun w => w.2.2.2.1) c_56_103) rfl (Nat.le_of_ble_eq_true rfl) rfl
theorem c_56_106 : q_code 56 106 = (.ifCond .eq 10, 3, 0, 0, 0, 0, 0) := by decide +kernel
theorem e_56_106 (d : Nat) (a : Int) (z0 z1 : q_V) (st : List q_V) (v : q_H) (G : q_Gr) (Q : q_V → q_H → q_Gr → Prop) : q_wp d 56 106 [z0, z1] (.inl a :: st) v G Q = ((q_inR a) ∧ if a = 0 then q_wp d 56 116 [z0, z1] st v G Q else q_wp d 56 109 [z0, z1] st v G Q) := q_w_if_eq c_56_106 (by decide)
theorem c_56_109 : q_code 56 109 = (.aload_n 0, 1, 0, 0, 0, 0, 0) := by decide +kernel
theorem e_56_109 (d : Nat) (a : Option Nat) (z1 : q_V) (st : List q_V) (v : q_H) (G : q_Gr) (Q : q_V → q_H → q_Gr → Prop) : q_wp d 56 109 [.inr (.inr (.inl a)), z1] st v G Q = q_wp d 56 110 [.inr (.inr (.inl a)), z1] (.inr (.inr (.inl a)) :: st) v G Q := q_w_aload_n c_56_109 rfl
theorem c_56_110 : q_code 56 110 = (.invokevirtual 101, 3, 58, 1, 0, 522, 0) := by decide +kernel
theorem e_56_110 (d : Nat) (x0 : q_V) (z0 z1 : q_V) (v : q_H) (G : q_Gr) (Q : q_V → q_H → q_Gr → Prop) : q_wp d 56 110 [z0, z1] [x0] v G Q = q_call d 58 [x0] v G (fun r v G => q_wp d 56 113 [z0, z1] (q_push r []) v G Q) := q_wp_ca (m2 := 58) (k := 1) (as := [x0]) (rest := []) (congrArg q_kind c_56_110) (congrArg (fun w => w.2.2.1) c_56_110) (congrArg (fun w => w.2.2.2.1) c_56_110) rfl (Nat.le_of_ble_eq_true rfl) rfl
theorem c_56_113 : q_code 56 113 = (.goto 22, 3, 0, 0, 0, 0, 0) := by decide +kernel
theorem e_56_113 (d : Nat)  (z0 z1 : q_V) (st : List q_V) (v : q_H) (G : q_Gr) (Q : q_V → q_H → q_Gr → Prop) : q_wp d 56 113 [z0, z1] st v G Q = q_wp d 56 135 [z0, z1] st v G Q := q_w_goto c_56_113 (by decide)
theorem c_56_116 : q_code 56 116 = (.aload_n 0, 1, 0, 0, 0, 0, 0) := by decide +kernel
theorem e_56_116 (d : Nat) (a : Option Nat) (z1 : q_V) (st : List q_V) (v : q_H) (G : q_Gr) (Q : q_V → q_H → q_Gr → Prop) : q_wp d 56 116 [.inr (.inr (.inl a)), z1] st v G Q = q_wp d 56 117 [.inr (.inr (.inl a)), z1] (.inr (.inr (.inl a)) :: st) v G Q := q_w_aload_n c_56_116 rfl
theorem c_56_117 : q_code 56 117 = (.aload_n 0, 1, 0, 0, 0, 0, 0) := by decide +kernel
theorem e_56_117 (d : Nat) (a : Option Nat) (z1 : q_V) (st : List q_V) (v : q_H) (G : q_Gr) (Q : q_V → q_H → q_Gr → Prop) : q_wp d 56 117 [.inr (.inr (.inl a)), z1] st v G Q = q_wp d 56 118 [.inr (.inr (.inl a)), z1] (.inr (.inr (.inl a)) :: st) v G Q := q_w_aload_n c_56_117 rfl
theorem c_56_118 : q_code 56 118 = (.iload_n 1, 1, 0, 0, 0, 0, 0) := by decide +kernel
theorem e_56_118 (d : Nat) (a : Int) (z0 : q_V) (st : List q_V) (v : q_H) (G : q_Gr) (Q : q_V → q_H → q_Gr → Prop) : q_wp d 56 118 [z0, .inl a] st v G Q = q_wp d 56 119 [z0, .inl a] (.inl a :: st) v G Q := q_w_iload_n c_56_118 rfl
theorem c_56_119 : q_code 56 119 = (.invokevirtual 89, 3, 59, 2, 0, 510, 1) := by decide +kernel
theorem e_56_119 (d : Nat) (x0 x1 y0 : q_V) (z0 z1 : q_V) (v : q_H) (G : q_Gr) (Q : q_V → q_H → q_Gr → Prop) : q_wp d 56 119 [z0, z1] [x1, x0, y0] v G Q = q_call d 59 [x0, x1] v G (fun r v G => q_wp d 56 122 [z0, z1] (q_push r [y0]) v G Q) := q_wp_ca (m2 := 59) (k := 2) (as := [x0, x1]) (rest := [y0]) (congrArg q_kind c_56_119) (congrArg (fun w => w.2.2.1) c_56_119) (congrArg (fun w => w.2.2.2.1) c_56_119) rfl (Nat.le_of_ble_eq_true rfl) rfl
theorem c_56_122 : q_code 56 122 = (.bipush 59, 2, 0, 0, 0, 0, 0) := by decide +kernel
theorem e_56_122 (d : Nat)  (z0 z1 : q_V) (st : List q_V) (v : q_H) (G : q_Gr) (Q : q_V → q_H → q_Gr → Prop) : q_wp d 56 122 [z0, z1] st v G Q = q_wp d 56 124 [z0, z1] (.inl 59 :: st) v G Q := (q_w_bipush c_56_122).trans (by simp only [show ((-128 : Int) ≤ 59 ∧ (59 : Int) ≤ 127) = True by decide, true_and])
theorem c_56_124 : q_code 56 124 = (.if_icmp .ne 7, 3, 0, 0, 0, 0, 0) := by decide +kernel
theorem e_56_124 (d : Nat) (a b : Int) (z0 z1 : q_V) (st : List q_V) (v : q_H) (G : q_Gr) (Q : q_V → q_H → q_Gr → Prop) : q_wp d 56 124 [z0, z1] (.inl b :: .inl a :: st) v G Q = ((q_inR a ∧ q_inR b) ∧ if ¬ a = b then q_wp d 56 131 [z0, z1] st v G Q else q_wp d 56 127 [z0, z1] st v G Q) := q_w_icmp_ne c_56_124 (by decide)
theorem c_56_127 : q_code 56 127 = (.iconst 3, 1, 0, 0, 0, 0, 0) := by decide +kernel
theorem e_56_127 (d : Nat)  (z0 z1 : q_V) (st : List q_V) (v : q_H) (G : q_Gr) (Q : q_V → q_H → q_Gr → Prop) : q_wp d 56 127 [z0, z1] st v G Q = q_wp d 56 128 [z0, z1] (.inl 3 :: st) v G Q := q_w_iconst c_56_127
theorem c_56_128 : q_code 56 128 = (.goto 4, 3, 0, 0, 0, 0, 0) := by decide +kernel
theorem e_56_128 (d : Nat)  (z0 z1 : q_V) (st : List q_V) (v : q_H) (G : q_Gr) (Q : q_V → q_H → q_Gr → Prop) : q_wp d 56 128 [z0, z1] st v G Q = q_wp d 56 132 [z0, z1] st v G Q := q_w_goto c_56_128 (by decide)
theorem c_56_131 : q_code 56 131 = (.iconst 4, 1, 0, 0, 0, 0, 0) := by decide +kernel
theorem e_56_131 (d : Nat)  (z0 z1 : q_V) (st : List q_V) (v : q_H) (G : q_Gr) (Q : q_V → q_H → q_Gr → Prop) : q_wp d 56 131 [z0, z1] st v G Q = q_wp d 56 132 [z0, z1] (.inl 4 :: st) v G Q := q_w_iconst c_56_131
theorem c_56_132 : q_code 56 132 = (.putfield 55, 3, 4, 4, 0, 115, 0) := by decide +kernel
theorem e_56_132 (d : Nat) (a : Nat) (b : Int) (z0 z1 : q_V) (st : List q_V) (v : q_H) (G : q_Gr) (Q : q_V → q_H → q_Gr → Prop) : q_wp d 56 132 [z0, z1] (.inl b :: .inr (.inr (.inl (some a))) :: st) v G Q = (((G.2.1 a).1 = 4) ∧ q_wp d 56 135 [z0, z1] st (q_up v a 4 b) G Q) := q_w_putI c_56_132
theorem c_56_135 : q_code 56 135 = (.return_, 1, 0, 0, 0, 0, 0) := by decide +kernel
theorem e_56_135 (d : Nat)  (z0 z1 : q_V) (v : q_H) (G : q_Gr) (Q : q_V → q_H → q_Gr → Prop) : q_wp d 56 135 [z0, z1] [] v G Q = Q (.inr (.inr (.inr ()))) v G := q_w_return c_56_135 rfl
theorem e_56 (d : Nat) (a0 : Nat) (v : q_H) (G : q_Gr) (Q : q_V → q_H → q_Gr → Prop) : q_call (d + 1) 56 [.inr (.inr (.inl (some a0)))] v G Q = ((G.2.1 a0).1 = 4 ∧ q_wp d 56 0 [.inr (.inr (.inl (some a0))), .inr (.inr (.inr ()))] [] v G Q) := by
  rw [q_call_in (by decide) (Nat.le_of_ble_eq_true rfl) rfl]
  exact congrArg (· ∧ _) (propext beq_iff_eq)
/-- all but the heads of loops: [5] -/
def E56 := And.intro @e_56 (And.intro @e_56_0 (And.intro @e_56_1 (And.intro @e_56_4 (And.intro @e_56_6 (And.intro @e_56_7 (And.intro @e_56_10 (And.intro @e_56_13 (And.intro @e_56_14 (And.intro @e_56_15 (And.intro @e_56_18 (And.intro @e_56_20 (And.intro @e_56_23 (And.intro @e_56_24 (And.intro @e_56_25 (And.intro @e_56_28 (And.intro @e_56_30 (And.intro @e_56_33 (And.intro @e_56_36 (And.intro @e_56_39 (And.intro @e_56_40 (And.intro @e_56_41 (And.intro @e_56_44 (And.intro @e_56_45 (And.intro @e_56_46 (And.intro @e_56_47 (And.intro @e_56_48 (And.intro @e_56_51 (And.intro @e_56_52 (And.intro @e_56_53 (And.intro @e_56_56 (And.intro @e_56_59 (And.intro @e_56_60 (And.intro @e_56_61 (And.intro @e_56_64 (And.intro @e_56_65 (And.intro @e_56_66 (And.intro @e_56_69 (And.intro @e_56_72 (And.intro @e_56_75 (And.intro @e_56_76 (And.intro @e_56_77 (And.intro @e_56_80 (And.intro @e_56_83 (And.intro @e_56_86 (And.intro @e_56_87 (And.intro @e_56_88 (And.intro @e_56_91 (And.intro @e_56_92 (And.intro @e_56_95 (And.intro @e_56_98 (And.intro @e_56_99 (And.intro @e_56_100 (And.intro @e_56_103 (And.intro @e_56_106 (And.intro @e_56_109 (And.intro @e_56_110 (And.intro @e_56_113 (And.intro @e_56_116 (And.intro @e_56_117 (And.intro @e_56_118 (And.intro @e_56_119 (And.intro @e_56_122 (And.intro @e_56_124 (And.intro @e_56_127 (And.intro @e_56_128 (And.intro @e_56_131 (And.intro @e_56_132 (@e_56_135))))))))))))))))))))))))))))))))))))))))))))))))))))))))))))))))))))
/-! ProvenRows$Plans.readName()V -/
theorem c_57_0 : q_code 57 0 = (.aload_n 0, 1, 0, 0, 0, 0, 0) := by decide +kernel
theorem e_57_0 (d : Nat) (a : Option Nat) (st : List q_V) (v : q_H) (G : q_Gr) (Q : q_V → q_H → q_Gr → Prop) : q_wp d 57 0 [.inr (.inr (.inl a))] st v G Q = q_wp d 57 1 [.inr (.inr (.inl a))] (.inr (.inr (.inl a)) :: st) v G Q := q_w_aload_n c_57_0 rfl
theorem c_57_1 : q_code 57 1 = (.getfield 49, 3, 4, 6, 0, 117, 0) := by decide +kernel
theorem e_57_1 (d : Nat) (a : Nat) (z0 : q_V) (st : List q_V) (v : q_H) (G : q_Gr) (Q : q_V → q_H → q_Gr → Prop) : q_wp d 57 1 [z0] (.inr (.inr (.inl (some a))) :: st) v G Q = (((G.2.1 a).1 = 4) ∧ q_wp d 57 4 [z0] (.inl (v a 6) :: st) v G Q) := q_w_getI c_57_1
theorem c_57_4 : q_code 57 4 = (.aload_n 0, 1, 0, 0, 0, 0, 0) := by decide +kernel
theorem e_57_4 (d : Nat) (a : Option Nat) (st : List q_V) (v : q_H) (G : q_Gr) (Q : q_V → q_H → q_Gr → Prop) : q_wp d 57 4 [.inr (.inr (.inl a))] st v G Q = q_wp d 57 5 [.inr (.inr (.inl a))] (.inr (.inr (.inl a)) :: st) v G Q := q_w_aload_n c_57_4 rfl
theorem c_57_5 : q_code 57 5 = (.getfield 24, 3, 4, 1, 0, 112, 0) := by decide +kernel
theorem e_57_5 (d : Nat) (a : Nat) (z0 : q_V) (st : List q_V) (v : q_H) (G : q_Gr) (Q : q_V → q_H → q_Gr → Prop) : q_wp d 57 5 [z0] (.inr (.inr (.inl (some a))) :: st) v G Q = (((G.2.1 a).1 = 4) ∧ q_wp d 57 8 [z0] (.inl (v a 1) :: st) v G Q) := q_w_getI c_57_5
theorem c_57_8 : q_code 57 8 = (.if_icmp .ge 30, 3, 0, 0, 0, 0, 0) := by decide +kernel
theorem e_57_8 (d : Nat) (a b : Int) (z0 : q_V) (st : List q_V) (v : q_H) (G : q_Gr) (Q : q_V → q_H → q_Gr → Prop) : q_wp d 57 8 [z0] (.inl b :: .inl a :: st) v G Q = ((q_inR a ∧ q_inR b) ∧ if b ≤ a then q_wp d 57 38 [z0] st v G Q else q_wp d 57 11 [z0] st v G Q) := q_w_icmp_ge c_57_8 (by decide)
theorem c_57_11 : q_code 57 11 = (.aload_n 0, 1, 0, 0, 0, 0, 0) := by decide +kernel
theorem e_57_11 (d : Nat) (a : Option Nat) (st : List q_V) (v : q_H) (G : q_Gr) (Q : q_V → q_H → q_Gr → Prop) : q_wp d 57 11 [.inr (.inr (.inl a))] st v G Q = q_wp d 57 12 [.inr (.inr (.inl a))] (.inr (.inr (.inl a)) :: st) v G Q := q_w_aload_n c_57_11 rfl
theorem c_57_12 : q_code 57 12 = (.aload_n 0, 1, 0, 0, 0, 0, 0) := by decide +kernel
theorem e_57_12 (d : Nat) (a : Option Nat) (st : List q_V) (v : q_H) (G : q_Gr) (Q : q_V → q_H → q_Gr → Prop) : q_wp d 57 12 [.inr (.inr (.inl a))] st v G Q = q_wp d 57 13 [.inr (.inr (.inl a))] (.inr (.inr (.inl a)) :: st) v G Q := q_w_aload_n c_57_12 rfl
theorem c_57_13 : q_code 57 13 = (.getfield 49, 3, 4, 6, 0, 117, 0) := by decide +kernel
theorem e_57_13 (d : Nat) (a : Nat) (z0 : q_V) (st : List q_V) (v : q_H) (G : q_Gr) (Q : q_V → q_H → q_Gr → Prop) : q_wp d 57 13 [z0] (.inr (.inr (.inl (some a))) :: st) v G Q = (((G.2.1 a).1 = 4) ∧ q_wp d 57 16 [z0] (.inl (v a 6) :: st) v G Q) := q_w_getI c_57_13
theorem c_57_16 : q_code 57 16 = (.invokevirtual 89, 3, 59, 2, 0, 510, 1) := by decide +kernel
theorem e_57_16 (d : Nat) (x0 x1 : q_V) (z0 : q_V) (v : q_H) (G : q_Gr) (Q : q_V → q_H → q_Gr → Prop) : q_wp d 57 16 [z0] [x1, x0] v G Q = q_call d 59 [x0, x1] v G (fun r v G => q_wp d 57 19 [z0] (q_push r []) v G Q) := q_wp_ca (m2 := 59) (k := 2) (as := [x0, x1]) (rest := []) (congrArg q_kind c_57_16) (congrArg (fun w => w.2.2.1) c_57_16) (congrArg (fun w => w.2.2.2.1) c_57_16) rfl (Nat.le_of_ble_eq_true rfl) rfl
theorem c_57_19 : q_code 57 19 = (.invokestatic 92, 3, 60, 1, 0, 513, 1) := by decide +kernel
theorem e_57_19 (d : Nat) (x0 : q_V) (z0 : q_V) (v : q_H) (G : q_Gr) (Q : q_V → q_H → q_Gr → Prop) : q_wp d 57 19 [z0] [x0] v G Q = q_call d 60 [x0] v G (fun r v G => q_wp d 57 22 [z0] (q_push r []) v G Q) := q_wp_ca (m2 := 60) (k := 1) (as := [x0]) (rest := []) (congrArg q_kind c_57_19) (congrArg (fun w => w.2.2.1) c_57_19) (congrArg (fun w => w.2.2.2.1) c_57_19) rfl (Nat.le_of_ble_eq_true rfl) rfl
theorem c_57_22 : q_code 57 22 = (.ifCond .eq 16, 3, 0, 0, 0, 0, 0) := by decide +kernel
theorem e_57_22 (d : Nat) (a : Int) (z0 : q_V) (st : List q_V) (v : q_H) (G : q_Gr) (Q : q_V → q_H → q_Gr → Prop) : q_wp d 57 22 [z0] (.inl a :: st) v G Q = ((q_inR a) ∧ if a = 0 then q_wp d 57 38 [z0] st v G Q else q_wp d 57 25 [z0] st v G Q) := q_w_if_eq c_57_22 (by decide)
theorem c_57_25 : q_code 57 25 = (.aload_n 0, 1, 0, 0, 0, 0, 0) := by decide +kernel
theorem e_57_25 (d : Nat) (a : Option Nat) (st : List q_V) (v : q_H) (G : q_Gr) (Q : q_V → q_H → q_Gr → Prop) : q_wp d 57 25 [.inr (.inr (.inl a))] st v G Q = q_wp d 57 26 [.inr (.inr (.inl a))] (.inr (.inr (.inl a)) :: st) v G Q := q_w_aload_n c_57_25 rfl
theorem c_57_26 : q_code 57 26 = (.dup, 1, 0, 0, 0, 0, 0) := by decide +kernel
theorem e_57_26 (d : Nat) (a : Option Nat) (z0 : q_V) (st : List q_V) (v : q_H) (G : q_Gr) (Q : q_V → q_H → q_Gr → Prop) : q_wp d 57 26 [z0] (.inr (.inr (.inl a)) :: st) v G Q = q_wp d 57 27 [z0] (.inr (.inr (.inl a)) :: .inr (.inr (.inl a)) :: st) v G Q := q_w_dupP c_57_26
theorem c_57_27 : q_code 57 27 = (.getfield 49, 3, 4, 6, 0, 117, 0) := by decide +kernel
theorem e_57_27 (d : Nat) (a : Nat) (z0 : q_V) (st : List q_V) (v : q_H) (G : q_Gr) (Q : q_V → q_H → q_Gr → Prop) : q_wp d 57 27 [z0] (.inr (.inr (.inl (some a))) :: st) v G Q = (((G.2.1 a).1 = 4) ∧ q_wp d 57 30 [z0] (.inl (v a 6) :: st) v G Q) := q_w_getI c_57_27
theorem c_57_30 : q_code 57 30 = (.iconst 1, 1, 0, 0, 0, 0, 0) := by decide +kernel
theorem e_57_30 (d : Nat)  (z0 : q_V) (st : List q_V) (v : q_H) (G : q_Gr) (Q : q_V → q_H → q_Gr → Prop) : q_wp d 57 30 [z0] st v G Q = q_wp d 57 31 [z0] (.inl 1 :: st) v G Q := q_w_iconst c_57_30
theorem c_57_31 : q_code 57 31 = (.iadd, 1, 0, 0, 0, 0, 0) := by decide +kernel
theorem e_57_31 (d : Nat) (a b : Int) (z0 : q_V) (st : List q_V) (v : q_H) (G : q_Gr) (Q : q_V → q_H → q_Gr → Prop) : q_wp d 57 31 [z0] (.inl b :: .inl a :: st) v G Q = q_wp d 57 32 [z0] (.inl (a + b) :: st) v G Q := q_w_iadd c_57_31
theorem c_57_32 : q_code 57 32 = (.putfield 49, 3, 4, 6, 0, 117, 0) := by decide +kernel
theorem e_57_32 (d : Nat) (a : Nat) (b : Int) (z0 : q_V) (st : List q_V) (v : q_H) (G : q_Gr) (Q : q_V → q_H → q_Gr → Prop) : q_wp d 57 32 [z0] (.inl b :: .inr (.inr (.inl (some a))) :: st) v G Q = (((G.2.1 a).1 = 4) ∧ q_wp d 57 35 [z0] st (q_up v a 6 b) G Q) := q_w_putI c_57_32
theorem c_57_35 : q_code 57 35 = (.goto (-35), 3, 0, 0, 0, 0, 0) := by decide +kernel
theorem e_57_35 (d : Nat)  (z0 : q_V) (st : List q_V) (v : q_H) (G : q_Gr) (Q : q_V → q_H → q_Gr → Prop) : q_wp d 57 35 [z0] st v G Q = q_wp d 57 0 [z0] st v G Q := q_w_goto c_57_35 (by decide)
theorem c_57_38 : q_code 57 38 = (.return_, 1, 0, 0, 0, 0, 0) := by decide +kernel
theorem e_57_38 (d : Nat)  (z0 : q_V) (v : q_H) (G : q_Gr) (Q : q_V → q_H → q_Gr → Prop) : q_wp d 57 38 [z0] [] v G Q = Q (.inr (.inr (.inr ()))) v G := q_w_return c_57_38 rfl
theorem e_57 (d : Nat) (a0 : Nat) (v : q_H) (G : q_Gr) (Q : q_V → q_H → q_Gr → Prop) : q_call (d + 1) 57 [.inr (.inr (.inl (some a0)))] v G Q = ((G.2.1 a0).1 = 4 ∧ q_wp d 57 0 [.inr (.inr (.inl (some a0)))] [] v G Q) := by
  rw [q_call_in (by decide) (Nat.le_of_ble_eq_true rfl) rfl]
  exact congrArg (· ∧ _) (propext beq_iff_eq)
/-- all but the heads of loops: [0] -/
def E57 := And.intro @e_57 (And.intro @e_57_1 (And.intro @e_57_4 (And.intro @e_57_5 (And.intro @e_57_8 (And.intro @e_57_11 (And.intro @e_57_12 (And.intro @e_57_13 (And.intro @e_57_16 (And.intro @e_57_19 (And.intro @e_57_22 (And.intro @e_57_25 (And.intro @e_57_26 (And.intro @e_57_27 (And.intro @e_57_30 (And.intro @e_57_31 (And.intro @e_57_32 (And.intro @e_57_35 (@e_57_38))))))))))))))))))
/-! ProvenRows$Plans.readFigures()V -/
theorem c_58_0 : q_code 58 0 = (.aload_n 0, 1, 0, 0, 0, 0, 0) := by decide +kernel
theorem e_58_0 (d : Nat) (a : Option Nat) (st : List q_V) (v : q_H) (G : q_Gr) (Q : q_V → q_H → q_Gr → Prop) : q_wp d 58 0 [.inr (.inr (.inl a))] st v G Q = q_wp d 58 1 [.inr (.inr (.inl a))] (.inr (.inr (.inl a)) :: st) v G Q := q_w_aload_n c_58_0 rfl
theorem c_58_1 : q_code 58 1 = (.aload_n 0, 1, 0, 0, 0, 0, 0) := by decide +kernel
theorem e_58_1 (d : Nat) (a : Option Nat) (st : List q_V) (v : q_H) (G : q_Gr) (Q : q_V → q_H → q_Gr → Prop) : q_wp d 58 1 [.inr (.inr (.inl a))] st v G Q = q_wp d 58 2 [.inr (.inr (.inl a))] (.inr (.inr (.inl a)) :: st) v G Q := q_w_aload_n c_58_1 rfl
theorem c_58_2 : q_code 58 2 = (.getfield 61, 3, 4, 5, 0, 116, 0) := by decide +kernel
theorem e_58_2 (d : Nat) (a : Nat) (z0 : q_V) (st : List q_V) (v : q_H) (G : q_Gr) (Q : q_V → q_H → q_Gr → Prop) : q_wp d 58 2 [z0] (.inr (.inr (.inl (some a))) :: st) v G Q = (((G.2.1 a).1 = 4) ∧ q_wp d 58 5 [z0] (.inl (v a 5) :: st) v G Q) := q_w_getI c_58_2
theorem c_58_5 : q_code 58 5 = (.putfield 49, 3, 4, 6, 0, 117, 0) := by decide +kernel
theorem e_58_5 (d : Nat) (a : Nat) (b : Int) (z0 : q_V) (st : List q_V) (v : q_H) (G : q_Gr) (Q : q_V → q_H → q_Gr → Prop) : q_wp d 58 5 [z0] (.inl b :: .inr (.inr (.inl (some a))) :: st) v G Q = (((G.2.1 a).1 = 4) ∧ q_wp d 58 8 [z0] st (q_up v a 6 b) G Q) := q_w_putI c_58_5
theorem c_58_8 : q_code 58 8 = (.aload_n 0, 1, 0, 0, 0, 0, 0) := by decide +kernel
theorem e_58_8 (d : Nat) (a : Option Nat) (st : List q_V) (v : q_H) (G : q_Gr) (Q : q_V → q_H → q_Gr → Prop) : q_wp d 58 8 [.inr (.inr (.inl a))] st v G Q = q_wp d 58 9 [.inr (.inr (.inl a))] (.inr (.inr (.inl a)) :: st) v G Q := q_w_aload_n c_58_8 rfl
theorem c_58_9 : q_code 58 9 = (.iconst 0, 1, 0, 0, 0, 0, 0) := by decide +kernel
theorem e_58_9 (d : Nat)  (z0 : q_V) (st : List q_V) (v : q_H) (G : q_Gr) (Q : q_V → q_H → q_Gr → Prop) : q_wp d 58 9 [z0] st v G Q = q_wp d 58 10 [z0] (.inl 0 :: st) v G Q := q_w_iconst c_58_9
theorem c_58_10 : q_code 58 10 = (.putfield 79, 3, 4, 7, 0, 118, 0) := by decide +kernel
theorem e_58_10 (d : Nat) (a : Nat) (b : Int) (z0 : q_V) (st : List q_V) (v : q_H) (G : q_Gr) (Q : q_V → q_H → q_Gr → Prop) : q_wp d 58 10 [z0] (.inl b :: .inr (.inr (.inl (some a))) :: st) v G Q = (((G.2.1 a).1 = 4) ∧ q_wp d 58 13 [z0] st (q_up v a 7 b) G Q) := q_w_putI c_58_10
theorem c_58_13 : q_code 58 13 = (.aload_n 0, 1, 0, 0, 0, 0, 0) := by decide +kernel
theorem e_58_13 (d : Nat) (a : Option Nat) (st : List q_V) (v : q_H) (G : q_Gr) (Q : q_V → q_H → q_Gr → Prop) : q_wp d 58 13 [.inr (.inr (.inl a))] st v G Q = q_wp d 58 14 [.inr (.inr (.inl a))] (.inr (.inr (.inl a)) :: st) v G Q := q_w_aload_n c_58_13 rfl
theorem c_58_14 : q_code 58 14 = (.getfield 49, 3, 4, 6, 0, 117, 0) := by decide +kernel
theorem e_58_14 (d : Nat) (a : Nat) (z0 : q_V) (st : List q_V) (v : q_H) (G : q_Gr) (Q : q_V → q_H → q_Gr → Prop) : q_wp d 58 14 [z0] (.inr (.inr (.inl (some a))) :: st) v G Q = (((G.2.1 a).1 = 4) ∧ q_wp d 58 17 [z0] (.inl (v a 6) :: st) v G Q) := q_w_getI c_58_14
theorem c_58_17 : q_code 58 17 = (.aload_n 0, 1, 0, 0, 0, 0, 0) := by decide +kernel
theorem e_58_17 (d : Nat) (a : Option Nat) (st : List q_V) (v : q_H) (G : q_Gr) (Q : q_V → q_H → q_Gr → Prop) : q_wp d 58 17 [.inr (.inr (.inl a))] st v G Q = q_wp d 58 18 [.inr (.inr (.inl a))] (.inr (.inr (.inl a)) :: st) v G Q := q_w_aload_n c_58_17 rfl
theorem c_58_18 : q_code 58 18 = (.getfield 24, 3, 4, 1, 0, 112, 0) := by decide +kernel
theorem e_58_18 (d : Nat) (a : Nat) (z0 : q_V) (st : List q_V) (v : q_H) (G : q_Gr) (Q : q_V → q_H → q_Gr → Prop) : q_wp d 58 18 [z0] (.inr (.inr (.inl (some a))) :: st) v G Q = (((G.2.1 a).1 = 4) ∧ q_wp d 58 21 [z0] (.inl (v a 1) :: st) v G Q) := q_w_getI c_58_18
theorem c_58_21 : q_code 58 21 = (.if_icmp .ge 70, 3, 0, 0, 0, 0, 0) := by decide +kernel
theorem e_58_21 (d : Nat) (a b : Int) (z0 : q_V) (st : List q_V) (v : q_H) (G : q_Gr) (Q : q_V → q_H → q_Gr → Prop) : q_wp d 58 21 [z0] (.inl b :: .inl a :: st) v G Q = ((q_inR a ∧ q_inR b) ∧ if b ≤ a then q_wp d 58 91 [z0] st v G Q else q_wp d 58 24 [z0] st v G Q) := q_w_icmp_ge c_58_21 (by decide)
theorem c_58_24 : q_code 58 24 = (.aload_n 0, 1, 0, 0, 0, 0, 0) := by decide +kernel
theorem e_58_24 (d : Nat) (a : Option Nat) (st : List q_V) (v : q_H) (G : q_Gr) (Q : q_V → q_H → q_Gr → Prop) : q_wp d 58 24 [.inr (.inr (.inl a))] st v G Q = q_wp d 58 25 [.inr (.inr (.inl a))] (.inr (.inr (.inl a)) :: st) v G Q := q_w_aload_n c_58_24 rfl
theorem c_58_25 : q_code 58 25 = (.aload_n 0, 1, 0, 0, 0, 0, 0) := by decide +kernel
theorem e_58_25 (d : Nat) (a : Option Nat) (st : List q_V) (v : q_H) (G : q_Gr) (Q : q_V → q_H → q_Gr → Prop) : q_wp d 58 25 [.inr (.inr (.inl a))] st v G Q = q_wp d 58 26 [.inr (.inr (.inl a))] (.inr (.inr (.inl a)) :: st) v G Q := q_w_aload_n c_58_25 rfl
theorem c_58_26 : q_code 58 26 = (.getfield 49, 3, 4, 6, 0, 117, 0) := by decide +kernel
theorem e_58_26 (d : Nat) (a : Nat) (z0 : q_V) (st : List q_V) (v : q_H) (G : q_Gr) (Q : q_V → q_H → q_Gr → Prop) : q_wp d 58 26 [z0] (.inr (.inr (.inl (some a))) :: st) v G Q = (((G.2.1 a).1 = 4) ∧ q_wp d 58 29 [z0] (.inl (v a 6) :: st) v G Q) := q_w_getI c_58_26
theorem c_58_29 : q_code 58 29 = (.invokevirtual 89, 3, 59, 2, 0, 510, 1) := by decide +kernel
theorem e_58_29 (d : Nat) (x0 x1 : q_V) (z0 : q_V) (v : q_H) (G : q_Gr) (Q : q_V → q_H → q_Gr → Prop) : q_wp d 58 29 [z0] [x1, x0] v G Q = q_call d 59 [x0, x1] v G (fun r v G => q_wp d 58 32 [z0] (q_push r []) v G Q) := q_wp_ca (m2 := 59) (k := 2) (as := [x0, x1]) (rest := []) (congrArg q_kind c_58_29) (congrArg (fun w => w.2.2.1) c_58_29) (congrArg (fun w => w.2.2.2.1) c_58_29) rfl (Nat.le_of_ble_eq_true rfl) rfl
theorem c_58_32 : q_code 58 32 = (.invokestatic 98, 3, 61, 1, 0, 519, 1) := by decide +kernel
theorem e_58_32 (d : Nat) (x0 : q_V) (z0 : q_V) (v : q_H) (G : q_Gr) (Q : q_V → q_H → q_Gr → Prop) : q_wp d 58 32 [z0] [x0] v G Q = q_call d 61 [x0] v G (fun r v G => q_wp d 58 35 [z0] (q_push r []) v G Q) := q_wp_ca (m2 := 61) (k := 1) (as := [x0]) (rest := []) (congrArg q_kind c_58_32) (congrArg (fun w => w.2.2.1) c_58_32) (congrArg (fun w => w.2.2.2.1) c_58_32) rfl (Nat.le_of_ble_eq_true rfl) rfl
theorem c_58_35 : q_code 58 35 = (.ifCond .eq 56, 3, 0, 0, 0, 0, 0) := by decide +kernel
theorem e_58_35 (d : Nat) (a : Int) (z0 : q_V) (st : List q_V) (v : q_H) (G : q_Gr) (Q : q_V → q_H → q_Gr → Prop) : q_wp d 58 35 [z0] (.inl a :: st) v G Q = ((q_inR a) ∧ if a = 0 then q_wp d 58 91 [z0] st v G Q else q_wp d 58 38 [z0] st v G Q) := q_w_if_eq c_58_35 (by decide)
theorem c_58_38 : q_code 58 38 = (.aload_n 0, 1, 0, 0, 0, 0, 0) := by decide +kernel
theorem e_58_38 (d : Nat) (a : Option Nat) (st : List q_V) (v : q_H) (G : q_Gr) (Q : q_V → q_H → q_Gr → Prop) : q_wp d 58 38 [.inr (.inr (.inl a))] st v G Q = q_wp d 58 39 [.inr (.inr (.inl a))] (.inr (.inr (.inl a)) :: st) v G Q := q_w_aload_n c_58_38 rfl
theorem c_58_39 : q_code 58 39 = (.aload_n 0, 1, 0, 0, 0, 0, 0) := by decide +kernel
theorem e_58_39 (d : Nat) (a : Option Nat) (st : List q_V) (v : q_H) (G : q_Gr) (Q : q_V → q_H → q_Gr → Prop) : q_wp d 58 39 [.inr (.inr (.inl a))] st v G Q = q_wp d 58 40 [.inr (.inr (.inl a))] (.inr (.inr (.inl a)) :: st) v G Q := q_w_aload_n c_58_39 rfl
theorem c_58_40 : q_code 58 40 = (.getfield 49, 3, 4, 6, 0, 117, 0) := by decide +kernel
theorem e_58_40 (d : Nat) (a : Nat) (z0 : q_V) (st : List q_V) (v : q_H) (G : q_Gr) (Q : q_V → q_H → q_Gr → Prop) : q_wp d 58 40 [z0] (.inr (.inr (.inl (some a))) :: st) v G Q = (((G.2.1 a).1 = 4) ∧ q_wp d 58 43 [z0] (.inl (v a 6) :: st) v G Q) := q_w_getI c_58_40
theorem c_58_43 : q_code 58 43 = (.aload_n 0, 1, 0, 0, 0, 0, 0) := by decide +kernel
theorem e_58_43 (d : Nat) (a : Option Nat) (st : List q_V) (v : q_H) (G : q_Gr) (Q : q_V → q_H → q_Gr → Prop) : q_wp d 58 43 [.inr (.inr (.inl a))] st v G Q = q_wp d 58 44 [.inr (.inr (.inl a))] (.inr (.inr (.inl a)) :: st) v G Q := q_w_aload_n c_58_43 rfl
theorem c_58_44 : q_code 58 44 = (.getfield 61, 3, 4, 5, 0, 116, 0) := by decide +kernel
theorem e_58_44 (d : Nat) (a : Nat) (z0 : q_V) (st : List q_V) (v : q_H) (G : q_Gr) (Q : q_V → q_H → q_Gr → Prop) : q_wp d 58 44 [z0] (.inr (.inr (.inl (some a))) :: st) v G Q = (((G.2.1 a).1 = 4) ∧ q_wp d 58 47 [z0] (.inl (v a 5) :: st) v G Q) := q_w_getI c_58_44
theorem c_58_47 : q_code 58 47 = (.isub, 1, 0, 0, 0, 0, 0) := by decide +kernel
theorem e_58_47 (d : Nat) (a b : Int) (z0 : q_V) (st : List q_V) (v : q_H) (G : q_Gr) (Q : q_V → q_H → q_Gr → Prop) : q_wp d 58 47 [z0] (.inl b :: .inl a :: st) v G Q = q_wp d 58 48 [z0] (.inl (a - b) :: st) v G Q := q_w_isub c_58_47
theorem c_58_48 : q_code 58 48 = (.iconst 3, 1, 0, 0, 0, 0, 0) := by decide +kernel
theorem e_58_48 (d : Nat)  (z0 : q_V) (st : List q_V) (v : q_H) (G : q_Gr) (Q : q_V → q_H → q_Gr → Prop) : q_wp d 58 48 [z0] st v G Q = q_wp d 58 49 [z0] (.inl 3 :: st) v G Q := q_w_iconst c_58_48
theorem c_58_49 : q_code 58 49 = (.if_icmp .ge 25, 3, 0, 0, 0, 0, 0) := by decide +kernel
theorem e_58_49 (d : Nat) (a b : Int) (z0 : q_V) (st : List q_V) (v : q_H) (G : q_Gr) (Q : q_V → q_H → q_Gr → Prop) : q_wp d 58 49 [z0] (.inl b :: .inl a :: st) v G Q = ((q_inR a ∧ q_inR b) ∧ if b ≤ a then q_wp d 58 74 [z0] st v G Q else q_wp d 58 52 [z0] st v G Q) := q_w_icmp_ge c_58_49 (by decide)
theorem c_58_52 : q_code 58 52 = (.bipush 10, 2, 0, 0, 0, 0, 0) := by decide +kernel
theorem e_58_52 (d : Nat)  (z0 : q_V) (st : List q_V) (v : q_H) (G : q_Gr) (Q : q_V → q_H → q_Gr → Prop) : q_wp d 58 52 [z0] st v G Q = q_wp d 58 54 [z0] (.inl 10 :: st) v G Q := (q_w_bipush c_58_52).trans (by simp only [show ((-128 : Int) ≤ 10 ∧ (10 : Int) ≤ 127) = True by decide, true_and])
theorem c_58_54 : q_code 58 54 = (.aload_n 0, 1, 0, 0, 0, 0, 0) := by decide +kernel
theorem e_58_54 (d : Nat) (a : Option Nat) (st : List q_V) (v : q_H) (G : q_Gr) (Q : q_V → q_H → q_Gr → Prop) : q_wp d 58 54 [.inr (.inr (.inl a))] st v G Q = q_wp d 58 55 [.inr (.inr (.inl a))] (.inr (.inr (.inl a)) :: st) v G Q := q_w_aload_n c_58_54 rfl
theorem c_58_55 : q_code 58 55 = (.getfield 79, 3, 4, 7, 0, 118, 0) := by decide +kernel
theorem e_58_55 (d : Nat) (a : Nat) (z0 : q_V) (st : List q_V) (v : q_H) (G : q_Gr) (Q : q_V → q_H → q_Gr → Prop) : q_wp d 58 55 [z0] (.inr (.inr (.inl (some a))) :: st) v G Q = (((G.2.1 a).1 = 4) ∧ q_wp d 58 58 [z0] (.inl (v a 7) :: st) v G Q) := q_w_getI c_58_55
theorem c_58_58 : q_code 58 58 = (.imul, 1, 0, 0, 0, 0, 0) := by decide +kernel
theorem e_58_58 (d : Nat) (a b : Int) (z0 : q_V) (st : List q_V) (v : q_H) (G : q_Gr) (Q : q_V → q_H → q_Gr → Prop) : q_wp d 58 58 [z0] (.inl b :: .inl a :: st) v G Q = q_wp d 58 59 [z0] (.inl (a * b) :: st) v G Q := q_w_imul c_58_58
theorem c_58_59 : q_code 58 59 = (.aload_n 0, 1, 0, 0, 0, 0, 0) := by decide +kernel
theorem e_58_59 (d : Nat) (a : Option Nat) (st : List q_V) (v : q_H) (G : q_Gr) (Q : q_V → q_H → q_Gr → Prop) : q_wp d 58 59 [.inr (.inr (.inl a))] st v G Q = q_wp d 58 60 [.inr (.inr (.inl a))] (.inr (.inr (.inl a)) :: st) v G Q := q_w_aload_n c_58_59 rfl
theorem c_58_60 : q_code 58 60 = (.aload_n 0, 1, 0, 0, 0, 0, 0) := by decide +kernel
theorem e_58_60 (d : Nat) (a : Option Nat) (st : List q_V) (v : q_H) (G : q_Gr) (Q : q_V → q_H → q_Gr → Prop) : q_wp d 58 60 [.inr (.inr (.inl a))] st v G Q = q_wp d 58 61 [.inr (.inr (.inl a))] (.inr (.inr (.inl a)) :: st) v G Q := q_w_aload_n c_58_60 rfl
theorem c_58_61 : q_code 58 61 = (.getfield 49, 3, 4, 6, 0, 117, 0) := by decide +kernel
theorem e_58_61 (d : Nat) (a : Nat) (z0 : q_V) (st : List q_V) (v : q_H) (G : q_Gr) (Q : q_V → q_H → q_Gr → Prop) : q_wp d 58 61 [z0] (.inr (.inr (.inl (some a))) :: st) v G Q = (((G.2.1 a).1 = 4) ∧ q_wp d 58 64 [z0] (.inl (v a 6) :: st) v G Q) := q_w_getI c_58_61
theorem c_58_64 : q_code 58 64 = (.invokevirtual 89, 3, 59, 2, 0, 510, 1) := by decide +kernel
theorem e_58_64 (d : Nat) (x0 x1 y0 y1 : q_V) (z0 : q_V) (v : q_H) (G : q_Gr) (Q : q_V → q_H → q_Gr → Prop) : q_wp d 58 64 [z0] [x1, x0, y0, y1] v G Q = q_call d 59 [x0, x1] v G (fun r v G => q_wp d 58 67 [z0] (q_push r [y0, y1]) v G Q) := q_wp_ca (m2 := 59) (k := 2) (as := [x0, x1]) (rest := [y0, y1]) (congrArg q_kind c_58_64) (congrArg (fun w => w.2.2.1) c_58_64) (congrArg (fun w => w.2.2.2.1) c_58_64) rfl (Nat.le_of_ble_eq_true rfl) rfl
theorem c_58_67 : q_code 58 67 = (.iadd, 1, 0, 0, 0, 0, 0) := by decide +kernel
theorem e_58_67 (d : Nat) (a b : Int) (z0 : q_V) (st : List q_V) (v : q_H) (G : q_Gr) (Q : q_V → q_H → q_Gr → Prop) : q_wp d 58 67 [z0] (.inl b :: .inl a :: st) v G Q = q_wp d 58 68 [z0] (.inl (a + b) :: st) v G Q := q_w_iadd c_58_67
theorem c_58_68 : q_code 58 68 = (.bipush 48, 2, 0, 0, 0, 0, 0) := by decide +kernel
theorem e_58_68 (d : Nat)  (z0 : q_V) (st : List q_V) (v : q_H) (G : q_Gr) (Q : q_V → q_H → q_Gr → Prop) : q_wp d 58 68 [z0] st v G Q = q_wp d 58 70 [z0] (.inl 48 :: st) v G Q := (q_w_bipush c_58_68).trans (by simp only [show ((-128 : Int) ≤ 48 ∧ (48 : Int) ≤ 127) = True by decide, true_and])
theorem c_58_70 : q_code 58 70 = (.isub, 1, 0, 0, 0, 0, 0) := by decide +kernel
theorem e_58_70 (d : Nat) (a b : Int) (z0 : q_V) (st : List q_V) (v : q_H) (G : q_Gr) (Q : q_V → q_H → q_Gr → Prop) : q_wp d 58 70 [z0] (.inl b :: .inl a :: st) v G Q = q_wp d 58 71 [z0] (.inl (a - b) :: st) v G Q := q_w_isub c_58_70
theorem c_58_71 : q_code 58 71 = (.goto 4, 3, 0, 0, 0, 0, 0) := by decide +kernel
theorem e_58_71 (d : Nat)  (z0 : q_V) (st : List q_V) (v : q_H) (G : q_Gr) (Q : q_V → q_H → q_Gr → Prop) : q_wp d 58 71 [z0] st v G Q = q_wp d 58 75 [z0] st v G Q := q_w_goto c_58_71 (by decide)
theorem c_58_74 : q_code 58 74 = (.iconst 0, 1, 0, 0, 0, 0, 0) := by decide +kernel
theorem e_58_74 (d : Nat)  (z0 : q_V) (st : List q_V) (v : q_H) (G : q_Gr) (Q : q_V → q_H → q_Gr → Prop) : q_wp d 58 74 [z0] st v G Q = q_wp d 58 75 [z0] (.inl 0 :: st) v G Q := q_w_iconst c_58_74
theorem c_58_75 : q_code 58 75 = (.putfield 79, 3, 4, 7, 0, 118, 0) := by decide +kernel
theorem e_58_75 (d : Nat) (a : Nat) (b : Int) (z0 : q_V) (st : List q_V) (v : q_H) (G : q_Gr) (Q : q_V → q_H → q_Gr → Prop) : q_wp d 58 75 [z0] (.inl b :: .inr (.inr (.inl (some a))) :: st) v G Q = (((G.2.1 a).1 = 4) ∧ q_wp d 58 78 [z0] st (q_up v a 7 b) G Q) := q_w_putI c_58_75
theorem c_58_78 : q_code 58 78 = (.aload_n 0, 1, 0, 0, 0, 0, 0) := by decide +kernel
theorem e_58_78 (d : Nat) (a : Option Nat) (st : List q_V) (v : q_H) (G : q_Gr) (Q : q_V → q_H → q_Gr → Prop) : q_wp d 58 78 [.inr (.inr (.inl a))] st v G Q = q_wp d 58 79 [.inr (.inr (.inl a))] (.inr (.inr (.inl a)) :: st) v G Q := q_w_aload_n c_58_78 rfl
theorem c_58_79 : q_code 58 79 = (.dup, 1, 0, 0, 0, 0, 0) := by decide +kernel
theorem e_58_79 (d : Nat) (a : Option Nat) (z0 : q_V) (st : List q_V) (v : q_H) (G : q_Gr) (Q : q_V → q_H → q_Gr → Prop) : q_wp d 58 79 [z0] (.inr (.inr (.inl a)) :: st) v G Q = q_wp d 58 80 [z0] (.inr (.inr (.inl a)) :: .inr (.inr (.inl a)) :: st) v G Q := q_w_dupP c_58_79
theorem c_58_80 : q_code 58 80 = (.getfield 49, 3, 4, 6, 0, 117, 0) := by decide +kernel
theorem e_58_80 (d : Nat) (a : Nat) (z0 : q_V) (st : List q_V) (v : q_H) (G : q_Gr) (Q : q_V → q_H → q_Gr → Prop) : q_wp d 58 80 [z0] (.inr (.inr (.inl (some a))) :: st) v G Q = (((G.2.1 a).1 = 4) ∧ q_wp d 58 83 [z0] (.inl (v a 6) :: st) v G Q) := q_w_getI c_58_80
theorem c_58_83 : q_code 58 83 = (.iconst 1, 1, 0, 0, 0, 0, 0) := by decide +kernel
theorem e_58_83 (d : Nat)  (z0 : q_V) (st : List q_V) (v : q_H) (G : q_Gr) (Q : q_V → q_H → q_Gr → Prop) : q_wp d 58 83 [z0] st v G Q = q_wp d 58 84 [z0] (.inl 1 :: st) v G Q := q_w_iconst c_58_83
theorem c_58_84 : q_code 58 84 = (.iadd, 1, 0, 0, 0, 0, 0) := by decide +kernel
theorem e_58_84 (d : Nat) (a b : Int) (z0 : q_V) (st : List q_V) (v : q_H) (G : q_Gr) (Q : q_V → q_H → q_Gr → Prop) : q_wp d 58 84 [z0] (.inl b :: .inl a :: st) v G Q = q_wp d 58 85 [z0] (.inl (a + b) :: st) v G Q := q_w_iadd c_58_84
theorem c_58_85 : q_code 58 85 = (.putfield 49, 3, 4, 6, 0, 117, 0) := by decide +kernel
theorem e_58_85 (d : Nat) (a : Nat) (b : Int) (z0 : q_V) (st : List q_V) (v : q_H) (G : q_Gr) (Q : q_V → q_H → q_Gr → Prop) : q_wp d 58 85 [z0] (.inl b :: .inr (.inr (.inl (some a))) :: st) v G Q = (((G.2.1 a).1 = 4) ∧ q_wp d 58 88 [z0] st (q_up v a 6 b) G Q) := q_w_putI c_58_85
theorem c_58_88 : q_code 58 88 = (.goto (-75), 3, 0, 0, 0, 0, 0) := by decide +kernel
theorem e_58_88 (d : Nat)  (z0 : q_V) (st : List q_V) (v : q_H) (G : q_Gr) (Q : q_V → q_H → q_Gr → Prop) : q_wp d 58 88 [z0] st v G Q = q_wp d 58 13 [z0] st v G Q := q_w_goto c_58_88 (by decide)
theorem c_58_91 : q_code 58 91 = (.aload_n 0, 1, 0, 0, 0, 0, 0) := by decide +kernel
theorem e_58_91 (d : Nat) (a : Option Nat) (st : List q_V) (v : q_H) (G : q_Gr) (Q : q_V → q_H → q_Gr → Prop) : q_wp d 58 91 [.inr (.inr (.inl a))] st v G Q = q_wp d 58 92 [.inr (.inr (.inl a))] (.inr (.inr (.inl a)) :: st) v G Q := q_w_aload_n c_58_91 rfl
theorem c_58_92 : q_code 58 92 = (.aload_n 0, 1, 0, 0, 0, 0, 0) := by decide +kernel
theorem e_58_92 (d : Nat) (a : Option Nat) (st : List q_V) (v : q_H) (G : q_Gr) (Q : q_V → q_H → q_Gr → Prop) : q_wp d 58 92 [.inr (.inr (.inl a))] st v G Q = q_wp d 58 93 [.inr (.inr (.inl a))] (.inr (.inr (.inl a)) :: st) v G Q := q_w_aload_n c_58_92 rfl
theorem c_58_93 : q_code 58 93 = (.getfield 49, 3, 4, 6, 0, 117, 0) := by decide +kernel
theorem e_58_93 (d : Nat) (a : Nat) (z0 : q_V) (st : List q_V) (v : q_H) (G : q_Gr) (Q : q_V → q_H → q_Gr → Prop) : q_wp d 58 93 [z0] (.inr (.inr (.inl (some a))) :: st) v G Q = (((G.2.1 a).1 = 4) ∧ q_wp d 58 96 [z0] (.inl (v a 6) :: st) v G Q) := q_w_getI c_58_93
theorem c_58_96 : q_code 58 96 = (.aload_n 0, 1, 0, 0, 0, 0, 0) := by decide +kernel
theorem e_58_96 (d : Nat) (a : Option Nat) (st : List q_V) (v : q_H) (G : q_Gr) (Q : q_V → q_H → q_Gr → Prop) : q_wp d 58 96 [.inr (.inr (.inl a))] st v G Q = q_wp d 58 97 [.inr (.inr (.inl a))] (.inr (.inr (.inl a)) :: st) v G Q := q_w_aload_n c_58_96 rfl
theorem c_58_97 : q_code 58 97 = (.getfield 61, 3, 4, 5, 0, 116, 0) := by decide +kernel
theorem e_58_97 (d : Nat) (a : Nat) (z0 : q_V) (st : List q_V) (v : q_H) (G : q_Gr) (Q : q_V → q_H → q_Gr → Prop) : q_wp d 58 97 [z0] (.inr (.inr (.inl (some a))) :: st) v G Q = (((G.2.1 a).1 = 4) ∧ q_wp d 58 100 [z0] (.inl (v a 5) :: st) v G Q) := q_w_getI c_58_97
theorem c_58_100 : q_code 58 100 = (.isub, 1, 0, 0, 0, 0, 0) := by decide +kernel
theorem e_58_100 (d : Nat) (a b : Int) (z0 : q_V) (st : List q_V) (v : q_H) (G : q_Gr) (Q : q_V → q_H → q_Gr → Prop) : q_wp d 58 100 [z0] (.inl b :: .inl a :: st) v G Q = q_wp d 58 101 [z0] (.inl (a - b) :: st) v G Q := q_w_isub c_58_100
theorem c_58_101 : q_code 58 101 = (.iconst 3, 1, 0, 0, 0, 0, 0) := by decide +kernel
theorem e_58_101 (d : Nat)  (z0 : q_V) (st : List q_V) (v : q_H) (G : q_Gr) (Q : q_V → q_H → q_Gr → Prop) : q_wp d 58 101 [z0] st v G Q = q_wp d 58 102 [z0] (.inl 3 :: st) v G Q := q_w_iconst c_58_101
theorem c_58_102 : q_code 58 102 = (.if_icmp .gt 7, 3, 0, 0, 0, 0, 0) := by decide +kernel
theorem e_58_102 (d : Nat) (a b : Int) (z0 : q_V) (st : List q_V) (v : q_H) (G : q_Gr) (Q : q_V → q_H → q_Gr → Prop) : q_wp d 58 102 [z0] (.inl b :: .inl a :: st) v G Q = ((q_inR a ∧ q_inR b) ∧ if b < a then q_wp d 58 109 [z0] st v G Q else q_wp d 58 105 [z0] st v G Q) := q_w_icmp_gt c_58_102 (by decide)
theorem c_58_105 : q_code 58 105 = (.iconst 2, 1, 0, 0, 0, 0, 0) := by decide +kernel
theorem e_58_105 (d : Nat)  (z0 : q_V) (st : List q_V) (v : q_H) (G : q_Gr) (Q : q_V → q_H → q_Gr → Prop) : q_wp d 58 105 [z0] st v G Q = q_wp d 58 106 [z0] (.inl 2 :: st) v G Q := q_w_iconst c_58_105
theorem c_58_106 : q_code 58 106 = (.goto 4, 3, 0, 0, 0, 0, 0) := by decide +kernel
theorem e_58_106 (d : Nat)  (z0 : q_V) (st : List q_V) (v : q_H) (G : q_Gr) (Q : q_V → q_H → q_Gr → Prop) : q_wp d 58 106 [z0] st v G Q = q_wp d 58 110 [z0] st v G Q := q_w_goto c_58_106 (by decide)
theorem c_58_109 : q_code 58 109 = (.iconst 4, 1, 0, 0, 0, 0, 0) := by decide +kernel
theorem e_58_109 (d : Nat)  (z0 : q_V) (st : List q_V) (v : q_H) (G : q_Gr) (Q : q_V → q_H → q_Gr → Prop) : q_wp d 58 109 [z0] st v G Q = q_wp d 58 110 [z0] (.inl 4 :: st) v G Q := q_w_iconst c_58_109
theorem c_58_110 : q_code 58 110 = (.putfield 55, 3, 4, 4, 0, 115, 0) := by decide +kernel
theorem e_58_110 (d : Nat) (a : Nat) (b : Int) (z0 : q_V) (st : List q_V) (v : q_H) (G : q_Gr) (Q : q_V → q_H → q_Gr → Prop) : q_wp d 58 110 [z0] (.inl b :: .inr (.inr (.inl (some a))) :: st) v G Q = (((G.2.1 a).1 = 4) ∧ q_wp d 58 113 [z0] st (q_up v a 4 b) G Q) := q_w_putI c_58_110
theorem c_58_113 : q_code 58 113 = (.return_, 1, 0, 0, 0, 0, 0) := by decide +kernel
theorem e_58_113 (d : Nat)  (z0 : q_V) (v : q_H) (G : q_Gr) (Q : q_V → q_H → q_Gr → Prop) : q_wp d 58 113 [z0] [] v G Q = Q (.inr (.inr (.inr ()))) v G := q_w_return c_58_113 rfl
theorem e_58 (d : Nat) (a0 : Nat) (v : q_H) (G : q_Gr) (Q : q_V → q_H → q_Gr → Prop) : q_call (d + 1) 58 [.inr (.inr (.inl (some a0)))] v G Q = ((G.2.1 a0).1 = 4 ∧ q_wp d 58 0 [.inr (.inr (.inl (some a0)))] [] v G Q) := by
  rw [q_call_in (by decide) (Nat.le_of_ble_eq_true rfl) rfl]
  exact congrArg (· ∧ _) (propext beq_iff_eq)
/-- all but the heads of loops: [13] -/
def E58 := And.intro @e_58 (And.intro @e_58_0 (And.intro @e_58_1 (And.intro @e_58_2 (And.intro @e_58_5 (And.intro @e_58_8 (And.intro @e_58_9 (And.intro @e_58_10 (And.intro @e_58_14 (And.intro @e_58_17 (And.intro @e_58_18 (And.intro @e_58_21 (And.intro @e_58_24 (And.intro @e_58_25 (And.intro @e_58_26 (And.intro @e_58_29 (And.intro @e_58_32 (And.intro @e_58_35 (And.intro @e_58_38 (And.intro @e_58_39 (And.intro @e_58_40 (And.intro @e_58_43 (And.intro @e_58_44 (And.intro @e_58_47 (And.intro @e_58_48 (And.intro @e_58_49 (And.intro @e_58_52 (And.intro @e_58_54 (And.intro @e_58_55 (And.intro @e_58_58 (And.intro @e_58_59 (And.intro @e_58_60 (And.intro @e_58_61 (And.intro @e_58_64 (And.intro @e_58_67 (And.intro @e_58_68 (And.intro @e_58_70 (And.intro @e_58_71 (And.intro @e_58_74 (And.intro @e_58_75 (And.intro @e_58_78 (And.intro @e_58_79 (And.intro @e_58_80 (And.intro @e_58_83 (And.intro @e_58_84 (And.intro @e_58_85 (And.intro @e_58_88 (And.intro @e_58_91 (And.intro @e_58_92 (And.intro @e_58_93 (And.intro @e_58_96 (And.intro @e_58_97 (And.intro @e_58_100 (And.intro @e_58_101 (And.intro @e_58_102 (And.intro @e_58_105 (And.intro @e_58_106 (And.intro @e_58_109 (And.intro @e_58_110 (@e_58_113)))))))))))))))))))))))))))))))))))))))))))))))))))))))))))
/-! ProvenRows$Plans.byteAt(I)I -/
theorem c_59_0 : q_code 59 0 = (.iload_n 1, 1, 0, 0, 0, 0, 0) := by decide +kernel
theorem e_59_0 (d : Nat) (a : Int) (z0 : q_V) (st : List q_V) (v : q_H) (G : q_Gr) (Q : q_V → q_H → q_Gr → Prop) : q_wp d 59 0 [z0, .inl a] st v G Q = q_wp d 59 1 [z0, .inl a] (.inl a :: st) v G Q := q_w_iload_n c_59_0 rfl
theorem c_59_1 : q_code 59 1 = (.aload_n 0, 1, 0, 0, 0, 0, 0) := by decide +kernel
theorem e_59_1 (d : Nat) (a : Option Nat) (z1 : q_V) (st : List q_V) (v : q_H) (G : q_Gr) (Q : q_V → q_H → q_Gr → Prop) : q_wp d 59 1 [.inr (.inr (.inl a)), z1] st v G Q = q_wp d 59 2 [.inr (.inr (.inl a)), z1] (.inr (.inr (.inl a)) :: st) v G Q := q_w_aload_n c_59_1 rfl
theorem c_59_2 : q_code 59 2 = (.getfield 24, 3, 4, 1, 0, 112, 0) := by decide +kernel
theorem e_59_2 (d : Nat) (a : Nat) (z0 z1 : q_V) (st : List q_V) (v : q_H) (G : q_Gr) (Q : q_V → q_H → q_Gr → Prop) : q_wp d 59 2 [z0, z1] (.inr (.inr (.inl (some a))) :: st) v G Q = (((G.2.1 a).1 = 4) ∧ q_wp d 59 5 [z0, z1] (.inl (v a 1) :: st) v G Q) := q_w_getI c_59_2
theorem c_59_5 : q_code 59 5 = (.invokestatic 31, 3, 144, 2, 1, 14, 1) := by decide +kernel
theorem e_59_5 (d : Nat) (x0 x1 : q_V) (z0 z1 : q_V) (v : q_H) (G : q_Gr) (Q : q_V → q_H → q_Gr → Prop) : q_wp d 59 5 [z0, z1] [x1, x0] v G Q = q_call d 144 [x0, x1] v G (fun r v G => q_wp d 59 8 [z0, z1] (q_push r []) v G Q) := q_wp_ca (m2 := 144) (k := 2) (as := [x0, x1]) (rest := []) (congrArg q_kind c_59_5) (congrArg (fun w => w.2.2.1) c_59_5) (congrArg (fun w => w.2.2.2.1) c_59_5) rfl (Nat.le_of_ble_eq_true rfl) rfl
theorem c_59_8 : q_code 59 8 = (.ifCond .eq 12, 3, 0, 0, 0, 0, 0) := by decide +kernel
theorem e_59_8 (d : Nat) (a : Int) (z0 z1 : q_V) (st : List q_V) (v : q_H) (G : q_Gr) (Q : q_V → q_H → q_Gr → Prop) : q_wp d 59 8 [z0, z1] (.inl a :: st) v G Q = ((q_inR a) ∧ if a = 0 then q_wp d 59 20 [z0, z1] st v G Q else q_wp d 59 11 [z0, z1] st v G Q) := q_w_if_eq c_59_8 (by decide)
theorem c_59_11 : q_code 59 11 = (.aload_n 0, 1, 0, 0, 0, 0, 0) := by decide +kernel
theorem e_59_11 (d : Nat) (a : Option Nat) (z1 : q_V) (st : List q_V) (v : q_H) (G : q_Gr) (Q : q_V → q_H → q_Gr → Prop) : q_wp d 59 11 [.inr (.inr (.inl a)), z1] st v G Q = q_wp d 59 12 [.inr (.inr (.inl a)), z1] (.inr (.inr (.inl a)) :: st) v G Q := q_w_aload_n c_59_11 rfl
theorem c_59_12 : q_code 59 12 = (.getfield 11, 3, 4, 0, 1, 111, 0) := by decide +kernel
theorem e_59_12 (d : Nat) (a : Nat) (z0 z1 : q_V) (st : List q_V) (v : q_H) (G : q_Gr) (Q : q_V → q_H → q_Gr → Prop) : q_wp d 59 12 [z0, z1] (.inr (.inr (.inl (some a))) :: st) v G Q = (((G.2.1 a).1 = 4) ∧ q_wp d 59 15 [z0, z1] (.inr (.inr (.inl (G.1 a 0))) :: st) v G Q) := q_w_getP c_59_12
theorem c_59_15 : q_code 59 15 = (.iload_n 1, 1, 0, 0, 0, 0, 0) := by decide +kernel
theorem e_59_15 (d : Nat) (a : Int) (z0 : q_V) (st : List q_V) (v : q_H) (G : q_Gr) (Q : q_V → q_H → q_Gr → Prop) : q_wp d 59 15 [z0, .inl a] st v G Q = q_wp d 59 16 [z0, .inl a] (.inl a :: st) v G Q := q_w_iload_n c_59_15 rfl
theorem c_59_16 : q_code 59 16 = (.iaload, 1, 0, 0, 0, 0, 0) := by decide +kernel
theorem e_59_16 (d : Nat) (a : Nat) (i : Int) (z0 z1 : q_V) (st : List q_V) (v : q_H) (G : q_Gr) (Q : q_V → q_H → q_Gr → Prop) : q_wp d 59 16 [z0, z1] (.inl i :: .inr (.inr (.inl (some a))) :: st) v G Q = (((G.2.1 a).1 = 20 ∧ 0 ≤ i ∧ i < (G.2.1 a).2) ∧ q_wp d 59 17 [z0, z1] (.inl (v a i.toNat) :: st) v G Q) := q_w_iald c_59_16
theorem c_59_17 : q_code 59 17 = (.goto 4, 3, 0, 0, 0, 0, 0) := by decide +kernel
theorem e_59_17 (d : Nat)  (z0 z1 : q_V) (st : List q_V) (v : q_H) (G : q_Gr) (Q : q_V → q_H → q_Gr → Prop) : q_wp d 59 17 [z0, z1] st v G Q = q_wp d 59 21 [z0, z1] st v G Q := q_w_goto c_59_17 (by decide)
theorem c_59_20 : q_code 59 20 = (.iconst 0, 1, 0, 0, 0, 0, 0) := by decide +kernel
theorem e_59_20 (d : Nat)  (z0 z1 : q_V) (st : List q_V) (v : q_H) (G : q_Gr) (Q : q_V → q_H → q_Gr → Prop) : q_wp d 59 20 [z0, z1] st v G Q = q_wp d 59 21 [z0, z1] (.inl 0 :: st) v G Q := q_w_iconst c_59_20
theorem c_59_21 : q_code 59 21 = (.ireturn, 1, 0, 0, 0, 0, 0) := by decide +kernel
theorem e_59_21 (d : Nat) (a : Int) (z0 z1 : q_V) (v : q_H) (G : q_Gr) (Q : q_V → q_H → q_Gr → Prop) : q_wp d 59 21 [z0, z1] [.inl a] v G Q = Q (.inl a) v G := q_w_ireturn c_59_21 rfl
theorem e_59 (d : Nat) (a0 : Nat) (a1 : Int) (v : q_H) (G : q_Gr) (Q : q_V → q_H → q_Gr → Prop) : q_call (d + 1) 59 [.inr (.inr (.inl (some a0))), .inl a1] v G Q = ((G.2.1 a0).1 = 4 ∧ q_wp d 59 0 [.inr (.inr (.inl (some a0))), .inl a1] [] v G Q) := by
  rw [q_call_in (by decide) (Nat.le_of_ble_eq_true rfl) rfl]
  exact congrArg (· ∧ _) (propext beq_iff_eq)
/-- all but the heads of loops: [] -/
def E59 := And.intro @e_59 (And.intro @e_59_0 (And.intro @e_59_1 (And.intro @e_59_2 (And.intro @e_59_5 (And.intro @e_59_8 (And.intro @e_59_11 (And.intro @e_59_12 (And.intro @e_59_15 (And.intro @e_59_16 (And.intro @e_59_17 (And.intro @e_59_20 (@e_59_21))))))))))))
/-! ProvenRows$Plans.isLetter(I)Z -/
theorem c_60_0 : q_code 60 0 = (.iload_n 0, 1, 0, 0, 0, 0, 0) := by decide +kernel
theorem e_60_0 (d : Nat) (a : Int) (st : List q_V) (v : q_H) (G : q_Gr) (Q : q_V → q_H → q_Gr → Prop) : q_wp d 60 0 [.inl a] st v G Q = q_wp d 60 1 [.inl a] (.inl a :: st) v G Q := q_w_iload_n c_60_0 rfl
theorem c_60_1 : q_code 60 1 = (.bipush 97, 2, 0, 0, 0, 0, 0) := by decide +kernel
theorem e_60_1 (d : Nat)  (z0 : q_V) (st : List q_V) (v : q_H) (G : q_Gr) (Q : q_V → q_H → q_Gr → Prop) : q_wp d 60 1 [z0] st v G Q = q_wp d 60 3 [z0] (.inl 97 :: st) v G Q := (q_w_bipush c_60_1).trans (by simp only [show ((-128 : Int) ≤ 97 ∧ (97 : Int) ≤ 127) = True by decide, true_and])
theorem c_60_3 : q_code 60 3 = (.if_icmp .lt 13, 3, 0, 0, 0, 0, 0) := by decide +kernel
theorem e_60_3 (d : Nat) (a b : Int) (z0 : q_V) (st : List q_V) (v : q_H) (G : q_Gr) (Q : q_V → q_H → q_Gr → Prop) : q_wp d 60 3 [z0] (.inl b :: .inl a :: st) v G Q = ((q_inR a ∧ q_inR b) ∧ if a < b then q_wp d 60 16 [z0] st v G Q else q_wp d 60 6 [z0] st v G Q) := q_w_icmp_lt c_60_3 (by decide)
theorem c_60_6 : q_code 60 6 = (.iload_n 0, 1, 0, 0, 0, 0, 0) := by decide +kernel
theorem e_60_6 (d : Nat) (a : Int) (st : List q_V) (v : q_H) (G : q_Gr) (Q : q_V → q_H → q_Gr → Prop) : q_wp d 60 6 [.inl a] st v G Q = q_wp d 60 7 [.inl a] (.inl a :: st) v G Q := q_w_iload_n c_60_6 rfl
theorem c_60_7 : q_code 60 7 = (.bipush 122, 2, 0, 0, 0, 0, 0) := by decide +kernel
theorem e_60_7 (d : Nat)  (z0 : q_V) (st : List q_V) (v : q_H) (G : q_Gr) (Q : q_V → q_H → q_Gr → Prop) : q_wp d 60 7 [z0] st v G Q = q_wp d 60 9 [z0] (.inl 122 :: st) v G Q := (q_w_bipush c_60_7).trans (by simp only [show ((-128 : Int) ≤ 122 ∧ (122 : Int) ≤ 127) = True by decide, true_and])
theorem c_60_9 : q_code 60 9 = (.if_icmp .gt 7, 3, 0, 0, 0, 0, 0) := by decide +kernel
theorem e_60_9 (d : Nat) (a b : Int) (z0 : q_V) (st : List q_V) (v : q_H) (G : q_Gr) (Q : q_V → q_H → q_Gr → Prop) : q_wp d 60 9 [z0] (.inl b :: .inl a :: st) v G Q = ((q_inR a ∧ q_inR b) ∧ if b < a then q_wp d 60 16 [z0] st v G Q else q_wp d 60 12 [z0] st v G Q) := q_w_icmp_gt c_60_9 (by decide)
theorem c_60_12 : q_code 60 12 = (.iconst 1, 1, 0, 0, 0, 0, 0) := by decide +kernel
theorem e_60_12 (d : Nat)  (z0 : q_V) (st : List q_V) (v : q_H) (G : q_Gr) (Q : q_V → q_H → q_Gr → Prop) : q_wp d 60 12 [z0] st v G Q = q_wp d 60 13 [z0] (.inl 1 :: st) v G Q := q_w_iconst c_60_12
theorem c_60_13 : q_code 60 13 = (.goto 4, 3, 0, 0, 0, 0, 0) := by decide +kernel
theorem e_60_13 (d : Nat)  (z0 : q_V) (st : List q_V) (v : q_H) (G : q_Gr) (Q : q_V → q_H → q_Gr → Prop) : q_wp d 60 13 [z0] st v G Q = q_wp d 60 17 [z0] st v G Q := q_w_goto c_60_13 (by decide)
theorem c_60_16 : q_code 60 16 = (.iconst 0, 1, 0, 0, 0, 0, 0) := by decide +kernel
theorem e_60_16 (d : Nat)  (z0 : q_V) (st : List q_V) (v : q_H) (G : q_Gr) (Q : q_V → q_H → q_Gr → Prop) : q_wp d 60 16 [z0] st v G Q = q_wp d 60 17 [z0] (.inl 0 :: st) v G Q := q_w_iconst c_60_16
theorem c_60_17 : q_code 60 17 = (.ireturn, 1, 0, 0, 0, 0, 0) := by decide +kernel
theorem e_60_17 (d : Nat) (a : Int) (z0 : q_V) (v : q_H) (G : q_Gr) (Q : q_V → q_H → q_Gr → Prop) : q_wp d 60 17 [z0] [.inl a] v G Q = ((0 ≤ a ∧ a ≤ 1) ∧ Q (.inl a) v G) := q_w_zreturn c_60_17 rfl
theorem e_60 (d : Nat) (a0 : Int) (v : q_H) (G : q_Gr) (Q : q_V → q_H → q_Gr → Prop) : q_call (d + 1) 60 [.inl a0] v G Q = q_wp d 60 0 [.inl a0] [] v G Q := by
  rw [q_call_in (by decide) (Nat.le_of_ble_eq_true rfl) rfl]
  show (true = true ∧ _) = _
  simp only [true_and]
  rfl
/-- all but the heads of loops: [] -/
def E60 := And.intro @e_60 (And.intro @e_60_0 (And.intro @e_60_1 (And.intro @e_60_3 (And.intro @e_60_6 (And.intro @e_60_7 (And.intro @e_60_9 (And.intro @e_60_12 (And.intro @e_60_13 (And.intro @e_60_16 (@e_60_17))))))))))
/-! ProvenRows$Plans.isFigure(I)Z -/
theorem c_61_0 : q_code 61 0 = (.iload_n 0, 1, 0, 0, 0, 0, 0) := by decide +kernel
theorem e_61_0 (d : Nat) (a : Int) (st : List q_V) (v : q_H) (G : q_Gr) (Q : q_V → q_H → q_Gr → Prop) : q_wp d 61 0 [.inl a] st v G Q = q_wp d 61 1 [.inl a] (.inl a :: st) v G Q := q_w_iload_n c_61_0 rfl
theorem c_61_1 : q_code 61 1 = (.bipush 48, 2, 0, 0, 0, 0, 0) := by decide +kernel
theorem e_61_1 (d : Nat)  (z0 : q_V) (st : List q_V) (v : q_H) (G : q_Gr) (Q : q_V → q_H → q_Gr → Prop) : q_wp d 61 1 [z0] st v G Q = q_wp d 61 3 [z0] (.inl 48 :: st) v G Q := (q_w_bipush c_61_1).trans (by simp only [show ((-128 : Int) ≤ 48 ∧ (48 : Int) ≤ 127) = True by decide, true_and])
theorem c_61_3 : q_code 61 3 = (.if_icmp .lt 13, 3, 0, 0, 0, 0, 0) := by decide +kernel
theorem e_61_3 (d : Nat) (a b : Int) (z0 : q_V) (st : List q_V) (v : q_H) (G : q_Gr) (Q : q_V → q_H → q_Gr → Prop) : q_wp d 61 3 [z0] (.inl b :: .inl a :: st) v G Q = ((q_inR a ∧ q_inR b) ∧ if a < b then q_wp d 61 16 [z0] st v G Q else q_wp d 61 6 [z0] st v G Q) := q_w_icmp_lt c_61_3 (by decide)
theorem c_61_6 : q_code 61 6 = (.iload_n 0, 1, 0, 0, 0, 0, 0) := by decide +kernel
theorem e_61_6 (d : Nat) (a : Int) (st : List q_V) (v : q_H) (G : q_Gr) (Q : q_V → q_H → q_Gr → Prop) : q_wp d 61 6 [.inl a] st v G Q = q_wp d 61 7 [.inl a] (.inl a :: st) v G Q := q_w_iload_n c_61_6 rfl
theorem c_61_7 : q_code 61 7 = (.bipush 57, 2, 0, 0, 0, 0, 0) := by decide +kernel
theorem e_61_7 (d : Nat)  (z0 : q_V) (st : List q_V) (v : q_H) (G : q_Gr) (Q : q_V → q_H → q_Gr → Prop) : q_wp d 61 7 [z0] st v G Q = q_wp d 61 9 [z0] (.inl 57 :: st) v G Q := (q_w_bipush c_61_7).trans (by simp only [show ((-128 : Int) ≤ 57 ∧ (57 : Int) ≤ 127) = True by decide, true_and])
theorem c_61_9 : q_code 61 9 = (.if_icmp .gt 7, 3, 0, 0, 0, 0, 0) := by decide +kernel
theorem e_61_9 (d : Nat) (a b : Int) (z0 : q_V) (st : List q_V) (v : q_H) (G : q_Gr) (Q : q_V → q_H → q_Gr → Prop) : q_wp d 61 9 [z0] (.inl b :: .inl a :: st) v G Q = ((q_inR a ∧ q_inR b) ∧ if b < a then q_wp d 61 16 [z0] st v G Q else q_wp d 61 12 [z0] st v G Q) := q_w_icmp_gt c_61_9 (by decide)
theorem c_61_12 : q_code 61 12 = (.iconst 1, 1, 0, 0, 0, 0, 0) := by decide +kernel
theorem e_61_12 (d : Nat)  (z0 : q_V) (st : List q_V) (v : q_H) (G : q_Gr) (Q : q_V → q_H → q_Gr → Prop) : q_wp d 61 12 [z0] st v G Q = q_wp d 61 13 [z0] (.inl 1 :: st) v G Q := q_w_iconst c_61_12
theorem c_61_13 : q_code 61 13 = (.goto 4, 3, 0, 0, 0, 0, 0) := by decide +kernel
theorem e_61_13 (d : Nat)  (z0 : q_V) (st : List q_V) (v : q_H) (G : q_Gr) (Q : q_V → q_H → q_Gr → Prop) : q_wp d 61 13 [z0] st v G Q = q_wp d 61 17 [z0] st v G Q := q_w_goto c_61_13 (by decide)
theorem c_61_16 : q_code 61 16 = (.iconst 0, 1, 0, 0, 0, 0, 0) := by decide +kernel
theorem e_61_16 (d : Nat)  (z0 : q_V) (st : List q_V) (v : q_H) (G : q_Gr) (Q : q_V → q_H → q_Gr → Prop) : q_wp d 61 16 [z0] st v G Q = q_wp d 61 17 [z0] (.inl 0 :: st) v G Q := q_w_iconst c_61_16
theorem c_61_17 : q_code 61 17 = (.ireturn, 1, 0, 0, 0, 0, 0) := by decide +kernel
theorem e_61_17 (d : Nat) (a : Int) (z0 : q_V) (v : q_H) (G : q_Gr) (Q : q_V → q_H → q_Gr → Prop) : q_wp d 61 17 [z0] [.inl a] v G Q = ((0 ≤ a ∧ a ≤ 1) ∧ Q (.inl a) v G) := q_w_zreturn c_61_17 rfl
theorem e_61 (d : Nat) (a0 : Int) (v : q_H) (G : q_Gr) (Q : q_V → q_H → q_Gr → Prop) : q_call (d + 1) 61 [.inl a0] v G Q = q_wp d 61 0 [.inl a0] [] v G Q := by
  rw [q_call_in (by decide) (Nat.le_of_ble_eq_true rfl) rfl]
  show (true = true ∧ _) = _
  simp only [true_and]
  rfl
/-- all but the heads of loops: [] -/
def E61 := And.intro @e_61 (And.intro @e_61_0 (And.intro @e_61_1 (And.intro @e_61_3 (And.intro @e_61_6 (And.intro @e_61_7 (And.intro @e_61_9 (And.intro @e_61_12 (And.intro @e_61_13 (And.intro @e_61_16 (@e_61_17))))))))))
/-! ProvenRows$Plans.wordOfToken()I -/
theorem c_62_0 : q_code 62 0 = (.iconst 0, 1, 0, 0, 0, 0, 0) := by decide +kernel
theorem e_62_0 (d : Nat)  (z0 z1 : q_V) (st : List q_V) (v : q_H) (G : q_Gr) (Q : q_V → q_H → q_Gr → Prop) : q_wp d 62 0 [z0, z1] st v G Q = q_wp d 62 1 [z0, z1] (.inl 0 :: st) v G Q := q_w_iconst c_62_0
theorem c_62_1 : q_code 62 1 = (.istore_n 1, 1, 0, 0, 0, 0, 0) := by decide +kernel
theorem e_62_1 (d : Nat) (a : Int) (z0 z1 : q_V) (st : List q_V) (v : q_H) (G : q_Gr) (Q : q_V → q_H → q_Gr → Prop) : q_wp d 62 1 [z0, z1] (.inl a :: st) v G Q = q_wp d 62 2 [z0, .inl a] st v G Q := q_w_istore_n c_62_1
theorem c_62_2 : q_code 62 2 = (.iload_n 1, 1, 0, 0, 0, 0, 0) := by decide +kernel
theorem e_62_2 (d : Nat) (a : Int) (z0 : q_V) (st : List q_V) (v : q_H) (G : q_Gr) (Q : q_V → q_H → q_Gr → Prop) : q_wp d 62 2 [z0, .inl a] st v G Q = q_wp d 62 3 [z0, .inl a] (.inl a :: st) v G Q := q_w_iload_n c_62_2 rfl
theorem c_62_3 : q_code 62 3 = (.bipush 6, 2, 0, 0, 0, 0, 0) := by decide +kernel
theorem e_62_3 (d : Nat)  (z0 z1 : q_V) (st : List q_V) (v : q_H) (G : q_Gr) (Q : q_V → q_H → q_Gr → Prop) : q_wp d 62 3 [z0, z1] st v G Q = q_wp d 62 5 [z0, z1] (.inl 6 :: st) v G Q := (q_w_bipush c_62_3).trans (by simp only [show ((-128 : Int) ≤ 6 ∧ (6 : Int) ≤ 127) = True by decide, true_and])
theorem c_62_5 : q_code 62 5 = (.if_icmp .gt 22, 3, 0, 0, 0, 0, 0) := by decide +kernel
theorem e_62_5 (d : Nat) (a b : Int) (z0 z1 : q_V) (st : List q_V) (v : q_H) (G : q_Gr) (Q : q_V → q_H → q_Gr → Prop) : q_wp d 62 5 [z0, z1] (.inl b :: .inl a :: st) v G Q = ((q_inR a ∧ q_inR b) ∧ if b < a then q_wp d 62 27 [z0, z1] st v G Q else q_wp d 62 8 [z0, z1] st v G Q) := q_w_icmp_gt c_62_5 (by decide)
theorem c_62_8 : q_code 62 8 = (.aload_n 0, 1, 0, 0, 0, 0, 0) := by decide +kernel
theorem e_62_8 (d : Nat) (a : Option Nat) (z1 : q_V) (st : List q_V) (v : q_H) (G : q_Gr) (Q : q_V → q_H → q_Gr → Prop) : q_wp d 62 8 [.inr (.inr (.inl a)), z1] st v G Q = q_wp d 62 9 [.inr (.inr (.inl a)), z1] (.inr (.inr (.inl a)) :: st) v G Q := q_w_aload_n c_62_8 rfl
theorem c_62_9 : q_code 62 9 = (.iload_n 1, 1, 0, 0, 0, 0, 0) := by decide +kernel
theorem e_62_9 (d : Nat) (a : Int) (z0 : q_V) (st : List q_V) (v : q_H) (G : q_Gr) (Q : q_V → q_H → q_Gr → Prop) : q_wp d 62 9 [z0, .inl a] st v G Q = q_wp d 62 10 [z0, .inl a] (.inl a :: st) v G Q := q_w_iload_n c_62_9 rfl
theorem c_62_10 : q_code 62 10 = (.invokestatic 104, 3, 63, 1, 0, 531, 3) := by decide +kernel
theorem e_62_10 (d : Nat) (x0 y0 : q_V) (z0 z1 : q_V) (v : q_H) (G : q_Gr) (Q : q_V → q_H → q_Gr → Prop) : q_wp d 62 10 [z0, z1] [x0, y0] v G Q = q_call d 63 [x0] v G (fun r v G => q_wp d 62 13 [z0, z1] (q_push r [y0]) v G Q) := q_wp_ca (m2 := 63) (k := 1) (as := [x0]) (rest := [y0]) (congrArg q_kind c_62_10) (congrArg (fun w => w.2.2.1) c_62_10) (congrArg (fun w => w.2.2.2.1) c_62_10) rfl (Nat.le_of_ble_eq_true rfl) rfl
theorem c_62_13 : q_code 62 13 = (.invokevirtual 108, 3, 64, 2, 0, 534, 1) := by decide +kernel
theorem e_62_13 (d : Nat) (x0 x1 : q_V) (z0 z1 : q_V) (v : q_H) (G : q_Gr) (Q : q_V → q_H → q_Gr → Prop) : q_wp d 62 13 [z0, z1] [x1, x0] v G Q = q_call d 64 [x0, x1] v G (fun r v G => q_wp d 62 16 [z0, z1] (q_push r []) v G Q) := q_wp_ca (m2 := 64) (k := 2) (as := [x0, x1]) (rest := []) (congrArg q_kind c_62_13) (congrArg (fun w => w.2.2.1) c_62_13) (congrArg (fun w => w.2.2.2.1) c_62_13) rfl (Nat.le_of_ble_eq_true rfl) rfl
theorem c_62_16 : q_code 62 16 = (.ifCond .eq 5, 3, 0, 0, 0, 0, 0) := by decide +kernel
theorem e_62_16 (d : Nat) (a : Int) (z0 z1 : q_V) (st : List q_V) (v : q_H) (G : q_Gr) (Q : q_V → q_H → q_Gr → Prop) : q_wp d 62 16 [z0, z1] (.inl a :: st) v G Q = ((q_inR a) ∧ if a = 0 then q_wp d 62 21 [z0, z1] st v G Q else q_wp d 62 19 [z0, z1] st v G Q) := q_w_if_eq c_62_16 (by decide)
theorem c_62_19 : q_code 62 19 = (.iload_n 1, 1, 0, 0, 0, 0, 0) := by decide +kernel
theorem e_62_19 (d : Nat) (a : Int) (z0 : q_V) (st : List q_V) (v : q_H) (G : q_Gr) (Q : q_V → q_H → q_Gr → Prop) : q_wp d 62 19 [z0, .inl a] st v G Q = q_wp d 62 20 [z0, .inl a] (.inl a :: st) v G Q := q_w_iload_n c_62_19 rfl
theorem c_62_20 : q_code 62 20 = (.ireturn, 1, 0, 0, 0, 0, 0) := by decide +kernel
theorem e_62_20 (d : Nat) (a : Int) (z0 z1 : q_V) (v : q_H) (G : q_Gr) (Q : q_V → q_H → q_Gr → Prop) : q_wp d 62 20 [z0, z1] [.inl a] v G Q = Q (.inl a) v G := q_w_ireturn c_62_20 rfl
theorem c_62_21 : q_code 62 21 = (.iinc 1 1, 3, 0, 0, 0, 0, 0) := by decide +kernel
theorem e_62_21 (d : Nat) (a : Int) (z0 : q_V) (st : List q_V) (v : q_H) (G : q_Gr) (Q : q_V → q_H → q_Gr → Prop) : q_wp d 62 21 [z0, .inl a] st v G Q = q_wp d 62 24 [z0, .inl (a + 1)] st v G Q := q_w_iinc c_62_21 rfl
theorem c_62_24 : q_code 62 24 = (.goto (-22), 3, 0, 0, 0, 0, 0) := by decide +kernel
theorem e_62_24 (d : Nat)  (z0 z1 : q_V) (st : List q_V) (v : q_H) (G : q_Gr) (Q : q_V → q_H → q_Gr → Prop) : q_wp d 62 24 [z0, z1] st v G Q = q_wp d 62 2 [z0, z1] st v G Q := q_w_goto c_62_24 (by decide)
theorem c_62_27 : q_code 62 27 = (.iconst (-1), 1, 0, 0, 0, 0, 0) := by decide +kernel
theorem e_62_27 (d : Nat)  (z0 z1 : q_V) (st : List q_V) (v : q_H) (G : q_Gr) (Q : q_V → q_H → q_Gr → Prop) : q_wp d 62 27 [z0, z1] st v G Q = q_wp d 62 28 [z0, z1] (.inl (-1) :: st) v G Q := q_w_iconst c_62_27
theorem c_62_28 : q_code 62 28 = (.ireturn, 1, 0, 0, 0, 0, 0) := by decide +kernel
theorem e_62_28 (d : Nat) (a : Int) (z0 z1 : q_V) (v : q_H) (G : q_Gr) (Q : q_V → q_H → q_Gr → Prop) : q_wp d 62 28 [z0, z1] [.inl a] v G Q = Q (.inl a) v G := q_w_ireturn c_62_28 rfl
theorem e_62 (d : Nat) (a0 : Nat) (v : q_H) (G : q_Gr) (Q : q_V → q_H → q_Gr → Prop) : q_call (d + 1) 62 [.inr (.inr (.inl (some a0)))] v G Q = ((G.2.1 a0).1 = 4 ∧ q_wp d 62 0 [.inr (.inr (.inl (some a0))), .inr (.inr (.inr ()))] [] v G Q) := by
  rw [q_call_in (by decide) (Nat.le_of_ble_eq_true rfl) rfl]
  exact congrArg (· ∧ _) (propext beq_iff_eq)
/-- all but the heads of loops: [2] -/
def E62 := And.intro @e_62 (And.intro @e_62_0 (And.intro @e_62_1 (And.intro @e_62_3 (And.intro @e_62_5 (And.intro @e_62_8 (And.intro @e_62_9 (And.intro @e_62_10 (And.intro @e_62_13 (And.intro @e_62_16 (And.intro @e_62_19 (And.intro @e_62_20 (And.intro @e_62_21 (And.intro @e_62_24 (And.intro @e_62_27 (@e_62_28)))))))))))))))
/-! ProvenRows$Plans.textOf(I)Ljava/lang/String; -/
theorem c_63_0 : q_code 63 0 = (.iload_n 0, 1, 0, 0, 0, 0, 0) := by decide +kernel
theorem e_63_0 (d : Nat) (a : Int) (st : List q_V) (v : q_H) (G : q_Gr) (Q : q_V → q_H → q_Gr → Prop) : q_wp d 63 0 [.inl a] st v G Q = q_wp d 63 1 [.inl a] (.inl a :: st) v G Q := q_w_iload_n c_63_0 rfl
theorem c_63_1 : q_code 63 1 = (.tableswitch 57 0 5 #[39, 42, 45, 48, 51, 54], 39, 0, 0, 0, 0, 0) := by decide +kernel
theorem e_63_1 (d : Nat) (a : Int) (z0 : q_V) (st : List q_V) (v : q_H) (G : q_Gr) (Q : q_V → q_H → q_Gr → Prop) : q_wp d 63 1 [z0] (.inl a :: st) v G Q = (q_inR a ∧ if a = 0 then q_wp d 63 40 [z0] st v G Q else if a = 1 then q_wp d 63 43 [z0] st v G Q else if a = 2 then q_wp d 63 46 [z0] st v G Q else if a = 3 then q_wp d 63 49 [z0] st v G Q else if a = 4 then q_wp d 63 52 [z0] st v G Q else if a = 5 then q_wp d 63 55 [z0] st v G Q else q_wp d 63 58 [z0] st v G Q) := by
  rw [q_w_table c_63_1]
  congr 1
  by_cases hr : a < 0 ∨ 5 < a
  · simp only [if_pos hr, q_jmp]
    rw [if_pos (by decide)]
    rw [if_neg (show ¬ a = 0 by omega)]
    rw [if_neg (show ¬ a = 1 by omega)]
    rw [if_neg (show ¬ a = 2 by omega)]
    rw [if_neg (show ¬ a = 3 by omega)]
    rw [if_neg (show ¬ a = 4 by omega)]
    rw [if_neg (show ¬ a = 5 by omega)]
    simp
  · have : a = 0 ∨ a = 1 ∨ a = 2 ∨ a = 3 ∨ a = 4 ∨ a = 5 := by omega
    rcases this with rfl | rfl | rfl | rfl | rfl | rfl
    all_goals simp [q_jmp]
theorem c_63_40 : q_code 63 40 = (.ldc 112, 2, 1, 5, 0, 0, 0) := by decide +kernel
theorem e_63_40 (d : Nat)  (z0 : q_V) (st : List q_V) (v : q_H) (G : q_Gr) (Q : q_V → q_H → q_Gr → Prop) : q_wp d 63 40 [z0] st v G Q = q_wp d 63 42 [z0] (.inr (.inr (.inl (some 5))) :: st) v G Q := q_w_ldcs c_63_40
theorem c_63_42 : q_code 63 42 = (.areturn, 1, 0, 0, 0, 0, 0) := by decide +kernel
theorem e_63_42 (d : Nat) (a : Option Nat) (z0 : q_V) (v : q_H) (G : q_Gr) (Q : q_V → q_H → q_Gr → Prop) : q_wp d 63 42 [z0] [.inr (.inr (.inl a))] v G Q = Q (.inr (.inr (.inl a))) v G := q_w_areturn c_63_42 ⟨_, rfl⟩
theorem c_63_43 : q_code 63 43 = (.ldc 114, 2, 1, 6, 0, 0, 0) := by decide +kernel
theorem e_63_43 (d : Nat)  (z0 : q_V) (st : List q_V) (v : q_H) (G : q_Gr) (Q : q_V → q_H → q_Gr → Prop) : q_wp d 63 43 [z0] st v G Q = q_wp d 63 45 [z0] (.inr (.inr (.inl (some 6))) :: st) v G Q := q_w_ldcs c_63_43
theorem c_63_45 : q_code 63 45 = (.areturn, 1, 0, 0, 0, 0, 0) := by decide +kernel
theorem e_63_45 (d : Nat) (a : Option Nat) (z0 : q_V) (v : q_H) (G : q_Gr) (Q : q_V → q_H → q_Gr → Prop) : q_wp d 63 45 [z0] [.inr (.inr (.inl a))] v G Q = Q (.inr (.inr (.inl a))) v G := q_w_areturn c_63_45 ⟨_, rfl⟩
theorem c_63_46 : q_code 63 46 = (.ldc 116, 2, 1, 7, 0, 0, 0) := by decide +kernel
theorem e_63_46 (d : Nat)  (z0 : q_V) (st : List q_V) (v : q_H) (G : q_Gr) (Q : q_V → q_H → q_Gr → Prop) : q_wp d 63 46 [z0] st v G Q = q_wp d 63 48 [z0] (.inr (.inr (.inl (some 7))) :: st) v G Q := q_w_ldcs c_63_46
theorem c_63_48 : q_code 63 48 = (.areturn, 1, 0, 0, 0, 0, 0) := by decide +kernel
theorem e_63_48 (d : Nat) (a : Option Nat) (z0 : q_V) (v : q_H) (G : q_Gr) (Q : q_V → q_H → q_Gr → Prop) : q_wp d 63 48 [z0] [.inr (.inr (.inl a))] v G Q = Q (.inr (.inr (.inl a))) v G := q_w_areturn c_63_48 ⟨_, rfl⟩
theorem c_63_49 : q_code 63 49 = (.ldc 118, 2, 1, 8, 0, 0, 0) := by decide +kernel
theorem e_63_49 (d : Nat)  (z0 : q_V) (st : List q_V) (v : q_H) (G : q_Gr) (Q : q_V → q_H → q_Gr → Prop) : q_wp d 63 49 [z0] st v G Q = q_wp d 63 51 [z0] (.inr (.inr (.inl (some 8))) :: st) v G Q := q_w_ldcs c_63_49
theorem c_63_51 : q_code 63 51 = (.areturn, 1, 0, 0, 0, 0, 0) := by decide +kernel
theorem e_63_51 (d : Nat) (a : Option Nat) (z0 : q_V) (v : q_H) (G : q_Gr) (Q : q_V → q_H → q_Gr → Prop) : q_wp d 63 51 [z0] [.inr (.inr (.inl a))] v G Q = Q (.inr (.inr (.inl a))) v G := q_w_areturn c_63_51 ⟨_, rfl⟩
theorem c_63_52 : q_code 63 52 = (.ldc 120, 2, 1, 9, 0, 0, 0) := by decide +kernel
theorem e_63_52 (d : Nat)  (z0 : q_V) (st : List q_V) (v : q_H) (G : q_Gr) (Q : q_V → q_H → q_Gr → Prop) : q_wp d 63 52 [z0] st v G Q = q_wp d 63 54 [z0] (.inr (.inr (.inl (some 9))) :: st) v G Q := q_w_ldcs c_63_52
theorem c_63_54 : q_code 63 54 = (.areturn, 1, 0, 0, 0, 0, 0) := by decide +kernel
theorem e_63_54 (d : Nat) (a : Option Nat) (z0 : q_V) (v : q_H) (G : q_Gr) (Q : q_V → q_H → q_Gr → Prop) : q_wp d 63 54 [z0] [.inr (.inr (.inl a))] v G Q = Q (.inr (.inr (.inl a))) v G := q_w_areturn c_63_54 ⟨_, rfl⟩
theorem c_63_55 : q_code 63 55 = (.ldc 122, 2, 1, 10, 0, 0, 0) := by decide +kernel
theorem e_63_55 (d : Nat)  (z0 : q_V) (st : List q_V) (v : q_H) (G : q_Gr) (Q : q_V → q_H → q_Gr → Prop) : q_wp d 63 55 [z0] st v G Q = q_wp d 63 57 [z0] (.inr (.inr (.inl (some 10))) :: st) v G Q := q_w_ldcs c_63_55
theorem c_63_57 : q_code 63 57 = (.areturn, 1, 0, 0, 0, 0, 0) := by decide +kernel
theorem e_63_57 (d : Nat) (a : Option Nat) (z0 : q_V) (v : q_H) (G : q_Gr) (Q : q_V → q_H → q_Gr → Prop) : q_wp d 63 57 [z0] [.inr (.inr (.inl a))] v G Q = Q (.inr (.inr (.inl a))) v G := q_w_areturn c_63_57 ⟨_, rfl⟩
theorem c_63_58 : q_code 63 58 = (.ldc 124, 2, 1, 11, 0, 0, 0) := by decide +kernel
theorem e_63_58 (d : Nat)  (z0 : q_V) (st : List q_V) (v : q_H) (G : q_Gr) (Q : q_V → q_H → q_Gr → Prop) : q_wp d 63 58 [z0] st v G Q = q_wp d 63 60 [z0] (.inr (.inr (.inl (some 11))) :: st) v G Q := q_w_ldcs c_63_58
theorem c_63_60 : q_code 63 60 = (.areturn, 1, 0, 0, 0, 0, 0) := by decide +kernel
theorem e_63_60 (d : Nat) (a : Option Nat) (z0 : q_V) (v : q_H) (G : q_Gr) (Q : q_V → q_H → q_Gr → Prop) : q_wp d 63 60 [z0] [.inr (.inr (.inl a))] v G Q = Q (.inr (.inr (.inl a))) v G := q_w_areturn c_63_60 ⟨_, rfl⟩
theorem e_63 (d : Nat) (a0 : Int) (v : q_H) (G : q_Gr) (Q : q_V → q_H → q_Gr → Prop) : q_call (d + 1) 63 [.inl a0] v G Q = q_wp d 63 0 [.inl a0] [] v G Q := by
  rw [q_call_in (by decide) (Nat.le_of_ble_eq_true rfl) rfl]
  show (true = true ∧ _) = _
  simp only [true_and]
  rfl
/-- all but the heads of loops: [] -/
def E63 := And.intro @e_63 (And.intro @e_63_0 (And.intro @e_63_1 (And.intro @e_63_40 (And.intro @e_63_42 (And.intro @e_63_43 (And.intro @e_63_45 (And.intro @e_63_46 (And.intro @e_63_48 (And.intro @e_63_49 (And.intro @e_63_51 (And.intro @e_63_52 (And.intro @e_63_54 (And.intro @e_63_55 (And.intro @e_63_57 (And.intro @e_63_58 (@e_63_60))))))))))))))))
/-! ProvenRows$Plans.isTokenText(Ljava/lang/String;)Z -/
theorem c_64_0 : q_code 64 0 = (.aload_n 1, 1, 0, 0, 0, 0, 0) := by decide +kernel
theorem e_64_0 (d : Nat) (a : Option Nat) (z0 z2 z3 : q_V) (st : List q_V) (v : q_H) (G : q_Gr) (Q : q_V → q_H → q_Gr → Prop) : q_wp d 64 0 [z0, .inr (.inr (.inl a)), z2, z3] st v G Q = q_wp d 64 1 [z0, .inr (.inr (.inl a)), z2, z3] (.inr (.inr (.inl a)) :: st) v G Q := q_w_aload_n c_64_0 rfl
theorem c_64_1 : q_code 64 1 = (.invokevirtual 126, 3, 1002, 1, 0, 537, 1) := by decide +kernel
theorem e_64_1 (d : Nat) (x0 : q_V) (z0 z1 z2 z3 : q_V) (v : q_H) (G : q_Gr) (Q : q_V → q_H → q_Gr → Prop) : q_wp d 64 1 [z0, z1, z2, z3] [x0] v G Q = q_call d 1002 [x0] v G (fun r v G => q_wp d 64 4 [z0, z1, z2, z3] (q_push r []) v G Q) := q_wp_ca (m2 := 1002) (k := 1) (as := [x0]) (rest := []) (congrArg q_kind c_64_1) (congrArg (fun w => w.2.2.1) c_64_1) (congrArg (fun w => w.2.2.2.1) c_64_1) rfl (Nat.le_of_ble_eq_true rfl) rfl
theorem c_64_4 : q_code 64 4 = (.aload_n 0, 1, 0, 0, 0, 0, 0) := by decide +kernel
theorem e_64_4 (d : Nat) (a : Option Nat) (z1 z2 z3 : q_V) (st : List q_V) (v : q_H) (G : q_Gr) (Q : q_V → q_H → q_Gr → Prop) : q_wp d 64 4 [.inr (.inr (.inl a)), z1, z2, z3] st v G Q = q_wp d 64 5 [.inr (.inr (.inl a)), z1, z2, z3] (.inr (.inr (.inl a)) :: st) v G Q := q_w_aload_n c_64_4 rfl
theorem c_64_5 : q_code 64 5 = (.getfield 49, 3, 4, 6, 0, 117, 0) := by decide +kernel
theorem e_64_5 (d : Nat) (a : Nat) (z0 z1 z2 z3 : q_V) (st : List q_V) (v : q_H) (G : q_Gr) (Q : q_V → q_H → q_Gr → Prop) : q_wp d 64 5 [z0, z1, z2, z3] (.inr (.inr (.inl (some a))) :: st) v G Q = (((G.2.1 a).1 = 4) ∧ q_wp d 64 8 [z0, z1, z2, z3] (.inl (v a 6) :: st) v G Q) := q_w_getI c_64_5
theorem c_64_8 : q_code 64 8 = (.aload_n 0, 1, 0, 0, 0, 0, 0) := by decide +kernel
theorem e_64_8 (d : Nat) (a : Option Nat) (z1 z2 z3 : q_V) (st : List q_V) (v : q_H) (G : q_Gr) (Q : q_V → q_H → q_Gr → Prop) : q_wp d 64 8 [.inr (.inr (.inl a)), z1, z2, z3] st v G Q = q_wp d 64 9 [.inr (.inr (.inl a)), z1, z2, z3] (.inr (.inr (.inl a)) :: st) v G Q := q_w_aload_n c_64_8 rfl
theorem c_64_9 : q_code 64 9 = (.getfield 61, 3, 4, 5, 0, 116, 0) := by decide +kernel
theorem e_64_9 (d : Nat) (a : Nat) (z0 z1 z2 z3 : q_V) (st : List q_V) (v : q_H) (G : q_Gr) (Q : q_V → q_H → q_Gr → Prop) : q_wp d 64 9 [z0, z1, z2, z3] (.inr (.inr (.inl (some a))) :: st) v G Q = (((G.2.1 a).1 = 4) ∧ q_wp d 64 12 [z0, z1, z2, z3] (.inl (v a 5) :: st) v G Q) := q_w_getI c_64_9
theorem c_64_12 : q_code 64 12 = (.isub, 1, 0, 0, 0, 0, 0) := by decide +kernel
theorem e_64_12 (d : Nat) (a b : Int) (z0 z1 z2 z3 : q_V) (st : List q_V) (v : q_H) (G : q_Gr) (Q : q_V → q_H → q_Gr → Prop) : q_wp d 64 12 [z0, z1, z2, z3] (.inl b :: .inl a :: st) v G Q = q_wp d 64 13 [z0, z1, z2, z3] (.inl (a - b) :: st) v G Q := q_w_isub c_64_12
theorem c_64_13 : q_code 64 13 = (.if_icmp .ne 7, 3, 0, 0, 0, 0, 0) := by decide +kernel
theorem e_64_13 (d : Nat) (a b : Int) (z0 z1 z2 z3 : q_V) (st : List q_V) (v : q_H) (G : q_Gr) (Q : q_V → q_H → q_Gr → Prop) : q_wp d 64 13 [z0, z1, z2, z3] (.inl b :: .inl a :: st) v G Q = ((q_inR a ∧ q_inR b) ∧ if ¬ a = b then q_wp d 64 20 [z0, z1, z2, z3] st v G Q else q_wp d 64 16 [z0, z1, z2, z3] st v G Q) := q_w_icmp_ne c_64_13 (by decide)
theorem c_64_16 : q_code 64 16 = (.iconst 1, 1, 0, 0, 0, 0, 0) := by decide +kernel
theorem e_64_16 (d : Nat)  (z0 z1 z2 z3 : q_V) (st : List q_V) (v : q_H) (G : q_Gr) (Q : q_V → q_H → q_Gr → Prop) : q_wp d 64 16 [z0, z1, z2, z3] st v G Q = q_wp d 64 17 [z0, z1, z2, z3] (.inl 1 :: st) v G Q := q_w_iconst c_64_16
theorem c_64_17 : q_code 64 17 = (.goto 4, 3, 0, 0, 0, 0, 0) := by decide +kernel
theorem e_64_17 (d : Nat)  (z0 z1 z2 z3 : q_V) (st : List q_V) (v : q_H) (G : q_Gr) (Q : q_V → q_H → q_Gr → Prop) : q_wp d 64 17 [z0, z1, z2, z3] st v G Q = q_wp d 64 21 [z0, z1, z2, z3] st v G Q := q_w_goto c_64_17 (by decide)
theorem c_64_20 : q_code 64 20 = (.iconst 0, 1, 0, 0, 0, 0, 0) := by decide +kernel
theorem e_64_20 (d : Nat)  (z0 z1 z2 z3 : q_V) (st : List q_V) (v : q_H) (G : q_Gr) (Q : q_V → q_H → q_Gr → Prop) : q_wp d 64 20 [z0, z1, z2, z3] st v G Q = q_wp d 64 21 [z0, z1, z2, z3] (.inl 0 :: st) v G Q := q_w_iconst c_64_20
theorem c_64_21 : q_code 64 21 = (.istore_n 2, 1, 0, 0, 0, 0, 0) := by decide +kernel
theorem e_64_21 (d : Nat) (a : Int) (z0 z1 z2 z3 : q_V) (st : List q_V) (v : q_H) (G : q_Gr) (Q : q_V → q_H → q_Gr → Prop) : q_wp d 64 21 [z0, z1, z2, z3] (.inl a :: st) v G Q = q_wp d 64 22 [z0, z1, .inl a, z3] st v G Q := q_w_istore_n c_64_21
theorem c_64_22 : q_code 64 22 = (.iconst 0, 1, 0, 0, 0, 0, 0) := by decide +kernel
theorem e_64_22 (d : Nat)  (z0 z1 z2 z3 : q_V) (st : List q_V) (v : q_H) (G : q_Gr) (Q : q_V → q_H → q_Gr → Prop) : q_wp d 64 22 [z0, z1, z2, z3] st v G Q = q_wp d 64 23 [z0, z1, z2, z3] (.inl 0 :: st) v G Q := q_w_iconst c_64_22
theorem c_64_23 : q_code 64 23 = (.istore_n 3, 1, 0, 0, 0, 0, 0) := by decide +kernel
theorem e_64_23 (d : Nat) (a : Int) (z0 z1 z2 z3 : q_V) (st : List q_V) (v : q_H) (G : q_Gr) (Q : q_V → q_H → q_Gr → Prop) : q_wp d 64 23 [z0, z1, z2, z3] (.inl a :: st) v G Q = q_wp d 64 24 [z0, z1, z2, .inl a] st v G Q := q_w_istore_n c_64_23
theorem c_64_24 : q_code 64 24 = (.iload_n 3, 1, 0, 0, 0, 0, 0) := by decide +kernel
theorem e_64_24 (d : Nat) (a : Int) (z0 z1 z2 : q_V) (st : List q_V) (v : q_H) (G : q_Gr) (Q : q_V → q_H → q_Gr → Prop) : q_wp d 64 24 [z0, z1, z2, .inl a] st v G Q = q_wp d 64 25 [z0, z1, z2, .inl a] (.inl a :: st) v G Q := q_w_iload_n c_64_24 rfl
theorem c_64_25 : q_code 64 25 = (.aload_n 1, 1, 0, 0, 0, 0, 0) := by decide +kernel
theorem e_64_25 (d : Nat) (a : Option Nat) (z0 z2 z3 : q_V) (st : List q_V) (v : q_H) (G : q_Gr) (Q : q_V → q_H → q_Gr → Prop) : q_wp d 64 25 [z0, .inr (.inr (.inl a)), z2, z3] st v G Q = q_wp d 64 26 [z0, .inr (.inr (.inl a)), z2, z3] (.inr (.inr (.inl a)) :: st) v G Q := q_w_aload_n c_64_25 rfl
theorem c_64_26 : q_code 64 26 = (.invokevirtual 126, 3, 1002, 1, 0, 537, 1) := by decide +kernel
theorem e_64_26 (d : Nat) (x0 y0 : q_V) (z0 z1 z2 z3 : q_V) (v : q_H) (G : q_Gr) (Q : q_V → q_H → q_Gr → Prop) : q_wp d 64 26 [z0, z1, z2, z3] [x0, y0] v G Q = q_call d 1002 [x0] v G (fun r v G => q_wp d 64 29 [z0, z1, z2, z3] (q_push r [y0]) v G Q) := q_wp_ca (m2 := 1002) (k := 1) (as := [x0]) (rest := [y0]) (congrArg q_kind c_64_26) (congrArg (fun w => w.2.2.1) c_64_26) (congrArg (fun w => w.2.2.2.1) c_64_26) rfl (Nat.le_of_ble_eq_true rfl) rfl
theorem c_64_29 : q_code 64 29 = (.if_icmp .ge 37, 3, 0, 0, 0, 0, 0) := by decide +kernel
theorem e_64_29 (d : Nat) (a b : Int) (z0 z1 z2 z3 : q_V) (st : List q_V) (v : q_H) (G : q_Gr) (Q : q_V → q_H → q_Gr → Prop) : q_wp d 64 29 [z0, z1, z2, z3] (.inl b :: .inl a :: st) v G Q = ((q_inR a ∧ q_inR b) ∧ if b ≤ a then q_wp d 64 66 [z0, z1, z2, z3] st v G Q else q_wp d 64 32 [z0, z1, z2, z3] st v G Q) := q_w_icmp_ge c_64_29 (by decide)
theorem c_64_32 : q_code 64 32 = (.iload_n 2, 1, 0, 0, 0, 0, 0) := by decide +kernel
theorem e_64_32 (d : Nat) (a : Int) (z0 z1 z3 : q_V) (st : List q_V) (v : q_H) (G : q_Gr) (Q : q_V → q_H → q_Gr → Prop) : q_wp d 64 32 [z0, z1, .inl a, z3] st v G Q = q_wp d 64 33 [z0, z1, .inl a, z3] (.inl a :: st) v G Q := q_w_iload_n c_64_32 rfl
theorem c_64_33 : q_code 64 33 = (.ifCond .eq 33, 3, 0, 0, 0, 0, 0) := by decide +kernel
theorem e_64_33 (d : Nat) (a : Int) (z0 z1 z2 z3 : q_V) (st : List q_V) (v : q_H) (G : q_Gr) (Q : q_V → q_H → q_Gr → Prop) : q_wp d 64 33 [z0, z1, z2, z3] (.inl a :: st) v G Q = ((q_inR a) ∧ if a = 0 then q_wp d 64 66 [z0, z1, z2, z3] st v G Q else q_wp d 64 36 [z0, z1, z2, z3] st v G Q) := q_w_if_eq c_64_33 (by decide)
theorem c_64_36 : q_code 64 36 = (.aload_n 1, 1, 0, 0, 0, 0, 0) := by decide +kernel
theorem e_64_36 (d : Nat) (a : Option Nat) (z0 z2 z3 : q_V) (st : List q_V) (v : q_H) (G : q_Gr) (Q : q_V → q_H → q_Gr → Prop) : q_wp d 64 36 [z0, .inr (.inr (.inl a)), z2, z3] st v G Q = q_wp d 64 37 [z0, .inr (.inr (.inl a)), z2, z3] (.inr (.inr (.inl a)) :: st) v G Q := q_w_aload_n c_64_36 rfl
theorem c_64_37 : q_code 64 37 = (.iload_n 3, 1, 0, 0, 0, 0, 0) := by decide +kernel
theorem e_64_37 (d : Nat) (a : Int) (z0 z1 z2 : q_V) (st : List q_V) (v : q_H) (G : q_Gr) (Q : q_V → q_H → q_Gr → Prop) : q_wp d 64 37 [z0, z1, z2, .inl a] st v G Q = q_wp d 64 38 [z0, z1, z2, .inl a] (.inl a :: st) v G Q := q_w_iload_n c_64_37 rfl
theorem c_64_38 : q_code 64 38 = (.invokevirtual 131, 3, 1003, 2, 0, 546, 1) := by decide +kernel
theorem e_64_38 (d : Nat) (x0 x1 : q_V) (z0 z1 z2 z3 : q_V) (v : q_H) (G : q_Gr) (Q : q_V → q_H → q_Gr → Prop) : q_wp d 64 38 [z0, z1, z2, z3] [x1, x0] v G Q = q_call d 1003 [x0, x1] v G (fun r v G => q_wp d 64 41 [z0, z1, z2, z3] (q_push r []) v G Q) := q_wp_ca (m2 := 1003) (k := 2) (as := [x0, x1]) (rest := []) (congrArg q_kind c_64_38) (congrArg (fun w => w.2.2.1) c_64_38) (congrArg (fun w => w.2.2.2.1) c_64_38) rfl (Nat.le_of_ble_eq_true rfl) rfl
theorem c_64_41 : q_code 64 41 = (.aload_n 0, 1, 0, 0, 0, 0, 0) := by decide +kernel
theorem e_64_41 (d : Nat) (a : Option Nat) (z1 z2 z3 : q_V) (st : List q_V) (v : q_H) (G : q_Gr) (Q : q_V → q_H → q_Gr → Prop) : q_wp d 64 41 [.inr (.inr (.inl a)), z1, z2, z3] st v G Q = q_wp d 64 42 [.inr (.inr (.inl a)), z1, z2, z3] (.inr (.inr (.inl a)) :: st) v G Q := q_w_aload_n c_64_41 rfl
theorem c_64_42 : q_code 64 42 = (.aload_n 0, 1, 0, 0, 0, 0, 0) := by decide +kernel
theorem e_64_42 (d : Nat) (a : Option Nat) (z1 z2 z3 : q_V) (st : List q_V) (v : q_H) (G : q_Gr) (Q : q_V → q_H → q_Gr → Prop) : q_wp d 64 42 [.inr (.inr (.inl a)), z1, z2, z3] st v G Q = q_wp d 64 43 [.inr (.inr (.inl a)), z1, z2, z3] (.inr (.inr (.inl a)) :: st) v G Q := q_w_aload_n c_64_42 rfl
theorem c_64_43 : q_code 64 43 = (.getfield 61, 3, 4, 5, 0, 116, 0) := by decide +kernel
theorem e_64_43 (d : Nat) (a : Nat) (z0 z1 z2 z3 : q_V) (st : List q_V) (v : q_H) (G : q_Gr) (Q : q_V → q_H → q_Gr → Prop) : q_wp d 64 43 [z0, z1, z2, z3] (.inr (.inr (.inl (some a))) :: st) v G Q = (((G.2.1 a).1 = 4) ∧ q_wp d 64 46 [z0, z1, z2, z3] (.inl (v a 5) :: st) v G Q) := q_w_getI c_64_43
theorem c_64_46 : q_code 64 46 = (.iload_n 3, 1, 0, 0, 0, 0, 0) := by decide +kernel
theorem e_64_46 (d : Nat) (a : Int) (z0 z1 z2 : q_V) (st : List q_V) (v : q_H) (G : q_Gr) (Q : q_V → q_H → q_Gr → Prop) : q_wp d 64 46 [z0, z1, z2, .inl a] st v G Q = q_wp d 64 47 [z0, z1, z2, .inl a] (.inl a :: st) v G Q := q_w_iload_n c_64_46 rfl
theorem c_64_47 : q_code 64 47 = (.iadd, 1, 0, 0, 0, 0, 0) := by decide +kernel
theorem e_64_47 (d : Nat) (a b : Int) (z0 z1 z2 z3 : q_V) (st : List q_V) (v : q_H) (G : q_Gr) (Q : q_V → q_H → q_Gr → Prop) : q_wp d 64 47 [z0, z1, z2, z3] (.inl b :: .inl a :: st) v G Q = q_wp d 64 48 [z0, z1, z2, z3] (.inl (a + b) :: st) v G Q := q_w_iadd c_64_47
theorem c_64_48 : q_code 64 48 = (.invokevirtual 89, 3, 59, 2, 0, 510, 1) := by decide +kernel
theorem e_64_48 (d : Nat) (x0 x1 y0 : q_V) (z0 z1 z2 z3 : q_V) (v : q_H) (G : q_Gr) (Q : q_V → q_H → q_Gr → Prop) : q_wp d 64 48 [z0, z1, z2, z3] [x1, x0, y0] v G Q = q_call d 59 [x0, x1] v G (fun r v G => q_wp d 64 51 [z0, z1, z2, z3] (q_push r [y0]) v G Q) := q_wp_ca (m2 := 59) (k := 2) (as := [x0, x1]) (rest := [y0]) (congrArg q_kind c_64_48) (congrArg (fun w => w.2.2.1) c_64_48) (congrArg (fun w => w.2.2.2.1) c_64_48) rfl (Nat.le_of_ble_eq_true rfl) rfl
theorem c_64_51 : q_code 64 51 = (.if_icmp .ne 7, 3, 0, 0, 0, 0, 0) := by decide +kernel
theorem e_64_51 (d : Nat) (a b : Int) (z0 z1 z2 z3 : q_V) (st : List q_V) (v : q_H) (G : q_Gr) (Q : q_V → q_H → q_Gr → Prop) : q_wp d 64 51 [z0, z1, z2, z3] (.inl b :: .inl a :: st) v G Q = ((q_inR a ∧ q_inR b) ∧ if ¬ a = b then q_wp d 64 58 [z0, z1, z2, z3] st v G Q else q_wp d 64 54 [z0, z1, z2, z3] st v G Q) := q_w_icmp_ne c_64_51 (by decide)
theorem c_64_54 : q_code 64 54 = (.iconst 1, 1, 0, 0, 0, 0, 0) := by decide +kernel
theorem e_64_54 (d : Nat)  (z0 z1 z2 z3 : q_V) (st : List q_V) (v : q_H) (G : q_Gr) (Q : q_V → q_H → q_Gr → Prop) : q_wp d 64 54 [z0, z1, z2, z3] st v G Q = q_wp d 64 55 [z0, z1, z2, z3] (.inl 1 :: st) v G Q := q_w_iconst c_64_54
theorem c_64_55 : q_code 64 55 = (.goto 4, 3, 0, 0, 0, 0, 0) := by decide +kernel
theorem e_64_55 (d : Nat)  (z0 z1 z2 z3 : q_V) (st : List q_V) (v : q_H) (G : q_Gr) (Q : q_V → q_H → q_Gr → Prop) : q_wp d 64 55 [z0, z1, z2, z3] st v G Q = q_wp d 64 59 [z0, z1, z2, z3] st v G Q := q_w_goto c_64_55 (by decide)
theorem c_64_58 : q_code 64 58 = (.iconst 0, 1, 0, 0, 0, 0, 0) := by decide +kernel
theorem e_64_58 (d : Nat)  (z0 z1 z2 z3 : q_V) (st : List q_V) (v : q_H) (G : q_Gr) (Q : q_V → q_H → q_Gr → Prop) : q_wp d 64 58 [z0, z1, z2, z3] st v G Q = q_wp d 64 59 [z0, z1, z2, z3] (.inl 0 :: st) v G Q := q_w_iconst c_64_58
theorem c_64_59 : q_code 64 59 = (.istore_n 2, 1, 0, 0, 0, 0, 0) := by decide +kernel
theorem e_64_59 (d : Nat) (a : Int) (z0 z1 z2 z3 : q_V) (st : List q_V) (v : q_H) (G : q_Gr) (Q : q_V → q_H → q_Gr → Prop) : q_wp d 64 59 [z0, z1, z2, z3] (.inl a :: st) v G Q = q_wp d 64 60 [z0, z1, .inl a, z3] st v G Q := q_w_istore_n c_64_59
theorem c_64_60 : q_code 64 60 = (.iinc 3 1, 3, 0, 0, 0, 0, 0) := by decide +kernel
theorem e_64_60 (d : Nat) (a : Int) (z0 z1 z2 : q_V) (st : List q_V) (v : q_H) (G : q_Gr) (Q : q_V → q_H → q_Gr → Prop) : q_wp d 64 60 [z0, z1, z2, .inl a] st v G Q = q_wp d 64 63 [z0, z1, z2, .inl (a + 1)] st v G Q := q_w_iinc c_64_60 rfl
theorem c_64_63 : q_code 64 63 = (.goto (-39), 3, 0, 0, 0, 0, 0) := by decide +kernel
theorem e_64_63 (d : Nat)  (z0 z1 z2 z3 : q_V) (st : List q_V) (v : q_H) (G : q_Gr) (Q : q_V → q_H → q_Gr → Prop) : q_wp d 64 63 [z0, z1, z2, z3] st v G Q = q_wp d 64 24 [z0, z1, z2, z3] st v G Q := q_w_goto c_64_63 (by decide)
theorem c_64_66 : q_code 64 66 = (.iload_n 2, 1, 0, 0, 0, 0, 0) := by decide +kernel
theorem e_64_66 (d : Nat) (a : Int) (z0 z1 z3 : q_V) (st : List q_V) (v : q_H) (G : q_Gr) (Q : q_V → q_H → q_Gr → Prop) : q_wp d 64 66 [z0, z1, .inl a, z3] st v G Q = q_wp d 64 67 [z0, z1, .inl a, z3] (.inl a :: st) v G Q := q_w_iload_n c_64_66 rfl
theorem c_64_67 : q_code 64 67 = (.ireturn, 1, 0, 0, 0, 0, 0) := by decide +kernel
theorem e_64_67 (d : Nat) (a : Int) (z0 z1 z2 z3 : q_V) (v : q_H) (G : q_Gr) (Q : q_V → q_H → q_Gr → Prop) : q_wp d 64 67 [z0, z1, z2, z3] [.inl a] v G Q = ((0 ≤ a ∧ a ≤ 1) ∧ Q (.inl a) v G) := q_w_zreturn c_64_67 rfl
theorem e_64 (d : Nat) (a0 : Nat) (a1 : Option Nat) (v : q_H) (G : q_Gr) (Q : q_V → q_H → q_Gr → Prop) : q_call (d + 1) 64 [.inr (.inr (.inl (some a0))), .inr (.inr (.inl a1))] v G Q = ((G.2.1 a0).1 = 4 ∧ q_wp d 64 0 [.inr (.inr (.inl (some a0))), .inr (.inr (.inl a1)), .inr (.inr (.inr ())), .inr (.inr (.inr ()))] [] v G Q) := by
  rw [q_call_in (by decide) (Nat.le_of_ble_eq_true rfl) rfl]
  exact congrArg (· ∧ _) (propext beq_iff_eq)
/-- all but the heads of loops: [24] -/
def E64 := And.intro @e_64 (And.intro @e_64_0 (And.intro @e_64_1 (And.intro @e_64_4 (And.intro @e_64_5 (And.intro @e_64_8 (And.intro @e_64_9 (And.intro @e_64_12 (And.intro @e_64_13 (And.intro @e_64_16 (And.intro @e_64_17 (And.intro @e_64_20 (And.intro @e_64_21 (And.intro @e_64_22 (And.intro @e_64_23 (And.intro @e_64_25 (And.intro @e_64_26 (And.intro @e_64_29 (And.intro @e_64_32 (And.intro @e_64_33 (And.intro @e_64_36 (And.intro @e_64_37 (And.intro @e_64_38 (And.intro @e_64_41 (And.intro @e_64_42 (And.intro @e_64_43 (And.intro @e_64_46 (And.intro @e_64_47 (And.intro @e_64_48 (And.intro @e_64_51 (And.intro @e_64_54 (And.intro @e_64_55 (And.intro @e_64_58 (And.intro @e_64_59 (And.intro @e_64_60 (And.intro @e_64_63 (And.intro @e_64_66 (@e_64_67)))))))))))))))))))))))))))))))))))))
