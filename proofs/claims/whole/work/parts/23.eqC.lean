/-! ProvenRowsModel.<init>()V -/
theorem c_150_0 : q_code 150 0 = (.aload_n 0, 1, 0, 0, 0, 0, 0) := by decide +kernel
theorem e_150_0 (d : Nat) (a : Option Nat) (st : List q_V) (v : q_H) (G : q_Gr) (Q : q_V → q_H → q_Gr → Prop) : q_wp d 150 0 [.inr (.inr (.inl a))] st v G Q = q_wp d 150 1 [.inr (.inr (.inl a))] (.inr (.inr (.inl a)) :: st) v G Q := q_w_aload_n c_150_0 rfl
theorem c_150_1 : q_code 150 1 = (.invokespecial 1, 3, 1000, 1, 0, 954, 0) := by decide +kernel
theorem e_150_1 (d : Nat) (a : Nat) (z0 : q_V) (v : q_H) (G : q_Gr) (Q : q_V → q_H → q_Gr → Prop) : q_wp d 150 1 [z0] [.inr (.inr (.inl (some a)))] v G Q = q_wp d 150 4 [z0] [] v G Q := q_w_obj c_150_1 (Nat.le_of_ble_eq_true rfl)
theorem c_150_4 : q_code 150 4 = (.aload_n 0, 1, 0, 0, 0, 0, 0) := by decide +kernel
theorem e_150_4 (d : Nat) (a : Option Nat) (st : List q_V) (v : q_H) (G : q_Gr) (Q : q_V → q_H → q_Gr → Prop) : q_wp d 150 4 [.inr (.inr (.inl a))] st v G Q = q_wp d 150 5 [.inr (.inr (.inl a))] (.inr (.inr (.inl a)) :: st) v G Q := q_w_aload_n c_150_4 rfl
theorem c_150_5 : q_code 150 5 = (.bipush 8, 2, 0, 0, 0, 0, 0) := by decide +kernel
theorem e_150_5 (d : Nat)  (z0 : q_V) (st : List q_V) (v : q_H) (G : q_Gr) (Q : q_V → q_H → q_Gr → Prop) : q_wp d 150 5 [z0] st v G Q = q_wp d 150 7 [z0] (.inl 8 :: st) v G Q := (q_w_bipush c_150_5).trans (by simp only [show ((-128 : Int) ≤ 8 ∧ (8 : Int) ≤ 127) = True by decide, true_and])
theorem c_150_7 : q_code 150 7 = (.newarray .int, 2, 0, 0, 0, 0, 0) := by decide +kernel
theorem e_150_7 (d : Nat) (a : Int) (z0 : q_V) (st : List q_V) (v : q_H) (G : q_Gr) (Q : q_V → q_H → q_Gr → Prop) : q_wp d 150 7 [z0] (.inl a :: st) v G Q = ((0 ≤ a ∧ q_room G a.toNat) ∧ q_wp d 150 9 [z0] (.inr (.inr (.inl (some (32 + G.2.2.1)))) :: st) (q_zr v (32 + G.2.2.1)) (q_mk G 20 a.toNat) Q) := q_w_newI c_150_7
theorem c_150_9 : q_code 150 9 = (.dup, 1, 0, 0, 0, 0, 0) := by decide +kernel
theorem e_150_9 (d : Nat) (a : Option Nat) (z0 : q_V) (st : List q_V) (v : q_H) (G : q_Gr) (Q : q_V → q_H → q_Gr → Prop) : q_wp d 150 9 [z0] (.inr (.inr (.inl a)) :: st) v G Q = q_wp d 150 10 [z0] (.inr (.inr (.inl a)) :: .inr (.inr (.inl a)) :: st) v G Q := q_w_dupP c_150_9
theorem c_150_10 : q_code 150 10 = (.iconst 0, 1, 0, 0, 0, 0, 0) := by decide +kernel
theorem e_150_10 (d : Nat)  (z0 : q_V) (st : List q_V) (v : q_H) (G : q_Gr) (Q : q_V → q_H → q_Gr → Prop) : q_wp d 150 10 [z0] st v G Q = q_wp d 150 11 [z0] (.inl 0 :: st) v G Q := q_w_iconst c_150_10
theorem c_150_11 : q_code 150 11 = (.iconst (-1), 1, 0, 0, 0, 0, 0) := by decide +kernel
theorem e_150_11 (d : Nat)  (z0 : q_V) (st : List q_V) (v : q_H) (G : q_Gr) (Q : q_V → q_H → q_Gr → Prop) : q_wp d 150 11 [z0] st v G Q = q_wp d 150 12 [z0] (.inl (-1) :: st) v G Q := q_w_iconst c_150_11
theorem c_150_12 : q_code 150 12 = (.iastore, 1, 0, 0, 0, 0, 0) := by decide +kernel
theorem e_150_12 (d : Nat) (a : Nat) (i b : Int) (z0 : q_V) (st : List q_V) (v : q_H) (G : q_Gr) (Q : q_V → q_H → q_Gr → Prop) : q_wp d 150 12 [z0] (.inl b :: .inl i :: .inr (.inr (.inl (some a))) :: st) v G Q = (((G.2.1 a).1 = 20 ∧ 32 ≤ a ∧ 0 ≤ i ∧ i < (G.2.1 a).2) ∧ q_wp d 150 13 [z0] st (q_up v a i.toNat b) G Q) := q_w_iast c_150_12
theorem c_150_13 : q_code 150 13 = (.dup, 1, 0, 0, 0, 0, 0) := by decide +kernel
theorem e_150_13 (d : Nat) (a : Option Nat) (z0 : q_V) (st : List q_V) (v : q_H) (G : q_Gr) (Q : q_V → q_H → q_Gr → Prop) : q_wp d 150 13 [z0] (.inr (.inr (.inl a)) :: st) v G Q = q_wp d 150 14 [z0] (.inr (.inr (.inl a)) :: .inr (.inr (.inl a)) :: st) v G Q := q_w_dupP c_150_13
theorem c_150_14 : q_code 150 14 = (.iconst 1, 1, 0, 0, 0, 0, 0) := by decide +kernel
theorem e_150_14 (d : Nat)  (z0 : q_V) (st : List q_V) (v : q_H) (G : q_Gr) (Q : q_V → q_H → q_Gr → Prop) : q_wp d 150 14 [z0] st v G Q = q_wp d 150 15 [z0] (.inl 1 :: st) v G Q := q_w_iconst c_150_14
theorem c_150_15 : q_code 150 15 = (.iconst (-1), 1, 0, 0, 0, 0, 0) := by decide +kernel
theorem e_150_15 (d : Nat)  (z0 : q_V) (st : List q_V) (v : q_H) (G : q_Gr) (Q : q_V → q_H → q_Gr → Prop) : q_wp d 150 15 [z0] st v G Q = q_wp d 150 16 [z0] (.inl (-1) :: st) v G Q := q_w_iconst c_150_15
theorem c_150_16 : q_code 150 16 = (.iastore, 1, 0, 0, 0, 0, 0) := by decide +kernel
theorem e_150_16 (d : Nat) (a : Nat) (i b : Int) (z0 : q_V) (st : List q_V) (v : q_H) (G : q_Gr) (Q : q_V → q_H → q_Gr → Prop) : q_wp d 150 16 [z0] (.inl b :: .inl i :: .inr (.inr (.inl (some a))) :: st) v G Q = (((G.2.1 a).1 = 20 ∧ 32 ≤ a ∧ 0 ≤ i ∧ i < (G.2.1 a).2) ∧ q_wp d 150 17 [z0] st (q_up v a i.toNat b) G Q) := q_w_iast c_150_16
theorem c_150_17 : q_code 150 17 = (.dup, 1, 0, 0, 0, 0, 0) := by decide +kernel
theorem e_150_17 (d : Nat) (a : Option Nat) (z0 : q_V) (st : List q_V) (v : q_H) (G : q_Gr) (Q : q_V → q_H → q_Gr → Prop) : q_wp d 150 17 [z0] (.inr (.inr (.inl a)) :: st) v G Q = q_wp d 150 18 [z0] (.inr (.inr (.inl a)) :: .inr (.inr (.inl a)) :: st) v G Q := q_w_dupP c_150_17
theorem c_150_18 : q_code 150 18 = (.iconst 2, 1, 0, 0, 0, 0, 0) := by decide +kernel
theorem e_150_18 (d : Nat)  (z0 : q_V) (st : List q_V) (v : q_H) (G : q_Gr) (Q : q_V → q_H → q_Gr → Prop) : q_wp d 150 18 [z0] st v G Q = q_wp d 150 19 [z0] (.inl 2 :: st) v G Q := q_w_iconst c_150_18
theorem c_150_19 : q_code 150 19 = (.iconst (-1), 1, 0, 0, 0, 0, 0) := by decide +kernel
theorem e_150_19 (d : Nat)  (z0 : q_V) (st : List q_V) (v : q_H) (G : q_Gr) (Q : q_V → q_H → q_Gr → Prop) : q_wp d 150 19 [z0] st v G Q = q_wp d 150 20 [z0] (.inl (-1) :: st) v G Q := q_w_iconst c_150_19
theorem c_150_20 : q_code 150 20 = (.iastore, 1, 0, 0, 0, 0, 0) := by decide +kernel
theorem e_150_20 (d : Nat) (a : Nat) (i b : Int) (z0 : q_V) (st : List q_V) (v : q_H) (G : q_Gr) (Q : q_V → q_H → q_Gr → Prop) : q_wp d 150 20 [z0] (.inl b :: .inl i :: .inr (.inr (.inl (some a))) :: st) v G Q = (((G.2.1 a).1 = 20 ∧ 32 ≤ a ∧ 0 ≤ i ∧ i < (G.2.1 a).2) ∧ q_wp d 150 21 [z0] st (q_up v a i.toNat b) G Q) := q_w_iast c_150_20
theorem c_150_21 : q_code 150 21 = (.dup, 1, 0, 0, 0, 0, 0) := by decide +kernel
theorem e_150_21 (d : Nat) (a : Option Nat) (z0 : q_V) (st : List q_V) (v : q_H) (G : q_Gr) (Q : q_V → q_H → q_Gr → Prop) : q_wp d 150 21 [z0] (.inr (.inr (.inl a)) :: st) v G Q = q_wp d 150 22 [z0] (.inr (.inr (.inl a)) :: .inr (.inr (.inl a)) :: st) v G Q := q_w_dupP c_150_21
theorem c_150_22 : q_code 150 22 = (.iconst 3, 1, 0, 0, 0, 0, 0) := by decide +kernel
theorem e_150_22 (d : Nat)  (z0 : q_V) (st : List q_V) (v : q_H) (G : q_Gr) (Q : q_V → q_H → q_Gr → Prop) : q_wp d 150 22 [z0] st v G Q = q_wp d 150 23 [z0] (.inl 3 :: st) v G Q := q_w_iconst c_150_22
theorem c_150_23 : q_code 150 23 = (.iconst (-1), 1, 0, 0, 0, 0, 0) := by decide +kernel
theorem e_150_23 (d : Nat)  (z0 : q_V) (st : List q_V) (v : q_H) (G : q_Gr) (Q : q_V → q_H → q_Gr → Prop) : q_wp d 150 23 [z0] st v G Q = q_wp d 150 24 [z0] (.inl (-1) :: st) v G Q := q_w_iconst c_150_23
theorem c_150_24 : q_code 150 24 = (.iastore, 1, 0, 0, 0, 0, 0) := by decide +kernel
theorem e_150_24 (d : Nat) (a : Nat) (i b : Int) (z0 : q_V) (st : List q_V) (v : q_H) (G : q_Gr) (Q : q_V → q_H → q_Gr → Prop) : q_wp d 150 24 [z0] (.inl b :: .inl i :: .inr (.inr (.inl (some a))) :: st) v G Q = (((G.2.1 a).1 = 20 ∧ 32 ≤ a ∧ 0 ≤ i ∧ i < (G.2.1 a).2) ∧ q_wp d 150 25 [z0] st (q_up v a i.toNat b) G Q) := q_w_iast c_150_24
theorem c_150_25 : q_code 150 25 = (.dup, 1, 0, 0, 0, 0, 0) := by decide +kernel
theorem e_150_25 (d : Nat) (a : Option Nat) (z0 : q_V) (st : List q_V) (v : q_H) (G : q_Gr) (Q : q_V → q_H → q_Gr → Prop) : q_wp d 150 25 [z0] (.inr (.inr (.inl a)) :: st) v G Q = q_wp d 150 26 [z0] (.inr (.inr (.inl a)) :: .inr (.inr (.inl a)) :: st) v G Q := q_w_dupP c_150_25
theorem c_150_26 : q_code 150 26 = (.iconst 4, 1, 0, 0, 0, 0, 0) := by decide +kernel
theorem e_150_26 (d : Nat)  (z0 : q_V) (st : List q_V) (v : q_H) (G : q_Gr) (Q : q_V → q_H → q_Gr → Prop) : q_wp d 150 26 [z0] st v G Q = q_wp d 150 27 [z0] (.inl 4 :: st) v G Q := q_w_iconst c_150_26
theorem c_150_27 : q_code 150 27 = (.iconst (-1), 1, 0, 0, 0, 0, 0) := by decide +kernel
theorem e_150_27 (d : Nat)  (z0 : q_V) (st : List q_V) (v : q_H) (G : q_Gr) (Q : q_V → q_H → q_Gr → Prop) : q_wp d 150 27 [z0] st v G Q = q_wp d 150 28 [z0] (.inl (-1) :: st) v G Q := q_w_iconst c_150_27
theorem c_150_28 : q_code 150 28 = (.iastore, 1, 0, 0, 0, 0, 0) := by decide +kernel
theorem e_150_28 (d : Nat) (a : Nat) (i b : Int) (z0 : q_V) (st : List q_V) (v : q_H) (G : q_Gr) (Q : q_V → q_H → q_Gr → Prop) : q_wp d 150 28 [z0] (.inl b :: .inl i :: .inr (.inr (.inl (some a))) :: st) v G Q = (((G.2.1 a).1 = 20 ∧ 32 ≤ a ∧ 0 ≤ i ∧ i < (G.2.1 a).2) ∧ q_wp d 150 29 [z0] st (q_up v a i.toNat b) G Q) := q_w_iast c_150_28
theorem c_150_29 : q_code 150 29 = (.dup, 1, 0, 0, 0, 0, 0) := by decide +kernel
theorem e_150_29 (d : Nat) (a : Option Nat) (z0 : q_V) (st : List q_V) (v : q_H) (G : q_Gr) (Q : q_V → q_H → q_Gr → Prop) : q_wp d 150 29 [z0] (.inr (.inr (.inl a)) :: st) v G Q = q_wp d 150 30 [z0] (.inr (.inr (.inl a)) :: .inr (.inr (.inl a)) :: st) v G Q := q_w_dupP c_150_29
theorem c_150_30 : q_code 150 30 = (.iconst 5, 1, 0, 0, 0, 0, 0) := by decide +kernel
theorem e_150_30 (d : Nat)  (z0 : q_V) (st : List q_V) (v : q_H) (G : q_Gr) (Q : q_V → q_H → q_Gr → Prop) : q_wp d 150 30 [z0] st v G Q = q_wp d 150 31 [z0] (.inl 5 :: st) v G Q := q_w_iconst c_150_30
theorem c_150_31 : q_code 150 31 = (.iconst (-1), 1, 0, 0, 0, 0, 0) := by decide +kernel
theorem e_150_31 (d : Nat)  (z0 : q_V) (st : List q_V) (v : q_H) (G : q_Gr) (Q : q_V → q_H → q_Gr → Prop) : q_wp d 150 31 [z0] st v G Q = q_wp d 150 32 [z0] (.inl (-1) :: st) v G Q := q_w_iconst c_150_31
theorem c_150_32 : q_code 150 32 = (.iastore, 1, 0, 0, 0, 0, 0) := by decide +kernel
theorem e_150_32 (d : Nat) (a : Nat) (i b : Int) (z0 : q_V) (st : List q_V) (v : q_H) (G : q_Gr) (Q : q_V → q_H → q_Gr → Prop) : q_wp d 150 32 [z0] (.inl b :: .inl i :: .inr (.inr (.inl (some a))) :: st) v G Q = (((G.2.1 a).1 = 20 ∧ 32 ≤ a ∧ 0 ≤ i ∧ i < (G.2.1 a).2) ∧ q_wp d 150 33 [z0] st (q_up v a i.toNat b) G Q) := q_w_iast c_150_32
theorem c_150_33 : q_code 150 33 = (.dup, 1, 0, 0, 0, 0, 0) := by decide +kernel
theorem e_150_33 (d : Nat) (a : Option Nat) (z0 : q_V) (st : List q_V) (v : q_H) (G : q_Gr) (Q : q_V → q_H → q_Gr → Prop) : q_wp d 150 33 [z0] (.inr (.inr (.inl a)) :: st) v G Q = q_wp d 150 34 [z0] (.inr (.inr (.inl a)) :: .inr (.inr (.inl a)) :: st) v G Q := q_w_dupP c_150_33
theorem c_150_34 : q_code 150 34 = (.bipush 6, 2, 0, 0, 0, 0, 0) := by decide +kernel
theorem e_150_34 (d : Nat)  (z0 : q_V) (st : List q_V) (v : q_H) (G : q_Gr) (Q : q_V → q_H → q_Gr → Prop) : q_wp d 150 34 [z0] st v G Q = q_wp d 150 36 [z0] (.inl 6 :: st) v G Q := (q_w_bipush c_150_34).trans (by simp only [show ((-128 : Int) ≤ 6 ∧ (6 : Int) ≤ 127) = True by decide, true_and])
theorem c_150_36 : q_code 150 36 = (.iconst (-1), 1, 0, 0, 0, 0, 0) := by decide +kernel
theorem e_150_36 (d : Nat)  (z0 : q_V) (st : List q_V) (v : q_H) (G : q_Gr) (Q : q_V → q_H → q_Gr → Prop) : q_wp d 150 36 [z0] st v G Q = q_wp d 150 37 [z0] (.inl (-1) :: st) v G Q := q_w_iconst c_150_36
theorem c_150_37 : q_code 150 37 = (.iastore, 1, 0, 0, 0, 0, 0) := by decide +kernel
theorem e_150_37 (d : Nat) (a : Nat) (i b : Int) (z0 : q_V) (st : List q_V) (v : q_H) (G : q_Gr) (Q : q_V → q_H → q_Gr → Prop) : q_wp d 150 37 [z0] (.inl b :: .inl i :: .inr (.inr (.inl (some a))) :: st) v G Q = (((G.2.1 a).1 = 20 ∧ 32 ≤ a ∧ 0 ≤ i ∧ i < (G.2.1 a).2) ∧ q_wp d 150 38 [z0] st (q_up v a i.toNat b) G Q) := q_w_iast c_150_37
theorem c_150_38 : q_code 150 38 = (.dup, 1, 0, 0, 0, 0, 0) := by decide +kernel
theorem e_150_38 (d : Nat) (a : Option Nat) (z0 : q_V) (st : List q_V) (v : q_H) (G : q_Gr) (Q : q_V → q_H → q_Gr → Prop) : q_wp d 150 38 [z0] (.inr (.inr (.inl a)) :: st) v G Q = q_wp d 150 39 [z0] (.inr (.inr (.inl a)) :: .inr (.inr (.inl a)) :: st) v G Q := q_w_dupP c_150_38
theorem c_150_39 : q_code 150 39 = (.bipush 7, 2, 0, 0, 0, 0, 0) := by decide +kernel
theorem e_150_39 (d : Nat)  (z0 : q_V) (st : List q_V) (v : q_H) (G : q_Gr) (Q : q_V → q_H → q_Gr → Prop) : q_wp d 150 39 [z0] st v G Q = q_wp d 150 41 [z0] (.inl 7 :: st) v G Q := (q_w_bipush c_150_39).trans (by simp only [show ((-128 : Int) ≤ 7 ∧ (7 : Int) ≤ 127) = True by decide, true_and])
theorem c_150_41 : q_code 150 41 = (.iconst (-1), 1, 0, 0, 0, 0, 0) := by decide +kernel
theorem e_150_41 (d : Nat)  (z0 : q_V) (st : List q_V) (v : q_H) (G : q_Gr) (Q : q_V → q_H → q_Gr → Prop) : q_wp d 150 41 [z0] st v G Q = q_wp d 150 42 [z0] (.inl (-1) :: st) v G Q := q_w_iconst c_150_41
theorem c_150_42 : q_code 150 42 = (.iastore, 1, 0, 0, 0, 0, 0) := by decide +kernel
theorem e_150_42 (d : Nat) (a : Nat) (i b : Int) (z0 : q_V) (st : List q_V) (v : q_H) (G : q_Gr) (Q : q_V → q_H → q_Gr → Prop) : q_wp d 150 42 [z0] (.inl b :: .inl i :: .inr (.inr (.inl (some a))) :: st) v G Q = (((G.2.1 a).1 = 20 ∧ 32 ≤ a ∧ 0 ≤ i ∧ i < (G.2.1 a).2) ∧ q_wp d 150 43 [z0] st (q_up v a i.toNat b) G Q) := q_w_iast c_150_42
theorem c_150_43 : q_code 150 43 = (.putfield 7, 3, 11, 2, 1, 957, 0) := by decide +kernel
theorem e_150_43 (d : Nat) (a : Nat) (b : Option Nat) (z0 : q_V) (st : List q_V) (v : q_H) (G : q_Gr) (Q : q_V → q_H → q_Gr → Prop) : q_wp d 150 43 [z0] (.inr (.inr (.inl b)) :: .inr (.inr (.inl (some a))) :: st) v G Q = (((G.2.1 a).1 = 11) ∧ q_wp d 150 46 [z0] st v (q_upr G.1 a 2 b, G.2) Q) := q_w_putP c_150_43
theorem c_150_46 : q_code 150 46 = (.aload_n 0, 1, 0, 0, 0, 0, 0) := by decide +kernel
theorem e_150_46 (d : Nat) (a : Option Nat) (st : List q_V) (v : q_H) (G : q_Gr) (Q : q_V → q_H → q_Gr → Prop) : q_wp d 150 46 [.inr (.inr (.inl a))] st v G Q = q_wp d 150 47 [.inr (.inr (.inl a))] (.inr (.inr (.inl a)) :: st) v G Q := q_w_aload_n c_150_46 rfl
theorem c_150_47 : q_code 150 47 = (.bipush 8, 2, 0, 0, 0, 0, 0) := by decide +kernel
theorem e_150_47 (d : Nat)  (z0 : q_V) (st : List q_V) (v : q_H) (G : q_Gr) (Q : q_V → q_H → q_Gr → Prop) : q_wp d 150 47 [z0] st v G Q = q_wp d 150 49 [z0] (.inl 8 :: st) v G Q := (q_w_bipush c_150_47).trans (by simp only [show ((-128 : Int) ≤ 8 ∧ (8 : Int) ≤ 127) = True by decide, true_and])
theorem c_150_49 : q_code 150 49 = (.newarray .int, 2, 0, 0, 0, 0, 0) := by decide +kernel
theorem e_150_49 (d : Nat) (a : Int) (z0 : q_V) (st : List q_V) (v : q_H) (G : q_Gr) (Q : q_V → q_H → q_Gr → Prop) : q_wp d 150 49 [z0] (.inl a :: st) v G Q = ((0 ≤ a ∧ q_room G a.toNat) ∧ q_wp d 150 51 [z0] (.inr (.inr (.inl (some (32 + G.2.2.1)))) :: st) (q_zr v (32 + G.2.2.1)) (q_mk G 20 a.toNat) Q) := q_w_newI c_150_49
theorem c_150_51 : q_code 150 51 = (.putfield 13, 3, 11, 3, 1, 958, 0) := by decide +kernel
theorem e_150_51 (d : Nat) (a : Nat) (b : Option Nat) (z0 : q_V) (st : List q_V) (v : q_H) (G : q_Gr) (Q : q_V → q_H → q_Gr → Prop) : q_wp d 150 51 [z0] (.inr (.inr (.inl b)) :: .inr (.inr (.inl (some a))) :: st) v G Q = (((G.2.1 a).1 = 11) ∧ q_wp d 150 54 [z0] st v (q_upr G.1 a 3 b, G.2) Q) := q_w_putP c_150_51
theorem c_150_54 : q_code 150 54 = (.aload_n 0, 1, 0, 0, 0, 0, 0) := by decide +kernel
theorem e_150_54 (d : Nat) (a : Option Nat) (st : List q_V) (v : q_H) (G : q_Gr) (Q : q_V → q_H → q_Gr → Prop) : q_wp d 150 54 [.inr (.inr (.inl a))] st v G Q = q_wp d 150 55 [.inr (.inr (.inl a))] (.inr (.inr (.inl a)) :: st) v G Q := q_w_aload_n c_150_54 rfl
theorem c_150_55 : q_code 150 55 = (.sipush 4800, 3, 0, 0, 0, 0, 0) := by decide +kernel
theorem e_150_55 (d : Nat)  (z0 : q_V) (st : List q_V) (v : q_H) (G : q_Gr) (Q : q_V → q_H → q_Gr → Prop) : q_wp d 150 55 [z0] st v G Q = q_wp d 150 58 [z0] (.inl 4800 :: st) v G Q := (q_w_sipush c_150_55).trans (by simp only [show ((-32768 : Int) ≤ 4800 ∧ (4800 : Int) ≤ 32767) = True by decide, true_and])
theorem c_150_58 : q_code 150 58 = (.newarray .int, 2, 0, 0, 0, 0, 0) := by decide +kernel
theorem e_150_58 (d : Nat) (a : Int) (z0 : q_V) (st : List q_V) (v : q_H) (G : q_Gr) (Q : q_V → q_H → q_Gr → Prop) : q_wp d 150 58 [z0] (.inl a :: st) v G Q = ((0 ≤ a ∧ q_room G a.toNat) ∧ q_wp d 150 60 [z0] (.inr (.inr (.inl (some (32 + G.2.2.1)))) :: st) (q_zr v (32 + G.2.2.1)) (q_mk G 20 a.toNat) Q) := q_w_newI c_150_58
theorem c_150_60 : q_code 150 60 = (.putfield 16, 3, 11, 4, 1, 959, 0) := by decide +kernel
theorem e_150_60 (d : Nat) (a : Nat) (b : Option Nat) (z0 : q_V) (st : List q_V) (v : q_H) (G : q_Gr) (Q : q_V → q_H → q_Gr → Prop) : q_wp d 150 60 [z0] (.inr (.inr (.inl b)) :: .inr (.inr (.inl (some a))) :: st) v G Q = (((G.2.1 a).1 = 11) ∧ q_wp d 150 63 [z0] st v (q_upr G.1 a 4 b, G.2) Q) := q_w_putP c_150_60
theorem c_150_63 : q_code 150 63 = (.aload_n 0, 1, 0, 0, 0, 0, 0) := by decide +kernel
theorem e_150_63 (d : Nat) (a : Option Nat) (st : List q_V) (v : q_H) (G : q_Gr) (Q : q_V → q_H → q_Gr → Prop) : q_wp d 150 63 [.inr (.inr (.inl a))] st v G Q = q_wp d 150 64 [.inr (.inr (.inl a))] (.inr (.inr (.inl a)) :: st) v G Q := q_w_aload_n c_150_63 rfl
theorem c_150_64 : q_code 150 64 = (.iconst 3, 1, 0, 0, 0, 0, 0) := by decide +kernel
theorem e_150_64 (d : Nat)  (z0 : q_V) (st : List q_V) (v : q_H) (G : q_Gr) (Q : q_V → q_H → q_Gr → Prop) : q_wp d 150 64 [z0] st v G Q = q_wp d 150 65 [z0] (.inl 3 :: st) v G Q := q_w_iconst c_150_64
theorem c_150_65 : q_code 150 65 = (.newarray .int, 2, 0, 0, 0, 0, 0) := by decide +kernel
theorem e_150_65 (d : Nat) (a : Int) (z0 : q_V) (st : List q_V) (v : q_H) (G : q_Gr) (Q : q_V → q_H → q_Gr → Prop) : q_wp d 150 65 [z0] (.inl a :: st) v G Q = ((0 ≤ a ∧ q_room G a.toNat) ∧ q_wp d 150 67 [z0] (.inr (.inr (.inl (some (32 + G.2.2.1)))) :: st) (q_zr v (32 + G.2.2.1)) (q_mk G 20 a.toNat) Q) := q_w_newI c_150_65
theorem c_150_67 : q_code 150 67 = (.putfield 19, 3, 11, 5, 1, 960, 0) := by decide +kernel
theorem e_150_67 (d : Nat) (a : Nat) (b : Option Nat) (z0 : q_V) (st : List q_V) (v : q_H) (G : q_Gr) (Q : q_V → q_H → q_Gr → Prop) : q_wp d 150 67 [z0] (.inr (.inr (.inl b)) :: .inr (.inr (.inl (some a))) :: st) v G Q = (((G.2.1 a).1 = 11) ∧ q_wp d 150 70 [z0] st v (q_upr G.1 a 5 b, G.2) Q) := q_w_putP c_150_67
theorem c_150_70 : q_code 150 70 = (.aload_n 0, 1, 0, 0, 0, 0, 0) := by decide +kernel
theorem e_150_70 (d : Nat) (a : Option Nat) (st : List q_V) (v : q_H) (G : q_Gr) (Q : q_V → q_H → q_Gr → Prop) : q_wp d 150 70 [.inr (.inr (.inl a))] st v G Q = q_wp d 150 71 [.inr (.inr (.inl a))] (.inr (.inr (.inl a)) :: st) v G Q := q_w_aload_n c_150_70 rfl
theorem c_150_71 : q_code 150 71 = (.bipush 42, 2, 0, 0, 0, 0, 0) := by decide +kernel
theorem e_150_71 (d : Nat)  (z0 : q_V) (st : List q_V) (v : q_H) (G : q_Gr) (Q : q_V → q_H → q_Gr → Prop) : q_wp d 150 71 [z0] st v G Q = q_wp d 150 73 [z0] (.inl 42 :: st) v G Q := (q_w_bipush c_150_71).trans (by simp only [show ((-128 : Int) ≤ 42 ∧ (42 : Int) ≤ 127) = True by decide, true_and])
theorem c_150_73 : q_code 150 73 = (.newarray .int, 2, 0, 0, 0, 0, 0) := by decide +kernel
theorem e_150_73 (d : Nat) (a : Int) (z0 : q_V) (st : List q_V) (v : q_H) (G : q_Gr) (Q : q_V → q_H → q_Gr → Prop) : q_wp d 150 73 [z0] (.inl a :: st) v G Q = ((0 ≤ a ∧ q_room G a.toNat) ∧ q_wp d 150 75 [z0] (.inr (.inr (.inl (some (32 + G.2.2.1)))) :: st) (q_zr v (32 + G.2.2.1)) (q_mk G 20 a.toNat) Q) := q_w_newI c_150_73
theorem c_150_75 : q_code 150 75 = (.putfield 22, 3, 11, 6, 1, 961, 0) := by decide +kernel
theorem e_150_75 (d : Nat) (a : Nat) (b : Option Nat) (z0 : q_V) (st : List q_V) (v : q_H) (G : q_Gr) (Q : q_V → q_H → q_Gr → Prop) : q_wp d 150 75 [z0] (.inr (.inr (.inl b)) :: .inr (.inr (.inl (some a))) :: st) v G Q = (((G.2.1 a).1 = 11) ∧ q_wp d 150 78 [z0] st v (q_upr G.1 a 6 b, G.2) Q) := q_w_putP c_150_75
theorem c_150_78 : q_code 150 78 = (.aload_n 0, 1, 0, 0, 0, 0, 0) := by decide +kernel
theorem e_150_78 (d : Nat) (a : Option Nat) (st : List q_V) (v : q_H) (G : q_Gr) (Q : q_V → q_H → q_Gr → Prop) : q_wp d 150 78 [.inr (.inr (.inl a))] st v G Q = q_wp d 150 79 [.inr (.inr (.inl a))] (.inr (.inr (.inl a)) :: st) v G Q := q_w_aload_n c_150_78 rfl
theorem c_150_79 : q_code 150 79 = (.bipush 42, 2, 0, 0, 0, 0, 0) := by decide +kernel
theorem e_150_79 (d : Nat)  (z0 : q_V) (st : List q_V) (v : q_H) (G : q_Gr) (Q : q_V → q_H → q_Gr → Prop) : q_wp d 150 79 [z0] st v G Q = q_wp d 150 81 [z0] (.inl 42 :: st) v G Q := (q_w_bipush c_150_79).trans (by simp only [show ((-128 : Int) ≤ 42 ∧ (42 : Int) ≤ 127) = True by decide, true_and])
theorem c_150_81 : q_code 150 81 = (.newarray .int, 2, 0, 0, 0, 0, 0) := by decide +kernel
theorem e_150_81 (d : Nat) (a : Int) (z0 : q_V) (st : List q_V) (v : q_H) (G : q_Gr) (Q : q_V → q_H → q_Gr → Prop) : q_wp d 150 81 [z0] (.inl a :: st) v G Q = ((0 ≤ a ∧ q_room G a.toNat) ∧ q_wp d 150 83 [z0] (.inr (.inr (.inl (some (32 + G.2.2.1)))) :: st) (q_zr v (32 + G.2.2.1)) (q_mk G 20 a.toNat) Q) := q_w_newI c_150_81
theorem c_150_83 : q_code 150 83 = (.putfield 25, 3, 11, 7, 1, 962, 0) := by decide +kernel
theorem e_150_83 (d : Nat) (a : Nat) (b : Option Nat) (z0 : q_V) (st : List q_V) (v : q_H) (G : q_Gr) (Q : q_V → q_H → q_Gr → Prop) : q_wp d 150 83 [z0] (.inr (.inr (.inl b)) :: .inr (.inr (.inl (some a))) :: st) v G Q = (((G.2.1 a).1 = 11) ∧ q_wp d 150 86 [z0] st v (q_upr G.1 a 7 b, G.2) Q) := q_w_putP c_150_83
theorem c_150_86 : q_code 150 86 = (.aload_n 0, 1, 0, 0, 0, 0, 0) := by decide +kernel
theorem e_150_86 (d : Nat) (a : Option Nat) (st : List q_V) (v : q_H) (G : q_Gr) (Q : q_V → q_H → q_Gr → Prop) : q_wp d 150 86 [.inr (.inr (.inl a))] st v G Q = q_wp d 150 87 [.inr (.inr (.inl a))] (.inr (.inr (.inl a)) :: st) v G Q := q_w_aload_n c_150_86 rfl
theorem c_150_87 : q_code 150 87 = (.bipush 16, 2, 0, 0, 0, 0, 0) := by decide +kernel
theorem e_150_87 (d : Nat)  (z0 : q_V) (st : List q_V) (v : q_H) (G : q_Gr) (Q : q_V → q_H → q_Gr → Prop) : q_wp d 150 87 [z0] st v G Q = q_wp d 150 89 [z0] (.inl 16 :: st) v G Q := (q_w_bipush c_150_87).trans (by simp only [show ((-128 : Int) ≤ 16 ∧ (16 : Int) ≤ 127) = True by decide, true_and])
theorem c_150_89 : q_code 150 89 = (.newarray .int, 2, 0, 0, 0, 0, 0) := by decide +kernel
theorem e_150_89 (d : Nat) (a : Int) (z0 : q_V) (st : List q_V) (v : q_H) (G : q_Gr) (Q : q_V → q_H → q_Gr → Prop) : q_wp d 150 89 [z0] (.inl a :: st) v G Q = ((0 ≤ a ∧ q_room G a.toNat) ∧ q_wp d 150 91 [z0] (.inr (.inr (.inl (some (32 + G.2.2.1)))) :: st) (q_zr v (32 + G.2.2.1)) (q_mk G 20 a.toNat) Q) := q_w_newI c_150_89
theorem c_150_91 : q_code 150 91 = (.putfield 28, 3, 11, 9, 1, 964, 0) := by decide +kernel
theorem e_150_91 (d : Nat) (a : Nat) (b : Option Nat) (z0 : q_V) (st : List q_V) (v : q_H) (G : q_Gr) (Q : q_V → q_H → q_Gr → Prop) : q_wp d 150 91 [z0] (.inr (.inr (.inl b)) :: .inr (.inr (.inl (some a))) :: st) v G Q = (((G.2.1 a).1 = 11) ∧ q_wp d 150 94 [z0] st v (q_upr G.1 a 9 b, G.2) Q) := q_w_putP c_150_91
theorem c_150_94 : q_code 150 94 = (.aload_n 0, 1, 0, 0, 0, 0, 0) := by decide +kernel
theorem e_150_94 (d : Nat) (a : Option Nat) (st : List q_V) (v : q_H) (G : q_Gr) (Q : q_V → q_H → q_Gr → Prop) : q_wp d 150 94 [.inr (.inr (.inl a))] st v G Q = q_wp d 150 95 [.inr (.inr (.inl a))] (.inr (.inr (.inl a)) :: st) v G Q := q_w_aload_n c_150_94 rfl
theorem c_150_95 : q_code 150 95 = (.bipush 16, 2, 0, 0, 0, 0, 0) := by decide +kernel
theorem e_150_95 (d : Nat)  (z0 : q_V) (st : List q_V) (v : q_H) (G : q_Gr) (Q : q_V → q_H → q_Gr → Prop) : q_wp d 150 95 [z0] st v G Q = q_wp d 150 97 [z0] (.inl 16 :: st) v G Q := (q_w_bipush c_150_95).trans (by simp only [show ((-128 : Int) ≤ 16 ∧ (16 : Int) ≤ 127) = True by decide, true_and])
theorem c_150_97 : q_code 150 97 = (.newarray .int, 2, 0, 0, 0, 0, 0) := by decide +kernel
theorem e_150_97 (d : Nat) (a : Int) (z0 : q_V) (st : List q_V) (v : q_H) (G : q_Gr) (Q : q_V → q_H → q_Gr → Prop) : q_wp d 150 97 [z0] (.inl a :: st) v G Q = ((0 ≤ a ∧ q_room G a.toNat) ∧ q_wp d 150 99 [z0] (.inr (.inr (.inl (some (32 + G.2.2.1)))) :: st) (q_zr v (32 + G.2.2.1)) (q_mk G 20 a.toNat) Q) := q_w_newI c_150_97
theorem c_150_99 : q_code 150 99 = (.putfield 31, 3, 11, 10, 1, 965, 0) := by decide +kernel
theorem e_150_99 (d : Nat) (a : Nat) (b : Option Nat) (z0 : q_V) (st : List q_V) (v : q_H) (G : q_Gr) (Q : q_V → q_H → q_Gr → Prop) : q_wp d 150 99 [z0] (.inr (.inr (.inl b)) :: .inr (.inr (.inl (some a))) :: st) v G Q = (((G.2.1 a).1 = 11) ∧ q_wp d 150 102 [z0] st v (q_upr G.1 a 10 b, G.2) Q) := q_w_putP c_150_99
theorem c_150_102 : q_code 150 102 = (.aload_n 0, 1, 0, 0, 0, 0, 0) := by decide +kernel
theorem e_150_102 (d : Nat) (a : Option Nat) (st : List q_V) (v : q_H) (G : q_Gr) (Q : q_V → q_H → q_Gr → Prop) : q_wp d 150 102 [.inr (.inr (.inl a))] st v G Q = q_wp d 150 103 [.inr (.inr (.inl a))] (.inr (.inr (.inl a)) :: st) v G Q := q_w_aload_n c_150_102 rfl
theorem c_150_103 : q_code 150 103 = (.sipush 272, 3, 0, 0, 0, 0, 0) := by decide +kernel
theorem e_150_103 (d : Nat)  (z0 : q_V) (st : List q_V) (v : q_H) (G : q_Gr) (Q : q_V → q_H → q_Gr → Prop) : q_wp d 150 103 [z0] st v G Q = q_wp d 150 106 [z0] (.inl 272 :: st) v G Q := (q_w_sipush c_150_103).trans (by simp only [show ((-32768 : Int) ≤ 272 ∧ (272 : Int) ≤ 32767) = True by decide, true_and])
theorem c_150_106 : q_code 150 106 = (.newarray .int, 2, 0, 0, 0, 0, 0) := by decide +kernel
theorem e_150_106 (d : Nat) (a : Int) (z0 : q_V) (st : List q_V) (v : q_H) (G : q_Gr) (Q : q_V → q_H → q_Gr → Prop) : q_wp d 150 106 [z0] (.inl a :: st) v G Q = ((0 ≤ a ∧ q_room G a.toNat) ∧ q_wp d 150 108 [z0] (.inr (.inr (.inl (some (32 + G.2.2.1)))) :: st) (q_zr v (32 + G.2.2.1)) (q_mk G 20 a.toNat) Q) := q_w_newI c_150_106
theorem c_150_108 : q_code 150 108 = (.putfield 34, 3, 11, 11, 1, 966, 0) := by decide +kernel
theorem e_150_108 (d : Nat) (a : Nat) (b : Option Nat) (z0 : q_V) (st : List q_V) (v : q_H) (G : q_Gr) (Q : q_V → q_H → q_Gr → Prop) : q_wp d 150 108 [z0] (.inr (.inr (.inl b)) :: .inr (.inr (.inl (some a))) :: st) v G Q = (((G.2.1 a).1 = 11) ∧ q_wp d 150 111 [z0] st v (q_upr G.1 a 11 b, G.2) Q) := q_w_putP c_150_108
theorem c_150_111 : q_code 150 111 = (.aload_n 0, 1, 0, 0, 0, 0, 0) := by decide +kernel
theorem e_150_111 (d : Nat) (a : Option Nat) (st : List q_V) (v : q_H) (G : q_Gr) (Q : q_V → q_H → q_Gr → Prop) : q_wp d 150 111 [.inr (.inr (.inl a))] st v G Q = q_wp d 150 112 [.inr (.inr (.inl a))] (.inr (.inr (.inl a)) :: st) v G Q := q_w_aload_n c_150_111 rfl
theorem c_150_112 : q_code 150 112 = (.sipush 272, 3, 0, 0, 0, 0, 0) := by decide +kernel
theorem e_150_112 (d : Nat)  (z0 : q_V) (st : List q_V) (v : q_H) (G : q_Gr) (Q : q_V → q_H → q_Gr → Prop) : q_wp d 150 112 [z0] st v G Q = q_wp d 150 115 [z0] (.inl 272 :: st) v G Q := (q_w_sipush c_150_112).trans (by simp only [show ((-32768 : Int) ≤ 272 ∧ (272 : Int) ≤ 32767) = True by decide, true_and])
theorem c_150_115 : q_code 150 115 = (.newarray .int, 2, 0, 0, 0, 0, 0) := by decide +kernel
theorem e_150_115 (d : Nat) (a : Int) (z0 : q_V) (st : List q_V) (v : q_H) (G : q_Gr) (Q : q_V → q_H → q_Gr → Prop) : q_wp d 150 115 [z0] (.inl a :: st) v G Q = ((0 ≤ a ∧ q_room G a.toNat) ∧ q_wp d 150 117 [z0] (.inr (.inr (.inl (some (32 + G.2.2.1)))) :: st) (q_zr v (32 + G.2.2.1)) (q_mk G 20 a.toNat) Q) := q_w_newI c_150_115
theorem c_150_117 : q_code 150 117 = (.putfield 37, 3, 11, 12, 1, 967, 0) := by decide +kernel
theorem e_150_117 (d : Nat) (a : Nat) (b : Option Nat) (z0 : q_V) (st : List q_V) (v : q_H) (G : q_Gr) (Q : q_V → q_H → q_Gr → Prop) : q_wp d 150 117 [z0] (.inr (.inr (.inl b)) :: .inr (.inr (.inl (some a))) :: st) v G Q = (((G.2.1 a).1 = 11) ∧ q_wp d 150 120 [z0] st v (q_upr G.1 a 12 b, G.2) Q) := q_w_putP c_150_117
theorem c_150_120 : q_code 150 120 = (.aload_n 0, 1, 0, 0, 0, 0, 0) := by decide +kernel
theorem e_150_120 (d : Nat) (a : Option Nat) (st : List q_V) (v : q_H) (G : q_Gr) (Q : q_V → q_H → q_Gr → Prop) : q_wp d 150 120 [.inr (.inr (.inl a))] st v G Q = q_wp d 150 121 [.inr (.inr (.inl a))] (.inr (.inr (.inl a)) :: st) v G Q := q_w_aload_n c_150_120 rfl
theorem c_150_121 : q_code 150 121 = (.bipush 80, 2, 0, 0, 0, 0, 0) := by decide +kernel
theorem e_150_121 (d : Nat)  (z0 : q_V) (st : List q_V) (v : q_H) (G : q_Gr) (Q : q_V → q_H → q_Gr → Prop) : q_wp d 150 121 [z0] st v G Q = q_wp d 150 123 [z0] (.inl 80 :: st) v G Q := (q_w_bipush c_150_121).trans (by simp only [show ((-128 : Int) ≤ 80 ∧ (80 : Int) ≤ 127) = True by decide, true_and])
theorem c_150_123 : q_code 150 123 = (.newarray .int, 2, 0, 0, 0, 0, 0) := by decide +kernel
theorem e_150_123 (d : Nat) (a : Int) (z0 : q_V) (st : List q_V) (v : q_H) (G : q_Gr) (Q : q_V → q_H → q_Gr → Prop) : q_wp d 150 123 [z0] (.inl a :: st) v G Q = ((0 ≤ a ∧ q_room G a.toNat) ∧ q_wp d 150 125 [z0] (.inr (.inr (.inl (some (32 + G.2.2.1)))) :: st) (q_zr v (32 + G.2.2.1)) (q_mk G 20 a.toNat) Q) := q_w_newI c_150_123
theorem c_150_125 : q_code 150 125 = (.putfield 40, 3, 11, 14, 1, 969, 0) := by decide +kernel
theorem e_150_125 (d : Nat) (a : Nat) (b : Option Nat) (z0 : q_V) (st : List q_V) (v : q_H) (G : q_Gr) (Q : q_V → q_H → q_Gr → Prop) : q_wp d 150 125 [z0] (.inr (.inr (.inl b)) :: .inr (.inr (.inl (some a))) :: st) v G Q = (((G.2.1 a).1 = 11) ∧ q_wp d 150 128 [z0] st v (q_upr G.1 a 14 b, G.2) Q) := q_w_putP c_150_125
theorem c_150_128 : q_code 150 128 = (.aload_n 0, 1, 0, 0, 0, 0, 0) := by decide +kernel
theorem e_150_128 (d : Nat) (a : Option Nat) (st : List q_V) (v : q_H) (G : q_Gr) (Q : q_V → q_H → q_Gr → Prop) : q_wp d 150 128 [.inr (.inr (.inl a))] st v G Q = q_wp d 150 129 [.inr (.inr (.inl a))] (.inr (.inr (.inl a)) :: st) v G Q := q_w_aload_n c_150_128 rfl
theorem c_150_129 : q_code 150 129 = (.bipush 12, 2, 0, 0, 0, 0, 0) := by decide +kernel
theorem e_150_129 (d : Nat)  (z0 : q_V) (st : List q_V) (v : q_H) (G : q_Gr) (Q : q_V → q_H → q_Gr → Prop) : q_wp d 150 129 [z0] st v G Q = q_wp d 150 131 [z0] (.inl 12 :: st) v G Q := (q_w_bipush c_150_129).trans (by simp only [show ((-128 : Int) ≤ 12 ∧ (12 : Int) ≤ 127) = True by decide, true_and])
theorem c_150_131 : q_code 150 131 = (.newarray .int, 2, 0, 0, 0, 0, 0) := by decide +kernel
theorem e_150_131 (d : Nat) (a : Int) (z0 : q_V) (st : List q_V) (v : q_H) (G : q_Gr) (Q : q_V → q_H → q_Gr → Prop) : q_wp d 150 131 [z0] (.inl a :: st) v G Q = ((0 ≤ a ∧ q_room G a.toNat) ∧ q_wp d 150 133 [z0] (.inr (.inr (.inl (some (32 + G.2.2.1)))) :: st) (q_zr v (32 + G.2.2.1)) (q_mk G 20 a.toNat) Q) := q_w_newI c_150_131
theorem c_150_133 : q_code 150 133 = (.putfield 43, 3, 11, 16, 1, 971, 0) := by decide +kernel
theorem e_150_133 (d : Nat) (a : Nat) (b : Option Nat) (z0 : q_V) (st : List q_V) (v : q_H) (G : q_Gr) (Q : q_V → q_H → q_Gr → Prop) : q_wp d 150 133 [z0] (.inr (.inr (.inl b)) :: .inr (.inr (.inl (some a))) :: st) v G Q = (((G.2.1 a).1 = 11) ∧ q_wp d 150 136 [z0] st v (q_upr G.1 a 16 b, G.2) Q) := q_w_putP c_150_133
theorem c_150_136 : q_code 150 136 = (.aload_n 0, 1, 0, 0, 0, 0, 0) := by decide +kernel
theorem e_150_136 (d : Nat) (a : Option Nat) (st : List q_V) (v : q_H) (G : q_Gr) (Q : q_V → q_H → q_Gr → Prop) : q_wp d 150 136 [.inr (.inr (.inl a))] st v G Q = q_wp d 150 137 [.inr (.inr (.inl a))] (.inr (.inr (.inl a)) :: st) v G Q := q_w_aload_n c_150_136 rfl
theorem c_150_137 : q_code 150 137 = (.bipush 12, 2, 0, 0, 0, 0, 0) := by decide +kernel
theorem e_150_137 (d : Nat)  (z0 : q_V) (st : List q_V) (v : q_H) (G : q_Gr) (Q : q_V → q_H → q_Gr → Prop) : q_wp d 150 137 [z0] st v G Q = q_wp d 150 139 [z0] (.inl 12 :: st) v G Q := (q_w_bipush c_150_137).trans (by simp only [show ((-128 : Int) ≤ 12 ∧ (12 : Int) ≤ 127) = True by decide, true_and])
theorem c_150_139 : q_code 150 139 = (.newarray .int, 2, 0, 0, 0, 0, 0) := by decide +kernel
theorem e_150_139 (d : Nat) (a : Int) (z0 : q_V) (st : List q_V) (v : q_H) (G : q_Gr) (Q : q_V → q_H → q_Gr → Prop) : q_wp d 150 139 [z0] (.inl a :: st) v G Q = ((0 ≤ a ∧ q_room G a.toNat) ∧ q_wp d 150 141 [z0] (.inr (.inr (.inl (some (32 + G.2.2.1)))) :: st) (q_zr v (32 + G.2.2.1)) (q_mk G 20 a.toNat) Q) := q_w_newI c_150_139
theorem c_150_141 : q_code 150 141 = (.putfield 46, 3, 11, 17, 1, 972, 0) := by decide +kernel
theorem e_150_141 (d : Nat) (a : Nat) (b : Option Nat) (z0 : q_V) (st : List q_V) (v : q_H) (G : q_Gr) (Q : q_V → q_H → q_Gr → Prop) : q_wp d 150 141 [z0] (.inr (.inr (.inl b)) :: .inr (.inr (.inl (some a))) :: st) v G Q = (((G.2.1 a).1 = 11) ∧ q_wp d 150 144 [z0] st v (q_upr G.1 a 17 b, G.2) Q) := q_w_putP c_150_141
theorem c_150_144 : q_code 150 144 = (.aload_n 0, 1, 0, 0, 0, 0, 0) := by decide +kernel
theorem e_150_144 (d : Nat) (a : Option Nat) (st : List q_V) (v : q_H) (G : q_Gr) (Q : q_V → q_H → q_Gr → Prop) : q_wp d 150 144 [.inr (.inr (.inl a))] st v G Q = q_wp d 150 145 [.inr (.inr (.inl a))] (.inr (.inr (.inl a)) :: st) v G Q := q_w_aload_n c_150_144 rfl
theorem c_150_145 : q_code 150 145 = (.bipush 12, 2, 0, 0, 0, 0, 0) := by decide +kernel
theorem e_150_145 (d : Nat)  (z0 : q_V) (st : List q_V) (v : q_H) (G : q_Gr) (Q : q_V → q_H → q_Gr → Prop) : q_wp d 150 145 [z0] st v G Q = q_wp d 150 147 [z0] (.inl 12 :: st) v G Q := (q_w_bipush c_150_145).trans (by simp only [show ((-128 : Int) ≤ 12 ∧ (12 : Int) ≤ 127) = True by decide, true_and])
theorem c_150_147 : q_code 150 147 = (.newarray .int, 2, 0, 0, 0, 0, 0) := by decide +kernel
theorem e_150_147 (d : Nat) (a : Int) (z0 : q_V) (st : List q_V) (v : q_H) (G : q_Gr) (Q : q_V → q_H → q_Gr → Prop) : q_wp d 150 147 [z0] (.inl a :: st) v G Q = ((0 ≤ a ∧ q_room G a.toNat) ∧ q_wp d 150 149 [z0] (.inr (.inr (.inl (some (32 + G.2.2.1)))) :: st) (q_zr v (32 + G.2.2.1)) (q_mk G 20 a.toNat) Q) := q_w_newI c_150_147
theorem c_150_149 : q_code 150 149 = (.putfield 49, 3, 11, 18, 1, 973, 0) := by decide +kernel
theorem e_150_149 (d : Nat) (a : Nat) (b : Option Nat) (z0 : q_V) (st : List q_V) (v : q_H) (G : q_Gr) (Q : q_V → q_H → q_Gr → Prop) : q_wp d 150 149 [z0] (.inr (.inr (.inl b)) :: .inr (.inr (.inl (some a))) :: st) v G Q = (((G.2.1 a).1 = 11) ∧ q_wp d 150 152 [z0] st v (q_upr G.1 a 18 b, G.2) Q) := q_w_putP c_150_149
theorem c_150_152 : q_code 150 152 = (.aload_n 0, 1, 0, 0, 0, 0, 0) := by decide +kernel
theorem e_150_152 (d : Nat) (a : Option Nat) (st : List q_V) (v : q_H) (G : q_Gr) (Q : q_V → q_H → q_Gr → Prop) : q_wp d 150 152 [.inr (.inr (.inl a))] st v G Q = q_wp d 150 153 [.inr (.inr (.inl a))] (.inr (.inr (.inl a)) :: st) v G Q := q_w_aload_n c_150_152 rfl
theorem c_150_153 : q_code 150 153 = (.bipush 12, 2, 0, 0, 0, 0, 0) := by decide +kernel
theorem e_150_153 (d : Nat)  (z0 : q_V) (st : List q_V) (v : q_H) (G : q_Gr) (Q : q_V → q_H → q_Gr → Prop) : q_wp d 150 153 [z0] st v G Q = q_wp d 150 155 [z0] (.inl 12 :: st) v G Q := (q_w_bipush c_150_153).trans (by simp only [show ((-128 : Int) ≤ 12 ∧ (12 : Int) ≤ 127) = True by decide, true_and])
theorem c_150_155 : q_code 150 155 = (.newarray .int, 2, 0, 0, 0, 0, 0) := by decide +kernel
theorem e_150_155 (d : Nat) (a : Int) (z0 : q_V) (st : List q_V) (v : q_H) (G : q_Gr) (Q : q_V → q_H → q_Gr → Prop) : q_wp d 150 155 [z0] (.inl a :: st) v G Q = ((0 ≤ a ∧ q_room G a.toNat) ∧ q_wp d 150 157 [z0] (.inr (.inr (.inl (some (32 + G.2.2.1)))) :: st) (q_zr v (32 + G.2.2.1)) (q_mk G 20 a.toNat) Q) := q_w_newI c_150_155
theorem c_150_157 : q_code 150 157 = (.putfield 52, 3, 11, 19, 1, 974, 0) := by decide +kernel
theorem e_150_157 (d : Nat) (a : Nat) (b : Option Nat) (z0 : q_V) (st : List q_V) (v : q_H) (G : q_Gr) (Q : q_V → q_H → q_Gr → Prop) : q_wp d 150 157 [z0] (.inr (.inr (.inl b)) :: .inr (.inr (.inl (some a))) :: st) v G Q = (((G.2.1 a).1 = 11) ∧ q_wp d 150 160 [z0] st v (q_upr G.1 a 19 b, G.2) Q) := q_w_putP c_150_157
theorem c_150_160 : q_code 150 160 = (.aload_n 0, 1, 0, 0, 0, 0, 0) := by decide +kernel
theorem e_150_160 (d : Nat) (a : Option Nat) (st : List q_V) (v : q_H) (G : q_Gr) (Q : q_V → q_H → q_Gr → Prop) : q_wp d 150 160 [.inr (.inr (.inl a))] st v G Q = q_wp d 150 161 [.inr (.inr (.inl a))] (.inr (.inr (.inl a)) :: st) v G Q := q_w_aload_n c_150_160 rfl
theorem c_150_161 : q_code 150 161 = (.bipush 12, 2, 0, 0, 0, 0, 0) := by decide +kernel
theorem e_150_161 (d : Nat)  (z0 : q_V) (st : List q_V) (v : q_H) (G : q_Gr) (Q : q_V → q_H → q_Gr → Prop) : q_wp d 150 161 [z0] st v G Q = q_wp d 150 163 [z0] (.inl 12 :: st) v G Q := (q_w_bipush c_150_161).trans (by simp only [show ((-128 : Int) ≤ 12 ∧ (12 : Int) ≤ 127) = True by decide, true_and])
theorem c_150_163 : q_code 150 163 = (.newarray .int, 2, 0, 0, 0, 0, 0) := by decide +kernel
theorem e_150_163 (d : Nat) (a : Int) (z0 : q_V) (st : List q_V) (v : q_H) (G : q_Gr) (Q : q_V → q_H → q_Gr → Prop) : q_wp d 150 163 [z0] (.inl a :: st) v G Q = ((0 ≤ a ∧ q_room G a.toNat) ∧ q_wp d 150 165 [z0] (.inr (.inr (.inl (some (32 + G.2.2.1)))) :: st) (q_zr v (32 + G.2.2.1)) (q_mk G 20 a.toNat) Q) := q_w_newI c_150_163
theorem c_150_165 : q_code 150 165 = (.putfield 55, 3, 11, 20, 1, 975, 0) := by decide +kernel
theorem e_150_165 (d : Nat) (a : Nat) (b : Option Nat) (z0 : q_V) (st : List q_V) (v : q_H) (G : q_Gr) (Q : q_V → q_H → q_Gr → Prop) : q_wp d 150 165 [z0] (.inr (.inr (.inl b)) :: .inr (.inr (.inl (some a))) :: st) v G Q = (((G.2.1 a).1 = 11) ∧ q_wp d 150 168 [z0] st v (q_upr G.1 a 20 b, G.2) Q) := q_w_putP c_150_165
theorem c_150_168 : q_code 150 168 = (.aload_n 0, 1, 0, 0, 0, 0, 0) := by decide +kernel
theorem e_150_168 (d : Nat) (a : Option Nat) (st : List q_V) (v : q_H) (G : q_Gr) (Q : q_V → q_H → q_Gr → Prop) : q_wp d 150 168 [.inr (.inr (.inl a))] st v G Q = q_wp d 150 169 [.inr (.inr (.inl a))] (.inr (.inr (.inl a)) :: st) v G Q := q_w_aload_n c_150_168 rfl
theorem c_150_169 : q_code 150 169 = (.sipush 200, 3, 0, 0, 0, 0, 0) := by decide +kernel
theorem e_150_169 (d : Nat)  (z0 : q_V) (st : List q_V) (v : q_H) (G : q_Gr) (Q : q_V → q_H → q_Gr → Prop) : q_wp d 150 169 [z0] st v G Q = q_wp d 150 172 [z0] (.inl 200 :: st) v G Q := (q_w_sipush c_150_169).trans (by simp only [show ((-32768 : Int) ≤ 200 ∧ (200 : Int) ≤ 32767) = True by decide, true_and])
theorem c_150_172 : q_code 150 172 = (.newarray .int, 2, 0, 0, 0, 0, 0) := by decide +kernel
theorem e_150_172 (d : Nat) (a : Int) (z0 : q_V) (st : List q_V) (v : q_H) (G : q_Gr) (Q : q_V → q_H → q_Gr → Prop) : q_wp d 150 172 [z0] (.inl a :: st) v G Q = ((0 ≤ a ∧ q_room G a.toNat) ∧ q_wp d 150 174 [z0] (.inr (.inr (.inl (some (32 + G.2.2.1)))) :: st) (q_zr v (32 + G.2.2.1)) (q_mk G 20 a.toNat) Q) := q_w_newI c_150_172
theorem c_150_174 : q_code 150 174 = (.putfield 58, 3, 11, 22, 1, 977, 0) := by decide +kernel
theorem e_150_174 (d : Nat) (a : Nat) (b : Option Nat) (z0 : q_V) (st : List q_V) (v : q_H) (G : q_Gr) (Q : q_V → q_H → q_Gr → Prop) : q_wp d 150 174 [z0] (.inr (.inr (.inl b)) :: .inr (.inr (.inl (some a))) :: st) v G Q = (((G.2.1 a).1 = 11) ∧ q_wp d 150 177 [z0] st v (q_upr G.1 a 22 b, G.2) Q) := q_w_putP c_150_174
theorem c_150_177 : q_code 150 177 = (.aload_n 0, 1, 0, 0, 0, 0, 0) := by decide +kernel
theorem e_150_177 (d : Nat) (a : Option Nat) (st : List q_V) (v : q_H) (G : q_Gr) (Q : q_V → q_H → q_Gr → Prop) : q_wp d 150 177 [.inr (.inr (.inl a))] st v G Q = q_wp d 150 178 [.inr (.inr (.inl a))] (.inr (.inr (.inl a)) :: st) v G Q := q_w_aload_n c_150_177 rfl
theorem c_150_178 : q_code 150 178 = (.sipush 600, 3, 0, 0, 0, 0, 0) := by decide +kernel
theorem e_150_178 (d : Nat)  (z0 : q_V) (st : List q_V) (v : q_H) (G : q_Gr) (Q : q_V → q_H → q_Gr → Prop) : q_wp d 150 178 [z0] st v G Q = q_wp d 150 181 [z0] (.inl 600 :: st) v G Q := (q_w_sipush c_150_178).trans (by simp only [show ((-32768 : Int) ≤ 600 ∧ (600 : Int) ≤ 32767) = True by decide, true_and])
theorem c_150_181 : q_code 150 181 = (.newarray .int, 2, 0, 0, 0, 0, 0) := by decide +kernel
theorem e_150_181 (d : Nat) (a : Int) (z0 : q_V) (st : List q_V) (v : q_H) (G : q_Gr) (Q : q_V → q_H → q_Gr → Prop) : q_wp d 150 181 [z0] (.inl a :: st) v G Q = ((0 ≤ a ∧ q_room G a.toNat) ∧ q_wp d 150 183 [z0] (.inr (.inr (.inl (some (32 + G.2.2.1)))) :: st) (q_zr v (32 + G.2.2.1)) (q_mk G 20 a.toNat) Q) := q_w_newI c_150_181
theorem c_150_183 : q_code 150 183 = (.putfield 61, 3, 11, 33, 1, 988, 0) := by decide +kernel
theorem e_150_183 (d : Nat) (a : Nat) (b : Option Nat) (z0 : q_V) (st : List q_V) (v : q_H) (G : q_Gr) (Q : q_V → q_H → q_Gr → Prop) : q_wp d 150 183 [z0] (.inr (.inr (.inl b)) :: .inr (.inr (.inl (some a))) :: st) v G Q = (((G.2.1 a).1 = 11) ∧ q_wp d 150 186 [z0] st v (q_upr G.1 a 33 b, G.2) Q) := q_w_putP c_150_183
theorem c_150_186 : q_code 150 186 = (.aload_n 0, 1, 0, 0, 0, 0, 0) := by decide +kernel
theorem e_150_186 (d : Nat) (a : Option Nat) (st : List q_V) (v : q_H) (G : q_Gr) (Q : q_V → q_H → q_Gr → Prop) : q_wp d 150 186 [.inr (.inr (.inl a))] st v G Q = q_wp d 150 187 [.inr (.inr (.inl a))] (.inr (.inr (.inl a)) :: st) v G Q := q_w_aload_n c_150_186 rfl
theorem c_150_187 : q_code 150 187 = (.bipush 16, 2, 0, 0, 0, 0, 0) := by decide +kernel
theorem e_150_187 (d : Nat)  (z0 : q_V) (st : List q_V) (v : q_H) (G : q_Gr) (Q : q_V → q_H → q_Gr → Prop) : q_wp d 150 187 [z0] st v G Q = q_wp d 150 189 [z0] (.inl 16 :: st) v G Q := (q_w_bipush c_150_187).trans (by simp only [show ((-128 : Int) ≤ 16 ∧ (16 : Int) ≤ 127) = True by decide, true_and])
theorem c_150_189 : q_code 150 189 = (.newarray .boolean, 2, 0, 0, 0, 0, 0) := by decide +kernel
theorem e_150_189 (d : Nat) (a : Int) (z0 : q_V) (st : List q_V) (v : q_H) (G : q_Gr) (Q : q_V → q_H → q_Gr → Prop) : q_wp d 150 189 [z0] (.inl a :: st) v G Q = ((0 ≤ a ∧ q_room G a.toNat) ∧ q_wp d 150 191 [z0] (.inr (.inr (.inl (some (32 + G.2.2.1)))) :: st) (q_zr v (32 + G.2.2.1)) (q_mk G 21 a.toNat) Q) := q_w_newZ c_150_189
theorem c_150_191 : q_code 150 191 = (.putfield 64, 3, 11, 34, 1, 989, 0) := by decide +kernel
theorem e_150_191 (d : Nat) (a : Nat) (b : Option Nat) (z0 : q_V) (st : List q_V) (v : q_H) (G : q_Gr) (Q : q_V → q_H → q_Gr → Prop) : q_wp d 150 191 [z0] (.inr (.inr (.inl b)) :: .inr (.inr (.inl (some a))) :: st) v G Q = (((G.2.1 a).1 = 11) ∧ q_wp d 150 194 [z0] st v (q_upr G.1 a 34 b, G.2) Q) := q_w_putP c_150_191
theorem c_150_194 : q_code 150 194 = (.aload_n 0, 1, 0, 0, 0, 0, 0) := by decide +kernel
theorem e_150_194 (d : Nat) (a : Option Nat) (st : List q_V) (v : q_H) (G : q_Gr) (Q : q_V → q_H → q_Gr → Prop) : q_wp d 150 194 [.inr (.inr (.inl a))] st v G Q = q_wp d 150 195 [.inr (.inr (.inl a))] (.inr (.inr (.inl a)) :: st) v G Q := q_w_aload_n c_150_194 rfl
theorem c_150_195 : q_code 150 195 = (.bipush 40, 2, 0, 0, 0, 0, 0) := by decide +kernel
theorem e_150_195 (d : Nat)  (z0 : q_V) (st : List q_V) (v : q_H) (G : q_Gr) (Q : q_V → q_H → q_Gr → Prop) : q_wp d 150 195 [z0] st v G Q = q_wp d 150 197 [z0] (.inl 40 :: st) v G Q := (q_w_bipush c_150_195).trans (by simp only [show ((-128 : Int) ≤ 40 ∧ (40 : Int) ≤ 127) = True by decide, true_and])
theorem c_150_197 : q_code 150 197 = (.newarray .int, 2, 0, 0, 0, 0, 0) := by decide +kernel
theorem e_150_197 (d : Nat) (a : Int) (z0 : q_V) (st : List q_V) (v : q_H) (G : q_Gr) (Q : q_V → q_H → q_Gr → Prop) : q_wp d 150 197 [z0] (.inl a :: st) v G Q = ((0 ≤ a ∧ q_room G a.toNat) ∧ q_wp d 150 199 [z0] (.inr (.inr (.inl (some (32 + G.2.2.1)))) :: st) (q_zr v (32 + G.2.2.1)) (q_mk G 20 a.toNat) Q) := q_w_newI c_150_197
theorem c_150_199 : q_code 150 199 = (.putfield 68, 3, 11, 35, 1, 990, 0) := by decide +kernel
theorem e_150_199 (d : Nat) (a : Nat) (b : Option Nat) (z0 : q_V) (st : List q_V) (v : q_H) (G : q_Gr) (Q : q_V → q_H → q_Gr → Prop) : q_wp d 150 199 [z0] (.inr (.inr (.inl b)) :: .inr (.inr (.inl (some a))) :: st) v G Q = (((G.2.1 a).1 = 11) ∧ q_wp d 150 202 [z0] st v (q_upr G.1 a 35 b, G.2) Q) := q_w_putP c_150_199
theorem c_150_202 : q_code 150 202 = (.aload_n 0, 1, 0, 0, 0, 0, 0) := by decide +kernel
theorem e_150_202 (d : Nat) (a : Option Nat) (st : List q_V) (v : q_H) (G : q_Gr) (Q : q_V → q_H → q_Gr → Prop) : q_wp d 150 202 [.inr (.inr (.inl a))] st v G Q = q_wp d 150 203 [.inr (.inr (.inl a))] (.inr (.inr (.inl a)) :: st) v G Q := q_w_aload_n c_150_202 rfl
theorem c_150_203 : q_code 150 203 = (.bipush 40, 2, 0, 0, 0, 0, 0) := by decide +kernel
theorem e_150_203 (d : Nat)  (z0 : q_V) (st : List q_V) (v : q_H) (G : q_Gr) (Q : q_V → q_H → q_Gr → Prop) : q_wp d 150 203 [z0] st v G Q = q_wp d 150 205 [z0] (.inl 40 :: st) v G Q := (q_w_bipush c_150_203).trans (by simp only [show ((-128 : Int) ≤ 40 ∧ (40 : Int) ≤ 127) = True by decide, true_and])
theorem c_150_205 : q_code 150 205 = (.newarray .int, 2, 0, 0, 0, 0, 0) := by decide +kernel
theorem e_150_205 (d : Nat) (a : Int) (z0 : q_V) (st : List q_V) (v : q_H) (G : q_Gr) (Q : q_V → q_H → q_Gr → Prop) : q_wp d 150 205 [z0] (.inl a :: st) v G Q = ((0 ≤ a ∧ q_room G a.toNat) ∧ q_wp d 150 207 [z0] (.inr (.inr (.inl (some (32 + G.2.2.1)))) :: st) (q_zr v (32 + G.2.2.1)) (q_mk G 20 a.toNat) Q) := q_w_newI c_150_205
theorem c_150_207 : q_code 150 207 = (.putfield 71, 3, 11, 36, 1, 991, 0) := by decide +kernel
theorem e_150_207 (d : Nat) (a : Nat) (b : Option Nat) (z0 : q_V) (st : List q_V) (v : q_H) (G : q_Gr) (Q : q_V → q_H → q_Gr → Prop) : q_wp d 150 207 [z0] (.inr (.inr (.inl b)) :: .inr (.inr (.inl (some a))) :: st) v G Q = (((G.2.1 a).1 = 11) ∧ q_wp d 150 210 [z0] st v (q_upr G.1 a 36 b, G.2) Q) := q_w_putP c_150_207
theorem c_150_210 : q_code 150 210 = (.aload_n 0, 1, 0, 0, 0, 0, 0) := by decide +kernel
theorem e_150_210 (d : Nat) (a : Option Nat) (st : List q_V) (v : q_H) (G : q_Gr) (Q : q_V → q_H → q_Gr → Prop) : q_wp d 150 210 [.inr (.inr (.inl a))] st v G Q = q_wp d 150 211 [.inr (.inr (.inl a))] (.inr (.inr (.inl a)) :: st) v G Q := q_w_aload_n c_150_210 rfl
theorem c_150_211 : q_code 150 211 = (.bipush 64, 2, 0, 0, 0, 0, 0) := by decide +kernel
theorem e_150_211 (d : Nat)  (z0 : q_V) (st : List q_V) (v : q_H) (G : q_Gr) (Q : q_V → q_H → q_Gr → Prop) : q_wp d 150 211 [z0] st v G Q = q_wp d 150 213 [z0] (.inl 64 :: st) v G Q := (q_w_bipush c_150_211).trans (by simp only [show ((-128 : Int) ≤ 64 ∧ (64 : Int) ≤ 127) = True by decide, true_and])
theorem c_150_213 : q_code 150 213 = (.newarray .int, 2, 0, 0, 0, 0, 0) := by decide +kernel
theorem e_150_213 (d : Nat) (a : Int) (z0 : q_V) (st : List q_V) (v : q_H) (G : q_Gr) (Q : q_V → q_H → q_Gr → Prop) : q_wp d 150 213 [z0] (.inl a :: st) v G Q = ((0 ≤ a ∧ q_room G a.toNat) ∧ q_wp d 150 215 [z0] (.inr (.inr (.inl (some (32 + G.2.2.1)))) :: st) (q_zr v (32 + G.2.2.1)) (q_mk G 20 a.toNat) Q) := q_w_newI c_150_213
theorem c_150_215 : q_code 150 215 = (.putfield 74, 3, 11, 38, 1, 993, 0) := by decide +kernel
theorem e_150_215 (d : Nat) (a : Nat) (b : Option Nat) (z0 : q_V) (st : List q_V) (v : q_H) (G : q_Gr) (Q : q_V → q_H → q_Gr → Prop) : q_wp d 150 215 [z0] (.inr (.inr (.inl b)) :: .inr (.inr (.inl (some a))) :: st) v G Q = (((G.2.1 a).1 = 11) ∧ q_wp d 150 218 [z0] st v (q_upr G.1 a 38 b, G.2) Q) := q_w_putP c_150_215
theorem c_150_218 : q_code 150 218 = (.aload_n 0, 1, 0, 0, 0, 0, 0) := by decide +kernel
theorem e_150_218 (d : Nat) (a : Option Nat) (st : List q_V) (v : q_H) (G : q_Gr) (Q : q_V → q_H → q_Gr → Prop) : q_wp d 150 218 [.inr (.inr (.inl a))] st v G Q = q_wp d 150 219 [.inr (.inr (.inl a))] (.inr (.inr (.inl a)) :: st) v G Q := q_w_aload_n c_150_218 rfl
theorem c_150_219 : q_code 150 219 = (.sipush 600, 3, 0, 0, 0, 0, 0) := by decide +kernel
theorem e_150_219 (d : Nat)  (z0 : q_V) (st : List q_V) (v : q_H) (G : q_Gr) (Q : q_V → q_H → q_Gr → Prop) : q_wp d 150 219 [z0] st v G Q = q_wp d 150 222 [z0] (.inl 600 :: st) v G Q := (q_w_sipush c_150_219).trans (by simp only [show ((-32768 : Int) ≤ 600 ∧ (600 : Int) ≤ 32767) = True by decide, true_and])
theorem c_150_222 : q_code 150 222 = (.newarray .int, 2, 0, 0, 0, 0, 0) := by decide +kernel
theorem e_150_222 (d : Nat) (a : Int) (z0 : q_V) (st : List q_V) (v : q_H) (G : q_Gr) (Q : q_V → q_H → q_Gr → Prop) : q_wp d 150 222 [z0] (.inl a :: st) v G Q = ((0 ≤ a ∧ q_room G a.toNat) ∧ q_wp d 150 224 [z0] (.inr (.inr (.inl (some (32 + G.2.2.1)))) :: st) (q_zr v (32 + G.2.2.1)) (q_mk G 20 a.toNat) Q) := q_w_newI c_150_222
theorem c_150_224 : q_code 150 224 = (.putfield 77, 3, 11, 40, 1, 995, 0) := by decide +kernel
theorem e_150_224 (d : Nat) (a : Nat) (b : Option Nat) (z0 : q_V) (st : List q_V) (v : q_H) (G : q_Gr) (Q : q_V → q_H → q_Gr → Prop) : q_wp d 150 224 [z0] (.inr (.inr (.inl b)) :: .inr (.inr (.inl (some a))) :: st) v G Q = (((G.2.1 a).1 = 11) ∧ q_wp d 150 227 [z0] st v (q_upr G.1 a 40 b, G.2) Q) := q_w_putP c_150_224
theorem c_150_227 : q_code 150 227 = (.aload_n 0, 1, 0, 0, 0, 0, 0) := by decide +kernel
theorem e_150_227 (d : Nat) (a : Option Nat) (st : List q_V) (v : q_H) (G : q_Gr) (Q : q_V → q_H → q_Gr → Prop) : q_wp d 150 227 [.inr (.inr (.inl a))] st v G Q = q_wp d 150 228 [.inr (.inr (.inl a))] (.inr (.inr (.inl a)) :: st) v G Q := q_w_aload_n c_150_227 rfl
theorem c_150_228 : q_code 150 228 = (.bipush 16, 2, 0, 0, 0, 0, 0) := by decide +kernel
theorem e_150_228 (d : Nat)  (z0 : q_V) (st : List q_V) (v : q_H) (G : q_Gr) (Q : q_V → q_H → q_Gr → Prop) : q_wp d 150 228 [z0] st v G Q = q_wp d 150 230 [z0] (.inl 16 :: st) v G Q := (q_w_bipush c_150_228).trans (by simp only [show ((-128 : Int) ≤ 16 ∧ (16 : Int) ≤ 127) = True by decide, true_and])
theorem c_150_230 : q_code 150 230 = (.newarray .boolean, 2, 0, 0, 0, 0, 0) := by decide +kernel
theorem e_150_230 (d : Nat) (a : Int) (z0 : q_V) (st : List q_V) (v : q_H) (G : q_Gr) (Q : q_V → q_H → q_Gr → Prop) : q_wp d 150 230 [z0] (.inl a :: st) v G Q = ((0 ≤ a ∧ q_room G a.toNat) ∧ q_wp d 150 232 [z0] (.inr (.inr (.inl (some (32 + G.2.2.1)))) :: st) (q_zr v (32 + G.2.2.1)) (q_mk G 21 a.toNat) Q) := q_w_newZ c_150_230
theorem c_150_232 : q_code 150 232 = (.putfield 80, 3, 11, 45, 1, 1000, 0) := by decide +kernel
theorem e_150_232 (d : Nat) (a : Nat) (b : Option Nat) (z0 : q_V) (st : List q_V) (v : q_H) (G : q_Gr) (Q : q_V → q_H → q_Gr → Prop) : q_wp d 150 232 [z0] (.inr (.inr (.inl b)) :: .inr (.inr (.inl (some a))) :: st) v G Q = (((G.2.1 a).1 = 11) ∧ q_wp d 150 235 [z0] st v (q_upr G.1 a 45 b, G.2) Q) := q_w_putP c_150_232
theorem c_150_235 : q_code 150 235 = (.aload_n 0, 1, 0, 0, 0, 0, 0) := by decide +kernel
theorem e_150_235 (d : Nat) (a : Option Nat) (st : List q_V) (v : q_H) (G : q_Gr) (Q : q_V → q_H → q_Gr → Prop) : q_wp d 150 235 [.inr (.inr (.inl a))] st v G Q = q_wp d 150 236 [.inr (.inr (.inl a))] (.inr (.inr (.inl a)) :: st) v G Q := q_w_aload_n c_150_235 rfl
theorem c_150_236 : q_code 150 236 = (.bipush 16, 2, 0, 0, 0, 0, 0) := by decide +kernel
theorem e_150_236 (d : Nat)  (z0 : q_V) (st : List q_V) (v : q_H) (G : q_Gr) (Q : q_V → q_H → q_Gr → Prop) : q_wp d 150 236 [z0] st v G Q = q_wp d 150 238 [z0] (.inl 16 :: st) v G Q := (q_w_bipush c_150_236).trans (by simp only [show ((-128 : Int) ≤ 16 ∧ (16 : Int) ≤ 127) = True by decide, true_and])
theorem c_150_238 : q_code 150 238 = (.newarray .int, 2, 0, 0, 0, 0, 0) := by decide +kernel
theorem e_150_238 (d : Nat) (a : Int) (z0 : q_V) (st : List q_V) (v : q_H) (G : q_Gr) (Q : q_V → q_H → q_Gr → Prop) : q_wp d 150 238 [z0] (.inl a :: st) v G Q = ((0 ≤ a ∧ q_room G a.toNat) ∧ q_wp d 150 240 [z0] (.inr (.inr (.inl (some (32 + G.2.2.1)))) :: st) (q_zr v (32 + G.2.2.1)) (q_mk G 20 a.toNat) Q) := q_w_newI c_150_238
theorem c_150_240 : q_code 150 240 = (.putfield 83, 3, 11, 46, 1, 1001, 0) := by decide +kernel
theorem e_150_240 (d : Nat) (a : Nat) (b : Option Nat) (z0 : q_V) (st : List q_V) (v : q_H) (G : q_Gr) (Q : q_V → q_H → q_Gr → Prop) : q_wp d 150 240 [z0] (.inr (.inr (.inl b)) :: .inr (.inr (.inl (some a))) :: st) v G Q = (((G.2.1 a).1 = 11) ∧ q_wp d 150 243 [z0] st v (q_upr G.1 a 46 b, G.2) Q) := q_w_putP c_150_240
theorem c_150_243 : q_code 150 243 = (.aload_n 0, 1, 0, 0, 0, 0, 0) := by decide +kernel
theorem e_150_243 (d : Nat) (a : Option Nat) (st : List q_V) (v : q_H) (G : q_Gr) (Q : q_V → q_H → q_Gr → Prop) : q_wp d 150 243 [.inr (.inr (.inl a))] st v G Q = q_wp d 150 244 [.inr (.inr (.inl a))] (.inr (.inr (.inl a)) :: st) v G Q := q_w_aload_n c_150_243 rfl
theorem c_150_244 : q_code 150 244 = (.bipush 16, 2, 0, 0, 0, 0, 0) := by decide +kernel
theorem e_150_244 (d : Nat)  (z0 : q_V) (st : List q_V) (v : q_H) (G : q_Gr) (Q : q_V → q_H → q_Gr → Prop) : q_wp d 150 244 [z0] st v G Q = q_wp d 150 246 [z0] (.inl 16 :: st) v G Q := (q_w_bipush c_150_244).trans (by simp only [show ((-128 : Int) ≤ 16 ∧ (16 : Int) ≤ 127) = True by decide, true_and])
theorem c_150_246 : q_code 150 246 = (.newarray .int, 2, 0, 0, 0, 0, 0) := by decide +kernel
theorem e_150_246 (d : Nat) (a : Int) (z0 : q_V) (st : List q_V) (v : q_H) (G : q_Gr) (Q : q_V → q_H → q_Gr → Prop) : q_wp d 150 246 [z0] (.inl a :: st) v G Q = ((0 ≤ a ∧ q_room G a.toNat) ∧ q_wp d 150 248 [z0] (.inr (.inr (.inl (some (32 + G.2.2.1)))) :: st) (q_zr v (32 + G.2.2.1)) (q_mk G 20 a.toNat) Q) := q_w_newI c_150_246
theorem c_150_248 : q_code 150 248 = (.putfield 86, 3, 11, 47, 1, 1002, 0) := by decide +kernel
theorem e_150_248 (d : Nat) (a : Nat) (b : Option Nat) (z0 : q_V) (st : List q_V) (v : q_H) (G : q_Gr) (Q : q_V → q_H → q_Gr → Prop) : q_wp d 150 248 [z0] (.inr (.inr (.inl b)) :: .inr (.inr (.inl (some a))) :: st) v G Q = (((G.2.1 a).1 = 11) ∧ q_wp d 150 251 [z0] st v (q_upr G.1 a 47 b, G.2) Q) := q_w_putP c_150_248
theorem c_150_251 : q_code 150 251 = (.aload_n 0, 1, 0, 0, 0, 0, 0) := by decide +kernel
theorem e_150_251 (d : Nat) (a : Option Nat) (st : List q_V) (v : q_H) (G : q_Gr) (Q : q_V → q_H → q_Gr → Prop) : q_wp d 150 251 [.inr (.inr (.inl a))] st v G Q = q_wp d 150 252 [.inr (.inr (.inl a))] (.inr (.inr (.inl a)) :: st) v G Q := q_w_aload_n c_150_251 rfl
theorem c_150_252 : q_code 150 252 = (.bipush 16, 2, 0, 0, 0, 0, 0) := by decide +kernel
theorem e_150_252 (d : Nat)  (z0 : q_V) (st : List q_V) (v : q_H) (G : q_Gr) (Q : q_V → q_H → q_Gr → Prop) : q_wp d 150 252 [z0] st v G Q = q_wp d 150 254 [z0] (.inl 16 :: st) v G Q := (q_w_bipush c_150_252).trans (by simp only [show ((-128 : Int) ≤ 16 ∧ (16 : Int) ≤ 127) = True by decide, true_and])
theorem c_150_254 : q_code 150 254 = (.newarray .int, 2, 0, 0, 0, 0, 0) := by decide +kernel
theorem e_150_254 (d : Nat) (a : Int) (z0 : q_V) (st : List q_V) (v : q_H) (G : q_Gr) (Q : q_V → q_H → q_Gr → Prop) : q_wp d 150 254 [z0] (.inl a :: st) v G Q = ((0 ≤ a ∧ q_room G a.toNat) ∧ q_wp d 150 256 [z0] (.inr (.inr (.inl (some (32 + G.2.2.1)))) :: st) (q_zr v (32 + G.2.2.1)) (q_mk G 20 a.toNat) Q) := q_w_newI c_150_254
theorem c_150_256 : q_code 150 256 = (.putfield 89, 3, 11, 48, 1, 1003, 0) := by decide +kernel
theorem e_150_256 (d : Nat) (a : Nat) (b : Option Nat) (z0 : q_V) (st : List q_V) (v : q_H) (G : q_Gr) (Q : q_V → q_H → q_Gr → Prop) : q_wp d 150 256 [z0] (.inr (.inr (.inl b)) :: .inr (.inr (.inl (some a))) :: st) v G Q = (((G.2.1 a).1 = 11) ∧ q_wp d 150 259 [z0] st v (q_upr G.1 a 48 b, G.2) Q) := q_w_putP c_150_256
theorem c_150_259 : q_code 150 259 = (.aload_n 0, 1, 0, 0, 0, 0, 0) := by decide +kernel
theorem e_150_259 (d : Nat) (a : Option Nat) (st : List q_V) (v : q_H) (G : q_Gr) (Q : q_V → q_H → q_Gr → Prop) : q_wp d 150 259 [.inr (.inr (.inl a))] st v G Q = q_wp d 150 260 [.inr (.inr (.inl a))] (.inr (.inr (.inl a)) :: st) v G Q := q_w_aload_n c_150_259 rfl
theorem c_150_260 : q_code 150 260 = (.bipush 40, 2, 0, 0, 0, 0, 0) := by decide +kernel
theorem e_150_260 (d : Nat)  (z0 : q_V) (st : List q_V) (v : q_H) (G : q_Gr) (Q : q_V → q_H → q_Gr → Prop) : q_wp d 150 260 [z0] st v G Q = q_wp d 150 262 [z0] (.inl 40 :: st) v G Q := (q_w_bipush c_150_260).trans (by simp only [show ((-128 : Int) ≤ 40 ∧ (40 : Int) ≤ 127) = True by decide, true_and])
theorem c_150_262 : q_code 150 262 = (.newarray .int, 2, 0, 0, 0, 0, 0) := by decide +kernel
theorem e_150_262 (d : Nat) (a : Int) (z0 : q_V) (st : List q_V) (v : q_H) (G : q_Gr) (Q : q_V → q_H → q_Gr → Prop) : q_wp d 150 262 [z0] (.inl a :: st) v G Q = ((0 ≤ a ∧ q_room G a.toNat) ∧ q_wp d 150 264 [z0] (.inr (.inr (.inl (some (32 + G.2.2.1)))) :: st) (q_zr v (32 + G.2.2.1)) (q_mk G 20 a.toNat) Q) := q_w_newI c_150_262
theorem c_150_264 : q_code 150 264 = (.putfield 92, 3, 11, 49, 1, 1004, 0) := by decide +kernel
theorem e_150_264 (d : Nat) (a : Nat) (b : Option Nat) (z0 : q_V) (st : List q_V) (v : q_H) (G : q_Gr) (Q : q_V → q_H → q_Gr → Prop) : q_wp d 150 264 [z0] (.inr (.inr (.inl b)) :: .inr (.inr (.inl (some a))) :: st) v G Q = (((G.2.1 a).1 = 11) ∧ q_wp d 150 267 [z0] st v (q_upr G.1 a 49 b, G.2) Q) := q_w_putP c_150_264
theorem c_150_267 : q_code 150 267 = (.aload_n 0, 1, 0, 0, 0, 0, 0) := by decide +kernel
theorem e_150_267 (d : Nat) (a : Option Nat) (st : List q_V) (v : q_H) (G : q_Gr) (Q : q_V → q_H → q_Gr → Prop) : q_wp d 150 267 [.inr (.inr (.inl a))] st v G Q = q_wp d 150 268 [.inr (.inr (.inl a))] (.inr (.inr (.inl a)) :: st) v G Q := q_w_aload_n c_150_267 rfl
theorem c_150_268 : q_code 150 268 = (.bipush 40, 2, 0, 0, 0, 0, 0) := by decide +kernel
theorem e_150_268 (d : Nat)  (z0 : q_V) (st : List q_V) (v : q_H) (G : q_Gr) (Q : q_V → q_H → q_Gr → Prop) : q_wp d 150 268 [z0] st v G Q = q_wp d 150 270 [z0] (.inl 40 :: st) v G Q := (q_w_bipush c_150_268).trans (by simp only [show ((-128 : Int) ≤ 40 ∧ (40 : Int) ≤ 127) = True by decide, true_and])
theorem c_150_270 : q_code 150 270 = (.newarray .int, 2, 0, 0, 0, 0, 0) := by decide +kernel
theorem e_150_270 (d : Nat) (a : Int) (z0 : q_V) (st : List q_V) (v : q_H) (G : q_Gr) (Q : q_V → q_H → q_Gr → Prop) : q_wp d 150 270 [z0] (.inl a :: st) v G Q = ((0 ≤ a ∧ q_room G a.toNat) ∧ q_wp d 150 272 [z0] (.inr (.inr (.inl (some (32 + G.2.2.1)))) :: st) (q_zr v (32 + G.2.2.1)) (q_mk G 20 a.toNat) Q) := q_w_newI c_150_270
theorem c_150_272 : q_code 150 272 = (.putfield 95, 3, 11, 50, 1, 1005, 0) := by decide +kernel
theorem e_150_272 (d : Nat) (a : Nat) (b : Option Nat) (z0 : q_V) (st : List q_V) (v : q_H) (G : q_Gr) (Q : q_V → q_H → q_Gr → Prop) : q_wp d 150 272 [z0] (.inr (.inr (.inl b)) :: .inr (.inr (.inl (some a))) :: st) v G Q = (((G.2.1 a).1 = 11) ∧ q_wp d 150 275 [z0] st v (q_upr G.1 a 50 b, G.2) Q) := q_w_putP c_150_272
theorem c_150_275 : q_code 150 275 = (.aload_n 0, 1, 0, 0, 0, 0, 0) := by decide +kernel
theorem e_150_275 (d : Nat) (a : Option Nat) (st : List q_V) (v : q_H) (G : q_Gr) (Q : q_V → q_H → q_Gr → Prop) : q_wp d 150 275 [.inr (.inr (.inl a))] st v G Q = q_wp d 150 276 [.inr (.inr (.inl a))] (.inr (.inr (.inl a)) :: st) v G Q := q_w_aload_n c_150_275 rfl
theorem c_150_276 : q_code 150 276 = (.bipush 40, 2, 0, 0, 0, 0, 0) := by decide +kernel
theorem e_150_276 (d : Nat)  (z0 : q_V) (st : List q_V) (v : q_H) (G : q_Gr) (Q : q_V → q_H → q_Gr → Prop) : q_wp d 150 276 [z0] st v G Q = q_wp d 150 278 [z0] (.inl 40 :: st) v G Q := (q_w_bipush c_150_276).trans (by simp only [show ((-128 : Int) ≤ 40 ∧ (40 : Int) ≤ 127) = True by decide, true_and])
theorem c_150_278 : q_code 150 278 = (.newarray .int, 2, 0, 0, 0, 0, 0) := by decide +kernel
theorem e_150_278 (d : Nat) (a : Int) (z0 : q_V) (st : List q_V) (v : q_H) (G : q_Gr) (Q : q_V → q_H → q_Gr → Prop) : q_wp d 150 278 [z0] (.inl a :: st) v G Q = ((0 ≤ a ∧ q_room G a.toNat) ∧ q_wp d 150 280 [z0] (.inr (.inr (.inl (some (32 + G.2.2.1)))) :: st) (q_zr v (32 + G.2.2.1)) (q_mk G 20 a.toNat) Q) := q_w_newI c_150_278
theorem c_150_280 : q_code 150 280 = (.putfield 98, 3, 11, 51, 1, 1006, 0) := by decide +kernel
theorem e_150_280 (d : Nat) (a : Nat) (b : Option Nat) (z0 : q_V) (st : List q_V) (v : q_H) (G : q_Gr) (Q : q_V → q_H → q_Gr → Prop) : q_wp d 150 280 [z0] (.inr (.inr (.inl b)) :: .inr (.inr (.inl (some a))) :: st) v G Q = (((G.2.1 a).1 = 11) ∧ q_wp d 150 283 [z0] st v (q_upr G.1 a 51 b, G.2) Q) := q_w_putP c_150_280
theorem c_150_283 : q_code 150 283 = (.aload_n 0, 1, 0, 0, 0, 0, 0) := by decide +kernel
theorem e_150_283 (d : Nat) (a : Option Nat) (st : List q_V) (v : q_H) (G : q_Gr) (Q : q_V → q_H → q_Gr → Prop) : q_wp d 150 283 [.inr (.inr (.inl a))] st v G Q = q_wp d 150 284 [.inr (.inr (.inl a))] (.inr (.inr (.inl a)) :: st) v G Q := q_w_aload_n c_150_283 rfl
theorem c_150_284 : q_code 150 284 = (.bipush 40, 2, 0, 0, 0, 0, 0) := by decide +kernel
theorem e_150_284 (d : Nat)  (z0 : q_V) (st : List q_V) (v : q_H) (G : q_Gr) (Q : q_V → q_H → q_Gr → Prop) : q_wp d 150 284 [z0] st v G Q = q_wp d 150 286 [z0] (.inl 40 :: st) v G Q := (q_w_bipush c_150_284).trans (by simp only [show ((-128 : Int) ≤ 40 ∧ (40 : Int) ≤ 127) = True by decide, true_and])
theorem c_150_286 : q_code 150 286 = (.newarray .int, 2, 0, 0, 0, 0, 0) := by decide +kernel
theorem e_150_286 (d : Nat) (a : Int) (z0 : q_V) (st : List q_V) (v : q_H) (G : q_Gr) (Q : q_V → q_H → q_Gr → Prop) : q_wp d 150 286 [z0] (.inl a :: st) v G Q = ((0 ≤ a ∧ q_room G a.toNat) ∧ q_wp d 150 288 [z0] (.inr (.inr (.inl (some (32 + G.2.2.1)))) :: st) (q_zr v (32 + G.2.2.1)) (q_mk G 20 a.toNat) Q) := q_w_newI c_150_286
theorem c_150_288 : q_code 150 288 = (.putfield 101, 3, 11, 52, 1, 1007, 0) := by decide +kernel
theorem e_150_288 (d : Nat) (a : Nat) (b : Option Nat) (z0 : q_V) (st : List q_V) (v : q_H) (G : q_Gr) (Q : q_V → q_H → q_Gr → Prop) : q_wp d 150 288 [z0] (.inr (.inr (.inl b)) :: .inr (.inr (.inl (some a))) :: st) v G Q = (((G.2.1 a).1 = 11) ∧ q_wp d 150 291 [z0] st v (q_upr G.1 a 52 b, G.2) Q) := q_w_putP c_150_288
theorem c_150_291 : q_code 150 291 = (.aload_n 0, 1, 0, 0, 0, 0, 0) := by decide +kernel
theorem e_150_291 (d : Nat) (a : Option Nat) (st : List q_V) (v : q_H) (G : q_Gr) (Q : q_V → q_H → q_Gr → Prop) : q_wp d 150 291 [.inr (.inr (.inl a))] st v G Q = q_wp d 150 292 [.inr (.inr (.inl a))] (.inr (.inr (.inl a)) :: st) v G Q := q_w_aload_n c_150_291 rfl
theorem c_150_292 : q_code 150 292 = (.bipush 40, 2, 0, 0, 0, 0, 0) := by decide +kernel
theorem e_150_292 (d : Nat)  (z0 : q_V) (st : List q_V) (v : q_H) (G : q_Gr) (Q : q_V → q_H → q_Gr → Prop) : q_wp d 150 292 [z0] st v G Q = q_wp d 150 294 [z0] (.inl 40 :: st) v G Q := (q_w_bipush c_150_292).trans (by simp only [show ((-128 : Int) ≤ 40 ∧ (40 : Int) ≤ 127) = True by decide, true_and])
theorem c_150_294 : q_code 150 294 = (.newarray .int, 2, 0, 0, 0, 0, 0) := by decide +kernel
theorem e_150_294 (d : Nat) (a : Int) (z0 : q_V) (st : List q_V) (v : q_H) (G : q_Gr) (Q : q_V → q_H → q_Gr → Prop) : q_wp d 150 294 [z0] (.inl a :: st) v G Q = ((0 ≤ a ∧ q_room G a.toNat) ∧ q_wp d 150 296 [z0] (.inr (.inr (.inl (some (32 + G.2.2.1)))) :: st) (q_zr v (32 + G.2.2.1)) (q_mk G 20 a.toNat) Q) := q_w_newI c_150_294
theorem c_150_296 : q_code 150 296 = (.putfield 104, 3, 11, 53, 1, 1008, 0) := by decide +kernel
theorem e_150_296 (d : Nat) (a : Nat) (b : Option Nat) (z0 : q_V) (st : List q_V) (v : q_H) (G : q_Gr) (Q : q_V → q_H → q_Gr → Prop) : q_wp d 150 296 [z0] (.inr (.inr (.inl b)) :: .inr (.inr (.inl (some a))) :: st) v G Q = (((G.2.1 a).1 = 11) ∧ q_wp d 150 299 [z0] st v (q_upr G.1 a 53 b, G.2) Q) := q_w_putP c_150_296
theorem c_150_299 : q_code 150 299 = (.aload_n 0, 1, 0, 0, 0, 0, 0) := by decide +kernel
theorem e_150_299 (d : Nat) (a : Option Nat) (st : List q_V) (v : q_H) (G : q_Gr) (Q : q_V → q_H → q_Gr → Prop) : q_wp d 150 299 [.inr (.inr (.inl a))] st v G Q = q_wp d 150 300 [.inr (.inr (.inl a))] (.inr (.inr (.inl a)) :: st) v G Q := q_w_aload_n c_150_299 rfl
theorem c_150_300 : q_code 150 300 = (.bipush 16, 2, 0, 0, 0, 0, 0) := by decide +kernel
theorem e_150_300 (d : Nat)  (z0 : q_V) (st : List q_V) (v : q_H) (G : q_Gr) (Q : q_V → q_H → q_Gr → Prop) : q_wp d 150 300 [z0] st v G Q = q_wp d 150 302 [z0] (.inl 16 :: st) v G Q := (q_w_bipush c_150_300).trans (by simp only [show ((-128 : Int) ≤ 16 ∧ (16 : Int) ≤ 127) = True by decide, true_and])
theorem c_150_302 : q_code 150 302 = (.newarray .int, 2, 0, 0, 0, 0, 0) := by decide +kernel
theorem e_150_302 (d : Nat) (a : Int) (z0 : q_V) (st : List q_V) (v : q_H) (G : q_Gr) (Q : q_V → q_H → q_Gr → Prop) : q_wp d 150 302 [z0] (.inl a :: st) v G Q = ((0 ≤ a ∧ q_room G a.toNat) ∧ q_wp d 150 304 [z0] (.inr (.inr (.inl (some (32 + G.2.2.1)))) :: st) (q_zr v (32 + G.2.2.1)) (q_mk G 20 a.toNat) Q) := q_w_newI c_150_302
theorem c_150_304 : q_code 150 304 = (.putfield 107, 3, 11, 59, 1, 1014, 0) := by decide +kernel
theorem e_150_304 (d : Nat) (a : Nat) (b : Option Nat) (z0 : q_V) (st : List q_V) (v : q_H) (G : q_Gr) (Q : q_V → q_H → q_Gr → Prop) : q_wp d 150 304 [z0] (.inr (.inr (.inl b)) :: .inr (.inr (.inl (some a))) :: st) v G Q = (((G.2.1 a).1 = 11) ∧ q_wp d 150 307 [z0] st v (q_upr G.1 a 59 b, G.2) Q) := q_w_putP c_150_304
theorem c_150_307 : q_code 150 307 = (.aload_n 0, 1, 0, 0, 0, 0, 0) := by decide +kernel
theorem e_150_307 (d : Nat) (a : Option Nat) (st : List q_V) (v : q_H) (G : q_Gr) (Q : q_V → q_H → q_Gr → Prop) : q_wp d 150 307 [.inr (.inr (.inl a))] st v G Q = q_wp d 150 308 [.inr (.inr (.inl a))] (.inr (.inr (.inl a)) :: st) v G Q := q_w_aload_n c_150_307 rfl
theorem c_150_308 : q_code 150 308 = (.bipush 16, 2, 0, 0, 0, 0, 0) := by decide +kernel
theorem e_150_308 (d : Nat)  (z0 : q_V) (st : List q_V) (v : q_H) (G : q_Gr) (Q : q_V → q_H → q_Gr → Prop) : q_wp d 150 308 [z0] st v G Q = q_wp d 150 310 [z0] (.inl 16 :: st) v G Q := (q_w_bipush c_150_308).trans (by simp only [show ((-128 : Int) ≤ 16 ∧ (16 : Int) ≤ 127) = True by decide, true_and])
theorem c_150_310 : q_code 150 310 = (.newarray .int, 2, 0, 0, 0, 0, 0) := by decide +kernel
theorem e_150_310 (d : Nat) (a : Int) (z0 : q_V) (st : List q_V) (v : q_H) (G : q_Gr) (Q : q_V → q_H → q_Gr → Prop) : q_wp d 150 310 [z0] (.inl a :: st) v G Q = ((0 ≤ a ∧ q_room G a.toNat) ∧ q_wp d 150 312 [z0] (.inr (.inr (.inl (some (32 + G.2.2.1)))) :: st) (q_zr v (32 + G.2.2.1)) (q_mk G 20 a.toNat) Q) := q_w_newI c_150_310
theorem c_150_312 : q_code 150 312 = (.putfield 110, 3, 11, 60, 1, 1015, 0) := by decide +kernel
theorem e_150_312 (d : Nat) (a : Nat) (b : Option Nat) (z0 : q_V) (st : List q_V) (v : q_H) (G : q_Gr) (Q : q_V → q_H → q_Gr → Prop) : q_wp d 150 312 [z0] (.inr (.inr (.inl b)) :: .inr (.inr (.inl (some a))) :: st) v G Q = (((G.2.1 a).1 = 11) ∧ q_wp d 150 315 [z0] st v (q_upr G.1 a 60 b, G.2) Q) := q_w_putP c_150_312
theorem c_150_315 : q_code 150 315 = (.aload_n 0, 1, 0, 0, 0, 0, 0) := by decide +kernel
theorem e_150_315 (d : Nat) (a : Option Nat) (st : List q_V) (v : q_H) (G : q_Gr) (Q : q_V → q_H → q_Gr → Prop) : q_wp d 150 315 [.inr (.inr (.inl a))] st v G Q = q_wp d 150 316 [.inr (.inr (.inl a))] (.inr (.inr (.inl a)) :: st) v G Q := q_w_aload_n c_150_315 rfl
theorem c_150_316 : q_code 150 316 = (.bipush 64, 2, 0, 0, 0, 0, 0) := by decide +kernel
theorem e_150_316 (d : Nat)  (z0 : q_V) (st : List q_V) (v : q_H) (G : q_Gr) (Q : q_V → q_H → q_Gr → Prop) : q_wp d 150 316 [z0] st v G Q = q_wp d 150 318 [z0] (.inl 64 :: st) v G Q := (q_w_bipush c_150_316).trans (by simp only [show ((-128 : Int) ≤ 64 ∧ (64 : Int) ≤ 127) = True by decide, true_and])
theorem c_150_318 : q_code 150 318 = (.newarray .int, 2, 0, 0, 0, 0, 0) := by decide +kernel
theorem e_150_318 (d : Nat) (a : Int) (z0 : q_V) (st : List q_V) (v : q_H) (G : q_Gr) (Q : q_V → q_H → q_Gr → Prop) : q_wp d 150 318 [z0] (.inl a :: st) v G Q = ((0 ≤ a ∧ q_room G a.toNat) ∧ q_wp d 150 320 [z0] (.inr (.inr (.inl (some (32 + G.2.2.1)))) :: st) (q_zr v (32 + G.2.2.1)) (q_mk G 20 a.toNat) Q) := q_w_newI c_150_318
theorem c_150_320 : q_code 150 320 = (.putfield 113, 3, 11, 63, 1, 1018, 0) := by decide +kernel
theorem e_150_320 (d : Nat) (a : Nat) (b : Option Nat) (z0 : q_V) (st : List q_V) (v : q_H) (G : q_Gr) (Q : q_V → q_H → q_Gr → Prop) : q_wp d 150 320 [z0] (.inr (.inr (.inl b)) :: .inr (.inr (.inl (some a))) :: st) v G Q = (((G.2.1 a).1 = 11) ∧ q_wp d 150 323 [z0] st v (q_upr G.1 a 63 b, G.2) Q) := q_w_putP c_150_320
theorem c_150_323 : q_code 150 323 = (.aload_n 0, 1, 0, 0, 0, 0, 0) := by decide +kernel
theorem e_150_323 (d : Nat) (a : Option Nat) (st : List q_V) (v : q_H) (G : q_Gr) (Q : q_V → q_H → q_Gr → Prop) : q_wp d 150 323 [.inr (.inr (.inl a))] st v G Q = q_wp d 150 324 [.inr (.inr (.inl a))] (.inr (.inr (.inl a)) :: st) v G Q := q_w_aload_n c_150_323 rfl
theorem c_150_324 : q_code 150 324 = (.bipush 16, 2, 0, 0, 0, 0, 0) := by decide +kernel
theorem e_150_324 (d : Nat)  (z0 : q_V) (st : List q_V) (v : q_H) (G : q_Gr) (Q : q_V → q_H → q_Gr → Prop) : q_wp d 150 324 [z0] st v G Q = q_wp d 150 326 [z0] (.inl 16 :: st) v G Q := (q_w_bipush c_150_324).trans (by simp only [show ((-128 : Int) ≤ 16 ∧ (16 : Int) ≤ 127) = True by decide, true_and])
theorem c_150_326 : q_code 150 326 = (.newarray .int, 2, 0, 0, 0, 0, 0) := by decide +kernel
theorem e_150_326 (d : Nat) (a : Int) (z0 : q_V) (st : List q_V) (v : q_H) (G : q_Gr) (Q : q_V → q_H → q_Gr → Prop) : q_wp d 150 326 [z0] (.inl a :: st) v G Q = ((0 ≤ a ∧ q_room G a.toNat) ∧ q_wp d 150 328 [z0] (.inr (.inr (.inl (some (32 + G.2.2.1)))) :: st) (q_zr v (32 + G.2.2.1)) (q_mk G 20 a.toNat) Q) := q_w_newI c_150_326
theorem c_150_328 : q_code 150 328 = (.putfield 116, 3, 11, 64, 1, 1019, 0) := by decide +kernel
theorem e_150_328 (d : Nat) (a : Nat) (b : Option Nat) (z0 : q_V) (st : List q_V) (v : q_H) (G : q_Gr) (Q : q_V → q_H → q_Gr → Prop) : q_wp d 150 328 [z0] (.inr (.inr (.inl b)) :: .inr (.inr (.inl (some a))) :: st) v G Q = (((G.2.1 a).1 = 11) ∧ q_wp d 150 331 [z0] st v (q_upr G.1 a 64 b, G.2) Q) := q_w_putP c_150_328
theorem c_150_331 : q_code 150 331 = (.return_, 1, 0, 0, 0, 0, 0) := by decide +kernel
theorem e_150_331 (d : Nat)  (z0 : q_V) (v : q_H) (G : q_Gr) (Q : q_V → q_H → q_Gr → Prop) : q_wp d 150 331 [z0] [] v G Q = Q (.inr (.inr (.inr ()))) v G := q_w_return c_150_331 rfl
theorem e_150 (d : Nat) (a0 : Nat) (v : q_H) (G : q_Gr) (Q : q_V → q_H → q_Gr → Prop) : q_call (d + 1) 150 [.inr (.inr (.inl (some a0)))] v G Q = ((G.2.1 a0).1 = 11 ∧ q_wp d 150 0 [.inr (.inr (.inl (some a0)))] [] v G Q) := by
  rw [q_call_in (by decide) (Nat.le_of_ble_eq_true rfl) rfl]
  exact congrArg (· ∧ _) (propext beq_iff_eq)
/-- all but the heads of loops: [] -/
def E150 := And.intro @e_150 (And.intro @e_150_0 (And.intro @e_150_1 (And.intro @e_150_4 (And.intro @e_150_5 (And.intro @e_150_7 (And.intro @e_150_9 (And.intro @e_150_10 (And.intro @e_150_11 (And.intro @e_150_12 (And.intro @e_150_13 (And.intro @e_150_14 (And.intro @e_150_15 (And.intro @e_150_16 (And.intro @e_150_17 (And.intro @e_150_18 (And.intro @e_150_19 (And.intro @e_150_20 (And.intro @e_150_21 (And.intro @e_150_22 (And.intro @e_150_23 (And.intro @e_150_24 (And.intro @e_150_25 (And.intro @e_150_26 (And.intro @e_150_27 (And.intro @e_150_28 (And.intro @e_150_29 (And.intro @e_150_30 (And.intro @e_150_31 (And.intro @e_150_32 (And.intro @e_150_33 (And.intro @e_150_34 (And.intro @e_150_36 (And.intro @e_150_37 (And.intro @e_150_38 (And.intro @e_150_39 (And.intro @e_150_41 (And.intro @e_150_42 (And.intro @e_150_43 (And.intro @e_150_46 (And.intro @e_150_47 (And.intro @e_150_49 (And.intro @e_150_51 (And.intro @e_150_54 (And.intro @e_150_55 (And.intro @e_150_58 (And.intro @e_150_60 (And.intro @e_150_63 (And.intro @e_150_64 (And.intro @e_150_65 (And.intro @e_150_67 (And.intro @e_150_70 (And.intro @e_150_71 (And.intro @e_150_73 (And.intro @e_150_75 (And.intro @e_150_78 (And.intro @e_150_79 (And.intro @e_150_81 (And.intro @e_150_83 (And.intro @e_150_86 (And.intro @e_150_87 (And.intro @e_150_89 (And.intro @e_150_91 (And.intro @e_150_94 (And.intro @e_150_95 (And.intro @e_150_97 (And.intro @e_150_99 (And.intro @e_150_102 (And.intro @e_150_103 (And.intro @e_150_106 (And.intro @e_150_108 (And.intro @e_150_111 (And.intro @e_150_112 (And.intro @e_150_115 (And.intro @e_150_117 (And.intro @e_150_120 (And.intro @e_150_121 (And.intro @e_150_123 (And.intro @e_150_125 (And.intro @e_150_128 (And.intro @e_150_129 (And.intro @e_150_131 (And.intro @e_150_133 (And.intro @e_150_136 (And.intro @e_150_137 (And.intro @e_150_139 (And.intro @e_150_141 (And.intro @e_150_144 (And.intro @e_150_145 (And.intro @e_150_147 (And.intro @e_150_149 (And.intro @e_150_152 (And.intro @e_150_153 (And.intro @e_150_155 (And.intro @e_150_157 (And.intro @e_150_160 (And.intro @e_150_161 (And.intro @e_150_163 (And.intro @e_150_165 (And.intro @e_150_168 (And.intro @e_150_169 (And.intro @e_150_172 (And.intro @e_150_174 (And.intro @e_150_177 (And.intro @e_150_178 (And.intro @e_150_181 (And.intro @e_150_183 (And.intro @e_150_186 (And.intro @e_150_187 (And.intro @e_150_189 (And.intro @e_150_191 (And.intro @e_150_194 (And.intro @e_150_195 (And.intro @e_150_197 (And.intro @e_150_199 (And.intro @e_150_202 (And.intro @e_150_203 (And.intro @e_150_205 (And.intro @e_150_207 (And.intro @e_150_210 (And.intro @e_150_211 (And.intro @e_150_213 (And.intro @e_150_215 (And.intro @e_150_218 (And.intro @e_150_219 (And.intro @e_150_222 (And.intro @e_150_224 (And.intro @e_150_227 (And.intro @e_150_228 (And.intro @e_150_230 (And.intro @e_150_232 (And.intro @e_150_235 (And.intro @e_150_236 (And.intro @e_150_238 (And.intro @e_150_240 (And.intro @e_150_243 (And.intro @e_150_244 (And.intro @e_150_246 (And.intro @e_150_248 (And.intro @e_150_251 (And.intro @e_150_252 (And.intro @e_150_254 (And.intro @e_150_256 (And.intro @e_150_259 (And.intro @e_150_260 (And.intro @e_150_262 (And.intro @e_150_264 (And.intro @e_150_267 (And.intro @e_150_268 (And.intro @e_150_270 (And.intro @e_150_272 (And.intro @e_150_275 (And.intro @e_150_276 (And.intro @e_150_278 (And.intro @e_150_280 (And.intro @e_150_283 (And.intro @e_150_284 (And.intro @e_150_286 (And.intro @e_150_288 (And.intro @e_150_291 (And.intro @e_150_292 (And.intro @e_150_294 (And.intro @e_150_296 (And.intro @e_150_299 (And.intro @e_150_300 (And.intro @e_150_302 (And.intro @e_150_304 (And.intro @e_150_307 (And.intro @e_150_308 (And.intro @e_150_310 (And.intro @e_150_312 (And.intro @e_150_315 (And.intro @e_150_316 (And.intro @e_150_318 (And.intro @e_150_320 (And.intro @e_150_323 (And.intro @e_150_324 (And.intro @e_150_326 (And.intro @e_150_328 (@e_150_331)))))))))))))))))))))))))))))))))))))))))))))))))))))))))))))))))))))))))))))))))))))))))))))))))))))))))))))))))))))))))))))))))))))))))))))))))))))))))))))))))))))))))))))))))))
/-! ProvenRowsModel.in(JJJ)Z -/
theorem c_151_0 : q_code 151 0 = (.lload_n 0, 1, 0, 0, 0, 0, 0) := by decide +kernel
theorem e_151_0 (d : Nat) (a : Int) (z1 z2 z3 z4 z5 : q_V) (st : List q_V) (v : q_H) (G : q_Gr) (Q : q_V → q_H → q_Gr → Prop) : q_wp d 151 0 [.inr (.inl a), z1, z2, z3, z4, z5] st v G Q = q_wp d 151 1 [.inr (.inl a), z1, z2, z3, z4, z5] (.inr (.inl a) :: st) v G Q := q_w_lload_n c_151_0 rfl
theorem c_151_1 : q_code 151 1 = (.lload_n 2, 1, 0, 0, 0, 0, 0) := by decide +kernel
theorem e_151_1 (d : Nat) (a : Int) (z0 z1 z3 z4 z5 : q_V) (st : List q_V) (v : q_H) (G : q_Gr) (Q : q_V → q_H → q_Gr → Prop) : q_wp d 151 1 [z0, z1, .inr (.inl a), z3, z4, z5] st v G Q = q_wp d 151 2 [z0, z1, .inr (.inl a), z3, z4, z5] (.inr (.inl a) :: st) v G Q := q_w_lload_n c_151_1 rfl
theorem c_151_2 : q_code 151 2 = (.lcmp, 1, 0, 0, 0, 0, 0) := by decide +kernel
theorem e_151_2 (d : Nat) (a b : Int) (z0 z1 z2 z3 z4 z5 : q_V) (st : List q_V) (v : q_H) (G : q_Gr) (Q : q_V → q_H → q_Gr → Prop) : q_wp d 151 2 [z0, z1, z2, z3, z4, z5] (.inr (.inl b) :: .inr (.inl a) :: st) v G Q = ((q_inL a ∧ q_inL b) ∧ q_wp d 151 3 [z0, z1, z2, z3, z4, z5] (.inl (if b < a then 1 else if a = b then 0 else -1) :: st) v G Q) := q_w_lcmp c_151_2
theorem c_151_3 : q_code 151 3 = (.ifCond .lt 14, 3, 0, 0, 0, 0, 0) := by decide +kernel
theorem e_151_3 (d : Nat) (a : Int) (z0 z1 z2 z3 z4 z5 : q_V) (st : List q_V) (v : q_H) (G : q_Gr) (Q : q_V → q_H → q_Gr → Prop) : q_wp d 151 3 [z0, z1, z2, z3, z4, z5] (.inl a :: st) v G Q = ((q_inR a) ∧ if a < 0 then q_wp d 151 17 [z0, z1, z2, z3, z4, z5] st v G Q else q_wp d 151 6 [z0, z1, z2, z3, z4, z5] st v G Q) := q_w_if_lt c_151_3 (by decide)
theorem c_151_6 : q_code 151 6 = (.lload_n 0, 1, 0, 0, 0, 0, 0) := by decide +kernel
theorem e_151_6 (d : Nat) (a : Int) (z1 z2 z3 z4 z5 : q_V) (st : List q_V) (v : q_H) (G : q_Gr) (Q : q_V → q_H → q_Gr → Prop) : q_wp d 151 6 [.inr (.inl a), z1, z2, z3, z4, z5] st v G Q = q_wp d 151 7 [.inr (.inl a), z1, z2, z3, z4, z5] (.inr (.inl a) :: st) v G Q := q_w_lload_n c_151_6 rfl
theorem c_151_7 : q_code 151 7 = (.lload 4, 2, 0, 0, 0, 0, 0) := by decide +kernel
theorem e_151_7 (d : Nat) (a : Int) (z0 z1 z2 z3 z5 : q_V) (st : List q_V) (v : q_H) (G : q_Gr) (Q : q_V → q_H → q_Gr → Prop) : q_wp d 151 7 [z0, z1, z2, z3, .inr (.inl a), z5] st v G Q = q_wp d 151 9 [z0, z1, z2, z3, .inr (.inl a), z5] (.inr (.inl a) :: st) v G Q := q_w_lload c_151_7 rfl
theorem c_151_9 : q_code 151 9 = (.lcmp, 1, 0, 0, 0, 0, 0) := by decide +kernel
theorem e_151_9 (d : Nat) (a b : Int) (z0 z1 z2 z3 z4 z5 : q_V) (st : List q_V) (v : q_H) (G : q_Gr) (Q : q_V → q_H → q_Gr → Prop) : q_wp d 151 9 [z0, z1, z2, z3, z4, z5] (.inr (.inl b) :: .inr (.inl a) :: st) v G Q = ((q_inL a ∧ q_inL b) ∧ q_wp d 151 10 [z0, z1, z2, z3, z4, z5] (.inl (if b < a then 1 else if a = b then 0 else -1) :: st) v G Q) := q_w_lcmp c_151_9
theorem c_151_10 : q_code 151 10 = (.ifCond .gt 7, 3, 0, 0, 0, 0, 0) := by decide +kernel
theorem e_151_10 (d : Nat) (a : Int) (z0 z1 z2 z3 z4 z5 : q_V) (st : List q_V) (v : q_H) (G : q_Gr) (Q : q_V → q_H → q_Gr → Prop) : q_wp d 151 10 [z0, z1, z2, z3, z4, z5] (.inl a :: st) v G Q = ((q_inR a) ∧ if 0 < a then q_wp d 151 17 [z0, z1, z2, z3, z4, z5] st v G Q else q_wp d 151 13 [z0, z1, z2, z3, z4, z5] st v G Q) := q_w_if_gt c_151_10 (by decide)
theorem c_151_13 : q_code 151 13 = (.iconst 1, 1, 0, 0, 0, 0, 0) := by decide +kernel
theorem e_151_13 (d : Nat)  (z0 z1 z2 z3 z4 z5 : q_V) (st : List q_V) (v : q_H) (G : q_Gr) (Q : q_V → q_H → q_Gr → Prop) : q_wp d 151 13 [z0, z1, z2, z3, z4, z5] st v G Q = q_wp d 151 14 [z0, z1, z2, z3, z4, z5] (.inl 1 :: st) v G Q := q_w_iconst c_151_13
theorem c_151_14 : q_code 151 14 = (.goto 4, 3, 0, 0, 0, 0, 0) := by decide +kernel
theorem e_151_14 (d : Nat)  (z0 z1 z2 z3 z4 z5 : q_V) (st : List q_V) (v : q_H) (G : q_Gr) (Q : q_V → q_H → q_Gr → Prop) : q_wp d 151 14 [z0, z1, z2, z3, z4, z5] st v G Q = q_wp d 151 18 [z0, z1, z2, z3, z4, z5] st v G Q := q_w_goto c_151_14 (by decide)
theorem c_151_17 : q_code 151 17 = (.iconst 0, 1, 0, 0, 0, 0, 0) := by decide +kernel
theorem e_151_17 (d : Nat)  (z0 z1 z2 z3 z4 z5 : q_V) (st : List q_V) (v : q_H) (G : q_Gr) (Q : q_V → q_H → q_Gr → Prop) : q_wp d 151 17 [z0, z1, z2, z3, z4, z5] st v G Q = q_wp d 151 18 [z0, z1, z2, z3, z4, z5] (.inl 0 :: st) v G Q := q_w_iconst c_151_17
theorem c_151_18 : q_code 151 18 = (.ireturn, 1, 0, 0, 0, 0, 0) := by decide +kernel
theorem e_151_18 (d : Nat) (a : Int) (z0 z1 z2 z3 z4 z5 : q_V) (v : q_H) (G : q_Gr) (Q : q_V → q_H → q_Gr → Prop) : q_wp d 151 18 [z0, z1, z2, z3, z4, z5] [.inl a] v G Q = ((0 ≤ a ∧ a ≤ 1) ∧ Q (.inl a) v G) := q_w_zreturn c_151_18 rfl
theorem e_151 (d : Nat) (a0 : Int) (a1 : Int) (a2 : Int) (v : q_H) (G : q_Gr) (Q : q_V → q_H → q_Gr → Prop) : q_call (d + 1) 151 [.inr (.inl a0), .inr (.inl a1), .inr (.inl a2)] v G Q = q_wp d 151 0 [.inr (.inl a0), .inr (.inr (.inr ())), .inr (.inl a1), .inr (.inr (.inr ())), .inr (.inl a2), .inr (.inr (.inr ()))] [] v G Q := by
  rw [q_call_in (by decide) (Nat.le_of_ble_eq_true rfl) rfl]
  show (true = true ∧ _) = _
  simp only [true_and]
  rfl
/-- all but the heads of loops: [] -/
def E151 := And.intro @e_151 (And.intro @e_151_0 (And.intro @e_151_1 (And.intro @e_151_2 (And.intro @e_151_3 (And.intro @e_151_6 (And.intro @e_151_7 (And.intro @e_151_9 (And.intro @e_151_10 (And.intro @e_151_13 (And.intro @e_151_14 (And.intro @e_151_17 (@e_151_18))))))))))))
/-! ProvenRowsModel.finding(I)I -/
theorem c_152_0 : q_code 152 0 = (.aload_n 0, 1, 0, 0, 0, 0, 0) := by decide +kernel
theorem e_152_0 (d : Nat) (a : Option Nat) (z1 : q_V) (st : List q_V) (v : q_H) (G : q_Gr) (Q : q_V → q_H → q_Gr → Prop) : q_wp d 152 0 [.inr (.inr (.inl a)), z1] st v G Q = q_wp d 152 1 [.inr (.inr (.inl a)), z1] (.inr (.inr (.inl a)) :: st) v G Q := q_w_aload_n c_152_0 rfl
theorem c_152_1 : q_code 152 1 = (.iload_n 1, 1, 0, 0, 0, 0, 0) := by decide +kernel
theorem e_152_1 (d : Nat) (a : Int) (z0 : q_V) (st : List q_V) (v : q_H) (G : q_Gr) (Q : q_V → q_H → q_Gr → Prop) : q_wp d 152 1 [z0, .inl a] st v G Q = q_wp d 152 2 [z0, .inl a] (.inl a :: st) v G Q := q_w_iload_n c_152_1 rfl
theorem c_152_2 : q_code 152 2 = (.putfield 123, 3, 11, 1, 0, 956, 0) := by decide +kernel
theorem e_152_2 (d : Nat) (a : Nat) (b : Int) (z0 z1 : q_V) (st : List q_V) (v : q_H) (G : q_Gr) (Q : q_V → q_H → q_Gr → Prop) : q_wp d 152 2 [z0, z1] (.inl b :: .inr (.inr (.inl (some a))) :: st) v G Q = (((G.2.1 a).1 = 11) ∧ q_wp d 152 5 [z0, z1] st (q_up v a 1 b) G Q) := q_w_putI c_152_2
theorem c_152_5 : q_code 152 5 = (.ldc 126, 2, 0, 0, 0, 1103, (-1000010)) := by decide +kernel
theorem e_152_5 (d : Nat)  (z0 z1 : q_V) (st : List q_V) (v : q_H) (G : q_Gr) (Q : q_V → q_H → q_Gr → Prop) : q_wp d 152 5 [z0, z1] st v G Q = q_wp d 152 7 [z0, z1] (.inl (-1000010) :: st) v G Q := q_w_ldc c_152_5
theorem c_152_7 : q_code 152 7 = (.iload_n 1, 1, 0, 0, 0, 0, 0) := by decide +kernel
theorem e_152_7 (d : Nat) (a : Int) (z0 : q_V) (st : List q_V) (v : q_H) (G : q_Gr) (Q : q_V → q_H → q_Gr → Prop) : q_wp d 152 7 [z0, .inl a] st v G Q = q_wp d 152 8 [z0, .inl a] (.inl a :: st) v G Q := q_w_iload_n c_152_7 rfl
theorem c_152_8 : q_code 152 8 = (.isub, 1, 0, 0, 0, 0, 0) := by decide +kernel
theorem e_152_8 (d : Nat) (a b : Int) (z0 z1 : q_V) (st : List q_V) (v : q_H) (G : q_Gr) (Q : q_V → q_H → q_Gr → Prop) : q_wp d 152 8 [z0, z1] (.inl b :: .inl a :: st) v G Q = q_wp d 152 9 [z0, z1] (.inl (a - b) :: st) v G Q := q_w_isub c_152_8
theorem c_152_9 : q_code 152 9 = (.ireturn, 1, 0, 0, 0, 0, 0) := by decide +kernel
theorem e_152_9 (d : Nat) (a : Int) (z0 z1 : q_V) (v : q_H) (G : q_Gr) (Q : q_V → q_H → q_Gr → Prop) : q_wp d 152 9 [z0, z1] [.inl a] v G Q = Q (.inl a) v G := q_w_ireturn c_152_9 rfl
theorem e_152 (d : Nat) (a0 : Nat) (a1 : Int) (v : q_H) (G : q_Gr) (Q : q_V → q_H → q_Gr → Prop) : q_call (d + 1) 152 [.inr (.inr (.inl (some a0))), .inl a1] v G Q = ((G.2.1 a0).1 = 11 ∧ q_wp d 152 0 [.inr (.inr (.inl (some a0))), .inl a1] [] v G Q) := by
  rw [q_call_in (by decide) (Nat.le_of_ble_eq_true rfl) rfl]
  exact congrArg (· ∧ _) (propext beq_iff_eq)
/-- all but the heads of loops: [] -/
def E152 := And.intro @e_152 (And.intro @e_152_0 (And.intro @e_152_1 (And.intro @e_152_2 (And.intro @e_152_5 (And.intro @e_152_7 (And.intro @e_152_8 (@e_152_9)))))))
/-! ProvenRowsModel.join(II)I -/
theorem c_153_0 : q_code 153 0 = (.ldc2_w 127, 3, 0, 0, 0, 1156, 31) := by decide +kernel
theorem e_153_0 (d : Nat)  (z0 z1 : q_V) (st : List q_V) (v : q_H) (G : q_Gr) (Q : q_V → q_H → q_Gr → Prop) : q_wp d 153 0 [z0, z1] st v G Q = q_wp d 153 3 [z0, z1] (.inr (.inl 31) :: st) v G Q := q_w_ldc2 c_153_0
theorem c_153_3 : q_code 153 3 = (.iload_n 0, 1, 0, 0, 0, 0, 0) := by decide +kernel
theorem e_153_3 (d : Nat) (a : Int) (z1 : q_V) (st : List q_V) (v : q_H) (G : q_Gr) (Q : q_V → q_H → q_Gr → Prop) : q_wp d 153 3 [.inl a, z1] st v G Q = q_wp d 153 4 [.inl a, z1] (.inl a :: st) v G Q := q_w_iload_n c_153_3 rfl
theorem c_153_4 : q_code 153 4 = (.i2l, 1, 0, 0, 0, 0, 0) := by decide +kernel
theorem e_153_4 (d : Nat) (a : Int) (z0 z1 : q_V) (st : List q_V) (v : q_H) (G : q_Gr) (Q : q_V → q_H → q_Gr → Prop) : q_wp d 153 4 [z0, z1] (.inl a :: st) v G Q = ((q_inR a) ∧ q_wp d 153 5 [z0, z1] (.inr (.inl a) :: st) v G Q) := q_w_i2l c_153_4
theorem c_153_5 : q_code 153 5 = (.lmul, 1, 0, 0, 0, 0, 0) := by decide +kernel
theorem e_153_5 (d : Nat) (a b : Int) (z0 z1 : q_V) (st : List q_V) (v : q_H) (G : q_Gr) (Q : q_V → q_H → q_Gr → Prop) : q_wp d 153 5 [z0, z1] (.inr (.inl b) :: .inr (.inl a) :: st) v G Q = q_wp d 153 6 [z0, z1] (.inr (.inl (a * b)) :: st) v G Q := q_w_lmul c_153_5
theorem c_153_6 : q_code 153 6 = (.iload_n 0, 1, 0, 0, 0, 0, 0) := by decide +kernel
theorem e_153_6 (d : Nat) (a : Int) (z1 : q_V) (st : List q_V) (v : q_H) (G : q_Gr) (Q : q_V → q_H → q_Gr → Prop) : q_wp d 153 6 [.inl a, z1] st v G Q = q_wp d 153 7 [.inl a, z1] (.inl a :: st) v G Q := q_w_iload_n c_153_6 rfl
theorem c_153_7 : q_code 153 7 = (.i2l, 1, 0, 0, 0, 0, 0) := by decide +kernel
theorem e_153_7 (d : Nat) (a : Int) (z0 z1 : q_V) (st : List q_V) (v : q_H) (G : q_Gr) (Q : q_V → q_H → q_Gr → Prop) : q_wp d 153 7 [z0, z1] (.inl a :: st) v G Q = ((q_inR a) ∧ q_wp d 153 8 [z0, z1] (.inr (.inl a) :: st) v G Q) := q_w_i2l c_153_7
theorem c_153_8 : q_code 153 8 = (.lmul, 1, 0, 0, 0, 0, 0) := by decide +kernel
theorem e_153_8 (d : Nat) (a b : Int) (z0 z1 : q_V) (st : List q_V) (v : q_H) (G : q_Gr) (Q : q_V → q_H → q_Gr → Prop) : q_wp d 153 8 [z0, z1] (.inr (.inl b) :: .inr (.inl a) :: st) v G Q = q_wp d 153 9 [z0, z1] (.inr (.inl (a * b)) :: st) v G Q := q_w_lmul c_153_8
theorem c_153_9 : q_code 153 9 = (.ldc2_w 129, 3, 0, 0, 0, 1157, 17) := by decide +kernel
theorem e_153_9 (d : Nat)  (z0 z1 : q_V) (st : List q_V) (v : q_H) (G : q_Gr) (Q : q_V → q_H → q_Gr → Prop) : q_wp d 153 9 [z0, z1] st v G Q = q_wp d 153 12 [z0, z1] (.inr (.inl 17) :: st) v G Q := q_w_ldc2 c_153_9
theorem c_153_12 : q_code 153 12 = (.iload_n 1, 1, 0, 0, 0, 0, 0) := by decide +kernel
theorem e_153_12 (d : Nat) (a : Int) (z0 : q_V) (st : List q_V) (v : q_H) (G : q_Gr) (Q : q_V → q_H → q_Gr → Prop) : q_wp d 153 12 [z0, .inl a] st v G Q = q_wp d 153 13 [z0, .inl a] (.inl a :: st) v G Q := q_w_iload_n c_153_12 rfl
theorem c_153_13 : q_code 153 13 = (.i2l, 1, 0, 0, 0, 0, 0) := by decide +kernel
theorem e_153_13 (d : Nat) (a : Int) (z0 z1 : q_V) (st : List q_V) (v : q_H) (G : q_Gr) (Q : q_V → q_H → q_Gr → Prop) : q_wp d 153 13 [z0, z1] (.inl a :: st) v G Q = ((q_inR a) ∧ q_wp d 153 14 [z0, z1] (.inr (.inl a) :: st) v G Q) := q_w_i2l c_153_13
theorem c_153_14 : q_code 153 14 = (.lmul, 1, 0, 0, 0, 0, 0) := by decide +kernel
theorem e_153_14 (d : Nat) (a b : Int) (z0 z1 : q_V) (st : List q_V) (v : q_H) (G : q_Gr) (Q : q_V → q_H → q_Gr → Prop) : q_wp d 153 14 [z0, z1] (.inr (.inl b) :: .inr (.inl a) :: st) v G Q = q_wp d 153 15 [z0, z1] (.inr (.inl (a * b)) :: st) v G Q := q_w_lmul c_153_14
theorem c_153_15 : q_code 153 15 = (.ladd, 1, 0, 0, 0, 0, 0) := by decide +kernel
theorem e_153_15 (d : Nat) (a b : Int) (z0 z1 : q_V) (st : List q_V) (v : q_H) (G : q_Gr) (Q : q_V → q_H → q_Gr → Prop) : q_wp d 153 15 [z0, z1] (.inr (.inl b) :: .inr (.inl a) :: st) v G Q = q_wp d 153 16 [z0, z1] (.inr (.inl (a + b)) :: st) v G Q := q_w_ladd c_153_15
theorem c_153_16 : q_code 153 16 = (.ldc2_w 131, 3, 0, 0, 0, 1158, 101) := by decide +kernel
theorem e_153_16 (d : Nat)  (z0 z1 : q_V) (st : List q_V) (v : q_H) (G : q_Gr) (Q : q_V → q_H → q_Gr → Prop) : q_wp d 153 16 [z0, z1] st v G Q = q_wp d 153 19 [z0, z1] (.inr (.inl 101) :: st) v G Q := q_w_ldc2 c_153_16
theorem c_153_19 : q_code 153 19 = (.ladd, 1, 0, 0, 0, 0, 0) := by decide +kernel
theorem e_153_19 (d : Nat) (a b : Int) (z0 z1 : q_V) (st : List q_V) (v : q_H) (G : q_Gr) (Q : q_V → q_H → q_Gr → Prop) : q_wp d 153 19 [z0, z1] (.inr (.inl b) :: .inr (.inl a) :: st) v G Q = q_wp d 153 20 [z0, z1] (.inr (.inl (a + b)) :: st) v G Q := q_w_ladd c_153_19
theorem c_153_20 : q_code 153 20 = (.ldc2_w 133, 3, 0, 0, 0, 1159, 65521) := by decide +kernel
theorem e_153_20 (d : Nat)  (z0 z1 : q_V) (st : List q_V) (v : q_H) (G : q_Gr) (Q : q_V → q_H → q_Gr → Prop) : q_wp d 153 20 [z0, z1] st v G Q = q_wp d 153 23 [z0, z1] (.inr (.inl 65521) :: st) v G Q := q_w_ldc2 c_153_20
theorem c_153_23 : q_code 153 23 = (.lrem, 1, 0, 0, 0, 0, 0) := by decide +kernel
theorem e_153_23 (d : Nat) (a b : Int) (z0 z1 : q_V) (st : List q_V) (v : q_H) (G : q_Gr) (Q : q_V → q_H → q_Gr → Prop) : q_wp d 153 23 [z0, z1] (.inr (.inl b) :: .inr (.inl a) :: st) v G Q = ((q_inL a ∧ 0 < b ∧ b ≤ 9223372036854775807) ∧ q_wp d 153 24 [z0, z1] (.inr (.inl (a.tmod b)) :: st) v G Q) := q_w_lrem c_153_23
theorem c_153_24 : q_code 153 24 = (.l2i, 1, 0, 0, 0, 0, 0) := by decide +kernel
theorem e_153_24 (d : Nat) (a : Int) (z0 z1 : q_V) (st : List q_V) (v : q_H) (G : q_Gr) (Q : q_V → q_H → q_Gr → Prop) : q_wp d 153 24 [z0, z1] (.inr (.inl a) :: st) v G Q = q_wp d 153 25 [z0, z1] (.inl a :: st) v G Q := q_w_l2i c_153_24
theorem c_153_25 : q_code 153 25 = (.ireturn, 1, 0, 0, 0, 0, 0) := by decide +kernel
theorem e_153_25 (d : Nat) (a : Int) (z0 z1 : q_V) (v : q_H) (G : q_Gr) (Q : q_V → q_H → q_Gr → Prop) : q_wp d 153 25 [z0, z1] [.inl a] v G Q = Q (.inl a) v G := q_w_ireturn c_153_25 rfl
theorem e_153 (d : Nat) (a0 : Int) (a1 : Int) (v : q_H) (G : q_Gr) (Q : q_V → q_H → q_Gr → Prop) : q_call (d + 1) 153 [.inl a0, .inl a1] v G Q = q_wp d 153 0 [.inl a0, .inl a1] [] v G Q := by
  rw [q_call_in (by decide) (Nat.le_of_ble_eq_true rfl) rfl]
  show (true = true ∧ _) = _
  simp only [true_and]
  rfl
/-- all but the heads of loops: [] -/
def E153 := And.intro @e_153 (And.intro @e_153_0 (And.intro @e_153_3 (And.intro @e_153_4 (And.intro @e_153_5 (And.intro @e_153_6 (And.intro @e_153_7 (And.intro @e_153_8 (And.intro @e_153_9 (And.intro @e_153_12 (And.intro @e_153_13 (And.intro @e_153_14 (And.intro @e_153_15 (And.intro @e_153_16 (And.intro @e_153_19 (And.intro @e_153_20 (And.intro @e_153_23 (And.intro @e_153_24 (@e_153_25))))))))))))))))))
/-! ProvenRowsModel.isSheet(I)Z -/
theorem c_154_0 : q_code 154 0 = (.iload_n 0, 1, 0, 0, 0, 0, 0) := by decide +kernel
theorem e_154_0 (d : Nat) (a : Int) (st : List q_V) (v : q_H) (G : q_Gr) (Q : q_V → q_H → q_Gr → Prop) : q_wp d 154 0 [.inl a] st v G Q = q_wp d 154 1 [.inl a] (.inl a :: st) v G Q := q_w_iload_n c_154_0 rfl
theorem c_154_1 : q_code 154 1 = (.i2l, 1, 0, 0, 0, 0, 0) := by decide +kernel
theorem e_154_1 (d : Nat) (a : Int) (z0 : q_V) (st : List q_V) (v : q_H) (G : q_Gr) (Q : q_V → q_H → q_Gr → Prop) : q_wp d 154 1 [z0] (.inl a :: st) v G Q = ((q_inR a) ∧ q_wp d 154 2 [z0] (.inr (.inl a) :: st) v G Q) := q_w_i2l c_154_1
theorem c_154_2 : q_code 154 2 = (.lconst 0, 1, 0, 0, 0, 0, 0) := by decide +kernel
theorem e_154_2 (d : Nat)  (z0 : q_V) (st : List q_V) (v : q_H) (G : q_Gr) (Q : q_V → q_H → q_Gr → Prop) : q_wp d 154 2 [z0] st v G Q = q_wp d 154 3 [z0] (.inr (.inl 0) :: st) v G Q := q_w_lconst c_154_2
theorem c_154_3 : q_code 154 3 = (.ldc2_w 135, 3, 0, 0, 0, 1094, 7) := by decide +kernel
theorem e_154_3 (d : Nat)  (z0 : q_V) (st : List q_V) (v : q_H) (G : q_Gr) (Q : q_V → q_H → q_Gr → Prop) : q_wp d 154 3 [z0] st v G Q = q_wp d 154 6 [z0] (.inr (.inl 7) :: st) v G Q := q_w_ldc2 c_154_3
theorem c_154_6 : q_code 154 6 = (.invokestatic 137, 3, 151, 3, 0, 1095, 1) := by decide +kernel
theorem e_154_6 (d : Nat) (x0 x1 x2 : q_V) (z0 : q_V) (v : q_H) (G : q_Gr) (Q : q_V → q_H → q_Gr → Prop) : q_wp d 154 6 [z0] [x2, x1, x0] v G Q = q_call d 151 [x0, x1, x2] v G (fun r v G => q_wp d 154 9 [z0] (q_push r []) v G Q) := q_wp_ca (m2 := 151) (k := 3) (as := [x0, x1, x2]) (rest := []) (congrArg q_kind c_154_6) (congrArg (fun w => w.2.2.1) c_154_6) (congrArg (fun w => w.2.2.2.1) c_154_6) rfl (Nat.le_of_ble_eq_true rfl) rfl
theorem c_154_9 : q_code 154 9 = (.ireturn, 1, 0, 0, 0, 0, 0) := by decide +kernel
theorem e_154_9 (d : Nat) (a : Int) (z0 : q_V) (v : q_H) (G : q_Gr) (Q : q_V → q_H → q_Gr → Prop) : q_wp d 154 9 [z0] [.inl a] v G Q = ((0 ≤ a ∧ a ≤ 1) ∧ Q (.inl a) v G) := q_w_zreturn c_154_9 rfl
theorem e_154 (d : Nat) (a0 : Int) (v : q_H) (G : q_Gr) (Q : q_V → q_H → q_Gr → Prop) : q_call (d + 1) 154 [.inl a0] v G Q = q_wp d 154 0 [.inl a0] [] v G Q := by
  rw [q_call_in (by decide) (Nat.le_of_ble_eq_true rfl) rfl]
  show (true = true ∧ _) = _
  simp only [true_and]
  rfl
/-- all but the heads of loops: [] -/
def E154 := And.intro @e_154 (And.intro @e_154_0 (And.intro @e_154_1 (And.intro @e_154_2 (And.intro @e_154_3 (And.intro @e_154_6 (@e_154_9))))))
/-! ProvenRowsModel.sheet(III)I -/
theorem c_155_0 : q_code 155 0 = (.aload_n 0, 1, 0, 0, 0, 0, 0) := by decide +kernel
theorem e_155_0 (d : Nat) (a : Option Nat) (z1 z2 z3 z4 : q_V) (st : List q_V) (v : q_H) (G : q_Gr) (Q : q_V → q_H → q_Gr → Prop) : q_wp d 155 0 [.inr (.inr (.inl a)), z1, z2, z3, z4] st v G Q = q_wp d 155 1 [.inr (.inr (.inl a)), z1, z2, z3, z4] (.inr (.inr (.inl a)) :: st) v G Q := q_w_aload_n c_155_0 rfl
theorem c_155_1 : q_code 155 1 = (.iconst 0, 1, 0, 0, 0, 0, 0) := by decide +kernel
theorem e_155_1 (d : Nat)  (z0 z1 z2 z3 z4 : q_V) (st : List q_V) (v : q_H) (G : q_Gr) (Q : q_V → q_H → q_Gr → Prop) : q_wp d 155 1 [z0, z1, z2, z3, z4] st v G Q = q_wp d 155 2 [z0, z1, z2, z3, z4] (.inl 0 :: st) v G Q := q_w_iconst c_155_1
theorem c_155_2 : q_code 155 2 = (.putfield 119, 3, 11, 0, 0, 955, 0) := by decide +kernel
theorem e_155_2 (d : Nat) (a : Nat) (b : Int) (z0 z1 z2 z3 z4 : q_V) (st : List q_V) (v : q_H) (G : q_Gr) (Q : q_V → q_H → q_Gr → Prop) : q_wp d 155 2 [z0, z1, z2, z3, z4] (.inl b :: .inr (.inr (.inl (some a))) :: st) v G Q = (((G.2.1 a).1 = 11) ∧ q_wp d 155 5 [z0, z1, z2, z3, z4] st (q_up v a 0 b) G Q) := q_w_putI c_155_2
theorem c_155_5 : q_code 155 5 = (.iload_n 1, 1, 0, 0, 0, 0, 0) := by decide +kernel
theorem e_155_5 (d : Nat) (a : Int) (z0 z2 z3 z4 : q_V) (st : List q_V) (v : q_H) (G : q_Gr) (Q : q_V → q_H → q_Gr → Prop) : q_wp d 155 5 [z0, .inl a, z2, z3, z4] st v G Q = q_wp d 155 6 [z0, .inl a, z2, z3, z4] (.inl a :: st) v G Q := q_w_iload_n c_155_5 rfl
theorem c_155_6 : q_code 155 6 = (.invokestatic 141, 3, 154, 1, 0, 1091, 1) := by decide +kernel
theorem e_155_6 (d : Nat) (x0 : q_V) (z0 z1 z2 z3 z4 : q_V) (v : q_H) (G : q_Gr) (Q : q_V → q_H → q_Gr → Prop) : q_wp d 155 6 [z0, z1, z2, z3, z4] [x0] v G Q = q_call d 154 [x0] v G (fun r v G => q_wp d 155 9 [z0, z1, z2, z3, z4] (q_push r []) v G Q) := q_wp_ca (m2 := 154) (k := 1) (as := [x0]) (rest := []) (congrArg q_kind c_155_6) (congrArg (fun w => w.2.2.1) c_155_6) (congrArg (fun w => w.2.2.2.1) c_155_6) rfl (Nat.le_of_ble_eq_true rfl) rfl
theorem c_155_9 : q_code 155 9 = (.ifCond .eq 22, 3, 0, 0, 0, 0, 0) := by decide +kernel
theorem e_155_9 (d : Nat) (a : Int) (z0 z1 z2 z3 z4 : q_V) (st : List q_V) (v : q_H) (G : q_Gr) (Q : q_V → q_H → q_Gr → Prop) : q_wp d 155 9 [z0, z1, z2, z3, z4] (.inl a :: st) v G Q = ((q_inR a) ∧ if a = 0 then q_wp d 155 31 [z0, z1, z2, z3, z4] st v G Q else q_wp d 155 12 [z0, z1, z2, z3, z4] st v G Q) := q_w_if_eq c_155_9 (by decide)
theorem c_155_12 : q_code 155 12 = (.iload_n 2, 1, 0, 0, 0, 0, 0) := by decide +kernel
theorem e_155_12 (d : Nat) (a : Int) (z0 z1 z3 z4 : q_V) (st : List q_V) (v : q_H) (G : q_Gr) (Q : q_V → q_H → q_Gr → Prop) : q_wp d 155 12 [z0, z1, .inl a, z3, z4] st v G Q = q_wp d 155 13 [z0, z1, .inl a, z3, z4] (.inl a :: st) v G Q := q_w_iload_n c_155_12 rfl
theorem c_155_13 : q_code 155 13 = (.i2l, 1, 0, 0, 0, 0, 0) := by decide +kernel
theorem e_155_13 (d : Nat) (a : Int) (z0 z1 z2 z3 z4 : q_V) (st : List q_V) (v : q_H) (G : q_Gr) (Q : q_V → q_H → q_Gr → Prop) : q_wp d 155 13 [z0, z1, z2, z3, z4] (.inl a :: st) v G Q = ((q_inR a) ∧ q_wp d 155 14 [z0, z1, z2, z3, z4] (.inr (.inl a) :: st) v G Q) := q_w_i2l c_155_13
theorem c_155_14 : q_code 155 14 = (.lconst 0, 1, 0, 0, 0, 0, 0) := by decide +kernel
theorem e_155_14 (d : Nat)  (z0 z1 z2 z3 z4 : q_V) (st : List q_V) (v : q_H) (G : q_Gr) (Q : q_V → q_H → q_Gr → Prop) : q_wp d 155 14 [z0, z1, z2, z3, z4] st v G Q = q_wp d 155 15 [z0, z1, z2, z3, z4] (.inr (.inl 0) :: st) v G Q := q_w_lconst c_155_14
theorem c_155_15 : q_code 155 15 = (.ldc2_w 145, 3, 0, 0, 0, 1098, 2) := by decide +kernel
theorem e_155_15 (d : Nat)  (z0 z1 z2 z3 z4 : q_V) (st : List q_V) (v : q_H) (G : q_Gr) (Q : q_V → q_H → q_Gr → Prop) : q_wp d 155 15 [z0, z1, z2, z3, z4] st v G Q = q_wp d 155 18 [z0, z1, z2, z3, z4] (.inr (.inl 2) :: st) v G Q := q_w_ldc2 c_155_15
theorem c_155_18 : q_code 155 18 = (.invokestatic 137, 3, 151, 3, 0, 1095, 1) := by decide +kernel
theorem e_155_18 (d : Nat) (x0 x1 x2 : q_V) (z0 z1 z2 z3 z4 : q_V) (v : q_H) (G : q_Gr) (Q : q_V → q_H → q_Gr → Prop) : q_wp d 155 18 [z0, z1, z2, z3, z4] [x2, x1, x0] v G Q = q_call d 151 [x0, x1, x2] v G (fun r v G => q_wp d 155 21 [z0, z1, z2, z3, z4] (q_push r []) v G Q) := q_wp_ca (m2 := 151) (k := 3) (as := [x0, x1, x2]) (rest := []) (congrArg q_kind c_155_18) (congrArg (fun w => w.2.2.1) c_155_18) (congrArg (fun w => w.2.2.2.1) c_155_18) rfl (Nat.le_of_ble_eq_true rfl) rfl
theorem c_155_21 : q_code 155 21 = (.ifCond .eq 10, 3, 0, 0, 0, 0, 0) := by decide +kernel
theorem e_155_21 (d : Nat) (a : Int) (z0 z1 z2 z3 z4 : q_V) (st : List q_V) (v : q_H) (G : q_Gr) (Q : q_V → q_H → q_Gr → Prop) : q_wp d 155 21 [z0, z1, z2, z3, z4] (.inl a :: st) v G Q = ((q_inR a) ∧ if a = 0 then q_wp d 155 31 [z0, z1, z2, z3, z4] st v G Q else q_wp d 155 24 [z0, z1, z2, z3, z4] st v G Q) := q_w_if_eq c_155_21 (by decide)
theorem c_155_24 : q_code 155 24 = (.iload_n 3, 1, 0, 0, 0, 0, 0) := by decide +kernel
theorem e_155_24 (d : Nat) (a : Int) (z0 z1 z2 z4 : q_V) (st : List q_V) (v : q_H) (G : q_Gr) (Q : q_V → q_H → q_Gr → Prop) : q_wp d 155 24 [z0, z1, z2, .inl a, z4] st v G Q = q_wp d 155 25 [z0, z1, z2, .inl a, z4] (.inl a :: st) v G Q := q_w_iload_n c_155_24 rfl
theorem c_155_25 : q_code 155 25 = (.sipush 600, 3, 0, 0, 0, 0, 0) := by decide +kernel
theorem e_155_25 (d : Nat)  (z0 z1 z2 z3 z4 : q_V) (st : List q_V) (v : q_H) (G : q_Gr) (Q : q_V → q_H → q_Gr → Prop) : q_wp d 155 25 [z0, z1, z2, z3, z4] st v G Q = q_wp d 155 28 [z0, z1, z2, z3, z4] (.inl 600 :: st) v G Q := (q_w_sipush c_155_25).trans (by simp only [show ((-32768 : Int) ≤ 600 ∧ (600 : Int) ≤ 32767) = True by decide, true_and])
theorem c_155_28 : q_code 155 28 = (.if_icmp .le 6, 3, 0, 0, 0, 0, 0) := by decide +kernel
theorem e_155_28 (d : Nat) (a b : Int) (z0 z1 z2 z3 z4 : q_V) (st : List q_V) (v : q_H) (G : q_Gr) (Q : q_V → q_H → q_Gr → Prop) : q_wp d 155 28 [z0, z1, z2, z3, z4] (.inl b :: .inl a :: st) v G Q = ((q_inR a ∧ q_inR b) ∧ if a ≤ b then q_wp d 155 34 [z0, z1, z2, z3, z4] st v G Q else q_wp d 155 31 [z0, z1, z2, z3, z4] st v G Q) := q_w_icmp_le c_155_28 (by decide)
theorem c_155_31 : q_code 155 31 = (.ldc 147, 2, 0, 0, 0, 1099, (-1000001)) := by decide +kernel
theorem e_155_31 (d : Nat)  (z0 z1 z2 z3 z4 : q_V) (st : List q_V) (v : q_H) (G : q_Gr) (Q : q_V → q_H → q_Gr → Prop) : q_wp d 155 31 [z0, z1, z2, z3, z4] st v G Q = q_wp d 155 33 [z0, z1, z2, z3, z4] (.inl (-1000001) :: st) v G Q := q_w_ldc c_155_31
theorem c_155_33 : q_code 155 33 = (.ireturn, 1, 0, 0, 0, 0, 0) := by decide +kernel
theorem e_155_33 (d : Nat) (a : Int) (z0 z1 z2 z3 z4 : q_V) (v : q_H) (G : q_Gr) (Q : q_V → q_H → q_Gr → Prop) : q_wp d 155 33 [z0, z1, z2, z3, z4] [.inl a] v G Q = Q (.inl a) v G := q_w_ireturn c_155_33 rfl
theorem c_155_34 : q_code 155 34 = (.aload_n 0, 1, 0, 0, 0, 0, 0) := by decide +kernel
theorem e_155_34 (d : Nat) (a : Option Nat) (z1 z2 z3 z4 : q_V) (st : List q_V) (v : q_H) (G : q_Gr) (Q : q_V → q_H → q_Gr → Prop) : q_wp d 155 34 [.inr (.inr (.inl a)), z1, z2, z3, z4] st v G Q = q_wp d 155 35 [.inr (.inr (.inl a)), z1, z2, z3, z4] (.inr (.inr (.inl a)) :: st) v G Q := q_w_aload_n c_155_34 rfl
theorem c_155_35 : q_code 155 35 = (.iconst 0, 1, 0, 0, 0, 0, 0) := by decide +kernel
theorem e_155_35 (d : Nat)  (z0 z1 z2 z3 z4 : q_V) (st : List q_V) (v : q_H) (G : q_Gr) (Q : q_V → q_H → q_Gr → Prop) : q_wp d 155 35 [z0, z1, z2, z3, z4] st v G Q = q_wp d 155 36 [z0, z1, z2, z3, z4] (.inl 0 :: st) v G Q := q_w_iconst c_155_35
theorem c_155_36 : q_code 155 36 = (.putfield 123, 3, 11, 1, 0, 956, 0) := by decide +kernel
theorem e_155_36 (d : Nat) (a : Nat) (b : Int) (z0 z1 z2 z3 z4 : q_V) (st : List q_V) (v : q_H) (G : q_Gr) (Q : q_V → q_H → q_Gr → Prop) : q_wp d 155 36 [z0, z1, z2, z3, z4] (.inl b :: .inr (.inr (.inl (some a))) :: st) v G Q = (((G.2.1 a).1 = 11) ∧ q_wp d 155 39 [z0, z1, z2, z3, z4] st (q_up v a 1 b) G Q) := q_w_putI c_155_36
theorem c_155_39 : q_code 155 39 = (.iload_n 3, 1, 0, 0, 0, 0, 0) := by decide +kernel
theorem e_155_39 (d : Nat) (a : Int) (z0 z1 z2 z4 : q_V) (st : List q_V) (v : q_H) (G : q_Gr) (Q : q_V → q_H → q_Gr → Prop) : q_wp d 155 39 [z0, z1, z2, .inl a, z4] st v G Q = q_wp d 155 40 [z0, z1, z2, .inl a, z4] (.inl a :: st) v G Q := q_w_iload_n c_155_39 rfl
theorem c_155_40 : q_code 155 40 = (.ifCond .ge 9, 3, 0, 0, 0, 0, 0) := by decide +kernel
theorem e_155_40 (d : Nat) (a : Int) (z0 z1 z2 z3 z4 : q_V) (st : List q_V) (v : q_H) (G : q_Gr) (Q : q_V → q_H → q_Gr → Prop) : q_wp d 155 40 [z0, z1, z2, z3, z4] (.inl a :: st) v G Q = ((q_inR a) ∧ if 0 ≤ a then q_wp d 155 49 [z0, z1, z2, z3, z4] st v G Q else q_wp d 155 43 [z0, z1, z2, z3, z4] st v G Q) := q_w_if_ge c_155_40 (by decide)
theorem c_155_43 : q_code 155 43 = (.aload_n 0, 1, 0, 0, 0, 0, 0) := by decide +kernel
theorem e_155_43 (d : Nat) (a : Option Nat) (z1 z2 z3 z4 : q_V) (st : List q_V) (v : q_H) (G : q_Gr) (Q : q_V → q_H → q_Gr → Prop) : q_wp d 155 43 [.inr (.inr (.inl a)), z1, z2, z3, z4] st v G Q = q_wp d 155 44 [.inr (.inr (.inl a)), z1, z2, z3, z4] (.inr (.inr (.inl a)) :: st) v G Q := q_w_aload_n c_155_43 rfl
theorem c_155_44 : q_code 155 44 = (.iconst 4, 1, 0, 0, 0, 0, 0) := by decide +kernel
theorem e_155_44 (d : Nat)  (z0 z1 z2 z3 z4 : q_V) (st : List q_V) (v : q_H) (G : q_Gr) (Q : q_V → q_H → q_Gr → Prop) : q_wp d 155 44 [z0, z1, z2, z3, z4] st v G Q = q_wp d 155 45 [z0, z1, z2, z3, z4] (.inl 4 :: st) v G Q := q_w_iconst c_155_44
theorem c_155_45 : q_code 155 45 = (.invokevirtual 148, 3, 152, 2, 0, 1100, 1) := by decide +kernel
theorem e_155_45 (d : Nat) (x0 x1 : q_V) (z0 z1 z2 z3 z4 : q_V) (v : q_H) (G : q_Gr) (Q : q_V → q_H → q_Gr → Prop) : q_wp d 155 45 [z0, z1, z2, z3, z4] [x1, x0] v G Q = q_call d 152 [x0, x1] v G (fun r v G => q_wp d 155 48 [z0, z1, z2, z3, z4] (q_push r []) v G Q) := q_wp_ca (m2 := 152) (k := 2) (as := [x0, x1]) (rest := []) (congrArg q_kind c_155_45) (congrArg (fun w => w.2.2.1) c_155_45) (congrArg (fun w => w.2.2.2.1) c_155_45) rfl (Nat.le_of_ble_eq_true rfl) rfl
theorem c_155_48 : q_code 155 48 = (.ireturn, 1, 0, 0, 0, 0, 0) := by decide +kernel
theorem e_155_48 (d : Nat) (a : Int) (z0 z1 z2 z3 z4 : q_V) (v : q_H) (G : q_Gr) (Q : q_V → q_H → q_Gr → Prop) : q_wp d 155 48 [z0, z1, z2, z3, z4] [.inl a] v G Q = Q (.inl a) v G := q_w_ireturn c_155_48 rfl
theorem c_155_49 : q_code 155 49 = (.aload_n 0, 1, 0, 0, 0, 0, 0) := by decide +kernel
theorem e_155_49 (d : Nat) (a : Option Nat) (z1 z2 z3 z4 : q_V) (st : List q_V) (v : q_H) (G : q_Gr) (Q : q_V → q_H → q_Gr → Prop) : q_wp d 155 49 [.inr (.inr (.inl a)), z1, z2, z3, z4] st v G Q = q_wp d 155 50 [.inr (.inr (.inl a)), z1, z2, z3, z4] (.inr (.inr (.inl a)) :: st) v G Q := q_w_aload_n c_155_49 rfl
theorem c_155_50 : q_code 155 50 = (.getfield 7, 3, 11, 2, 1, 957, 0) := by decide +kernel
theorem e_155_50 (d : Nat) (a : Nat) (z0 z1 z2 z3 z4 : q_V) (st : List q_V) (v : q_H) (G : q_Gr) (Q : q_V → q_H → q_Gr → Prop) : q_wp d 155 50 [z0, z1, z2, z3, z4] (.inr (.inr (.inl (some a))) :: st) v G Q = (((G.2.1 a).1 = 11) ∧ q_wp d 155 53 [z0, z1, z2, z3, z4] (.inr (.inr (.inl (G.1 a 2))) :: st) v G Q) := q_w_getP c_155_50
theorem c_155_53 : q_code 155 53 = (.iload_n 1, 1, 0, 0, 0, 0, 0) := by decide +kernel
theorem e_155_53 (d : Nat) (a : Int) (z0 z2 z3 z4 : q_V) (st : List q_V) (v : q_H) (G : q_Gr) (Q : q_V → q_H → q_Gr → Prop) : q_wp d 155 53 [z0, .inl a, z2, z3, z4] st v G Q = q_wp d 155 54 [z0, .inl a, z2, z3, z4] (.inl a :: st) v G Q := q_w_iload_n c_155_53 rfl
theorem c_155_54 : q_code 155 54 = (.iload_n 2, 1, 0, 0, 0, 0, 0) := by decide +kernel
theorem e_155_54 (d : Nat) (a : Int) (z0 z1 z3 z4 : q_V) (st : List q_V) (v : q_H) (G : q_Gr) (Q : q_V → q_H → q_Gr → Prop) : q_wp d 155 54 [z0, z1, .inl a, z3, z4] st v G Q = q_wp d 155 55 [z0, z1, .inl a, z3, z4] (.inl a :: st) v G Q := q_w_iload_n c_155_54 rfl
theorem c_155_55 : q_code 155 55 = (.iastore, 1, 0, 0, 0, 0, 0) := by decide +kernel
theorem e_155_55 (d : Nat) (a : Nat) (i b : Int) (z0 z1 z2 z3 z4 : q_V) (st : List q_V) (v : q_H) (G : q_Gr) (Q : q_V → q_H → q_Gr → Prop) : q_wp d 155 55 [z0, z1, z2, z3, z4] (.inl b :: .inl i :: .inr (.inr (.inl (some a))) :: st) v G Q = (((G.2.1 a).1 = 20 ∧ 32 ≤ a ∧ 0 ≤ i ∧ i < (G.2.1 a).2) ∧ q_wp d 155 56 [z0, z1, z2, z3, z4] st (q_up v a i.toNat b) G Q) := q_w_iast c_155_55
theorem c_155_56 : q_code 155 56 = (.aload_n 0, 1, 0, 0, 0, 0, 0) := by decide +kernel
theorem e_155_56 (d : Nat) (a : Option Nat) (z1 z2 z3 z4 : q_V) (st : List q_V) (v : q_H) (G : q_Gr) (Q : q_V → q_H → q_Gr → Prop) : q_wp d 155 56 [.inr (.inr (.inl a)), z1, z2, z3, z4] st v G Q = q_wp d 155 57 [.inr (.inr (.inl a)), z1, z2, z3, z4] (.inr (.inr (.inl a)) :: st) v G Q := q_w_aload_n c_155_56 rfl
theorem c_155_57 : q_code 155 57 = (.getfield 13, 3, 11, 3, 1, 958, 0) := by decide +kernel
theorem e_155_57 (d : Nat) (a : Nat) (z0 z1 z2 z3 z4 : q_V) (st : List q_V) (v : q_H) (G : q_Gr) (Q : q_V → q_H → q_Gr → Prop) : q_wp d 155 57 [z0, z1, z2, z3, z4] (.inr (.inr (.inl (some a))) :: st) v G Q = (((G.2.1 a).1 = 11) ∧ q_wp d 155 60 [z0, z1, z2, z3, z4] (.inr (.inr (.inl (G.1 a 3))) :: st) v G Q) := q_w_getP c_155_57
theorem c_155_60 : q_code 155 60 = (.iload_n 1, 1, 0, 0, 0, 0, 0) := by decide +kernel
theorem e_155_60 (d : Nat) (a : Int) (z0 z2 z3 z4 : q_V) (st : List q_V) (v : q_H) (G : q_Gr) (Q : q_V → q_H → q_Gr → Prop) : q_wp d 155 60 [z0, .inl a, z2, z3, z4] st v G Q = q_wp d 155 61 [z0, .inl a, z2, z3, z4] (.inl a :: st) v G Q := q_w_iload_n c_155_60 rfl
theorem c_155_61 : q_code 155 61 = (.iload_n 3, 1, 0, 0, 0, 0, 0) := by decide +kernel
theorem e_155_61 (d : Nat) (a : Int) (z0 z1 z2 z4 : q_V) (st : List q_V) (v : q_H) (G : q_Gr) (Q : q_V → q_H → q_Gr → Prop) : q_wp d 155 61 [z0, z1, z2, .inl a, z4] st v G Q = q_wp d 155 62 [z0, z1, z2, .inl a, z4] (.inl a :: st) v G Q := q_w_iload_n c_155_61 rfl
theorem c_155_62 : q_code 155 62 = (.iastore, 1, 0, 0, 0, 0, 0) := by decide +kernel
theorem e_155_62 (d : Nat) (a : Nat) (i b : Int) (z0 z1 z2 z3 z4 : q_V) (st : List q_V) (v : q_H) (G : q_Gr) (Q : q_V → q_H → q_Gr → Prop) : q_wp d 155 62 [z0, z1, z2, z3, z4] (.inl b :: .inl i :: .inr (.inr (.inl (some a))) :: st) v G Q = (((G.2.1 a).1 = 20 ∧ 32 ≤ a ∧ 0 ≤ i ∧ i < (G.2.1 a).2) ∧ q_wp d 155 63 [z0, z1, z2, z3, z4] st (q_up v a i.toNat b) G Q) := q_w_iast c_155_62
theorem c_155_63 : q_code 155 63 = (.iconst 0, 1, 0, 0, 0, 0, 0) := by decide +kernel
theorem e_155_63 (d : Nat)  (z0 z1 z2 z3 z4 : q_V) (st : List q_V) (v : q_H) (G : q_Gr) (Q : q_V → q_H → q_Gr → Prop) : q_wp d 155 63 [z0, z1, z2, z3, z4] st v G Q = q_wp d 155 64 [z0, z1, z2, z3, z4] (.inl 0 :: st) v G Q := q_w_iconst c_155_63
theorem c_155_64 : q_code 155 64 = (.istore 4, 2, 0, 0, 0, 0, 0) := by decide +kernel
theorem e_155_64 (d : Nat) (a : Int) (z0 z1 z2 z3 z4 : q_V) (st : List q_V) (v : q_H) (G : q_Gr) (Q : q_V → q_H → q_Gr → Prop) : q_wp d 155 64 [z0, z1, z2, z3, z4] (.inl a :: st) v G Q = q_wp d 155 66 [z0, z1, z2, z3, .inl a] st v G Q := q_w_istore c_155_64
theorem c_155_66 : q_code 155 66 = (.iload 4, 2, 0, 0, 0, 0, 0) := by decide +kernel
theorem e_155_66 (d : Nat) (a : Int) (z0 z1 z2 z3 : q_V) (st : List q_V) (v : q_H) (G : q_Gr) (Q : q_V → q_H → q_Gr → Prop) : q_wp d 155 66 [z0, z1, z2, z3, .inl a] st v G Q = q_wp d 155 68 [z0, z1, z2, z3, .inl a] (.inl a :: st) v G Q := q_w_iload c_155_66 rfl
theorem c_155_68 : q_code 155 68 = (.sipush 600, 3, 0, 0, 0, 0, 0) := by decide +kernel
theorem e_155_68 (d : Nat)  (z0 z1 z2 z3 z4 : q_V) (st : List q_V) (v : q_H) (G : q_Gr) (Q : q_V → q_H → q_Gr → Prop) : q_wp d 155 68 [z0, z1, z2, z3, z4] st v G Q = q_wp d 155 71 [z0, z1, z2, z3, z4] (.inl 600 :: st) v G Q := (q_w_sipush c_155_68).trans (by simp only [show ((-32768 : Int) ≤ 600 ∧ (600 : Int) ≤ 32767) = True by decide, true_and])
theorem c_155_71 : q_code 155 71 = (.if_icmp .ge 23, 3, 0, 0, 0, 0, 0) := by decide +kernel
theorem e_155_71 (d : Nat) (a b : Int) (z0 z1 z2 z3 z4 : q_V) (st : List q_V) (v : q_H) (G : q_Gr) (Q : q_V → q_H → q_Gr → Prop) : q_wp d 155 71 [z0, z1, z2, z3, z4] (.inl b :: .inl a :: st) v G Q = ((q_inR a ∧ q_inR b) ∧ if b ≤ a then q_wp d 155 94 [z0, z1, z2, z3, z4] st v G Q else q_wp d 155 74 [z0, z1, z2, z3, z4] st v G Q) := q_w_icmp_ge c_155_71 (by decide)
theorem c_155_74 : q_code 155 74 = (.aload_n 0, 1, 0, 0, 0, 0, 0) := by decide +kernel
theorem e_155_74 (d : Nat) (a : Option Nat) (z1 z2 z3 z4 : q_V) (st : List q_V) (v : q_H) (G : q_Gr) (Q : q_V → q_H → q_Gr → Prop) : q_wp d 155 74 [.inr (.inr (.inl a)), z1, z2, z3, z4] st v G Q = q_wp d 155 75 [.inr (.inr (.inl a)), z1, z2, z3, z4] (.inr (.inr (.inl a)) :: st) v G Q := q_w_aload_n c_155_74 rfl
theorem c_155_75 : q_code 155 75 = (.getfield 16, 3, 11, 4, 1, 959, 0) := by decide +kernel
theorem e_155_75 (d : Nat) (a : Nat) (z0 z1 z2 z3 z4 : q_V) (st : List q_V) (v : q_H) (G : q_Gr) (Q : q_V → q_H → q_Gr → Prop) : q_wp d 155 75 [z0, z1, z2, z3, z4] (.inr (.inr (.inl (some a))) :: st) v G Q = (((G.2.1 a).1 = 11) ∧ q_wp d 155 78 [z0, z1, z2, z3, z4] (.inr (.inr (.inl (G.1 a 4))) :: st) v G Q) := q_w_getP c_155_75
theorem c_155_78 : q_code 155 78 = (.sipush 600, 3, 0, 0, 0, 0, 0) := by decide +kernel
theorem e_155_78 (d : Nat)  (z0 z1 z2 z3 z4 : q_V) (st : List q_V) (v : q_H) (G : q_Gr) (Q : q_V → q_H → q_Gr → Prop) : q_wp d 155 78 [z0, z1, z2, z3, z4] st v G Q = q_wp d 155 81 [z0, z1, z2, z3, z4] (.inl 600 :: st) v G Q := (q_w_sipush c_155_78).trans (by simp only [show ((-32768 : Int) ≤ 600 ∧ (600 : Int) ≤ 32767) = True by decide, true_and])
theorem c_155_81 : q_code 155 81 = (.iload_n 1, 1, 0, 0, 0, 0, 0) := by decide +kernel
theorem e_155_81 (d : Nat) (a : Int) (z0 z2 z3 z4 : q_V) (st : List q_V) (v : q_H) (G : q_Gr) (Q : q_V → q_H → q_Gr → Prop) : q_wp d 155 81 [z0, .inl a, z2, z3, z4] st v G Q = q_wp d 155 82 [z0, .inl a, z2, z3, z4] (.inl a :: st) v G Q := q_w_iload_n c_155_81 rfl
theorem c_155_82 : q_code 155 82 = (.imul, 1, 0, 0, 0, 0, 0) := by decide +kernel
theorem e_155_82 (d : Nat) (a b : Int) (z0 z1 z2 z3 z4 : q_V) (st : List q_V) (v : q_H) (G : q_Gr) (Q : q_V → q_H → q_Gr → Prop) : q_wp d 155 82 [z0, z1, z2, z3, z4] (.inl b :: .inl a :: st) v G Q = q_wp d 155 83 [z0, z1, z2, z3, z4] (.inl (a * b) :: st) v G Q := q_w_imul c_155_82
theorem c_155_83 : q_code 155 83 = (.iload 4, 2, 0, 0, 0, 0, 0) := by decide +kernel
theorem e_155_83 (d : Nat) (a : Int) (z0 z1 z2 z3 : q_V) (st : List q_V) (v : q_H) (G : q_Gr) (Q : q_V → q_H → q_Gr → Prop) : q_wp d 155 83 [z0, z1, z2, z3, .inl a] st v G Q = q_wp d 155 85 [z0, z1, z2, z3, .inl a] (.inl a :: st) v G Q := q_w_iload c_155_83 rfl
theorem c_155_85 : q_code 155 85 = (.iadd, 1, 0, 0, 0, 0, 0) := by decide +kernel
theorem e_155_85 (d : Nat) (a b : Int) (z0 z1 z2 z3 z4 : q_V) (st : List q_V) (v : q_H) (G : q_Gr) (Q : q_V → q_H → q_Gr → Prop) : q_wp d 155 85 [z0, z1, z2, z3, z4] (.inl b :: .inl a :: st) v G Q = q_wp d 155 86 [z0, z1, z2, z3, z4] (.inl (a + b) :: st) v G Q := q_w_iadd c_155_85
theorem c_155_86 : q_code 155 86 = (.iconst 0, 1, 0, 0, 0, 0, 0) := by decide +kernel
theorem e_155_86 (d : Nat)  (z0 z1 z2 z3 z4 : q_V) (st : List q_V) (v : q_H) (G : q_Gr) (Q : q_V → q_H → q_Gr → Prop) : q_wp d 155 86 [z0, z1, z2, z3, z4] st v G Q = q_wp d 155 87 [z0, z1, z2, z3, z4] (.inl 0 :: st) v G Q := q_w_iconst c_155_86
theorem c_155_87 : q_code 155 87 = (.iastore, 1, 0, 0, 0, 0, 0) := by decide +kernel
theorem e_155_87 (d : Nat) (a : Nat) (i b : Int) (z0 z1 z2 z3 z4 : q_V) (st : List q_V) (v : q_H) (G : q_Gr) (Q : q_V → q_H → q_Gr → Prop) : q_wp d 155 87 [z0, z1, z2, z3, z4] (.inl b :: .inl i :: .inr (.inr (.inl (some a))) :: st) v G Q = (((G.2.1 a).1 = 20 ∧ 32 ≤ a ∧ 0 ≤ i ∧ i < (G.2.1 a).2) ∧ q_wp d 155 88 [z0, z1, z2, z3, z4] st (q_up v a i.toNat b) G Q) := q_w_iast c_155_87
theorem c_155_88 : q_code 155 88 = (.iinc 4 1, 3, 0, 0, 0, 0, 0) := by decide +kernel
theorem e_155_88 (d : Nat) (a : Int) (z0 z1 z2 z3 : q_V) (st : List q_V) (v : q_H) (G : q_Gr) (Q : q_V → q_H → q_Gr → Prop) : q_wp d 155 88 [z0, z1, z2, z3, .inl a] st v G Q = q_wp d 155 91 [z0, z1, z2, z3, .inl (a + 1)] st v G Q := q_w_iinc c_155_88 rfl
theorem c_155_91 : q_code 155 91 = (.goto (-25), 3, 0, 0, 0, 0, 0) := by decide +kernel
theorem e_155_91 (d : Nat)  (z0 z1 z2 z3 z4 : q_V) (st : List q_V) (v : q_H) (G : q_Gr) (Q : q_V → q_H → q_Gr → Prop) : q_wp d 155 91 [z0, z1, z2, z3, z4] st v G Q = q_wp d 155 66 [z0, z1, z2, z3, z4] st v G Q := q_w_goto c_155_91 (by decide)
theorem c_155_94 : q_code 155 94 = (.iload_n 3, 1, 0, 0, 0, 0, 0) := by decide +kernel
theorem e_155_94 (d : Nat) (a : Int) (z0 z1 z2 z4 : q_V) (st : List q_V) (v : q_H) (G : q_Gr) (Q : q_V → q_H → q_Gr → Prop) : q_wp d 155 94 [z0, z1, z2, .inl a, z4] st v G Q = q_wp d 155 95 [z0, z1, z2, .inl a, z4] (.inl a :: st) v G Q := q_w_iload_n c_155_94 rfl
theorem c_155_95 : q_code 155 95 = (.ireturn, 1, 0, 0, 0, 0, 0) := by decide +kernel
theorem e_155_95 (d : Nat) (a : Int) (z0 z1 z2 z3 z4 : q_V) (v : q_H) (G : q_Gr) (Q : q_V → q_H → q_Gr → Prop) : q_wp d 155 95 [z0, z1, z2, z3, z4] [.inl a] v G Q = Q (.inl a) v G := q_w_ireturn c_155_95 rfl
theorem e_155 (d : Nat) (a0 : Nat) (a1 : Int) (a2 : Int) (a3 : Int) (v : q_H) (G : q_Gr) (Q : q_V → q_H → q_Gr → Prop) : q_call (d + 1) 155 [.inr (.inr (.inl (some a0))), .inl a1, .inl a2, .inl a3] v G Q = ((G.2.1 a0).1 = 11 ∧ q_wp d 155 0 [.inr (.inr (.inl (some a0))), .inl a1, .inl a2, .inl a3, .inr (.inr (.inr ()))] [] v G Q) := by
  rw [q_call_in (by decide) (Nat.le_of_ble_eq_true rfl) rfl]
  exact congrArg (· ∧ _) (propext beq_iff_eq)
/-- all but the heads of loops: [66] -/
def E155 := And.intro @e_155 (And.intro @e_155_0 (And.intro @e_155_1 (And.intro @e_155_2 (And.intro @e_155_5 (And.intro @e_155_6 (And.intro @e_155_9 (And.intro @e_155_12 (And.intro @e_155_13 (And.intro @e_155_14 (And.intro @e_155_15 (And.intro @e_155_18 (And.intro @e_155_21 (And.intro @e_155_24 (And.intro @e_155_25 (And.intro @e_155_28 (And.intro @e_155_31 (And.intro @e_155_33 (And.intro @e_155_34 (And.intro @e_155_35 (And.intro @e_155_36 (And.intro @e_155_39 (And.intro @e_155_40 (And.intro @e_155_43 (And.intro @e_155_44 (And.intro @e_155_45 (And.intro @e_155_48 (And.intro @e_155_49 (And.intro @e_155_50 (And.intro @e_155_53 (And.intro @e_155_54 (And.intro @e_155_55 (And.intro @e_155_56 (And.intro @e_155_57 (And.intro @e_155_60 (And.intro @e_155_61 (And.intro @e_155_62 (And.intro @e_155_63 (And.intro @e_155_64 (And.intro @e_155_68 (And.intro @e_155_71 (And.intro @e_155_74 (And.intro @e_155_75 (And.intro @e_155_78 (And.intro @e_155_81 (And.intro @e_155_82 (And.intro @e_155_83 (And.intro @e_155_85 (And.intro @e_155_86 (And.intro @e_155_87 (And.intro @e_155_88 (And.intro @e_155_91 (And.intro @e_155_94 (@e_155_95)))))))))))))))))))))))))))))))))))))))))))))))))))))
/-! ProvenRowsModel.set(III)I -/
theorem c_156_0 : q_code 156 0 = (.aload_n 0, 1, 0, 0, 0, 0, 0) := by decide +kernel
theorem e_156_0 (d : Nat) (a : Option Nat) (z1 z2 z3 : q_V) (st : List q_V) (v : q_H) (G : q_Gr) (Q : q_V → q_H → q_Gr → Prop) : q_wp d 156 0 [.inr (.inr (.inl a)), z1, z2, z3] st v G Q = q_wp d 156 1 [.inr (.inr (.inl a)), z1, z2, z3] (.inr (.inr (.inl a)) :: st) v G Q := q_w_aload_n c_156_0 rfl
theorem c_156_1 : q_code 156 1 = (.iconst 0, 1, 0, 0, 0, 0, 0) := by decide +kernel
theorem e_156_1 (d : Nat)  (z0 z1 z2 z3 : q_V) (st : List q_V) (v : q_H) (G : q_Gr) (Q : q_V → q_H → q_Gr → Prop) : q_wp d 156 1 [z0, z1, z2, z3] st v G Q = q_wp d 156 2 [z0, z1, z2, z3] (.inl 0 :: st) v G Q := q_w_iconst c_156_1
theorem c_156_2 : q_code 156 2 = (.putfield 119, 3, 11, 0, 0, 955, 0) := by decide +kernel
theorem e_156_2 (d : Nat) (a : Nat) (b : Int) (z0 z1 z2 z3 : q_V) (st : List q_V) (v : q_H) (G : q_Gr) (Q : q_V → q_H → q_Gr → Prop) : q_wp d 156 2 [z0, z1, z2, z3] (.inl b :: .inr (.inr (.inl (some a))) :: st) v G Q = (((G.2.1 a).1 = 11) ∧ q_wp d 156 5 [z0, z1, z2, z3] st (q_up v a 0 b) G Q) := q_w_putI c_156_2
theorem c_156_5 : q_code 156 5 = (.iload_n 1, 1, 0, 0, 0, 0, 0) := by decide +kernel
theorem e_156_5 (d : Nat) (a : Int) (z0 z2 z3 : q_V) (st : List q_V) (v : q_H) (G : q_Gr) (Q : q_V → q_H → q_Gr → Prop) : q_wp d 156 5 [z0, .inl a, z2, z3] st v G Q = q_wp d 156 6 [z0, .inl a, z2, z3] (.inl a :: st) v G Q := q_w_iload_n c_156_5 rfl
theorem c_156_6 : q_code 156 6 = (.invokestatic 141, 3, 154, 1, 0, 1091, 1) := by decide +kernel
theorem e_156_6 (d : Nat) (x0 : q_V) (z0 z1 z2 z3 : q_V) (v : q_H) (G : q_Gr) (Q : q_V → q_H → q_Gr → Prop) : q_wp d 156 6 [z0, z1, z2, z3] [x0] v G Q = q_call d 154 [x0] v G (fun r v G => q_wp d 156 9 [z0, z1, z2, z3] (q_push r []) v G Q) := q_wp_ca (m2 := 154) (k := 1) (as := [x0]) (rest := []) (congrArg q_kind c_156_6) (congrArg (fun w => w.2.2.1) c_156_6) (congrArg (fun w => w.2.2.2.1) c_156_6) rfl (Nat.le_of_ble_eq_true rfl) rfl
theorem c_156_9 : q_code 156 9 = (.ifCond .ne 6, 3, 0, 0, 0, 0, 0) := by decide +kernel
theorem e_156_9 (d : Nat) (a : Int) (z0 z1 z2 z3 : q_V) (st : List q_V) (v : q_H) (G : q_Gr) (Q : q_V → q_H → q_Gr → Prop) : q_wp d 156 9 [z0, z1, z2, z3] (.inl a :: st) v G Q = ((q_inR a) ∧ if ¬ a = 0 then q_wp d 156 15 [z0, z1, z2, z3] st v G Q else q_wp d 156 12 [z0, z1, z2, z3] st v G Q) := q_w_if_ne c_156_9 (by decide)
theorem c_156_12 : q_code 156 12 = (.ldc 147, 2, 0, 0, 0, 1099, (-1000001)) := by decide +kernel
theorem e_156_12 (d : Nat)  (z0 z1 z2 z3 : q_V) (st : List q_V) (v : q_H) (G : q_Gr) (Q : q_V → q_H → q_Gr → Prop) : q_wp d 156 12 [z0, z1, z2, z3] st v G Q = q_wp d 156 14 [z0, z1, z2, z3] (.inl (-1000001) :: st) v G Q := q_w_ldc c_156_12
theorem c_156_14 : q_code 156 14 = (.ireturn, 1, 0, 0, 0, 0, 0) := by decide +kernel
theorem e_156_14 (d : Nat) (a : Int) (z0 z1 z2 z3 : q_V) (v : q_H) (G : q_Gr) (Q : q_V → q_H → q_Gr → Prop) : q_wp d 156 14 [z0, z1, z2, z3] [.inl a] v G Q = Q (.inl a) v G := q_w_ireturn c_156_14 rfl
theorem c_156_15 : q_code 156 15 = (.aload_n 0, 1, 0, 0, 0, 0, 0) := by decide +kernel
theorem e_156_15 (d : Nat) (a : Option Nat) (z1 z2 z3 : q_V) (st : List q_V) (v : q_H) (G : q_Gr) (Q : q_V → q_H → q_Gr → Prop) : q_wp d 156 15 [.inr (.inr (.inl a)), z1, z2, z3] st v G Q = q_wp d 156 16 [.inr (.inr (.inl a)), z1, z2, z3] (.inr (.inr (.inl a)) :: st) v G Q := q_w_aload_n c_156_15 rfl
theorem c_156_16 : q_code 156 16 = (.iconst 0, 1, 0, 0, 0, 0, 0) := by decide +kernel
theorem e_156_16 (d : Nat)  (z0 z1 z2 z3 : q_V) (st : List q_V) (v : q_H) (G : q_Gr) (Q : q_V → q_H → q_Gr → Prop) : q_wp d 156 16 [z0, z1, z2, z3] st v G Q = q_wp d 156 17 [z0, z1, z2, z3] (.inl 0 :: st) v G Q := q_w_iconst c_156_16
theorem c_156_17 : q_code 156 17 = (.putfield 123, 3, 11, 1, 0, 956, 0) := by decide +kernel
theorem e_156_17 (d : Nat) (a : Nat) (b : Int) (z0 z1 z2 z3 : q_V) (st : List q_V) (v : q_H) (G : q_Gr) (Q : q_V → q_H → q_Gr → Prop) : q_wp d 156 17 [z0, z1, z2, z3] (.inl b :: .inr (.inr (.inl (some a))) :: st) v G Q = (((G.2.1 a).1 = 11) ∧ q_wp d 156 20 [z0, z1, z2, z3] st (q_up v a 1 b) G Q) := q_w_putI c_156_17
theorem c_156_20 : q_code 156 20 = (.aload_n 0, 1, 0, 0, 0, 0, 0) := by decide +kernel
theorem e_156_20 (d : Nat) (a : Option Nat) (z1 z2 z3 : q_V) (st : List q_V) (v : q_H) (G : q_Gr) (Q : q_V → q_H → q_Gr → Prop) : q_wp d 156 20 [.inr (.inr (.inl a)), z1, z2, z3] st v G Q = q_wp d 156 21 [.inr (.inr (.inl a)), z1, z2, z3] (.inr (.inr (.inl a)) :: st) v G Q := q_w_aload_n c_156_20 rfl
theorem c_156_21 : q_code 156 21 = (.getfield 7, 3, 11, 2, 1, 957, 0) := by decide +kernel
theorem e_156_21 (d : Nat) (a : Nat) (z0 z1 z2 z3 : q_V) (st : List q_V) (v : q_H) (G : q_Gr) (Q : q_V → q_H → q_Gr → Prop) : q_wp d 156 21 [z0, z1, z2, z3] (.inr (.inr (.inl (some a))) :: st) v G Q = (((G.2.1 a).1 = 11) ∧ q_wp d 156 24 [z0, z1, z2, z3] (.inr (.inr (.inl (G.1 a 2))) :: st) v G Q) := q_w_getP c_156_21
theorem c_156_24 : q_code 156 24 = (.iload_n 1, 1, 0, 0, 0, 0, 0) := by decide +kernel
theorem e_156_24 (d : Nat) (a : Int) (z0 z2 z3 : q_V) (st : List q_V) (v : q_H) (G : q_Gr) (Q : q_V → q_H → q_Gr → Prop) : q_wp d 156 24 [z0, .inl a, z2, z3] st v G Q = q_wp d 156 25 [z0, .inl a, z2, z3] (.inl a :: st) v G Q := q_w_iload_n c_156_24 rfl
theorem c_156_25 : q_code 156 25 = (.iaload, 1, 0, 0, 0, 0, 0) := by decide +kernel
theorem e_156_25 (d : Nat) (a : Nat) (i : Int) (z0 z1 z2 z3 : q_V) (st : List q_V) (v : q_H) (G : q_Gr) (Q : q_V → q_H → q_Gr → Prop) : q_wp d 156 25 [z0, z1, z2, z3] (.inl i :: .inr (.inr (.inl (some a))) :: st) v G Q = (((G.2.1 a).1 = 20 ∧ 0 ≤ i ∧ i < (G.2.1 a).2) ∧ q_wp d 156 26 [z0, z1, z2, z3] (.inl (v a i.toNat) :: st) v G Q) := q_w_iald c_156_25
theorem c_156_26 : q_code 156 26 = (.ifCond .ge 9, 3, 0, 0, 0, 0, 0) := by decide +kernel
theorem e_156_26 (d : Nat) (a : Int) (z0 z1 z2 z3 : q_V) (st : List q_V) (v : q_H) (G : q_Gr) (Q : q_V → q_H → q_Gr → Prop) : q_wp d 156 26 [z0, z1, z2, z3] (.inl a :: st) v G Q = ((q_inR a) ∧ if 0 ≤ a then q_wp d 156 35 [z0, z1, z2, z3] st v G Q else q_wp d 156 29 [z0, z1, z2, z3] st v G Q) := q_w_if_ge c_156_26 (by decide)
theorem c_156_29 : q_code 156 29 = (.aload_n 0, 1, 0, 0, 0, 0, 0) := by decide +kernel
theorem e_156_29 (d : Nat) (a : Option Nat) (z1 z2 z3 : q_V) (st : List q_V) (v : q_H) (G : q_Gr) (Q : q_V → q_H → q_Gr → Prop) : q_wp d 156 29 [.inr (.inr (.inl a)), z1, z2, z3] st v G Q = q_wp d 156 30 [.inr (.inr (.inl a)), z1, z2, z3] (.inr (.inr (.inl a)) :: st) v G Q := q_w_aload_n c_156_29 rfl
theorem c_156_30 : q_code 156 30 = (.iconst 1, 1, 0, 0, 0, 0, 0) := by decide +kernel
theorem e_156_30 (d : Nat)  (z0 z1 z2 z3 : q_V) (st : List q_V) (v : q_H) (G : q_Gr) (Q : q_V → q_H → q_Gr → Prop) : q_wp d 156 30 [z0, z1, z2, z3] st v G Q = q_wp d 156 31 [z0, z1, z2, z3] (.inl 1 :: st) v G Q := q_w_iconst c_156_30
theorem c_156_31 : q_code 156 31 = (.invokevirtual 148, 3, 152, 2, 0, 1100, 1) := by decide +kernel
theorem e_156_31 (d : Nat) (x0 x1 : q_V) (z0 z1 z2 z3 : q_V) (v : q_H) (G : q_Gr) (Q : q_V → q_H → q_Gr → Prop) : q_wp d 156 31 [z0, z1, z2, z3] [x1, x0] v G Q = q_call d 152 [x0, x1] v G (fun r v G => q_wp d 156 34 [z0, z1, z2, z3] (q_push r []) v G Q) := q_wp_ca (m2 := 152) (k := 2) (as := [x0, x1]) (rest := []) (congrArg q_kind c_156_31) (congrArg (fun w => w.2.2.1) c_156_31) (congrArg (fun w => w.2.2.2.1) c_156_31) rfl (Nat.le_of_ble_eq_true rfl) rfl
theorem c_156_34 : q_code 156 34 = (.ireturn, 1, 0, 0, 0, 0, 0) := by decide +kernel
theorem e_156_34 (d : Nat) (a : Int) (z0 z1 z2 z3 : q_V) (v : q_H) (G : q_Gr) (Q : q_V → q_H → q_Gr → Prop) : q_wp d 156 34 [z0, z1, z2, z3] [.inl a] v G Q = Q (.inl a) v G := q_w_ireturn c_156_34 rfl
theorem c_156_35 : q_code 156 35 = (.iload_n 2, 1, 0, 0, 0, 0, 0) := by decide +kernel
theorem e_156_35 (d : Nat) (a : Int) (z0 z1 z3 : q_V) (st : List q_V) (v : q_H) (G : q_Gr) (Q : q_V → q_H → q_Gr → Prop) : q_wp d 156 35 [z0, z1, .inl a, z3] st v G Q = q_wp d 156 36 [z0, z1, .inl a, z3] (.inl a :: st) v G Q := q_w_iload_n c_156_35 rfl
theorem c_156_36 : q_code 156 36 = (.i2l, 1, 0, 0, 0, 0, 0) := by decide +kernel
theorem e_156_36 (d : Nat) (a : Int) (z0 z1 z2 z3 : q_V) (st : List q_V) (v : q_H) (G : q_Gr) (Q : q_V → q_H → q_Gr → Prop) : q_wp d 156 36 [z0, z1, z2, z3] (.inl a :: st) v G Q = ((q_inR a) ∧ q_wp d 156 37 [z0, z1, z2, z3] (.inr (.inl a) :: st) v G Q) := q_w_i2l c_156_36
theorem c_156_37 : q_code 156 37 = (.lconst 0, 1, 0, 0, 0, 0, 0) := by decide +kernel
theorem e_156_37 (d : Nat)  (z0 z1 z2 z3 : q_V) (st : List q_V) (v : q_H) (G : q_Gr) (Q : q_V → q_H → q_Gr → Prop) : q_wp d 156 37 [z0, z1, z2, z3] st v G Q = q_wp d 156 38 [z0, z1, z2, z3] (.inr (.inl 0) :: st) v G Q := q_w_lconst c_156_37
theorem c_156_38 : q_code 156 38 = (.aload_n 0, 1, 0, 0, 0, 0, 0) := by decide +kernel
theorem e_156_38 (d : Nat) (a : Option Nat) (z1 z2 z3 : q_V) (st : List q_V) (v : q_H) (G : q_Gr) (Q : q_V → q_H → q_Gr → Prop) : q_wp d 156 38 [.inr (.inr (.inl a)), z1, z2, z3] st v G Q = q_wp d 156 39 [.inr (.inr (.inl a)), z1, z2, z3] (.inr (.inr (.inl a)) :: st) v G Q := q_w_aload_n c_156_38 rfl
theorem c_156_39 : q_code 156 39 = (.getfield 13, 3, 11, 3, 1, 958, 0) := by decide +kernel
theorem e_156_39 (d : Nat) (a : Nat) (z0 z1 z2 z3 : q_V) (st : List q_V) (v : q_H) (G : q_Gr) (Q : q_V → q_H → q_Gr → Prop) : q_wp d 156 39 [z0, z1, z2, z3] (.inr (.inr (.inl (some a))) :: st) v G Q = (((G.2.1 a).1 = 11) ∧ q_wp d 156 42 [z0, z1, z2, z3] (.inr (.inr (.inl (G.1 a 3))) :: st) v G Q) := q_w_getP c_156_39
theorem c_156_42 : q_code 156 42 = (.iload_n 1, 1, 0, 0, 0, 0, 0) := by decide +kernel
theorem e_156_42 (d : Nat) (a : Int) (z0 z2 z3 : q_V) (st : List q_V) (v : q_H) (G : q_Gr) (Q : q_V → q_H → q_Gr → Prop) : q_wp d 156 42 [z0, .inl a, z2, z3] st v G Q = q_wp d 156 43 [z0, .inl a, z2, z3] (.inl a :: st) v G Q := q_w_iload_n c_156_42 rfl
theorem c_156_43 : q_code 156 43 = (.iaload, 1, 0, 0, 0, 0, 0) := by decide +kernel
theorem e_156_43 (d : Nat) (a : Nat) (i : Int) (z0 z1 z2 z3 : q_V) (st : List q_V) (v : q_H) (G : q_Gr) (Q : q_V → q_H → q_Gr → Prop) : q_wp d 156 43 [z0, z1, z2, z3] (.inl i :: .inr (.inr (.inl (some a))) :: st) v G Q = (((G.2.1 a).1 = 20 ∧ 0 ≤ i ∧ i < (G.2.1 a).2) ∧ q_wp d 156 44 [z0, z1, z2, z3] (.inl (v a i.toNat) :: st) v G Q) := q_w_iald c_156_43
theorem c_156_44 : q_code 156 44 = (.iconst 1, 1, 0, 0, 0, 0, 0) := by decide +kernel
theorem e_156_44 (d : Nat)  (z0 z1 z2 z3 : q_V) (st : List q_V) (v : q_H) (G : q_Gr) (Q : q_V → q_H → q_Gr → Prop) : q_wp d 156 44 [z0, z1, z2, z3] st v G Q = q_wp d 156 45 [z0, z1, z2, z3] (.inl 1 :: st) v G Q := q_w_iconst c_156_44
theorem c_156_45 : q_code 156 45 = (.isub, 1, 0, 0, 0, 0, 0) := by decide +kernel
theorem e_156_45 (d : Nat) (a b : Int) (z0 z1 z2 z3 : q_V) (st : List q_V) (v : q_H) (G : q_Gr) (Q : q_V → q_H → q_Gr → Prop) : q_wp d 156 45 [z0, z1, z2, z3] (.inl b :: .inl a :: st) v G Q = q_wp d 156 46 [z0, z1, z2, z3] (.inl (a - b) :: st) v G Q := q_w_isub c_156_45
theorem c_156_46 : q_code 156 46 = (.i2l, 1, 0, 0, 0, 0, 0) := by decide +kernel
theorem e_156_46 (d : Nat) (a : Int) (z0 z1 z2 z3 : q_V) (st : List q_V) (v : q_H) (G : q_Gr) (Q : q_V → q_H → q_Gr → Prop) : q_wp d 156 46 [z0, z1, z2, z3] (.inl a :: st) v G Q = ((q_inR a) ∧ q_wp d 156 47 [z0, z1, z2, z3] (.inr (.inl a) :: st) v G Q) := q_w_i2l c_156_46
theorem c_156_47 : q_code 156 47 = (.invokestatic 137, 3, 151, 3, 0, 1095, 1) := by decide +kernel
theorem e_156_47 (d : Nat) (x0 x1 x2 : q_V) (z0 z1 z2 z3 : q_V) (v : q_H) (G : q_Gr) (Q : q_V → q_H → q_Gr → Prop) : q_wp d 156 47 [z0, z1, z2, z3] [x2, x1, x0] v G Q = q_call d 151 [x0, x1, x2] v G (fun r v G => q_wp d 156 50 [z0, z1, z2, z3] (q_push r []) v G Q) := q_wp_ca (m2 := 151) (k := 3) (as := [x0, x1, x2]) (rest := []) (congrArg q_kind c_156_47) (congrArg (fun w => w.2.2.1) c_156_47) (congrArg (fun w => w.2.2.2.1) c_156_47) rfl (Nat.le_of_ble_eq_true rfl) rfl
theorem c_156_50 : q_code 156 50 = (.ifCond .ne 9, 3, 0, 0, 0, 0, 0) := by decide +kernel
theorem e_156_50 (d : Nat) (a : Int) (z0 z1 z2 z3 : q_V) (st : List q_V) (v : q_H) (G : q_Gr) (Q : q_V → q_H → q_Gr → Prop) : q_wp d 156 50 [z0, z1, z2, z3] (.inl a :: st) v G Q = ((q_inR a) ∧ if ¬ a = 0 then q_wp d 156 59 [z0, z1, z2, z3] st v G Q else q_wp d 156 53 [z0, z1, z2, z3] st v G Q) := q_w_if_ne c_156_50 (by decide)
theorem c_156_53 : q_code 156 53 = (.aload_n 0, 1, 0, 0, 0, 0, 0) := by decide +kernel
theorem e_156_53 (d : Nat) (a : Option Nat) (z1 z2 z3 : q_V) (st : List q_V) (v : q_H) (G : q_Gr) (Q : q_V → q_H → q_Gr → Prop) : q_wp d 156 53 [.inr (.inr (.inl a)), z1, z2, z3] st v G Q = q_wp d 156 54 [.inr (.inr (.inl a)), z1, z2, z3] (.inr (.inr (.inl a)) :: st) v G Q := q_w_aload_n c_156_53 rfl
theorem c_156_54 : q_code 156 54 = (.iconst 2, 1, 0, 0, 0, 0, 0) := by decide +kernel
theorem e_156_54 (d : Nat)  (z0 z1 z2 z3 : q_V) (st : List q_V) (v : q_H) (G : q_Gr) (Q : q_V → q_H → q_Gr → Prop) : q_wp d 156 54 [z0, z1, z2, z3] st v G Q = q_wp d 156 55 [z0, z1, z2, z3] (.inl 2 :: st) v G Q := q_w_iconst c_156_54
theorem c_156_55 : q_code 156 55 = (.invokevirtual 148, 3, 152, 2, 0, 1100, 1) := by decide +kernel
theorem e_156_55 (d : Nat) (x0 x1 : q_V) (z0 z1 z2 z3 : q_V) (v : q_H) (G : q_Gr) (Q : q_V → q_H → q_Gr → Prop) : q_wp d 156 55 [z0, z1, z2, z3] [x1, x0] v G Q = q_call d 152 [x0, x1] v G (fun r v G => q_wp d 156 58 [z0, z1, z2, z3] (q_push r []) v G Q) := q_wp_ca (m2 := 152) (k := 2) (as := [x0, x1]) (rest := []) (congrArg q_kind c_156_55) (congrArg (fun w => w.2.2.1) c_156_55) (congrArg (fun w => w.2.2.2.1) c_156_55) rfl (Nat.le_of_ble_eq_true rfl) rfl
theorem c_156_58 : q_code 156 58 = (.ireturn, 1, 0, 0, 0, 0, 0) := by decide +kernel
theorem e_156_58 (d : Nat) (a : Int) (z0 z1 z2 z3 : q_V) (v : q_H) (G : q_Gr) (Q : q_V → q_H → q_Gr → Prop) : q_wp d 156 58 [z0, z1, z2, z3] [.inl a] v G Q = Q (.inl a) v G := q_w_ireturn c_156_58 rfl
theorem c_156_59 : q_code 156 59 = (.aload_n 0, 1, 0, 0, 0, 0, 0) := by decide +kernel
theorem e_156_59 (d : Nat) (a : Option Nat) (z1 z2 z3 : q_V) (st : List q_V) (v : q_H) (G : q_Gr) (Q : q_V → q_H → q_Gr → Prop) : q_wp d 156 59 [.inr (.inr (.inl a)), z1, z2, z3] st v G Q = q_wp d 156 60 [.inr (.inr (.inl a)), z1, z2, z3] (.inr (.inr (.inl a)) :: st) v G Q := q_w_aload_n c_156_59 rfl
theorem c_156_60 : q_code 156 60 = (.getfield 16, 3, 11, 4, 1, 959, 0) := by decide +kernel
theorem e_156_60 (d : Nat) (a : Nat) (z0 z1 z2 z3 : q_V) (st : List q_V) (v : q_H) (G : q_Gr) (Q : q_V → q_H → q_Gr → Prop) : q_wp d 156 60 [z0, z1, z2, z3] (.inr (.inr (.inl (some a))) :: st) v G Q = (((G.2.1 a).1 = 11) ∧ q_wp d 156 63 [z0, z1, z2, z3] (.inr (.inr (.inl (G.1 a 4))) :: st) v G Q) := q_w_getP c_156_60
theorem c_156_63 : q_code 156 63 = (.sipush 600, 3, 0, 0, 0, 0, 0) := by decide +kernel
theorem e_156_63 (d : Nat)  (z0 z1 z2 z3 : q_V) (st : List q_V) (v : q_H) (G : q_Gr) (Q : q_V → q_H → q_Gr → Prop) : q_wp d 156 63 [z0, z1, z2, z3] st v G Q = q_wp d 156 66 [z0, z1, z2, z3] (.inl 600 :: st) v G Q := (q_w_sipush c_156_63).trans (by simp only [show ((-32768 : Int) ≤ 600 ∧ (600 : Int) ≤ 32767) = True by decide, true_and])
theorem c_156_66 : q_code 156 66 = (.iload_n 1, 1, 0, 0, 0, 0, 0) := by decide +kernel
theorem e_156_66 (d : Nat) (a : Int) (z0 z2 z3 : q_V) (st : List q_V) (v : q_H) (G : q_Gr) (Q : q_V → q_H → q_Gr → Prop) : q_wp d 156 66 [z0, .inl a, z2, z3] st v G Q = q_wp d 156 67 [z0, .inl a, z2, z3] (.inl a :: st) v G Q := q_w_iload_n c_156_66 rfl
theorem c_156_67 : q_code 156 67 = (.imul, 1, 0, 0, 0, 0, 0) := by decide +kernel
theorem e_156_67 (d : Nat) (a b : Int) (z0 z1 z2 z3 : q_V) (st : List q_V) (v : q_H) (G : q_Gr) (Q : q_V → q_H → q_Gr → Prop) : q_wp d 156 67 [z0, z1, z2, z3] (.inl b :: .inl a :: st) v G Q = q_wp d 156 68 [z0, z1, z2, z3] (.inl (a * b) :: st) v G Q := q_w_imul c_156_67
theorem c_156_68 : q_code 156 68 = (.iload_n 2, 1, 0, 0, 0, 0, 0) := by decide +kernel
theorem e_156_68 (d : Nat) (a : Int) (z0 z1 z3 : q_V) (st : List q_V) (v : q_H) (G : q_Gr) (Q : q_V → q_H → q_Gr → Prop) : q_wp d 156 68 [z0, z1, .inl a, z3] st v G Q = q_wp d 156 69 [z0, z1, .inl a, z3] (.inl a :: st) v G Q := q_w_iload_n c_156_68 rfl
theorem c_156_69 : q_code 156 69 = (.iadd, 1, 0, 0, 0, 0, 0) := by decide +kernel
theorem e_156_69 (d : Nat) (a b : Int) (z0 z1 z2 z3 : q_V) (st : List q_V) (v : q_H) (G : q_Gr) (Q : q_V → q_H → q_Gr → Prop) : q_wp d 156 69 [z0, z1, z2, z3] (.inl b :: .inl a :: st) v G Q = q_wp d 156 70 [z0, z1, z2, z3] (.inl (a + b) :: st) v G Q := q_w_iadd c_156_69
theorem c_156_70 : q_code 156 70 = (.aload_n 0, 1, 0, 0, 0, 0, 0) := by decide +kernel
theorem e_156_70 (d : Nat) (a : Option Nat) (z1 z2 z3 : q_V) (st : List q_V) (v : q_H) (G : q_Gr) (Q : q_V → q_H → q_Gr → Prop) : q_wp d 156 70 [.inr (.inr (.inl a)), z1, z2, z3] st v G Q = q_wp d 156 71 [.inr (.inr (.inl a)), z1, z2, z3] (.inr (.inr (.inl a)) :: st) v G Q := q_w_aload_n c_156_70 rfl
theorem c_156_71 : q_code 156 71 = (.getfield 7, 3, 11, 2, 1, 957, 0) := by decide +kernel
theorem e_156_71 (d : Nat) (a : Nat) (z0 z1 z2 z3 : q_V) (st : List q_V) (v : q_H) (G : q_Gr) (Q : q_V → q_H → q_Gr → Prop) : q_wp d 156 71 [z0, z1, z2, z3] (.inr (.inr (.inl (some a))) :: st) v G Q = (((G.2.1 a).1 = 11) ∧ q_wp d 156 74 [z0, z1, z2, z3] (.inr (.inr (.inl (G.1 a 2))) :: st) v G Q) := q_w_getP c_156_71
theorem c_156_74 : q_code 156 74 = (.iload_n 1, 1, 0, 0, 0, 0, 0) := by decide +kernel
theorem e_156_74 (d : Nat) (a : Int) (z0 z2 z3 : q_V) (st : List q_V) (v : q_H) (G : q_Gr) (Q : q_V → q_H → q_Gr → Prop) : q_wp d 156 74 [z0, .inl a, z2, z3] st v G Q = q_wp d 156 75 [z0, .inl a, z2, z3] (.inl a :: st) v G Q := q_w_iload_n c_156_74 rfl
theorem c_156_75 : q_code 156 75 = (.iaload, 1, 0, 0, 0, 0, 0) := by decide +kernel
theorem e_156_75 (d : Nat) (a : Nat) (i : Int) (z0 z1 z2 z3 : q_V) (st : List q_V) (v : q_H) (G : q_Gr) (Q : q_V → q_H → q_Gr → Prop) : q_wp d 156 75 [z0, z1, z2, z3] (.inl i :: .inr (.inr (.inl (some a))) :: st) v G Q = (((G.2.1 a).1 = 20 ∧ 0 ≤ i ∧ i < (G.2.1 a).2) ∧ q_wp d 156 76 [z0, z1, z2, z3] (.inl (v a i.toNat) :: st) v G Q) := q_w_iald c_156_75
theorem c_156_76 : q_code 156 76 = (.ifCond .ne 8, 3, 0, 0, 0, 0, 0) := by decide +kernel
theorem e_156_76 (d : Nat) (a : Int) (z0 z1 z2 z3 : q_V) (st : List q_V) (v : q_H) (G : q_Gr) (Q : q_V → q_H → q_Gr → Prop) : q_wp d 156 76 [z0, z1, z2, z3] (.inl a :: st) v G Q = ((q_inR a) ∧ if ¬ a = 0 then q_wp d 156 84 [z0, z1, z2, z3] st v G Q else q_wp d 156 79 [z0, z1, z2, z3] st v G Q) := q_w_if_ne c_156_76 (by decide)
theorem c_156_79 : q_code 156 79 = (.iload_n 3, 1, 0, 0, 0, 0, 0) := by decide +kernel
theorem e_156_79 (d : Nat) (a : Int) (z0 z1 z2 : q_V) (st : List q_V) (v : q_H) (G : q_Gr) (Q : q_V → q_H → q_Gr → Prop) : q_wp d 156 79 [z0, z1, z2, .inl a] st v G Q = q_wp d 156 80 [z0, z1, z2, .inl a] (.inl a :: st) v G Q := q_w_iload_n c_156_79 rfl
theorem c_156_80 : q_code 156 80 = (.i2b, 1, 0, 0, 0, 0, 0) := by decide +kernel
theorem e_156_80 (d : Nat) (a : Int) (z0 z1 z2 z3 : q_V) (st : List q_V) (v : q_H) (G : q_Gr) (Q : q_V → q_H → q_Gr → Prop) : q_wp d 156 80 [z0, z1, z2, z3] (.inl a :: st) v G Q = q_wp d 156 81 [z0, z1, z2, z3] (.inl (Int32.ofInt a).toInt8.toInt32.toInt :: st) v G Q := q_w_i2b c_156_80
theorem c_156_81 : q_code 156 81 = (.goto 19, 3, 0, 0, 0, 0, 0) := by decide +kernel
theorem e_156_81 (d : Nat)  (z0 z1 z2 z3 : q_V) (st : List q_V) (v : q_H) (G : q_Gr) (Q : q_V → q_H → q_Gr → Prop) : q_wp d 156 81 [z0, z1, z2, z3] st v G Q = q_wp d 156 100 [z0, z1, z2, z3] st v G Q := q_w_goto c_156_81 (by decide)
theorem c_156_84 : q_code 156 84 = (.aload_n 0, 1, 0, 0, 0, 0, 0) := by decide +kernel
theorem e_156_84 (d : Nat) (a : Option Nat) (z1 z2 z3 : q_V) (st : List q_V) (v : q_H) (G : q_Gr) (Q : q_V → q_H → q_Gr → Prop) : q_wp d 156 84 [.inr (.inr (.inl a)), z1, z2, z3] st v G Q = q_wp d 156 85 [.inr (.inr (.inl a)), z1, z2, z3] (.inr (.inr (.inl a)) :: st) v G Q := q_w_aload_n c_156_84 rfl
theorem c_156_85 : q_code 156 85 = (.getfield 7, 3, 11, 2, 1, 957, 0) := by decide +kernel
theorem e_156_85 (d : Nat) (a : Nat) (z0 z1 z2 z3 : q_V) (st : List q_V) (v : q_H) (G : q_Gr) (Q : q_V → q_H → q_Gr → Prop) : q_wp d 156 85 [z0, z1, z2, z3] (.inr (.inr (.inl (some a))) :: st) v G Q = (((G.2.1 a).1 = 11) ∧ q_wp d 156 88 [z0, z1, z2, z3] (.inr (.inr (.inl (G.1 a 2))) :: st) v G Q) := q_w_getP c_156_85
theorem c_156_88 : q_code 156 88 = (.iload_n 1, 1, 0, 0, 0, 0, 0) := by decide +kernel
theorem e_156_88 (d : Nat) (a : Int) (z0 z2 z3 : q_V) (st : List q_V) (v : q_H) (G : q_Gr) (Q : q_V → q_H → q_Gr → Prop) : q_wp d 156 88 [z0, .inl a, z2, z3] st v G Q = q_wp d 156 89 [z0, .inl a, z2, z3] (.inl a :: st) v G Q := q_w_iload_n c_156_88 rfl
theorem c_156_89 : q_code 156 89 = (.iaload, 1, 0, 0, 0, 0, 0) := by decide +kernel
theorem e_156_89 (d : Nat) (a : Nat) (i : Int) (z0 z1 z2 z3 : q_V) (st : List q_V) (v : q_H) (G : q_Gr) (Q : q_V → q_H → q_Gr → Prop) : q_wp d 156 89 [z0, z1, z2, z3] (.inl i :: .inr (.inr (.inl (some a))) :: st) v G Q = (((G.2.1 a).1 = 20 ∧ 0 ≤ i ∧ i < (G.2.1 a).2) ∧ q_wp d 156 90 [z0, z1, z2, z3] (.inl (v a i.toNat) :: st) v G Q) := q_w_iald c_156_89
theorem c_156_90 : q_code 156 90 = (.iconst 1, 1, 0, 0, 0, 0, 0) := by decide +kernel
theorem e_156_90 (d : Nat)  (z0 z1 z2 z3 : q_V) (st : List q_V) (v : q_H) (G : q_Gr) (Q : q_V → q_H → q_Gr → Prop) : q_wp d 156 90 [z0, z1, z2, z3] st v G Q = q_wp d 156 91 [z0, z1, z2, z3] (.inl 1 :: st) v G Q := q_w_iconst c_156_90
theorem c_156_91 : q_code 156 91 = (.if_icmp .ne 8, 3, 0, 0, 0, 0, 0) := by decide +kernel
theorem e_156_91 (d : Nat) (a b : Int) (z0 z1 z2 z3 : q_V) (st : List q_V) (v : q_H) (G : q_Gr) (Q : q_V → q_H → q_Gr → Prop) : q_wp d 156 91 [z0, z1, z2, z3] (.inl b :: .inl a :: st) v G Q = ((q_inR a ∧ q_inR b) ∧ if ¬ a = b then q_wp d 156 99 [z0, z1, z2, z3] st v G Q else q_wp d 156 94 [z0, z1, z2, z3] st v G Q) := q_w_icmp_ne c_156_91 (by decide)
theorem c_156_94 : q_code 156 94 = (.iload_n 3, 1, 0, 0, 0, 0, 0) := by decide +kernel
theorem e_156_94 (d : Nat) (a : Int) (z0 z1 z2 : q_V) (st : List q_V) (v : q_H) (G : q_Gr) (Q : q_V → q_H → q_Gr → Prop) : q_wp d 156 94 [z0, z1, z2, .inl a] st v G Q = q_wp d 156 95 [z0, z1, z2, .inl a] (.inl a :: st) v G Q := q_w_iload_n c_156_94 rfl
theorem c_156_95 : q_code 156 95 = (.i2s, 1, 0, 0, 0, 0, 0) := by decide +kernel
theorem e_156_95 (d : Nat) (a : Int) (z0 z1 z2 z3 : q_V) (st : List q_V) (v : q_H) (G : q_Gr) (Q : q_V → q_H → q_Gr → Prop) : q_wp d 156 95 [z0, z1, z2, z3] (.inl a :: st) v G Q = q_wp d 156 96 [z0, z1, z2, z3] (.inl (Int32.ofInt a).toInt16.toInt32.toInt :: st) v G Q := q_w_i2s c_156_95
theorem c_156_96 : q_code 156 96 = (.goto 4, 3, 0, 0, 0, 0, 0) := by decide +kernel
theorem e_156_96 (d : Nat)  (z0 z1 z2 z3 : q_V) (st : List q_V) (v : q_H) (G : q_Gr) (Q : q_V → q_H → q_Gr → Prop) : q_wp d 156 96 [z0, z1, z2, z3] st v G Q = q_wp d 156 100 [z0, z1, z2, z3] st v G Q := q_w_goto c_156_96 (by decide)
theorem c_156_99 : q_code 156 99 = (.iload_n 3, 1, 0, 0, 0, 0, 0) := by decide +kernel
theorem e_156_99 (d : Nat) (a : Int) (z0 z1 z2 : q_V) (st : List q_V) (v : q_H) (G : q_Gr) (Q : q_V → q_H → q_Gr → Prop) : q_wp d 156 99 [z0, z1, z2, .inl a] st v G Q = q_wp d 156 100 [z0, z1, z2, .inl a] (.inl a :: st) v G Q := q_w_iload_n c_156_99 rfl
theorem c_156_100 : q_code 156 100 = (.iastore, 1, 0, 0, 0, 0, 0) := by decide +kernel
theorem e_156_100 (d : Nat) (a : Nat) (i b : Int) (z0 z1 z2 z3 : q_V) (st : List q_V) (v : q_H) (G : q_Gr) (Q : q_V → q_H → q_Gr → Prop) : q_wp d 156 100 [z0, z1, z2, z3] (.inl b :: .inl i :: .inr (.inr (.inl (some a))) :: st) v G Q = (((G.2.1 a).1 = 20 ∧ 32 ≤ a ∧ 0 ≤ i ∧ i < (G.2.1 a).2) ∧ q_wp d 156 101 [z0, z1, z2, z3] st (q_up v a i.toNat b) G Q) := q_w_iast c_156_100
theorem c_156_101 : q_code 156 101 = (.aload_n 0, 1, 0, 0, 0, 0, 0) := by decide +kernel
theorem e_156_101 (d : Nat) (a : Option Nat) (z1 z2 z3 : q_V) (st : List q_V) (v : q_H) (G : q_Gr) (Q : q_V → q_H → q_Gr → Prop) : q_wp d 156 101 [.inr (.inr (.inl a)), z1, z2, z3] st v G Q = q_wp d 156 102 [.inr (.inr (.inl a)), z1, z2, z3] (.inr (.inr (.inl a)) :: st) v G Q := q_w_aload_n c_156_101 rfl
theorem c_156_102 : q_code 156 102 = (.getfield 16, 3, 11, 4, 1, 959, 0) := by decide +kernel
theorem e_156_102 (d : Nat) (a : Nat) (z0 z1 z2 z3 : q_V) (st : List q_V) (v : q_H) (G : q_Gr) (Q : q_V → q_H → q_Gr → Prop) : q_wp d 156 102 [z0, z1, z2, z3] (.inr (.inr (.inl (some a))) :: st) v G Q = (((G.2.1 a).1 = 11) ∧ q_wp d 156 105 [z0, z1, z2, z3] (.inr (.inr (.inl (G.1 a 4))) :: st) v G Q) := q_w_getP c_156_102
theorem c_156_105 : q_code 156 105 = (.sipush 600, 3, 0, 0, 0, 0, 0) := by decide +kernel
theorem e_156_105 (d : Nat)  (z0 z1 z2 z3 : q_V) (st : List q_V) (v : q_H) (G : q_Gr) (Q : q_V → q_H → q_Gr → Prop) : q_wp d 156 105 [z0, z1, z2, z3] st v G Q = q_wp d 156 108 [z0, z1, z2, z3] (.inl 600 :: st) v G Q := (q_w_sipush c_156_105).trans (by simp only [show ((-32768 : Int) ≤ 600 ∧ (600 : Int) ≤ 32767) = True by decide, true_and])
theorem c_156_108 : q_code 156 108 = (.iload_n 1, 1, 0, 0, 0, 0, 0) := by decide +kernel
theorem e_156_108 (d : Nat) (a : Int) (z0 z2 z3 : q_V) (st : List q_V) (v : q_H) (G : q_Gr) (Q : q_V → q_H → q_Gr → Prop) : q_wp d 156 108 [z0, .inl a, z2, z3] st v G Q = q_wp d 156 109 [z0, .inl a, z2, z3] (.inl a :: st) v G Q := q_w_iload_n c_156_108 rfl
theorem c_156_109 : q_code 156 109 = (.imul, 1, 0, 0, 0, 0, 0) := by decide +kernel
theorem e_156_109 (d : Nat) (a b : Int) (z0 z1 z2 z3 : q_V) (st : List q_V) (v : q_H) (G : q_Gr) (Q : q_V → q_H → q_Gr → Prop) : q_wp d 156 109 [z0, z1, z2, z3] (.inl b :: .inl a :: st) v G Q = q_wp d 156 110 [z0, z1, z2, z3] (.inl (a * b) :: st) v G Q := q_w_imul c_156_109
theorem c_156_110 : q_code 156 110 = (.iload_n 2, 1, 0, 0, 0, 0, 0) := by decide +kernel
theorem e_156_110 (d : Nat) (a : Int) (z0 z1 z3 : q_V) (st : List q_V) (v : q_H) (G : q_Gr) (Q : q_V → q_H → q_Gr → Prop) : q_wp d 156 110 [z0, z1, .inl a, z3] st v G Q = q_wp d 156 111 [z0, z1, .inl a, z3] (.inl a :: st) v G Q := q_w_iload_n c_156_110 rfl
theorem c_156_111 : q_code 156 111 = (.iadd, 1, 0, 0, 0, 0, 0) := by decide +kernel
theorem e_156_111 (d : Nat) (a b : Int) (z0 z1 z2 z3 : q_V) (st : List q_V) (v : q_H) (G : q_Gr) (Q : q_V → q_H → q_Gr → Prop) : q_wp d 156 111 [z0, z1, z2, z3] (.inl b :: .inl a :: st) v G Q = q_wp d 156 112 [z0, z1, z2, z3] (.inl (a + b) :: st) v G Q := q_w_iadd c_156_111
theorem c_156_112 : q_code 156 112 = (.iaload, 1, 0, 0, 0, 0, 0) := by decide +kernel
theorem e_156_112 (d : Nat) (a : Nat) (i : Int) (z0 z1 z2 z3 : q_V) (st : List q_V) (v : q_H) (G : q_Gr) (Q : q_V → q_H → q_Gr → Prop) : q_wp d 156 112 [z0, z1, z2, z3] (.inl i :: .inr (.inr (.inl (some a))) :: st) v G Q = (((G.2.1 a).1 = 20 ∧ 0 ≤ i ∧ i < (G.2.1 a).2) ∧ q_wp d 156 113 [z0, z1, z2, z3] (.inl (v a i.toNat) :: st) v G Q) := q_w_iald c_156_112
theorem c_156_113 : q_code 156 113 = (.ireturn, 1, 0, 0, 0, 0, 0) := by decide +kernel
theorem e_156_113 (d : Nat) (a : Int) (z0 z1 z2 z3 : q_V) (v : q_H) (G : q_Gr) (Q : q_V → q_H → q_Gr → Prop) : q_wp d 156 113 [z0, z1, z2, z3] [.inl a] v G Q = Q (.inl a) v G := q_w_ireturn c_156_113 rfl
theorem e_156 (d : Nat) (a0 : Nat) (a1 : Int) (a2 : Int) (a3 : Int) (v : q_H) (G : q_Gr) (Q : q_V → q_H → q_Gr → Prop) : q_call (d + 1) 156 [.inr (.inr (.inl (some a0))), .inl a1, .inl a2, .inl a3] v G Q = ((G.2.1 a0).1 = 11 ∧ q_wp d 156 0 [.inr (.inr (.inl (some a0))), .inl a1, .inl a2, .inl a3] [] v G Q) := by
  rw [q_call_in (by decide) (Nat.le_of_ble_eq_true rfl) rfl]
  exact congrArg (· ∧ _) (propext beq_iff_eq)
/-- all but the heads of loops: [] -/
def E156 := And.intro @e_156 (And.intro @e_156_0 (And.intro @e_156_1 (And.intro @e_156_2 (And.intro @e_156_5 (And.intro @e_156_6 (And.intro @e_156_9 (And.intro @e_156_12 (And.intro @e_156_14 (And.intro @e_156_15 (And.intro @e_156_16 (And.intro @e_156_17 (And.intro @e_156_20 (And.intro @e_156_21 (And.intro @e_156_24 (And.intro @e_156_25 (And.intro @e_156_26 (And.intro @e_156_29 (And.intro @e_156_30 (And.intro @e_156_31 (And.intro @e_156_34 (And.intro @e_156_35 (And.intro @e_156_36 (And.intro @e_156_37 (And.intro @e_156_38 (And.intro @e_156_39 (And.intro @e_156_42 (And.intro @e_156_43 (And.intro @e_156_44 (And.intro @e_156_45 (And.intro @e_156_46 (And.intro @e_156_47 (And.intro @e_156_50 (And.intro @e_156_53 (And.intro @e_156_54 (And.intro @e_156_55 (And.intro @e_156_58 (And.intro @e_156_59 (And.intro @e_156_60 (And.intro @e_156_63 (And.intro @e_156_66 (And.intro @e_156_67 (And.intro @e_156_68 (And.intro @e_156_69 (And.intro @e_156_70 (And.intro @e_156_71 (And.intro @e_156_74 (And.intro @e_156_75 (And.intro @e_156_76 (And.intro @e_156_79 (And.intro @e_156_80 (And.intro @e_156_81 (And.intro @e_156_84 (And.intro @e_156_85 (And.intro @e_156_88 (And.intro @e_156_89 (And.intro @e_156_90 (And.intro @e_156_91 (And.intro @e_156_94 (And.intro @e_156_95 (And.intro @e_156_96 (And.intro @e_156_99 (And.intro @e_156_100 (And.intro @e_156_101 (And.intro @e_156_102 (And.intro @e_156_105 (And.intro @e_156_108 (And.intro @e_156_109 (And.intro @e_156_110 (And.intro @e_156_111 (And.intro @e_156_112 (@e_156_113)))))))))))))))))))))))))))))))))))))))))))))))))))))))))))))))))))))))
/-! ProvenRowsModel.copy(IIIII)I -/
theorem c_157_0 : q_code 157 0 = (.aload_n 0, 1, 0, 0, 0, 0, 0) := by decide +kernel
theorem e_157_0 (d : Nat) (a : Option Nat) (z1 z2 z3 z4 z5 z6 z7 z8 : q_V) (st : List q_V) (v : q_H) (G : q_Gr) (Q : q_V → q_H → q_Gr → Prop) : q_wp d 157 0 [.inr (.inr (.inl a)), z1, z2, z3, z4, z5, z6, z7, z8] st v G Q = q_wp d 157 1 [.inr (.inr (.inl a)), z1, z2, z3, z4, z5, z6, z7, z8] (.inr (.inr (.inl a)) :: st) v G Q := q_w_aload_n c_157_0 rfl
theorem c_157_1 : q_code 157 1 = (.iconst 0, 1, 0, 0, 0, 0, 0) := by decide +kernel
theorem e_157_1 (d : Nat)  (z0 z1 z2 z3 z4 z5 z6 z7 z8 : q_V) (st : List q_V) (v : q_H) (G : q_Gr) (Q : q_V → q_H → q_Gr → Prop) : q_wp d 157 1 [z0, z1, z2, z3, z4, z5, z6, z7, z8] st v G Q = q_wp d 157 2 [z0, z1, z2, z3, z4, z5, z6, z7, z8] (.inl 0 :: st) v G Q := q_w_iconst c_157_1
theorem c_157_2 : q_code 157 2 = (.putfield 119, 3, 11, 0, 0, 955, 0) := by decide +kernel
theorem e_157_2 (d : Nat) (a : Nat) (b : Int) (z0 z1 z2 z3 z4 z5 z6 z7 z8 : q_V) (st : List q_V) (v : q_H) (G : q_Gr) (Q : q_V → q_H → q_Gr → Prop) : q_wp d 157 2 [z0, z1, z2, z3, z4, z5, z6, z7, z8] (.inl b :: .inr (.inr (.inl (some a))) :: st) v G Q = (((G.2.1 a).1 = 11) ∧ q_wp d 157 5 [z0, z1, z2, z3, z4, z5, z6, z7, z8] st (q_up v a 0 b) G Q) := q_w_putI c_157_2
theorem c_157_5 : q_code 157 5 = (.iload_n 1, 1, 0, 0, 0, 0, 0) := by decide +kernel
theorem e_157_5 (d : Nat) (a : Int) (z0 z2 z3 z4 z5 z6 z7 z8 : q_V) (st : List q_V) (v : q_H) (G : q_Gr) (Q : q_V → q_H → q_Gr → Prop) : q_wp d 157 5 [z0, .inl a, z2, z3, z4, z5, z6, z7, z8] st v G Q = q_wp d 157 6 [z0, .inl a, z2, z3, z4, z5, z6, z7, z8] (.inl a :: st) v G Q := q_w_iload_n c_157_5 rfl
theorem c_157_6 : q_code 157 6 = (.invokestatic 141, 3, 154, 1, 0, 1091, 1) := by decide +kernel
theorem e_157_6 (d : Nat) (x0 : q_V) (z0 z1 z2 z3 z4 z5 z6 z7 z8 : q_V) (v : q_H) (G : q_Gr) (Q : q_V → q_H → q_Gr → Prop) : q_wp d 157 6 [z0, z1, z2, z3, z4, z5, z6, z7, z8] [x0] v G Q = q_call d 154 [x0] v G (fun r v G => q_wp d 157 9 [z0, z1, z2, z3, z4, z5, z6, z7, z8] (q_push r []) v G Q) := q_wp_ca (m2 := 154) (k := 1) (as := [x0]) (rest := []) (congrArg q_kind c_157_6) (congrArg (fun w => w.2.2.1) c_157_6) (congrArg (fun w => w.2.2.2.1) c_157_6) rfl (Nat.le_of_ble_eq_true rfl) rfl
theorem c_157_9 : q_code 157 9 = (.ifCond .eq 10, 3, 0, 0, 0, 0, 0) := by decide +kernel
theorem e_157_9 (d : Nat) (a : Int) (z0 z1 z2 z3 z4 z5 z6 z7 z8 : q_V) (st : List q_V) (v : q_H) (G : q_Gr) (Q : q_V → q_H → q_Gr → Prop) : q_wp d 157 9 [z0, z1, z2, z3, z4, z5, z6, z7, z8] (.inl a :: st) v G Q = ((q_inR a) ∧ if a = 0 then q_wp d 157 19 [z0, z1, z2, z3, z4, z5, z6, z7, z8] st v G Q else q_wp d 157 12 [z0, z1, z2, z3, z4, z5, z6, z7, z8] st v G Q) := q_w_if_eq c_157_9 (by decide)
theorem c_157_12 : q_code 157 12 = (.iload_n 3, 1, 0, 0, 0, 0, 0) := by decide +kernel
theorem e_157_12 (d : Nat) (a : Int) (z0 z1 z2 z4 z5 z6 z7 z8 : q_V) (st : List q_V) (v : q_H) (G : q_Gr) (Q : q_V → q_H → q_Gr → Prop) : q_wp d 157 12 [z0, z1, z2, .inl a, z4, z5, z6, z7, z8] st v G Q = q_wp d 157 13 [z0, z1, z2, .inl a, z4, z5, z6, z7, z8] (.inl a :: st) v G Q := q_w_iload_n c_157_12 rfl
theorem c_157_13 : q_code 157 13 = (.invokestatic 141, 3, 154, 1, 0, 1091, 1) := by decide +kernel
theorem e_157_13 (d : Nat) (x0 : q_V) (z0 z1 z2 z3 z4 z5 z6 z7 z8 : q_V) (v : q_H) (G : q_Gr) (Q : q_V → q_H → q_Gr → Prop) : q_wp d 157 13 [z0, z1, z2, z3, z4, z5, z6, z7, z8] [x0] v G Q = q_call d 154 [x0] v G (fun r v G => q_wp d 157 16 [z0, z1, z2, z3, z4, z5, z6, z7, z8] (q_push r []) v G Q) := q_wp_ca (m2 := 154) (k := 1) (as := [x0]) (rest := []) (congrArg q_kind c_157_13) (congrArg (fun w => w.2.2.1) c_157_13) (congrArg (fun w => w.2.2.2.1) c_157_13) rfl (Nat.le_of_ble_eq_true rfl) rfl
theorem c_157_16 : q_code 157 16 = (.ifCond .ne 6, 3, 0, 0, 0, 0, 0) := by decide +kernel
theorem e_157_16 (d : Nat) (a : Int) (z0 z1 z2 z3 z4 z5 z6 z7 z8 : q_V) (st : List q_V) (v : q_H) (G : q_Gr) (Q : q_V → q_H → q_Gr → Prop) : q_wp d 157 16 [z0, z1, z2, z3, z4, z5, z6, z7, z8] (.inl a :: st) v G Q = ((q_inR a) ∧ if ¬ a = 0 then q_wp d 157 22 [z0, z1, z2, z3, z4, z5, z6, z7, z8] st v G Q else q_wp d 157 19 [z0, z1, z2, z3, z4, z5, z6, z7, z8] st v G Q) := q_w_if_ne c_157_16 (by decide)
theorem c_157_19 : q_code 157 19 = (.ldc 147, 2, 0, 0, 0, 1099, (-1000001)) := by decide +kernel
theorem e_157_19 (d : Nat)  (z0 z1 z2 z3 z4 z5 z6 z7 z8 : q_V) (st : List q_V) (v : q_H) (G : q_Gr) (Q : q_V → q_H → q_Gr → Prop) : q_wp d 157 19 [z0, z1, z2, z3, z4, z5, z6, z7, z8] st v G Q = q_wp d 157 21 [z0, z1, z2, z3, z4, z5, z6, z7, z8] (.inl (-1000001) :: st) v G Q := q_w_ldc c_157_19
theorem c_157_21 : q_code 157 21 = (.ireturn, 1, 0, 0, 0, 0, 0) := by decide +kernel
theorem e_157_21 (d : Nat) (a : Int) (z0 z1 z2 z3 z4 z5 z6 z7 z8 : q_V) (v : q_H) (G : q_Gr) (Q : q_V → q_H → q_Gr → Prop) : q_wp d 157 21 [z0, z1, z2, z3, z4, z5, z6, z7, z8] [.inl a] v G Q = Q (.inl a) v G := q_w_ireturn c_157_21 rfl
theorem c_157_22 : q_code 157 22 = (.aload_n 0, 1, 0, 0, 0, 0, 0) := by decide +kernel
theorem e_157_22 (d : Nat) (a : Option Nat) (z1 z2 z3 z4 z5 z6 z7 z8 : q_V) (st : List q_V) (v : q_H) (G : q_Gr) (Q : q_V → q_H → q_Gr → Prop) : q_wp d 157 22 [.inr (.inr (.inl a)), z1, z2, z3, z4, z5, z6, z7, z8] st v G Q = q_wp d 157 23 [.inr (.inr (.inl a)), z1, z2, z3, z4, z5, z6, z7, z8] (.inr (.inr (.inl a)) :: st) v G Q := q_w_aload_n c_157_22 rfl
theorem c_157_23 : q_code 157 23 = (.iconst 0, 1, 0, 0, 0, 0, 0) := by decide +kernel
theorem e_157_23 (d : Nat)  (z0 z1 z2 z3 z4 z5 z6 z7 z8 : q_V) (st : List q_V) (v : q_H) (G : q_Gr) (Q : q_V → q_H → q_Gr → Prop) : q_wp d 157 23 [z0, z1, z2, z3, z4, z5, z6, z7, z8] st v G Q = q_wp d 157 24 [z0, z1, z2, z3, z4, z5, z6, z7, z8] (.inl 0 :: st) v G Q := q_w_iconst c_157_23
theorem c_157_24 : q_code 157 24 = (.putfield 123, 3, 11, 1, 0, 956, 0) := by decide +kernel
theorem e_157_24 (d : Nat) (a : Nat) (b : Int) (z0 z1 z2 z3 z4 z5 z6 z7 z8 : q_V) (st : List q_V) (v : q_H) (G : q_Gr) (Q : q_V → q_H → q_Gr → Prop) : q_wp d 157 24 [z0, z1, z2, z3, z4, z5, z6, z7, z8] (.inl b :: .inr (.inr (.inl (some a))) :: st) v G Q = (((G.2.1 a).1 = 11) ∧ q_wp d 157 27 [z0, z1, z2, z3, z4, z5, z6, z7, z8] st (q_up v a 1 b) G Q) := q_w_putI c_157_24
theorem c_157_27 : q_code 157 27 = (.aload_n 0, 1, 0, 0, 0, 0, 0) := by decide +kernel
theorem e_157_27 (d : Nat) (a : Option Nat) (z1 z2 z3 z4 z5 z6 z7 z8 : q_V) (st : List q_V) (v : q_H) (G : q_Gr) (Q : q_V → q_H → q_Gr → Prop) : q_wp d 157 27 [.inr (.inr (.inl a)), z1, z2, z3, z4, z5, z6, z7, z8] st v G Q = q_wp d 157 28 [.inr (.inr (.inl a)), z1, z2, z3, z4, z5, z6, z7, z8] (.inr (.inr (.inl a)) :: st) v G Q := q_w_aload_n c_157_27 rfl
theorem c_157_28 : q_code 157 28 = (.getfield 7, 3, 11, 2, 1, 957, 0) := by decide +kernel
theorem e_157_28 (d : Nat) (a : Nat) (z0 z1 z2 z3 z4 z5 z6 z7 z8 : q_V) (st : List q_V) (v : q_H) (G : q_Gr) (Q : q_V → q_H → q_Gr → Prop) : q_wp d 157 28 [z0, z1, z2, z3, z4, z5, z6, z7, z8] (.inr (.inr (.inl (some a))) :: st) v G Q = (((G.2.1 a).1 = 11) ∧ q_wp d 157 31 [z0, z1, z2, z3, z4, z5, z6, z7, z8] (.inr (.inr (.inl (G.1 a 2))) :: st) v G Q) := q_w_getP c_157_28
theorem c_157_31 : q_code 157 31 = (.iload_n 1, 1, 0, 0, 0, 0, 0) := by decide +kernel
theorem e_157_31 (d : Nat) (a : Int) (z0 z2 z3 z4 z5 z6 z7 z8 : q_V) (st : List q_V) (v : q_H) (G : q_Gr) (Q : q_V → q_H → q_Gr → Prop) : q_wp d 157 31 [z0, .inl a, z2, z3, z4, z5, z6, z7, z8] st v G Q = q_wp d 157 32 [z0, .inl a, z2, z3, z4, z5, z6, z7, z8] (.inl a :: st) v G Q := q_w_iload_n c_157_31 rfl
theorem c_157_32 : q_code 157 32 = (.iaload, 1, 0, 0, 0, 0, 0) := by decide +kernel
theorem e_157_32 (d : Nat) (a : Nat) (i : Int) (z0 z1 z2 z3 z4 z5 z6 z7 z8 : q_V) (st : List q_V) (v : q_H) (G : q_Gr) (Q : q_V → q_H → q_Gr → Prop) : q_wp d 157 32 [z0, z1, z2, z3, z4, z5, z6, z7, z8] (.inl i :: .inr (.inr (.inl (some a))) :: st) v G Q = (((G.2.1 a).1 = 20 ∧ 0 ≤ i ∧ i < (G.2.1 a).2) ∧ q_wp d 157 33 [z0, z1, z2, z3, z4, z5, z6, z7, z8] (.inl (v a i.toNat) :: st) v G Q) := q_w_iald c_157_32
theorem c_157_33 : q_code 157 33 = (.ifCond .lt 12, 3, 0, 0, 0, 0, 0) := by decide +kernel
theorem e_157_33 (d : Nat) (a : Int) (z0 z1 z2 z3 z4 z5 z6 z7 z8 : q_V) (st : List q_V) (v : q_H) (G : q_Gr) (Q : q_V → q_H → q_Gr → Prop) : q_wp d 157 33 [z0, z1, z2, z3, z4, z5, z6, z7, z8] (.inl a :: st) v G Q = ((q_inR a) ∧ if a < 0 then q_wp d 157 45 [z0, z1, z2, z3, z4, z5, z6, z7, z8] st v G Q else q_wp d 157 36 [z0, z1, z2, z3, z4, z5, z6, z7, z8] st v G Q) := q_w_if_lt c_157_33 (by decide)
theorem c_157_36 : q_code 157 36 = (.aload_n 0, 1, 0, 0, 0, 0, 0) := by decide +kernel
theorem e_157_36 (d : Nat) (a : Option Nat) (z1 z2 z3 z4 z5 z6 z7 z8 : q_V) (st : List q_V) (v : q_H) (G : q_Gr) (Q : q_V → q_H → q_Gr → Prop) : q_wp d 157 36 [.inr (.inr (.inl a)), z1, z2, z3, z4, z5, z6, z7, z8] st v G Q = q_wp d 157 37 [.inr (.inr (.inl a)), z1, z2, z3, z4, z5, z6, z7, z8] (.inr (.inr (.inl a)) :: st) v G Q := q_w_aload_n c_157_36 rfl
theorem c_157_37 : q_code 157 37 = (.getfield 7, 3, 11, 2, 1, 957, 0) := by decide +kernel
theorem e_157_37 (d : Nat) (a : Nat) (z0 z1 z2 z3 z4 z5 z6 z7 z8 : q_V) (st : List q_V) (v : q_H) (G : q_Gr) (Q : q_V → q_H → q_Gr → Prop) : q_wp d 157 37 [z0, z1, z2, z3, z4, z5, z6, z7, z8] (.inr (.inr (.inl (some a))) :: st) v G Q = (((G.2.1 a).1 = 11) ∧ q_wp d 157 40 [z0, z1, z2, z3, z4, z5, z6, z7, z8] (.inr (.inr (.inl (G.1 a 2))) :: st) v G Q) := q_w_getP c_157_37
theorem c_157_40 : q_code 157 40 = (.iload_n 3, 1, 0, 0, 0, 0, 0) := by decide +kernel
theorem e_157_40 (d : Nat) (a : Int) (z0 z1 z2 z4 z5 z6 z7 z8 : q_V) (st : List q_V) (v : q_H) (G : q_Gr) (Q : q_V → q_H → q_Gr → Prop) : q_wp d 157 40 [z0, z1, z2, .inl a, z4, z5, z6, z7, z8] st v G Q = q_wp d 157 41 [z0, z1, z2, .inl a, z4, z5, z6, z7, z8] (.inl a :: st) v G Q := q_w_iload_n c_157_40 rfl
theorem c_157_41 : q_code 157 41 = (.iaload, 1, 0, 0, 0, 0, 0) := by decide +kernel
theorem e_157_41 (d : Nat) (a : Nat) (i : Int) (z0 z1 z2 z3 z4 z5 z6 z7 z8 : q_V) (st : List q_V) (v : q_H) (G : q_Gr) (Q : q_V → q_H → q_Gr → Prop) : q_wp d 157 41 [z0, z1, z2, z3, z4, z5, z6, z7, z8] (.inl i :: .inr (.inr (.inl (some a))) :: st) v G Q = (((G.2.1 a).1 = 20 ∧ 0 ≤ i ∧ i < (G.2.1 a).2) ∧ q_wp d 157 42 [z0, z1, z2, z3, z4, z5, z6, z7, z8] (.inl (v a i.toNat) :: st) v G Q) := q_w_iald c_157_41
theorem c_157_42 : q_code 157 42 = (.ifCond .ge 9, 3, 0, 0, 0, 0, 0) := by decide +kernel
theorem e_157_42 (d : Nat) (a : Int) (z0 z1 z2 z3 z4 z5 z6 z7 z8 : q_V) (st : List q_V) (v : q_H) (G : q_Gr) (Q : q_V → q_H → q_Gr → Prop) : q_wp d 157 42 [z0, z1, z2, z3, z4, z5, z6, z7, z8] (.inl a :: st) v G Q = ((q_inR a) ∧ if 0 ≤ a then q_wp d 157 51 [z0, z1, z2, z3, z4, z5, z6, z7, z8] st v G Q else q_wp d 157 45 [z0, z1, z2, z3, z4, z5, z6, z7, z8] st v G Q) := q_w_if_ge c_157_42 (by decide)
theorem c_157_45 : q_code 157 45 = (.aload_n 0, 1, 0, 0, 0, 0, 0) := by decide +kernel
theorem e_157_45 (d : Nat) (a : Option Nat) (z1 z2 z3 z4 z5 z6 z7 z8 : q_V) (st : List q_V) (v : q_H) (G : q_Gr) (Q : q_V → q_H → q_Gr → Prop) : q_wp d 157 45 [.inr (.inr (.inl a)), z1, z2, z3, z4, z5, z6, z7, z8] st v G Q = q_wp d 157 46 [.inr (.inr (.inl a)), z1, z2, z3, z4, z5, z6, z7, z8] (.inr (.inr (.inl a)) :: st) v G Q := q_w_aload_n c_157_45 rfl
theorem c_157_46 : q_code 157 46 = (.iconst 1, 1, 0, 0, 0, 0, 0) := by decide +kernel
theorem e_157_46 (d : Nat)  (z0 z1 z2 z3 z4 z5 z6 z7 z8 : q_V) (st : List q_V) (v : q_H) (G : q_Gr) (Q : q_V → q_H → q_Gr → Prop) : q_wp d 157 46 [z0, z1, z2, z3, z4, z5, z6, z7, z8] st v G Q = q_wp d 157 47 [z0, z1, z2, z3, z4, z5, z6, z7, z8] (.inl 1 :: st) v G Q := q_w_iconst c_157_46
theorem c_157_47 : q_code 157 47 = (.invokevirtual 148, 3, 152, 2, 0, 1100, 1) := by decide +kernel
theorem e_157_47 (d : Nat) (x0 x1 : q_V) (z0 z1 z2 z3 z4 z5 z6 z7 z8 : q_V) (v : q_H) (G : q_Gr) (Q : q_V → q_H → q_Gr → Prop) : q_wp d 157 47 [z0, z1, z2, z3, z4, z5, z6, z7, z8] [x1, x0] v G Q = q_call d 152 [x0, x1] v G (fun r v G => q_wp d 157 50 [z0, z1, z2, z3, z4, z5, z6, z7, z8] (q_push r []) v G Q) := q_wp_ca (m2 := 152) (k := 2) (as := [x0, x1]) (rest := []) (congrArg q_kind c_157_47) (congrArg (fun w => w.2.2.1) c_157_47) (congrArg (fun w => w.2.2.2.1) c_157_47) rfl (Nat.le_of_ble_eq_true rfl) rfl
theorem c_157_50 : q_code 157 50 = (.ireturn, 1, 0, 0, 0, 0, 0) := by decide +kernel
theorem e_157_50 (d : Nat) (a : Int) (z0 z1 z2 z3 z4 z5 z6 z7 z8 : q_V) (v : q_H) (G : q_Gr) (Q : q_V → q_H → q_Gr → Prop) : q_wp d 157 50 [z0, z1, z2, z3, z4, z5, z6, z7, z8] [.inl a] v G Q = Q (.inl a) v G := q_w_ireturn c_157_50 rfl
theorem c_157_51 : q_code 157 51 = (.aload_n 0, 1, 0, 0, 0, 0, 0) := by decide +kernel
theorem e_157_51 (d : Nat) (a : Option Nat) (z1 z2 z3 z4 z5 z6 z7 z8 : q_V) (st : List q_V) (v : q_H) (G : q_Gr) (Q : q_V → q_H → q_Gr → Prop) : q_wp d 157 51 [.inr (.inr (.inl a)), z1, z2, z3, z4, z5, z6, z7, z8] st v G Q = q_wp d 157 52 [.inr (.inr (.inl a)), z1, z2, z3, z4, z5, z6, z7, z8] (.inr (.inr (.inl a)) :: st) v G Q := q_w_aload_n c_157_51 rfl
theorem c_157_52 : q_code 157 52 = (.getfield 7, 3, 11, 2, 1, 957, 0) := by decide +kernel
theorem e_157_52 (d : Nat) (a : Nat) (z0 z1 z2 z3 z4 z5 z6 z7 z8 : q_V) (st : List q_V) (v : q_H) (G : q_Gr) (Q : q_V → q_H → q_Gr → Prop) : q_wp d 157 52 [z0, z1, z2, z3, z4, z5, z6, z7, z8] (.inr (.inr (.inl (some a))) :: st) v G Q = (((G.2.1 a).1 = 11) ∧ q_wp d 157 55 [z0, z1, z2, z3, z4, z5, z6, z7, z8] (.inr (.inr (.inl (G.1 a 2))) :: st) v G Q) := q_w_getP c_157_52
theorem c_157_55 : q_code 157 55 = (.iload_n 1, 1, 0, 0, 0, 0, 0) := by decide +kernel
theorem e_157_55 (d : Nat) (a : Int) (z0 z2 z3 z4 z5 z6 z7 z8 : q_V) (st : List q_V) (v : q_H) (G : q_Gr) (Q : q_V → q_H → q_Gr → Prop) : q_wp d 157 55 [z0, .inl a, z2, z3, z4, z5, z6, z7, z8] st v G Q = q_wp d 157 56 [z0, .inl a, z2, z3, z4, z5, z6, z7, z8] (.inl a :: st) v G Q := q_w_iload_n c_157_55 rfl
theorem c_157_56 : q_code 157 56 = (.iaload, 1, 0, 0, 0, 0, 0) := by decide +kernel
theorem e_157_56 (d : Nat) (a : Nat) (i : Int) (z0 z1 z2 z3 z4 z5 z6 z7 z8 : q_V) (st : List q_V) (v : q_H) (G : q_Gr) (Q : q_V → q_H → q_Gr → Prop) : q_wp d 157 56 [z0, z1, z2, z3, z4, z5, z6, z7, z8] (.inl i :: .inr (.inr (.inl (some a))) :: st) v G Q = (((G.2.1 a).1 = 20 ∧ 0 ≤ i ∧ i < (G.2.1 a).2) ∧ q_wp d 157 57 [z0, z1, z2, z3, z4, z5, z6, z7, z8] (.inl (v a i.toNat) :: st) v G Q) := q_w_iald c_157_56
theorem c_157_57 : q_code 157 57 = (.aload_n 0, 1, 0, 0, 0, 0, 0) := by decide +kernel
theorem e_157_57 (d : Nat) (a : Option Nat) (z1 z2 z3 z4 z5 z6 z7 z8 : q_V) (st : List q_V) (v : q_H) (G : q_Gr) (Q : q_V → q_H → q_Gr → Prop) : q_wp d 157 57 [.inr (.inr (.inl a)), z1, z2, z3, z4, z5, z6, z7, z8] st v G Q = q_wp d 157 58 [.inr (.inr (.inl a)), z1, z2, z3, z4, z5, z6, z7, z8] (.inr (.inr (.inl a)) :: st) v G Q := q_w_aload_n c_157_57 rfl
theorem c_157_58 : q_code 157 58 = (.getfield 7, 3, 11, 2, 1, 957, 0) := by decide +kernel
theorem e_157_58 (d : Nat) (a : Nat) (z0 z1 z2 z3 z4 z5 z6 z7 z8 : q_V) (st : List q_V) (v : q_H) (G : q_Gr) (Q : q_V → q_H → q_Gr → Prop) : q_wp d 157 58 [z0, z1, z2, z3, z4, z5, z6, z7, z8] (.inr (.inr (.inl (some a))) :: st) v G Q = (((G.2.1 a).1 = 11) ∧ q_wp d 157 61 [z0, z1, z2, z3, z4, z5, z6, z7, z8] (.inr (.inr (.inl (G.1 a 2))) :: st) v G Q) := q_w_getP c_157_58
theorem c_157_61 : q_code 157 61 = (.iload_n 3, 1, 0, 0, 0, 0, 0) := by decide +kernel
theorem e_157_61 (d : Nat) (a : Int) (z0 z1 z2 z4 z5 z6 z7 z8 : q_V) (st : List q_V) (v : q_H) (G : q_Gr) (Q : q_V → q_H → q_Gr → Prop) : q_wp d 157 61 [z0, z1, z2, .inl a, z4, z5, z6, z7, z8] st v G Q = q_wp d 157 62 [z0, z1, z2, .inl a, z4, z5, z6, z7, z8] (.inl a :: st) v G Q := q_w_iload_n c_157_61 rfl
theorem c_157_62 : q_code 157 62 = (.iaload, 1, 0, 0, 0, 0, 0) := by decide +kernel
theorem e_157_62 (d : Nat) (a : Nat) (i : Int) (z0 z1 z2 z3 z4 z5 z6 z7 z8 : q_V) (st : List q_V) (v : q_H) (G : q_Gr) (Q : q_V → q_H → q_Gr → Prop) : q_wp d 157 62 [z0, z1, z2, z3, z4, z5, z6, z7, z8] (.inl i :: .inr (.inr (.inl (some a))) :: st) v G Q = (((G.2.1 a).1 = 20 ∧ 0 ≤ i ∧ i < (G.2.1 a).2) ∧ q_wp d 157 63 [z0, z1, z2, z3, z4, z5, z6, z7, z8] (.inl (v a i.toNat) :: st) v G Q) := q_w_iald c_157_62
theorem c_157_63 : q_code 157 63 = (.if_icmp .eq 9, 3, 0, 0, 0, 0, 0) := by decide +kernel
theorem e_157_63 (d : Nat) (a b : Int) (z0 z1 z2 z3 z4 z5 z6 z7 z8 : q_V) (st : List q_V) (v : q_H) (G : q_Gr) (Q : q_V → q_H → q_Gr → Prop) : q_wp d 157 63 [z0, z1, z2, z3, z4, z5, z6, z7, z8] (.inl b :: .inl a :: st) v G Q = ((q_inR a ∧ q_inR b) ∧ if a = b then q_wp d 157 72 [z0, z1, z2, z3, z4, z5, z6, z7, z8] st v G Q else q_wp d 157 66 [z0, z1, z2, z3, z4, z5, z6, z7, z8] st v G Q) := q_w_icmp_eq c_157_63 (by decide)
theorem c_157_66 : q_code 157 66 = (.aload_n 0, 1, 0, 0, 0, 0, 0) := by decide +kernel
theorem e_157_66 (d : Nat) (a : Option Nat) (z1 z2 z3 z4 z5 z6 z7 z8 : q_V) (st : List q_V) (v : q_H) (G : q_Gr) (Q : q_V → q_H → q_Gr → Prop) : q_wp d 157 66 [.inr (.inr (.inl a)), z1, z2, z3, z4, z5, z6, z7, z8] st v G Q = q_wp d 157 67 [.inr (.inr (.inl a)), z1, z2, z3, z4, z5, z6, z7, z8] (.inr (.inr (.inl a)) :: st) v G Q := q_w_aload_n c_157_66 rfl
theorem c_157_67 : q_code 157 67 = (.iconst 5, 1, 0, 0, 0, 0, 0) := by decide +kernel
theorem e_157_67 (d : Nat)  (z0 z1 z2 z3 z4 z5 z6 z7 z8 : q_V) (st : List q_V) (v : q_H) (G : q_Gr) (Q : q_V → q_H → q_Gr → Prop) : q_wp d 157 67 [z0, z1, z2, z3, z4, z5, z6, z7, z8] st v G Q = q_wp d 157 68 [z0, z1, z2, z3, z4, z5, z6, z7, z8] (.inl 5 :: st) v G Q := q_w_iconst c_157_67
theorem c_157_68 : q_code 157 68 = (.invokevirtual 148, 3, 152, 2, 0, 1100, 1) := by decide +kernel
theorem e_157_68 (d : Nat) (x0 x1 : q_V) (z0 z1 z2 z3 z4 z5 z6 z7 z8 : q_V) (v : q_H) (G : q_Gr) (Q : q_V → q_H → q_Gr → Prop) : q_wp d 157 68 [z0, z1, z2, z3, z4, z5, z6, z7, z8] [x1, x0] v G Q = q_call d 152 [x0, x1] v G (fun r v G => q_wp d 157 71 [z0, z1, z2, z3, z4, z5, z6, z7, z8] (q_push r []) v G Q) := q_wp_ca (m2 := 152) (k := 2) (as := [x0, x1]) (rest := []) (congrArg q_kind c_157_68) (congrArg (fun w => w.2.2.1) c_157_68) (congrArg (fun w => w.2.2.2.1) c_157_68) rfl (Nat.le_of_ble_eq_true rfl) rfl
theorem c_157_71 : q_code 157 71 = (.ireturn, 1, 0, 0, 0, 0, 0) := by decide +kernel
theorem e_157_71 (d : Nat) (a : Int) (z0 z1 z2 z3 z4 z5 z6 z7 z8 : q_V) (v : q_H) (G : q_Gr) (Q : q_V → q_H → q_Gr → Prop) : q_wp d 157 71 [z0, z1, z2, z3, z4, z5, z6, z7, z8] [.inl a] v G Q = Q (.inl a) v G := q_w_ireturn c_157_71 rfl
theorem c_157_72 : q_code 157 72 = (.iload_n 2, 1, 0, 0, 0, 0, 0) := by decide +kernel
theorem e_157_72 (d : Nat) (a : Int) (z0 z1 z3 z4 z5 z6 z7 z8 : q_V) (st : List q_V) (v : q_H) (G : q_Gr) (Q : q_V → q_H → q_Gr → Prop) : q_wp d 157 72 [z0, z1, .inl a, z3, z4, z5, z6, z7, z8] st v G Q = q_wp d 157 73 [z0, z1, .inl a, z3, z4, z5, z6, z7, z8] (.inl a :: st) v G Q := q_w_iload_n c_157_72 rfl
theorem c_157_73 : q_code 157 73 = (.ifCond .lt 48, 3, 0, 0, 0, 0, 0) := by decide +kernel
theorem e_157_73 (d : Nat) (a : Int) (z0 z1 z2 z3 z4 z5 z6 z7 z8 : q_V) (st : List q_V) (v : q_H) (G : q_Gr) (Q : q_V → q_H → q_Gr → Prop) : q_wp d 157 73 [z0, z1, z2, z3, z4, z5, z6, z7, z8] (.inl a :: st) v G Q = ((q_inR a) ∧ if a < 0 then q_wp d 157 121 [z0, z1, z2, z3, z4, z5, z6, z7, z8] st v G Q else q_wp d 157 76 [z0, z1, z2, z3, z4, z5, z6, z7, z8] st v G Q) := q_w_if_lt c_157_73 (by decide)
theorem c_157_76 : q_code 157 76 = (.iload 4, 2, 0, 0, 0, 0, 0) := by decide +kernel
theorem e_157_76 (d : Nat) (a : Int) (z0 z1 z2 z3 z5 z6 z7 z8 : q_V) (st : List q_V) (v : q_H) (G : q_Gr) (Q : q_V → q_H → q_Gr → Prop) : q_wp d 157 76 [z0, z1, z2, z3, .inl a, z5, z6, z7, z8] st v G Q = q_wp d 157 78 [z0, z1, z2, z3, .inl a, z5, z6, z7, z8] (.inl a :: st) v G Q := q_w_iload c_157_76 rfl
theorem c_157_78 : q_code 157 78 = (.ifCond .lt 43, 3, 0, 0, 0, 0, 0) := by decide +kernel
theorem e_157_78 (d : Nat) (a : Int) (z0 z1 z2 z3 z4 z5 z6 z7 z8 : q_V) (st : List q_V) (v : q_H) (G : q_Gr) (Q : q_V → q_H → q_Gr → Prop) : q_wp d 157 78 [z0, z1, z2, z3, z4, z5, z6, z7, z8] (.inl a :: st) v G Q = ((q_inR a) ∧ if a < 0 then q_wp d 157 121 [z0, z1, z2, z3, z4, z5, z6, z7, z8] st v G Q else q_wp d 157 81 [z0, z1, z2, z3, z4, z5, z6, z7, z8] st v G Q) := q_w_if_lt c_157_78 (by decide)
theorem c_157_81 : q_code 157 81 = (.iload 5, 2, 0, 0, 0, 0, 0) := by decide +kernel
theorem e_157_81 (d : Nat) (a : Int) (z0 z1 z2 z3 z4 z6 z7 z8 : q_V) (st : List q_V) (v : q_H) (G : q_Gr) (Q : q_V → q_H → q_Gr → Prop) : q_wp d 157 81 [z0, z1, z2, z3, z4, .inl a, z6, z7, z8] st v G Q = q_wp d 157 83 [z0, z1, z2, z3, z4, .inl a, z6, z7, z8] (.inl a :: st) v G Q := q_w_iload c_157_81 rfl
theorem c_157_83 : q_code 157 83 = (.ifCond .lt 38, 3, 0, 0, 0, 0, 0) := by decide +kernel
theorem e_157_83 (d : Nat) (a : Int) (z0 z1 z2 z3 z4 z5 z6 z7 z8 : q_V) (st : List q_V) (v : q_H) (G : q_Gr) (Q : q_V → q_H → q_Gr → Prop) : q_wp d 157 83 [z0, z1, z2, z3, z4, z5, z6, z7, z8] (.inl a :: st) v G Q = ((q_inR a) ∧ if a < 0 then q_wp d 157 121 [z0, z1, z2, z3, z4, z5, z6, z7, z8] st v G Q else q_wp d 157 86 [z0, z1, z2, z3, z4, z5, z6, z7, z8] st v G Q) := q_w_if_lt c_157_83 (by decide)
theorem c_157_86 : q_code 157 86 = (.iload_n 2, 1, 0, 0, 0, 0, 0) := by decide +kernel
theorem e_157_86 (d : Nat) (a : Int) (z0 z1 z3 z4 z5 z6 z7 z8 : q_V) (st : List q_V) (v : q_H) (G : q_Gr) (Q : q_V → q_H → q_Gr → Prop) : q_wp d 157 86 [z0, z1, .inl a, z3, z4, z5, z6, z7, z8] st v G Q = q_wp d 157 87 [z0, z1, .inl a, z3, z4, z5, z6, z7, z8] (.inl a :: st) v G Q := q_w_iload_n c_157_86 rfl
theorem c_157_87 : q_code 157 87 = (.i2l, 1, 0, 0, 0, 0, 0) := by decide +kernel
theorem e_157_87 (d : Nat) (a : Int) (z0 z1 z2 z3 z4 z5 z6 z7 z8 : q_V) (st : List q_V) (v : q_H) (G : q_Gr) (Q : q_V → q_H → q_Gr → Prop) : q_wp d 157 87 [z0, z1, z2, z3, z4, z5, z6, z7, z8] (.inl a :: st) v G Q = ((q_inR a) ∧ q_wp d 157 88 [z0, z1, z2, z3, z4, z5, z6, z7, z8] (.inr (.inl a) :: st) v G Q) := q_w_i2l c_157_87
theorem c_157_88 : q_code 157 88 = (.iload 5, 2, 0, 0, 0, 0, 0) := by decide +kernel
theorem e_157_88 (d : Nat) (a : Int) (z0 z1 z2 z3 z4 z6 z7 z8 : q_V) (st : List q_V) (v : q_H) (G : q_Gr) (Q : q_V → q_H → q_Gr → Prop) : q_wp d 157 88 [z0, z1, z2, z3, z4, .inl a, z6, z7, z8] st v G Q = q_wp d 157 90 [z0, z1, z2, z3, z4, .inl a, z6, z7, z8] (.inl a :: st) v G Q := q_w_iload c_157_88 rfl
theorem c_157_90 : q_code 157 90 = (.i2l, 1, 0, 0, 0, 0, 0) := by decide +kernel
theorem e_157_90 (d : Nat) (a : Int) (z0 z1 z2 z3 z4 z5 z6 z7 z8 : q_V) (st : List q_V) (v : q_H) (G : q_Gr) (Q : q_V → q_H → q_Gr → Prop) : q_wp d 157 90 [z0, z1, z2, z3, z4, z5, z6, z7, z8] (.inl a :: st) v G Q = ((q_inR a) ∧ q_wp d 157 91 [z0, z1, z2, z3, z4, z5, z6, z7, z8] (.inr (.inl a) :: st) v G Q) := q_w_i2l c_157_90
theorem c_157_91 : q_code 157 91 = (.ladd, 1, 0, 0, 0, 0, 0) := by decide +kernel
theorem e_157_91 (d : Nat) (a b : Int) (z0 z1 z2 z3 z4 z5 z6 z7 z8 : q_V) (st : List q_V) (v : q_H) (G : q_Gr) (Q : q_V → q_H → q_Gr → Prop) : q_wp d 157 91 [z0, z1, z2, z3, z4, z5, z6, z7, z8] (.inr (.inl b) :: .inr (.inl a) :: st) v G Q = q_wp d 157 92 [z0, z1, z2, z3, z4, z5, z6, z7, z8] (.inr (.inl (a + b)) :: st) v G Q := q_w_ladd c_157_91
theorem c_157_92 : q_code 157 92 = (.aload_n 0, 1, 0, 0, 0, 0, 0) := by decide +kernel
theorem e_157_92 (d : Nat) (a : Option Nat) (z1 z2 z3 z4 z5 z6 z7 z8 : q_V) (st : List q_V) (v : q_H) (G : q_Gr) (Q : q_V → q_H → q_Gr → Prop) : q_wp d 157 92 [.inr (.inr (.inl a)), z1, z2, z3, z4, z5, z6, z7, z8] st v G Q = q_wp d 157 93 [.inr (.inr (.inl a)), z1, z2, z3, z4, z5, z6, z7, z8] (.inr (.inr (.inl a)) :: st) v G Q := q_w_aload_n c_157_92 rfl
theorem c_157_93 : q_code 157 93 = (.getfield 13, 3, 11, 3, 1, 958, 0) := by decide +kernel
theorem e_157_93 (d : Nat) (a : Nat) (z0 z1 z2 z3 z4 z5 z6 z7 z8 : q_V) (st : List q_V) (v : q_H) (G : q_Gr) (Q : q_V → q_H → q_Gr → Prop) : q_wp d 157 93 [z0, z1, z2, z3, z4, z5, z6, z7, z8] (.inr (.inr (.inl (some a))) :: st) v G Q = (((G.2.1 a).1 = 11) ∧ q_wp d 157 96 [z0, z1, z2, z3, z4, z5, z6, z7, z8] (.inr (.inr (.inl (G.1 a 3))) :: st) v G Q) := q_w_getP c_157_93
theorem c_157_96 : q_code 157 96 = (.iload_n 1, 1, 0, 0, 0, 0, 0) := by decide +kernel
theorem e_157_96 (d : Nat) (a : Int) (z0 z2 z3 z4 z5 z6 z7 z8 : q_V) (st : List q_V) (v : q_H) (G : q_Gr) (Q : q_V → q_H → q_Gr → Prop) : q_wp d 157 96 [z0, .inl a, z2, z3, z4, z5, z6, z7, z8] st v G Q = q_wp d 157 97 [z0, .inl a, z2, z3, z4, z5, z6, z7, z8] (.inl a :: st) v G Q := q_w_iload_n c_157_96 rfl
theorem c_157_97 : q_code 157 97 = (.iaload, 1, 0, 0, 0, 0, 0) := by decide +kernel
theorem e_157_97 (d : Nat) (a : Nat) (i : Int) (z0 z1 z2 z3 z4 z5 z6 z7 z8 : q_V) (st : List q_V) (v : q_H) (G : q_Gr) (Q : q_V → q_H → q_Gr → Prop) : q_wp d 157 97 [z0, z1, z2, z3, z4, z5, z6, z7, z8] (.inl i :: .inr (.inr (.inl (some a))) :: st) v G Q = (((G.2.1 a).1 = 20 ∧ 0 ≤ i ∧ i < (G.2.1 a).2) ∧ q_wp d 157 98 [z0, z1, z2, z3, z4, z5, z6, z7, z8] (.inl (v a i.toNat) :: st) v G Q) := q_w_iald c_157_97
theorem c_157_98 : q_code 157 98 = (.i2l, 1, 0, 0, 0, 0, 0) := by decide +kernel
theorem e_157_98 (d : Nat) (a : Int) (z0 z1 z2 z3 z4 z5 z6 z7 z8 : q_V) (st : List q_V) (v : q_H) (G : q_Gr) (Q : q_V → q_H → q_Gr → Prop) : q_wp d 157 98 [z0, z1, z2, z3, z4, z5, z6, z7, z8] (.inl a :: st) v G Q = ((q_inR a) ∧ q_wp d 157 99 [z0, z1, z2, z3, z4, z5, z6, z7, z8] (.inr (.inl a) :: st) v G Q) := q_w_i2l c_157_98
theorem c_157_99 : q_code 157 99 = (.lcmp, 1, 0, 0, 0, 0, 0) := by decide +kernel
theorem e_157_99 (d : Nat) (a b : Int) (z0 z1 z2 z3 z4 z5 z6 z7 z8 : q_V) (st : List q_V) (v : q_H) (G : q_Gr) (Q : q_V → q_H → q_Gr → Prop) : q_wp d 157 99 [z0, z1, z2, z3, z4, z5, z6, z7, z8] (.inr (.inl b) :: .inr (.inl a) :: st) v G Q = ((q_inL a ∧ q_inL b) ∧ q_wp d 157 100 [z0, z1, z2, z3, z4, z5, z6, z7, z8] (.inl (if b < a then 1 else if a = b then 0 else -1) :: st) v G Q) := q_w_lcmp c_157_99
theorem c_157_100 : q_code 157 100 = (.ifCond .gt 21, 3, 0, 0, 0, 0, 0) := by decide +kernel
theorem e_157_100 (d : Nat) (a : Int) (z0 z1 z2 z3 z4 z5 z6 z7 z8 : q_V) (st : List q_V) (v : q_H) (G : q_Gr) (Q : q_V → q_H → q_Gr → Prop) : q_wp d 157 100 [z0, z1, z2, z3, z4, z5, z6, z7, z8] (.inl a :: st) v G Q = ((q_inR a) ∧ if 0 < a then q_wp d 157 121 [z0, z1, z2, z3, z4, z5, z6, z7, z8] st v G Q else q_wp d 157 103 [z0, z1, z2, z3, z4, z5, z6, z7, z8] st v G Q) := q_w_if_gt c_157_100 (by decide)
theorem c_157_103 : q_code 157 103 = (.iload 4, 2, 0, 0, 0, 0, 0) := by decide +kernel
theorem e_157_103 (d : Nat) (a : Int) (z0 z1 z2 z3 z5 z6 z7 z8 : q_V) (st : List q_V) (v : q_H) (G : q_Gr) (Q : q_V → q_H → q_Gr → Prop) : q_wp d 157 103 [z0, z1, z2, z3, .inl a, z5, z6, z7, z8] st v G Q = q_wp d 157 105 [z0, z1, z2, z3, .inl a, z5, z6, z7, z8] (.inl a :: st) v G Q := q_w_iload c_157_103 rfl
theorem c_157_105 : q_code 157 105 = (.i2l, 1, 0, 0, 0, 0, 0) := by decide +kernel
theorem e_157_105 (d : Nat) (a : Int) (z0 z1 z2 z3 z4 z5 z6 z7 z8 : q_V) (st : List q_V) (v : q_H) (G : q_Gr) (Q : q_V → q_H → q_Gr → Prop) : q_wp d 157 105 [z0, z1, z2, z3, z4, z5, z6, z7, z8] (.inl a :: st) v G Q = ((q_inR a) ∧ q_wp d 157 106 [z0, z1, z2, z3, z4, z5, z6, z7, z8] (.inr (.inl a) :: st) v G Q) := q_w_i2l c_157_105
theorem c_157_106 : q_code 157 106 = (.iload 5, 2, 0, 0, 0, 0, 0) := by decide +kernel
theorem e_157_106 (d : Nat) (a : Int) (z0 z1 z2 z3 z4 z6 z7 z8 : q_V) (st : List q_V) (v : q_H) (G : q_Gr) (Q : q_V → q_H → q_Gr → Prop) : q_wp d 157 106 [z0, z1, z2, z3, z4, .inl a, z6, z7, z8] st v G Q = q_wp d 157 108 [z0, z1, z2, z3, z4, .inl a, z6, z7, z8] (.inl a :: st) v G Q := q_w_iload c_157_106 rfl
theorem c_157_108 : q_code 157 108 = (.i2l, 1, 0, 0, 0, 0, 0) := by decide +kernel
theorem e_157_108 (d : Nat) (a : Int) (z0 z1 z2 z3 z4 z5 z6 z7 z8 : q_V) (st : List q_V) (v : q_H) (G : q_Gr) (Q : q_V → q_H → q_Gr → Prop) : q_wp d 157 108 [z0, z1, z2, z3, z4, z5, z6, z7, z8] (.inl a :: st) v G Q = ((q_inR a) ∧ q_wp d 157 109 [z0, z1, z2, z3, z4, z5, z6, z7, z8] (.inr (.inl a) :: st) v G Q) := q_w_i2l c_157_108
theorem c_157_109 : q_code 157 109 = (.ladd, 1, 0, 0, 0, 0, 0) := by decide +kernel
theorem e_157_109 (d : Nat) (a b : Int) (z0 z1 z2 z3 z4 z5 z6 z7 z8 : q_V) (st : List q_V) (v : q_H) (G : q_Gr) (Q : q_V → q_H → q_Gr → Prop) : q_wp d 157 109 [z0, z1, z2, z3, z4, z5, z6, z7, z8] (.inr (.inl b) :: .inr (.inl a) :: st) v G Q = q_wp d 157 110 [z0, z1, z2, z3, z4, z5, z6, z7, z8] (.inr (.inl (a + b)) :: st) v G Q := q_w_ladd c_157_109
theorem c_157_110 : q_code 157 110 = (.aload_n 0, 1, 0, 0, 0, 0, 0) := by decide +kernel
theorem e_157_110 (d : Nat) (a : Option Nat) (z1 z2 z3 z4 z5 z6 z7 z8 : q_V) (st : List q_V) (v : q_H) (G : q_Gr) (Q : q_V → q_H → q_Gr → Prop) : q_wp d 157 110 [.inr (.inr (.inl a)), z1, z2, z3, z4, z5, z6, z7, z8] st v G Q = q_wp d 157 111 [.inr (.inr (.inl a)), z1, z2, z3, z4, z5, z6, z7, z8] (.inr (.inr (.inl a)) :: st) v G Q := q_w_aload_n c_157_110 rfl
theorem c_157_111 : q_code 157 111 = (.getfield 13, 3, 11, 3, 1, 958, 0) := by decide +kernel
theorem e_157_111 (d : Nat) (a : Nat) (z0 z1 z2 z3 z4 z5 z6 z7 z8 : q_V) (st : List q_V) (v : q_H) (G : q_Gr) (Q : q_V → q_H → q_Gr → Prop) : q_wp d 157 111 [z0, z1, z2, z3, z4, z5, z6, z7, z8] (.inr (.inr (.inl (some a))) :: st) v G Q = (((G.2.1 a).1 = 11) ∧ q_wp d 157 114 [z0, z1, z2, z3, z4, z5, z6, z7, z8] (.inr (.inr (.inl (G.1 a 3))) :: st) v G Q) := q_w_getP c_157_111
theorem c_157_114 : q_code 157 114 = (.iload_n 3, 1, 0, 0, 0, 0, 0) := by decide +kernel
theorem e_157_114 (d : Nat) (a : Int) (z0 z1 z2 z4 z5 z6 z7 z8 : q_V) (st : List q_V) (v : q_H) (G : q_Gr) (Q : q_V → q_H → q_Gr → Prop) : q_wp d 157 114 [z0, z1, z2, .inl a, z4, z5, z6, z7, z8] st v G Q = q_wp d 157 115 [z0, z1, z2, .inl a, z4, z5, z6, z7, z8] (.inl a :: st) v G Q := q_w_iload_n c_157_114 rfl
theorem c_157_115 : q_code 157 115 = (.iaload, 1, 0, 0, 0, 0, 0) := by decide +kernel
theorem e_157_115 (d : Nat) (a : Nat) (i : Int) (z0 z1 z2 z3 z4 z5 z6 z7 z8 : q_V) (st : List q_V) (v : q_H) (G : q_Gr) (Q : q_V → q_H → q_Gr → Prop) : q_wp d 157 115 [z0, z1, z2, z3, z4, z5, z6, z7, z8] (.inl i :: .inr (.inr (.inl (some a))) :: st) v G Q = (((G.2.1 a).1 = 20 ∧ 0 ≤ i ∧ i < (G.2.1 a).2) ∧ q_wp d 157 116 [z0, z1, z2, z3, z4, z5, z6, z7, z8] (.inl (v a i.toNat) :: st) v G Q) := q_w_iald c_157_115
theorem c_157_116 : q_code 157 116 = (.i2l, 1, 0, 0, 0, 0, 0) := by decide +kernel
theorem e_157_116 (d : Nat) (a : Int) (z0 z1 z2 z3 z4 z5 z6 z7 z8 : q_V) (st : List q_V) (v : q_H) (G : q_Gr) (Q : q_V → q_H → q_Gr → Prop) : q_wp d 157 116 [z0, z1, z2, z3, z4, z5, z6, z7, z8] (.inl a :: st) v G Q = ((q_inR a) ∧ q_wp d 157 117 [z0, z1, z2, z3, z4, z5, z6, z7, z8] (.inr (.inl a) :: st) v G Q) := q_w_i2l c_157_116
theorem c_157_117 : q_code 157 117 = (.lcmp, 1, 0, 0, 0, 0, 0) := by decide +kernel
theorem e_157_117 (d : Nat) (a b : Int) (z0 z1 z2 z3 z4 z5 z6 z7 z8 : q_V) (st : List q_V) (v : q_H) (G : q_Gr) (Q : q_V → q_H → q_Gr → Prop) : q_wp d 157 117 [z0, z1, z2, z3, z4, z5, z6, z7, z8] (.inr (.inl b) :: .inr (.inl a) :: st) v G Q = ((q_inL a ∧ q_inL b) ∧ q_wp d 157 118 [z0, z1, z2, z3, z4, z5, z6, z7, z8] (.inl (if b < a then 1 else if a = b then 0 else -1) :: st) v G Q) := q_w_lcmp c_157_117
theorem c_157_118 : q_code 157 118 = (.ifCond .le 9, 3, 0, 0, 0, 0, 0) := by decide +kernel
theorem e_157_118 (d : Nat) (a : Int) (z0 z1 z2 z3 z4 z5 z6 z7 z8 : q_V) (st : List q_V) (v : q_H) (G : q_Gr) (Q : q_V → q_H → q_Gr → Prop) : q_wp d 157 118 [z0, z1, z2, z3, z4, z5, z6, z7, z8] (.inl a :: st) v G Q = ((q_inR a) ∧ if a ≤ 0 then q_wp d 157 127 [z0, z1, z2, z3, z4, z5, z6, z7, z8] st v G Q else q_wp d 157 121 [z0, z1, z2, z3, z4, z5, z6, z7, z8] st v G Q) := q_w_if_le c_157_118 (by decide)
theorem c_157_121 : q_code 157 121 = (.aload_n 0, 1, 0, 0, 0, 0, 0) := by decide +kernel
theorem e_157_121 (d : Nat) (a : Option Nat) (z1 z2 z3 z4 z5 z6 z7 z8 : q_V) (st : List q_V) (v : q_H) (G : q_Gr) (Q : q_V → q_H → q_Gr → Prop) : q_wp d 157 121 [.inr (.inr (.inl a)), z1, z2, z3, z4, z5, z6, z7, z8] st v G Q = q_wp d 157 122 [.inr (.inr (.inl a)), z1, z2, z3, z4, z5, z6, z7, z8] (.inr (.inr (.inl a)) :: st) v G Q := q_w_aload_n c_157_121 rfl
theorem c_157_122 : q_code 157 122 = (.iconst 2, 1, 0, 0, 0, 0, 0) := by decide +kernel
theorem e_157_122 (d : Nat)  (z0 z1 z2 z3 z4 z5 z6 z7 z8 : q_V) (st : List q_V) (v : q_H) (G : q_Gr) (Q : q_V → q_H → q_Gr → Prop) : q_wp d 157 122 [z0, z1, z2, z3, z4, z5, z6, z7, z8] st v G Q = q_wp d 157 123 [z0, z1, z2, z3, z4, z5, z6, z7, z8] (.inl 2 :: st) v G Q := q_w_iconst c_157_122
theorem c_157_123 : q_code 157 123 = (.invokevirtual 148, 3, 152, 2, 0, 1100, 1) := by decide +kernel
theorem e_157_123 (d : Nat) (x0 x1 : q_V) (z0 z1 z2 z3 z4 z5 z6 z7 z8 : q_V) (v : q_H) (G : q_Gr) (Q : q_V → q_H → q_Gr → Prop) : q_wp d 157 123 [z0, z1, z2, z3, z4, z5, z6, z7, z8] [x1, x0] v G Q = q_call d 152 [x0, x1] v G (fun r v G => q_wp d 157 126 [z0, z1, z2, z3, z4, z5, z6, z7, z8] (q_push r []) v G Q) := q_wp_ca (m2 := 152) (k := 2) (as := [x0, x1]) (rest := []) (congrArg q_kind c_157_123) (congrArg (fun w => w.2.2.1) c_157_123) (congrArg (fun w => w.2.2.2.1) c_157_123) rfl (Nat.le_of_ble_eq_true rfl) rfl
theorem c_157_126 : q_code 157 126 = (.ireturn, 1, 0, 0, 0, 0, 0) := by decide +kernel
theorem e_157_126 (d : Nat) (a : Int) (z0 z1 z2 z3 z4 z5 z6 z7 z8 : q_V) (v : q_H) (G : q_Gr) (Q : q_V → q_H → q_Gr → Prop) : q_wp d 157 126 [z0, z1, z2, z3, z4, z5, z6, z7, z8] [.inl a] v G Q = Q (.inl a) v G := q_w_ireturn c_157_126 rfl
theorem c_157_127 : q_code 157 127 = (.iload_n 2, 1, 0, 0, 0, 0, 0) := by decide +kernel
theorem e_157_127 (d : Nat) (a : Int) (z0 z1 z3 z4 z5 z6 z7 z8 : q_V) (st : List q_V) (v : q_H) (G : q_Gr) (Q : q_V → q_H → q_Gr → Prop) : q_wp d 157 127 [z0, z1, .inl a, z3, z4, z5, z6, z7, z8] st v G Q = q_wp d 157 128 [z0, z1, .inl a, z3, z4, z5, z6, z7, z8] (.inl a :: st) v G Q := q_w_iload_n c_157_127 rfl
theorem c_157_128 : q_code 157 128 = (.iload 4, 2, 0, 0, 0, 0, 0) := by decide +kernel
theorem e_157_128 (d : Nat) (a : Int) (z0 z1 z2 z3 z5 z6 z7 z8 : q_V) (st : List q_V) (v : q_H) (G : q_Gr) (Q : q_V → q_H → q_Gr → Prop) : q_wp d 157 128 [z0, z1, z2, z3, .inl a, z5, z6, z7, z8] st v G Q = q_wp d 157 130 [z0, z1, z2, z3, .inl a, z5, z6, z7, z8] (.inl a :: st) v G Q := q_w_iload c_157_128 rfl
theorem c_157_130 : q_code 157 130 = (.if_icmp .lt 7, 3, 0, 0, 0, 0, 0) := by decide +kernel
theorem e_157_130 (d : Nat) (a b : Int) (z0 z1 z2 z3 z4 z5 z6 z7 z8 : q_V) (st : List q_V) (v : q_H) (G : q_Gr) (Q : q_V → q_H → q_Gr → Prop) : q_wp d 157 130 [z0, z1, z2, z3, z4, z5, z6, z7, z8] (.inl b :: .inl a :: st) v G Q = ((q_inR a ∧ q_inR b) ∧ if a < b then q_wp d 157 137 [z0, z1, z2, z3, z4, z5, z6, z7, z8] st v G Q else q_wp d 157 133 [z0, z1, z2, z3, z4, z5, z6, z7, z8] st v G Q) := q_w_icmp_lt c_157_130 (by decide)
theorem c_157_133 : q_code 157 133 = (.iconst 1, 1, 0, 0, 0, 0, 0) := by decide +kernel
theorem e_157_133 (d : Nat)  (z0 z1 z2 z3 z4 z5 z6 z7 z8 : q_V) (st : List q_V) (v : q_H) (G : q_Gr) (Q : q_V → q_H → q_Gr → Prop) : q_wp d 157 133 [z0, z1, z2, z3, z4, z5, z6, z7, z8] st v G Q = q_wp d 157 134 [z0, z1, z2, z3, z4, z5, z6, z7, z8] (.inl 1 :: st) v G Q := q_w_iconst c_157_133
theorem c_157_134 : q_code 157 134 = (.goto 4, 3, 0, 0, 0, 0, 0) := by decide +kernel
theorem e_157_134 (d : Nat)  (z0 z1 z2 z3 z4 z5 z6 z7 z8 : q_V) (st : List q_V) (v : q_H) (G : q_Gr) (Q : q_V → q_H → q_Gr → Prop) : q_wp d 157 134 [z0, z1, z2, z3, z4, z5, z6, z7, z8] st v G Q = q_wp d 157 138 [z0, z1, z2, z3, z4, z5, z6, z7, z8] st v G Q := q_w_goto c_157_134 (by decide)
theorem c_157_137 : q_code 157 137 = (.iconst 0, 1, 0, 0, 0, 0, 0) := by decide +kernel
theorem e_157_137 (d : Nat)  (z0 z1 z2 z3 z4 z5 z6 z7 z8 : q_V) (st : List q_V) (v : q_H) (G : q_Gr) (Q : q_V → q_H → q_Gr → Prop) : q_wp d 157 137 [z0, z1, z2, z3, z4, z5, z6, z7, z8] st v G Q = q_wp d 157 138 [z0, z1, z2, z3, z4, z5, z6, z7, z8] (.inl 0 :: st) v G Q := q_w_iconst c_157_137
theorem c_157_138 : q_code 157 138 = (.istore 6, 2, 0, 0, 0, 0, 0) := by decide +kernel
theorem e_157_138 (d : Nat) (a : Int) (z0 z1 z2 z3 z4 z5 z6 z7 z8 : q_V) (st : List q_V) (v : q_H) (G : q_Gr) (Q : q_V → q_H → q_Gr → Prop) : q_wp d 157 138 [z0, z1, z2, z3, z4, z5, z6, z7, z8] (.inl a :: st) v G Q = q_wp d 157 140 [z0, z1, z2, z3, z4, z5, .inl a, z7, z8] st v G Q := q_w_istore c_157_138
theorem c_157_140 : q_code 157 140 = (.iconst 0, 1, 0, 0, 0, 0, 0) := by decide +kernel
theorem e_157_140 (d : Nat)  (z0 z1 z2 z3 z4 z5 z6 z7 z8 : q_V) (st : List q_V) (v : q_H) (G : q_Gr) (Q : q_V → q_H → q_Gr → Prop) : q_wp d 157 140 [z0, z1, z2, z3, z4, z5, z6, z7, z8] st v G Q = q_wp d 157 141 [z0, z1, z2, z3, z4, z5, z6, z7, z8] (.inl 0 :: st) v G Q := q_w_iconst c_157_140
theorem c_157_141 : q_code 157 141 = (.istore 7, 2, 0, 0, 0, 0, 0) := by decide +kernel
theorem e_157_141 (d : Nat) (a : Int) (z0 z1 z2 z3 z4 z5 z6 z7 z8 : q_V) (st : List q_V) (v : q_H) (G : q_Gr) (Q : q_V → q_H → q_Gr → Prop) : q_wp d 157 141 [z0, z1, z2, z3, z4, z5, z6, z7, z8] (.inl a :: st) v G Q = q_wp d 157 143 [z0, z1, z2, z3, z4, z5, z6, .inl a, z8] st v G Q := q_w_istore c_157_141
theorem c_157_143 : q_code 157 143 = (.iload 7, 2, 0, 0, 0, 0, 0) := by decide +kernel
theorem e_157_143 (d : Nat) (a : Int) (z0 z1 z2 z3 z4 z5 z6 z8 : q_V) (st : List q_V) (v : q_H) (G : q_Gr) (Q : q_V → q_H → q_Gr → Prop) : q_wp d 157 143 [z0, z1, z2, z3, z4, z5, z6, .inl a, z8] st v G Q = q_wp d 157 145 [z0, z1, z2, z3, z4, z5, z6, .inl a, z8] (.inl a :: st) v G Q := q_w_iload c_157_143 rfl
theorem c_157_145 : q_code 157 145 = (.iload 5, 2, 0, 0, 0, 0, 0) := by decide +kernel
theorem e_157_145 (d : Nat) (a : Int) (z0 z1 z2 z3 z4 z6 z7 z8 : q_V) (st : List q_V) (v : q_H) (G : q_Gr) (Q : q_V → q_H → q_Gr → Prop) : q_wp d 157 145 [z0, z1, z2, z3, z4, .inl a, z6, z7, z8] st v G Q = q_wp d 157 147 [z0, z1, z2, z3, z4, .inl a, z6, z7, z8] (.inl a :: st) v G Q := q_w_iload c_157_145 rfl
theorem c_157_147 : q_code 157 147 = (.if_icmp .ge 59, 3, 0, 0, 0, 0, 0) := by decide +kernel
theorem e_157_147 (d : Nat) (a b : Int) (z0 z1 z2 z3 z4 z5 z6 z7 z8 : q_V) (st : List q_V) (v : q_H) (G : q_Gr) (Q : q_V → q_H → q_Gr → Prop) : q_wp d 157 147 [z0, z1, z2, z3, z4, z5, z6, z7, z8] (.inl b :: .inl a :: st) v G Q = ((q_inR a ∧ q_inR b) ∧ if b ≤ a then q_wp d 157 206 [z0, z1, z2, z3, z4, z5, z6, z7, z8] st v G Q else q_wp d 157 150 [z0, z1, z2, z3, z4, z5, z6, z7, z8] st v G Q) := q_w_icmp_ge c_157_147 (by decide)
theorem c_157_150 : q_code 157 150 = (.iload 6, 2, 0, 0, 0, 0, 0) := by decide +kernel
theorem e_157_150 (d : Nat) (a : Int) (z0 z1 z2 z3 z4 z5 z7 z8 : q_V) (st : List q_V) (v : q_H) (G : q_Gr) (Q : q_V → q_H → q_Gr → Prop) : q_wp d 157 150 [z0, z1, z2, z3, z4, z5, .inl a, z7, z8] st v G Q = q_wp d 157 152 [z0, z1, z2, z3, z4, z5, .inl a, z7, z8] (.inl a :: st) v G Q := q_w_iload c_157_150 rfl
theorem c_157_152 : q_code 157 152 = (.ifCond .eq 8, 3, 0, 0, 0, 0, 0) := by decide +kernel
theorem e_157_152 (d : Nat) (a : Int) (z0 z1 z2 z3 z4 z5 z6 z7 z8 : q_V) (st : List q_V) (v : q_H) (G : q_Gr) (Q : q_V → q_H → q_Gr → Prop) : q_wp d 157 152 [z0, z1, z2, z3, z4, z5, z6, z7, z8] (.inl a :: st) v G Q = ((q_inR a) ∧ if a = 0 then q_wp d 157 160 [z0, z1, z2, z3, z4, z5, z6, z7, z8] st v G Q else q_wp d 157 155 [z0, z1, z2, z3, z4, z5, z6, z7, z8] st v G Q) := q_w_if_eq c_157_152 (by decide)
theorem c_157_155 : q_code 157 155 = (.iload 7, 2, 0, 0, 0, 0, 0) := by decide +kernel
theorem e_157_155 (d : Nat) (a : Int) (z0 z1 z2 z3 z4 z5 z6 z8 : q_V) (st : List q_V) (v : q_H) (G : q_Gr) (Q : q_V → q_H → q_Gr → Prop) : q_wp d 157 155 [z0, z1, z2, z3, z4, z5, z6, .inl a, z8] st v G Q = q_wp d 157 157 [z0, z1, z2, z3, z4, z5, z6, .inl a, z8] (.inl a :: st) v G Q := q_w_iload c_157_155 rfl
theorem c_157_157 : q_code 157 157 = (.goto 10, 3, 0, 0, 0, 0, 0) := by decide +kernel
theorem e_157_157 (d : Nat)  (z0 z1 z2 z3 z4 z5 z6 z7 z8 : q_V) (st : List q_V) (v : q_H) (G : q_Gr) (Q : q_V → q_H → q_Gr → Prop) : q_wp d 157 157 [z0, z1, z2, z3, z4, z5, z6, z7, z8] st v G Q = q_wp d 157 167 [z0, z1, z2, z3, z4, z5, z6, z7, z8] st v G Q := q_w_goto c_157_157 (by decide)
theorem c_157_160 : q_code 157 160 = (.iload 5, 2, 0, 0, 0, 0, 0) := by decide +kernel
theorem e_157_160 (d : Nat) (a : Int) (z0 z1 z2 z3 z4 z6 z7 z8 : q_V) (st : List q_V) (v : q_H) (G : q_Gr) (Q : q_V → q_H → q_Gr → Prop) : q_wp d 157 160 [z0, z1, z2, z3, z4, .inl a, z6, z7, z8] st v G Q = q_wp d 157 162 [z0, z1, z2, z3, z4, .inl a, z6, z7, z8] (.inl a :: st) v G Q := q_w_iload c_157_160 rfl
theorem c_157_162 : q_code 157 162 = (.iconst 1, 1, 0, 0, 0, 0, 0) := by decide +kernel
theorem e_157_162 (d : Nat)  (z0 z1 z2 z3 z4 z5 z6 z7 z8 : q_V) (st : List q_V) (v : q_H) (G : q_Gr) (Q : q_V → q_H → q_Gr → Prop) : q_wp d 157 162 [z0, z1, z2, z3, z4, z5, z6, z7, z8] st v G Q = q_wp d 157 163 [z0, z1, z2, z3, z4, z5, z6, z7, z8] (.inl 1 :: st) v G Q := q_w_iconst c_157_162
theorem c_157_163 : q_code 157 163 = (.isub, 1, 0, 0, 0, 0, 0) := by decide +kernel
theorem e_157_163 (d : Nat) (a b : Int) (z0 z1 z2 z3 z4 z5 z6 z7 z8 : q_V) (st : List q_V) (v : q_H) (G : q_Gr) (Q : q_V → q_H → q_Gr → Prop) : q_wp d 157 163 [z0, z1, z2, z3, z4, z5, z6, z7, z8] (.inl b :: .inl a :: st) v G Q = q_wp d 157 164 [z0, z1, z2, z3, z4, z5, z6, z7, z8] (.inl (a - b) :: st) v G Q := q_w_isub c_157_163
theorem c_157_164 : q_code 157 164 = (.iload 7, 2, 0, 0, 0, 0, 0) := by decide +kernel
theorem e_157_164 (d : Nat) (a : Int) (z0 z1 z2 z3 z4 z5 z6 z8 : q_V) (st : List q_V) (v : q_H) (G : q_Gr) (Q : q_V → q_H → q_Gr → Prop) : q_wp d 157 164 [z0, z1, z2, z3, z4, z5, z6, .inl a, z8] st v G Q = q_wp d 157 166 [z0, z1, z2, z3, z4, z5, z6, .inl a, z8] (.inl a :: st) v G Q := q_w_iload c_157_164 rfl
theorem c_157_166 : q_code 157 166 = (.isub, 1, 0, 0, 0, 0, 0) := by decide +kernel
theorem e_157_166 (d : Nat) (a b : Int) (z0 z1 z2 z3 z4 z5 z6 z7 z8 : q_V) (st : List q_V) (v : q_H) (G : q_Gr) (Q : q_V → q_H → q_Gr → Prop) : q_wp d 157 166 [z0, z1, z2, z3, z4, z5, z6, z7, z8] (.inl b :: .inl a :: st) v G Q = q_wp d 157 167 [z0, z1, z2, z3, z4, z5, z6, z7, z8] (.inl (a - b) :: st) v G Q := q_w_isub c_157_166
theorem c_157_167 : q_code 157 167 = (.istore 8, 2, 0, 0, 0, 0, 0) := by decide +kernel
theorem e_157_167 (d : Nat) (a : Int) (z0 z1 z2 z3 z4 z5 z6 z7 z8 : q_V) (st : List q_V) (v : q_H) (G : q_Gr) (Q : q_V → q_H → q_Gr → Prop) : q_wp d 157 167 [z0, z1, z2, z3, z4, z5, z6, z7, z8] (.inl a :: st) v G Q = q_wp d 157 169 [z0, z1, z2, z3, z4, z5, z6, z7, .inl a] st v G Q := q_w_istore c_157_167
theorem c_157_169 : q_code 157 169 = (.aload_n 0, 1, 0, 0, 0, 0, 0) := by decide +kernel
theorem e_157_169 (d : Nat) (a : Option Nat) (z1 z2 z3 z4 z5 z6 z7 z8 : q_V) (st : List q_V) (v : q_H) (G : q_Gr) (Q : q_V → q_H → q_Gr → Prop) : q_wp d 157 169 [.inr (.inr (.inl a)), z1, z2, z3, z4, z5, z6, z7, z8] st v G Q = q_wp d 157 170 [.inr (.inr (.inl a)), z1, z2, z3, z4, z5, z6, z7, z8] (.inr (.inr (.inl a)) :: st) v G Q := q_w_aload_n c_157_169 rfl
theorem c_157_170 : q_code 157 170 = (.getfield 16, 3, 11, 4, 1, 959, 0) := by decide +kernel
theorem e_157_170 (d : Nat) (a : Nat) (z0 z1 z2 z3 z4 z5 z6 z7 z8 : q_V) (st : List q_V) (v : q_H) (G : q_Gr) (Q : q_V → q_H → q_Gr → Prop) : q_wp d 157 170 [z0, z1, z2, z3, z4, z5, z6, z7, z8] (.inr (.inr (.inl (some a))) :: st) v G Q = (((G.2.1 a).1 = 11) ∧ q_wp d 157 173 [z0, z1, z2, z3, z4, z5, z6, z7, z8] (.inr (.inr (.inl (G.1 a 4))) :: st) v G Q) := q_w_getP c_157_170
theorem c_157_173 : q_code 157 173 = (.sipush 600, 3, 0, 0, 0, 0, 0) := by decide +kernel
theorem e_157_173 (d : Nat)  (z0 z1 z2 z3 z4 z5 z6 z7 z8 : q_V) (st : List q_V) (v : q_H) (G : q_Gr) (Q : q_V → q_H → q_Gr → Prop) : q_wp d 157 173 [z0, z1, z2, z3, z4, z5, z6, z7, z8] st v G Q = q_wp d 157 176 [z0, z1, z2, z3, z4, z5, z6, z7, z8] (.inl 600 :: st) v G Q := (q_w_sipush c_157_173).trans (by simp only [show ((-32768 : Int) ≤ 600 ∧ (600 : Int) ≤ 32767) = True by decide, true_and])
theorem c_157_176 : q_code 157 176 = (.iload_n 3, 1, 0, 0, 0, 0, 0) := by decide +kernel
theorem e_157_176 (d : Nat) (a : Int) (z0 z1 z2 z4 z5 z6 z7 z8 : q_V) (st : List q_V) (v : q_H) (G : q_Gr) (Q : q_V → q_H → q_Gr → Prop) : q_wp d 157 176 [z0, z1, z2, .inl a, z4, z5, z6, z7, z8] st v G Q = q_wp d 157 177 [z0, z1, z2, .inl a, z4, z5, z6, z7, z8] (.inl a :: st) v G Q := q_w_iload_n c_157_176 rfl
theorem c_157_177 : q_code 157 177 = (.imul, 1, 0, 0, 0, 0, 0) := by decide +kernel
theorem e_157_177 (d : Nat) (a b : Int) (z0 z1 z2 z3 z4 z5 z6 z7 z8 : q_V) (st : List q_V) (v : q_H) (G : q_Gr) (Q : q_V → q_H → q_Gr → Prop) : q_wp d 157 177 [z0, z1, z2, z3, z4, z5, z6, z7, z8] (.inl b :: .inl a :: st) v G Q = q_wp d 157 178 [z0, z1, z2, z3, z4, z5, z6, z7, z8] (.inl (a * b) :: st) v G Q := q_w_imul c_157_177
theorem c_157_178 : q_code 157 178 = (.iload 4, 2, 0, 0, 0, 0, 0) := by decide +kernel
theorem e_157_178 (d : Nat) (a : Int) (z0 z1 z2 z3 z5 z6 z7 z8 : q_V) (st : List q_V) (v : q_H) (G : q_Gr) (Q : q_V → q_H → q_Gr → Prop) : q_wp d 157 178 [z0, z1, z2, z3, .inl a, z5, z6, z7, z8] st v G Q = q_wp d 157 180 [z0, z1, z2, z3, .inl a, z5, z6, z7, z8] (.inl a :: st) v G Q := q_w_iload c_157_178 rfl
theorem c_157_180 : q_code 157 180 = (.iadd, 1, 0, 0, 0, 0, 0) := by decide +kernel
theorem e_157_180 (d : Nat) (a b : Int) (z0 z1 z2 z3 z4 z5 z6 z7 z8 : q_V) (st : List q_V) (v : q_H) (G : q_Gr) (Q : q_V → q_H → q_Gr → Prop) : q_wp d 157 180 [z0, z1, z2, z3, z4, z5, z6, z7, z8] (.inl b :: .inl a :: st) v G Q = q_wp d 157 181 [z0, z1, z2, z3, z4, z5, z6, z7, z8] (.inl (a + b) :: st) v G Q := q_w_iadd c_157_180
theorem c_157_181 : q_code 157 181 = (.iload 8, 2, 0, 0, 0, 0, 0) := by decide +kernel
theorem e_157_181 (d : Nat) (a : Int) (z0 z1 z2 z3 z4 z5 z6 z7 : q_V) (st : List q_V) (v : q_H) (G : q_Gr) (Q : q_V → q_H → q_Gr → Prop) : q_wp d 157 181 [z0, z1, z2, z3, z4, z5, z6, z7, .inl a] st v G Q = q_wp d 157 183 [z0, z1, z2, z3, z4, z5, z6, z7, .inl a] (.inl a :: st) v G Q := q_w_iload c_157_181 rfl
theorem c_157_183 : q_code 157 183 = (.iadd, 1, 0, 0, 0, 0, 0) := by decide +kernel
theorem e_157_183 (d : Nat) (a b : Int) (z0 z1 z2 z3 z4 z5 z6 z7 z8 : q_V) (st : List q_V) (v : q_H) (G : q_Gr) (Q : q_V → q_H → q_Gr → Prop) : q_wp d 157 183 [z0, z1, z2, z3, z4, z5, z6, z7, z8] (.inl b :: .inl a :: st) v G Q = q_wp d 157 184 [z0, z1, z2, z3, z4, z5, z6, z7, z8] (.inl (a + b) :: st) v G Q := q_w_iadd c_157_183
theorem c_157_184 : q_code 157 184 = (.aload_n 0, 1, 0, 0, 0, 0, 0) := by decide +kernel
theorem e_157_184 (d : Nat) (a : Option Nat) (z1 z2 z3 z4 z5 z6 z7 z8 : q_V) (st : List q_V) (v : q_H) (G : q_Gr) (Q : q_V → q_H → q_Gr → Prop) : q_wp d 157 184 [.inr (.inr (.inl a)), z1, z2, z3, z4, z5, z6, z7, z8] st v G Q = q_wp d 157 185 [.inr (.inr (.inl a)), z1, z2, z3, z4, z5, z6, z7, z8] (.inr (.inr (.inl a)) :: st) v G Q := q_w_aload_n c_157_184 rfl
theorem c_157_185 : q_code 157 185 = (.getfield 16, 3, 11, 4, 1, 959, 0) := by decide +kernel
theorem e_157_185 (d : Nat) (a : Nat) (z0 z1 z2 z3 z4 z5 z6 z7 z8 : q_V) (st : List q_V) (v : q_H) (G : q_Gr) (Q : q_V → q_H → q_Gr → Prop) : q_wp d 157 185 [z0, z1, z2, z3, z4, z5, z6, z7, z8] (.inr (.inr (.inl (some a))) :: st) v G Q = (((G.2.1 a).1 = 11) ∧ q_wp d 157 188 [z0, z1, z2, z3, z4, z5, z6, z7, z8] (.inr (.inr (.inl (G.1 a 4))) :: st) v G Q) := q_w_getP c_157_185
theorem c_157_188 : q_code 157 188 = (.sipush 600, 3, 0, 0, 0, 0, 0) := by decide +kernel
theorem e_157_188 (d : Nat)  (z0 z1 z2 z3 z4 z5 z6 z7 z8 : q_V) (st : List q_V) (v : q_H) (G : q_Gr) (Q : q_V → q_H → q_Gr → Prop) : q_wp d 157 188 [z0, z1, z2, z3, z4, z5, z6, z7, z8] st v G Q = q_wp d 157 191 [z0, z1, z2, z3, z4, z5, z6, z7, z8] (.inl 600 :: st) v G Q := (q_w_sipush c_157_188).trans (by simp only [show ((-32768 : Int) ≤ 600 ∧ (600 : Int) ≤ 32767) = True by decide, true_and])
theorem c_157_191 : q_code 157 191 = (.iload_n 1, 1, 0, 0, 0, 0, 0) := by decide +kernel
theorem e_157_191 (d : Nat) (a : Int) (z0 z2 z3 z4 z5 z6 z7 z8 : q_V) (st : List q_V) (v : q_H) (G : q_Gr) (Q : q_V → q_H → q_Gr → Prop) : q_wp d 157 191 [z0, .inl a, z2, z3, z4, z5, z6, z7, z8] st v G Q = q_wp d 157 192 [z0, .inl a, z2, z3, z4, z5, z6, z7, z8] (.inl a :: st) v G Q := q_w_iload_n c_157_191 rfl
theorem c_157_192 : q_code 157 192 = (.imul, 1, 0, 0, 0, 0, 0) := by decide +kernel
theorem e_157_192 (d : Nat) (a b : Int) (z0 z1 z2 z3 z4 z5 z6 z7 z8 : q_V) (st : List q_V) (v : q_H) (G : q_Gr) (Q : q_V → q_H → q_Gr → Prop) : q_wp d 157 192 [z0, z1, z2, z3, z4, z5, z6, z7, z8] (.inl b :: .inl a :: st) v G Q = q_wp d 157 193 [z0, z1, z2, z3, z4, z5, z6, z7, z8] (.inl (a * b) :: st) v G Q := q_w_imul c_157_192
theorem c_157_193 : q_code 157 193 = (.iload_n 2, 1, 0, 0, 0, 0, 0) := by decide +kernel
theorem e_157_193 (d : Nat) (a : Int) (z0 z1 z3 z4 z5 z6 z7 z8 : q_V) (st : List q_V) (v : q_H) (G : q_Gr) (Q : q_V → q_H → q_Gr → Prop) : q_wp d 157 193 [z0, z1, .inl a, z3, z4, z5, z6, z7, z8] st v G Q = q_wp d 157 194 [z0, z1, .inl a, z3, z4, z5, z6, z7, z8] (.inl a :: st) v G Q := q_w_iload_n c_157_193 rfl
theorem c_157_194 : q_code 157 194 = (.iadd, 1, 0, 0, 0, 0, 0) := by decide +kernel
theorem e_157_194 (d : Nat) (a b : Int) (z0 z1 z2 z3 z4 z5 z6 z7 z8 : q_V) (st : List q_V) (v : q_H) (G : q_Gr) (Q : q_V → q_H → q_Gr → Prop) : q_wp d 157 194 [z0, z1, z2, z3, z4, z5, z6, z7, z8] (.inl b :: .inl a :: st) v G Q = q_wp d 157 195 [z0, z1, z2, z3, z4, z5, z6, z7, z8] (.inl (a + b) :: st) v G Q := q_w_iadd c_157_194
theorem c_157_195 : q_code 157 195 = (.iload 8, 2, 0, 0, 0, 0, 0) := by decide +kernel
theorem e_157_195 (d : Nat) (a : Int) (z0 z1 z2 z3 z4 z5 z6 z7 : q_V) (st : List q_V) (v : q_H) (G : q_Gr) (Q : q_V → q_H → q_Gr → Prop) : q_wp d 157 195 [z0, z1, z2, z3, z4, z5, z6, z7, .inl a] st v G Q = q_wp d 157 197 [z0, z1, z2, z3, z4, z5, z6, z7, .inl a] (.inl a :: st) v G Q := q_w_iload c_157_195 rfl
theorem c_157_197 : q_code 157 197 = (.iadd, 1, 0, 0, 0, 0, 0) := by decide +kernel
theorem e_157_197 (d : Nat) (a b : Int) (z0 z1 z2 z3 z4 z5 z6 z7 z8 : q_V) (st : List q_V) (v : q_H) (G : q_Gr) (Q : q_V → q_H → q_Gr → Prop) : q_wp d 157 197 [z0, z1, z2, z3, z4, z5, z6, z7, z8] (.inl b :: .inl a :: st) v G Q = q_wp d 157 198 [z0, z1, z2, z3, z4, z5, z6, z7, z8] (.inl (a + b) :: st) v G Q := q_w_iadd c_157_197
theorem c_157_198 : q_code 157 198 = (.iaload, 1, 0, 0, 0, 0, 0) := by decide +kernel
theorem e_157_198 (d : Nat) (a : Nat) (i : Int) (z0 z1 z2 z3 z4 z5 z6 z7 z8 : q_V) (st : List q_V) (v : q_H) (G : q_Gr) (Q : q_V → q_H → q_Gr → Prop) : q_wp d 157 198 [z0, z1, z2, z3, z4, z5, z6, z7, z8] (.inl i :: .inr (.inr (.inl (some a))) :: st) v G Q = (((G.2.1 a).1 = 20 ∧ 0 ≤ i ∧ i < (G.2.1 a).2) ∧ q_wp d 157 199 [z0, z1, z2, z3, z4, z5, z6, z7, z8] (.inl (v a i.toNat) :: st) v G Q) := q_w_iald c_157_198
theorem c_157_199 : q_code 157 199 = (.iastore, 1, 0, 0, 0, 0, 0) := by decide +kernel
theorem e_157_199 (d : Nat) (a : Nat) (i b : Int) (z0 z1 z2 z3 z4 z5 z6 z7 z8 : q_V) (st : List q_V) (v : q_H) (G : q_Gr) (Q : q_V → q_H → q_Gr → Prop) : q_wp d 157 199 [z0, z1, z2, z3, z4, z5, z6, z7, z8] (.inl b :: .inl i :: .inr (.inr (.inl (some a))) :: st) v G Q = (((G.2.1 a).1 = 20 ∧ 32 ≤ a ∧ 0 ≤ i ∧ i < (G.2.1 a).2) ∧ q_wp d 157 200 [z0, z1, z2, z3, z4, z5, z6, z7, z8] st (q_up v a i.toNat b) G Q) := q_w_iast c_157_199
theorem c_157_200 : q_code 157 200 = (.iinc 7 1, 3, 0, 0, 0, 0, 0) := by decide +kernel
theorem e_157_200 (d : Nat) (a : Int) (z0 z1 z2 z3 z4 z5 z6 z8 : q_V) (st : List q_V) (v : q_H) (G : q_Gr) (Q : q_V → q_H → q_Gr → Prop) : q_wp d 157 200 [z0, z1, z2, z3, z4, z5, z6, .inl a, z8] st v G Q = q_wp d 157 203 [z0, z1, z2, z3, z4, z5, z6, .inl (a + 1), z8] st v G Q := q_w_iinc c_157_200 rfl
theorem c_157_203 : q_code 157 203 = (.goto (-60), 3, 0, 0, 0, 0, 0) := by decide +kernel
theorem e_157_203 (d : Nat)  (z0 z1 z2 z3 z4 z5 z6 z7 z8 : q_V) (st : List q_V) (v : q_H) (G : q_Gr) (Q : q_V → q_H → q_Gr → Prop) : q_wp d 157 203 [z0, z1, z2, z3, z4, z5, z6, z7, z8] st v G Q = q_wp d 157 143 [z0, z1, z2, z3, z4, z5, z6, z7, z8] st v G Q := q_w_goto c_157_203 (by decide)
theorem c_157_206 : q_code 157 206 = (.iload 5, 2, 0, 0, 0, 0, 0) := by decide +kernel
theorem e_157_206 (d : Nat) (a : Int) (z0 z1 z2 z3 z4 z6 z7 z8 : q_V) (st : List q_V) (v : q_H) (G : q_Gr) (Q : q_V → q_H → q_Gr → Prop) : q_wp d 157 206 [z0, z1, z2, z3, z4, .inl a, z6, z7, z8] st v G Q = q_wp d 157 208 [z0, z1, z2, z3, z4, .inl a, z6, z7, z8] (.inl a :: st) v G Q := q_w_iload c_157_206 rfl
theorem c_157_208 : q_code 157 208 = (.ireturn, 1, 0, 0, 0, 0, 0) := by decide +kernel
theorem e_157_208 (d : Nat) (a : Int) (z0 z1 z2 z3 z4 z5 z6 z7 z8 : q_V) (v : q_H) (G : q_Gr) (Q : q_V → q_H → q_Gr → Prop) : q_wp d 157 208 [z0, z1, z2, z3, z4, z5, z6, z7, z8] [.inl a] v G Q = Q (.inl a) v G := q_w_ireturn c_157_208 rfl
theorem e_157 (d : Nat) (a0 : Nat) (a1 : Int) (a2 : Int) (a3 : Int) (a4 : Int) (a5 : Int) (v : q_H) (G : q_Gr) (Q : q_V → q_H → q_Gr → Prop) : q_call (d + 1) 157 [.inr (.inr (.inl (some a0))), .inl a1, .inl a2, .inl a3, .inl a4, .inl a5] v G Q = ((G.2.1 a0).1 = 11 ∧ q_wp d 157 0 [.inr (.inr (.inl (some a0))), .inl a1, .inl a2, .inl a3, .inl a4, .inl a5, .inr (.inr (.inr ())), .inr (.inr (.inr ())), .inr (.inr (.inr ()))] [] v G Q) := by
  rw [q_call_in (by decide) (Nat.le_of_ble_eq_true rfl) rfl]
  exact congrArg (· ∧ _) (propext beq_iff_eq)
/-- all but the heads of loops: [143] -/
def E157 := And.intro @e_157 (And.intro @e_157_0 (And.intro @e_157_1 (And.intro @e_157_2 (And.intro @e_157_5 (And.intro @e_157_6 (And.intro @e_157_9 (And.intro @e_157_12 (And.intro @e_157_13 (And.intro @e_157_16 (And.intro @e_157_19 (And.intro @e_157_21 (And.intro @e_157_22 (And.intro @e_157_23 (And.intro @e_157_24 (And.intro @e_157_27 (And.intro @e_157_28 (And.intro @e_157_31 (And.intro @e_157_32 (And.intro @e_157_33 (And.intro @e_157_36 (And.intro @e_157_37 (And.intro @e_157_40 (And.intro @e_157_41 (And.intro @e_157_42 (And.intro @e_157_45 (And.intro @e_157_46 (And.intro @e_157_47 (And.intro @e_157_50 (And.intro @e_157_51 (And.intro @e_157_52 (And.intro @e_157_55 (And.intro @e_157_56 (And.intro @e_157_57 (And.intro @e_157_58 (And.intro @e_157_61 (And.intro @e_157_62 (And.intro @e_157_63 (And.intro @e_157_66 (And.intro @e_157_67 (And.intro @e_157_68 (And.intro @e_157_71 (And.intro @e_157_72 (And.intro @e_157_73 (And.intro @e_157_76 (And.intro @e_157_78 (And.intro @e_157_81 (And.intro @e_157_83 (And.intro @e_157_86 (And.intro @e_157_87 (And.intro @e_157_88 (And.intro @e_157_90 (And.intro @e_157_91 (And.intro @e_157_92 (And.intro @e_157_93 (And.intro @e_157_96 (And.intro @e_157_97 (And.intro @e_157_98 (And.intro @e_157_99 (And.intro @e_157_100 (And.intro @e_157_103 (And.intro @e_157_105 (And.intro @e_157_106 (And.intro @e_157_108 (And.intro @e_157_109 (And.intro @e_157_110 (And.intro @e_157_111 (And.intro @e_157_114 (And.intro @e_157_115 (And.intro @e_157_116 (And.intro @e_157_117 (And.intro @e_157_118 (And.intro @e_157_121 (And.intro @e_157_122 (And.intro @e_157_123 (And.intro @e_157_126 (And.intro @e_157_127 (And.intro @e_157_128 (And.intro @e_157_130 (And.intro @e_157_133 (And.intro @e_157_134 (And.intro @e_157_137 (And.intro @e_157_138 (And.intro @e_157_140 (And.intro @e_157_141 (And.intro @e_157_145 (And.intro @e_157_147 (And.intro @e_157_150 (And.intro @e_157_152 (And.intro @e_157_155 (And.intro @e_157_157 (And.intro @e_157_160 (And.intro @e_157_162 (And.intro @e_157_163 (And.intro @e_157_164 (And.intro @e_157_166 (And.intro @e_157_167 (And.intro @e_157_169 (And.intro @e_157_170 (And.intro @e_157_173 (And.intro @e_157_176 (And.intro @e_157_177 (And.intro @e_157_178 (And.intro @e_157_180 (And.intro @e_157_181 (And.intro @e_157_183 (And.intro @e_157_184 (And.intro @e_157_185 (And.intro @e_157_188 (And.intro @e_157_191 (And.intro @e_157_192 (And.intro @e_157_193 (And.intro @e_157_194 (And.intro @e_157_195 (And.intro @e_157_197 (And.intro @e_157_198 (And.intro @e_157_199 (And.intro @e_157_200 (And.intro @e_157_203 (And.intro @e_157_206 (@e_157_208))))))))))))))))))))))))))))))))))))))))))))))))))))))))))))))))))))))))))))))))))))))))))))))))))))))))))))))))))))))))
/-! ProvenRowsModel.drop(I)I -/
theorem c_158_0 : q_code 158 0 = (.aload_n 0, 1, 0, 0, 0, 0, 0) := by decide +kernel
theorem e_158_0 (d : Nat) (a : Option Nat) (z1 : q_V) (st : List q_V) (v : q_H) (G : q_Gr) (Q : q_V → q_H → q_Gr → Prop) : q_wp d 158 0 [.inr (.inr (.inl a)), z1] st v G Q = q_wp d 158 1 [.inr (.inr (.inl a)), z1] (.inr (.inr (.inl a)) :: st) v G Q := q_w_aload_n c_158_0 rfl
theorem c_158_1 : q_code 158 1 = (.iconst 0, 1, 0, 0, 0, 0, 0) := by decide +kernel
theorem e_158_1 (d : Nat)  (z0 z1 : q_V) (st : List q_V) (v : q_H) (G : q_Gr) (Q : q_V → q_H → q_Gr → Prop) : q_wp d 158 1 [z0, z1] st v G Q = q_wp d 158 2 [z0, z1] (.inl 0 :: st) v G Q := q_w_iconst c_158_1
theorem c_158_2 : q_code 158 2 = (.putfield 119, 3, 11, 0, 0, 955, 0) := by decide +kernel
theorem e_158_2 (d : Nat) (a : Nat) (b : Int) (z0 z1 : q_V) (st : List q_V) (v : q_H) (G : q_Gr) (Q : q_V → q_H → q_Gr → Prop) : q_wp d 158 2 [z0, z1] (.inl b :: .inr (.inr (.inl (some a))) :: st) v G Q = (((G.2.1 a).1 = 11) ∧ q_wp d 158 5 [z0, z1] st (q_up v a 0 b) G Q) := q_w_putI c_158_2
theorem c_158_5 : q_code 158 5 = (.iload_n 1, 1, 0, 0, 0, 0, 0) := by decide +kernel
theorem e_158_5 (d : Nat) (a : Int) (z0 : q_V) (st : List q_V) (v : q_H) (G : q_Gr) (Q : q_V → q_H → q_Gr → Prop) : q_wp d 158 5 [z0, .inl a] st v G Q = q_wp d 158 6 [z0, .inl a] (.inl a :: st) v G Q := q_w_iload_n c_158_5 rfl
theorem c_158_6 : q_code 158 6 = (.invokestatic 141, 3, 154, 1, 0, 1091, 1) := by decide +kernel
theorem e_158_6 (d : Nat) (x0 : q_V) (z0 z1 : q_V) (v : q_H) (G : q_Gr) (Q : q_V → q_H → q_Gr → Prop) : q_wp d 158 6 [z0, z1] [x0] v G Q = q_call d 154 [x0] v G (fun r v G => q_wp d 158 9 [z0, z1] (q_push r []) v G Q) := q_wp_ca (m2 := 154) (k := 1) (as := [x0]) (rest := []) (congrArg q_kind c_158_6) (congrArg (fun w => w.2.2.1) c_158_6) (congrArg (fun w => w.2.2.2.1) c_158_6) rfl (Nat.le_of_ble_eq_true rfl) rfl
theorem c_158_9 : q_code 158 9 = (.ifCond .ne 6, 3, 0, 0, 0, 0, 0) := by decide +kernel
theorem e_158_9 (d : Nat) (a : Int) (z0 z1 : q_V) (st : List q_V) (v : q_H) (G : q_Gr) (Q : q_V → q_H → q_Gr → Prop) : q_wp d 158 9 [z0, z1] (.inl a :: st) v G Q = ((q_inR a) ∧ if ¬ a = 0 then q_wp d 158 15 [z0, z1] st v G Q else q_wp d 158 12 [z0, z1] st v G Q) := q_w_if_ne c_158_9 (by decide)
theorem c_158_12 : q_code 158 12 = (.ldc 147, 2, 0, 0, 0, 1099, (-1000001)) := by decide +kernel
theorem e_158_12 (d : Nat)  (z0 z1 : q_V) (st : List q_V) (v : q_H) (G : q_Gr) (Q : q_V → q_H → q_Gr → Prop) : q_wp d 158 12 [z0, z1] st v G Q = q_wp d 158 14 [z0, z1] (.inl (-1000001) :: st) v G Q := q_w_ldc c_158_12
theorem c_158_14 : q_code 158 14 = (.ireturn, 1, 0, 0, 0, 0, 0) := by decide +kernel
theorem e_158_14 (d : Nat) (a : Int) (z0 z1 : q_V) (v : q_H) (G : q_Gr) (Q : q_V → q_H → q_Gr → Prop) : q_wp d 158 14 [z0, z1] [.inl a] v G Q = Q (.inl a) v G := q_w_ireturn c_158_14 rfl
theorem c_158_15 : q_code 158 15 = (.aload_n 0, 1, 0, 0, 0, 0, 0) := by decide +kernel
theorem e_158_15 (d : Nat) (a : Option Nat) (z1 : q_V) (st : List q_V) (v : q_H) (G : q_Gr) (Q : q_V → q_H → q_Gr → Prop) : q_wp d 158 15 [.inr (.inr (.inl a)), z1] st v G Q = q_wp d 158 16 [.inr (.inr (.inl a)), z1] (.inr (.inr (.inl a)) :: st) v G Q := q_w_aload_n c_158_15 rfl
theorem c_158_16 : q_code 158 16 = (.iconst 0, 1, 0, 0, 0, 0, 0) := by decide +kernel
theorem e_158_16 (d : Nat)  (z0 z1 : q_V) (st : List q_V) (v : q_H) (G : q_Gr) (Q : q_V → q_H → q_Gr → Prop) : q_wp d 158 16 [z0, z1] st v G Q = q_wp d 158 17 [z0, z1] (.inl 0 :: st) v G Q := q_w_iconst c_158_16
theorem c_158_17 : q_code 158 17 = (.putfield 123, 3, 11, 1, 0, 956, 0) := by decide +kernel
theorem e_158_17 (d : Nat) (a : Nat) (b : Int) (z0 z1 : q_V) (st : List q_V) (v : q_H) (G : q_Gr) (Q : q_V → q_H → q_Gr → Prop) : q_wp d 158 17 [z0, z1] (.inl b :: .inr (.inr (.inl (some a))) :: st) v G Q = (((G.2.1 a).1 = 11) ∧ q_wp d 158 20 [z0, z1] st (q_up v a 1 b) G Q) := q_w_putI c_158_17
theorem c_158_20 : q_code 158 20 = (.aload_n 0, 1, 0, 0, 0, 0, 0) := by decide +kernel
theorem e_158_20 (d : Nat) (a : Option Nat) (z1 : q_V) (st : List q_V) (v : q_H) (G : q_Gr) (Q : q_V → q_H → q_Gr → Prop) : q_wp d 158 20 [.inr (.inr (.inl a)), z1] st v G Q = q_wp d 158 21 [.inr (.inr (.inl a)), z1] (.inr (.inr (.inl a)) :: st) v G Q := q_w_aload_n c_158_20 rfl
theorem c_158_21 : q_code 158 21 = (.getfield 7, 3, 11, 2, 1, 957, 0) := by decide +kernel
theorem e_158_21 (d : Nat) (a : Nat) (z0 z1 : q_V) (st : List q_V) (v : q_H) (G : q_Gr) (Q : q_V → q_H → q_Gr → Prop) : q_wp d 158 21 [z0, z1] (.inr (.inr (.inl (some a))) :: st) v G Q = (((G.2.1 a).1 = 11) ∧ q_wp d 158 24 [z0, z1] (.inr (.inr (.inl (G.1 a 2))) :: st) v G Q) := q_w_getP c_158_21
theorem c_158_24 : q_code 158 24 = (.iload_n 1, 1, 0, 0, 0, 0, 0) := by decide +kernel
theorem e_158_24 (d : Nat) (a : Int) (z0 : q_V) (st : List q_V) (v : q_H) (G : q_Gr) (Q : q_V → q_H → q_Gr → Prop) : q_wp d 158 24 [z0, .inl a] st v G Q = q_wp d 158 25 [z0, .inl a] (.inl a :: st) v G Q := q_w_iload_n c_158_24 rfl
theorem c_158_25 : q_code 158 25 = (.iaload, 1, 0, 0, 0, 0, 0) := by decide +kernel
theorem e_158_25 (d : Nat) (a : Nat) (i : Int) (z0 z1 : q_V) (st : List q_V) (v : q_H) (G : q_Gr) (Q : q_V → q_H → q_Gr → Prop) : q_wp d 158 25 [z0, z1] (.inl i :: .inr (.inr (.inl (some a))) :: st) v G Q = (((G.2.1 a).1 = 20 ∧ 0 ≤ i ∧ i < (G.2.1 a).2) ∧ q_wp d 158 26 [z0, z1] (.inl (v a i.toNat) :: st) v G Q) := q_w_iald c_158_25
theorem c_158_26 : q_code 158 26 = (.ifCond .ge 9, 3, 0, 0, 0, 0, 0) := by decide +kernel
theorem e_158_26 (d : Nat) (a : Int) (z0 z1 : q_V) (st : List q_V) (v : q_H) (G : q_Gr) (Q : q_V → q_H → q_Gr → Prop) : q_wp d 158 26 [z0, z1] (.inl a :: st) v G Q = ((q_inR a) ∧ if 0 ≤ a then q_wp d 158 35 [z0, z1] st v G Q else q_wp d 158 29 [z0, z1] st v G Q) := q_w_if_ge c_158_26 (by decide)
theorem c_158_29 : q_code 158 29 = (.aload_n 0, 1, 0, 0, 0, 0, 0) := by decide +kernel
theorem e_158_29 (d : Nat) (a : Option Nat) (z1 : q_V) (st : List q_V) (v : q_H) (G : q_Gr) (Q : q_V → q_H → q_Gr → Prop) : q_wp d 158 29 [.inr (.inr (.inl a)), z1] st v G Q = q_wp d 158 30 [.inr (.inr (.inl a)), z1] (.inr (.inr (.inl a)) :: st) v G Q := q_w_aload_n c_158_29 rfl
theorem c_158_30 : q_code 158 30 = (.iconst 1, 1, 0, 0, 0, 0, 0) := by decide +kernel
theorem e_158_30 (d : Nat)  (z0 z1 : q_V) (st : List q_V) (v : q_H) (G : q_Gr) (Q : q_V → q_H → q_Gr → Prop) : q_wp d 158 30 [z0, z1] st v G Q = q_wp d 158 31 [z0, z1] (.inl 1 :: st) v G Q := q_w_iconst c_158_30
theorem c_158_31 : q_code 158 31 = (.invokevirtual 148, 3, 152, 2, 0, 1100, 1) := by decide +kernel
theorem e_158_31 (d : Nat) (x0 x1 : q_V) (z0 z1 : q_V) (v : q_H) (G : q_Gr) (Q : q_V → q_H → q_Gr → Prop) : q_wp d 158 31 [z0, z1] [x1, x0] v G Q = q_call d 152 [x0, x1] v G (fun r v G => q_wp d 158 34 [z0, z1] (q_push r []) v G Q) := q_wp_ca (m2 := 152) (k := 2) (as := [x0, x1]) (rest := []) (congrArg q_kind c_158_31) (congrArg (fun w => w.2.2.1) c_158_31) (congrArg (fun w => w.2.2.2.1) c_158_31) rfl (Nat.le_of_ble_eq_true rfl) rfl
theorem c_158_34 : q_code 158 34 = (.ireturn, 1, 0, 0, 0, 0, 0) := by decide +kernel
theorem e_158_34 (d : Nat) (a : Int) (z0 z1 : q_V) (v : q_H) (G : q_Gr) (Q : q_V → q_H → q_Gr → Prop) : q_wp d 158 34 [z0, z1] [.inl a] v G Q = Q (.inl a) v G := q_w_ireturn c_158_34 rfl
theorem c_158_35 : q_code 158 35 = (.aload_n 0, 1, 0, 0, 0, 0, 0) := by decide +kernel
theorem e_158_35 (d : Nat) (a : Option Nat) (z1 : q_V) (st : List q_V) (v : q_H) (G : q_Gr) (Q : q_V → q_H → q_Gr → Prop) : q_wp d 158 35 [.inr (.inr (.inl a)), z1] st v G Q = q_wp d 158 36 [.inr (.inr (.inl a)), z1] (.inr (.inr (.inl a)) :: st) v G Q := q_w_aload_n c_158_35 rfl
theorem c_158_36 : q_code 158 36 = (.getfield 7, 3, 11, 2, 1, 957, 0) := by decide +kernel
theorem e_158_36 (d : Nat) (a : Nat) (z0 z1 : q_V) (st : List q_V) (v : q_H) (G : q_Gr) (Q : q_V → q_H → q_Gr → Prop) : q_wp d 158 36 [z0, z1] (.inr (.inr (.inl (some a))) :: st) v G Q = (((G.2.1 a).1 = 11) ∧ q_wp d 158 39 [z0, z1] (.inr (.inr (.inl (G.1 a 2))) :: st) v G Q) := q_w_getP c_158_36
theorem c_158_39 : q_code 158 39 = (.iload_n 1, 1, 0, 0, 0, 0, 0) := by decide +kernel
theorem e_158_39 (d : Nat) (a : Int) (z0 : q_V) (st : List q_V) (v : q_H) (G : q_Gr) (Q : q_V → q_H → q_Gr → Prop) : q_wp d 158 39 [z0, .inl a] st v G Q = q_wp d 158 40 [z0, .inl a] (.inl a :: st) v G Q := q_w_iload_n c_158_39 rfl
theorem c_158_40 : q_code 158 40 = (.iconst (-1), 1, 0, 0, 0, 0, 0) := by decide +kernel
theorem e_158_40 (d : Nat)  (z0 z1 : q_V) (st : List q_V) (v : q_H) (G : q_Gr) (Q : q_V → q_H → q_Gr → Prop) : q_wp d 158 40 [z0, z1] st v G Q = q_wp d 158 41 [z0, z1] (.inl (-1) :: st) v G Q := q_w_iconst c_158_40
theorem c_158_41 : q_code 158 41 = (.iastore, 1, 0, 0, 0, 0, 0) := by decide +kernel
theorem e_158_41 (d : Nat) (a : Nat) (i b : Int) (z0 z1 : q_V) (st : List q_V) (v : q_H) (G : q_Gr) (Q : q_V → q_H → q_Gr → Prop) : q_wp d 158 41 [z0, z1] (.inl b :: .inl i :: .inr (.inr (.inl (some a))) :: st) v G Q = (((G.2.1 a).1 = 20 ∧ 32 ≤ a ∧ 0 ≤ i ∧ i < (G.2.1 a).2) ∧ q_wp d 158 42 [z0, z1] st (q_up v a i.toNat b) G Q) := q_w_iast c_158_41
theorem c_158_42 : q_code 158 42 = (.aload_n 0, 1, 0, 0, 0, 0, 0) := by decide +kernel
theorem e_158_42 (d : Nat) (a : Option Nat) (z1 : q_V) (st : List q_V) (v : q_H) (G : q_Gr) (Q : q_V → q_H → q_Gr → Prop) : q_wp d 158 42 [.inr (.inr (.inl a)), z1] st v G Q = q_wp d 158 43 [.inr (.inr (.inl a)), z1] (.inr (.inr (.inl a)) :: st) v G Q := q_w_aload_n c_158_42 rfl
theorem c_158_43 : q_code 158 43 = (.getfield 13, 3, 11, 3, 1, 958, 0) := by decide +kernel
theorem e_158_43 (d : Nat) (a : Nat) (z0 z1 : q_V) (st : List q_V) (v : q_H) (G : q_Gr) (Q : q_V → q_H → q_Gr → Prop) : q_wp d 158 43 [z0, z1] (.inr (.inr (.inl (some a))) :: st) v G Q = (((G.2.1 a).1 = 11) ∧ q_wp d 158 46 [z0, z1] (.inr (.inr (.inl (G.1 a 3))) :: st) v G Q) := q_w_getP c_158_43
theorem c_158_46 : q_code 158 46 = (.iload_n 1, 1, 0, 0, 0, 0, 0) := by decide +kernel
theorem e_158_46 (d : Nat) (a : Int) (z0 : q_V) (st : List q_V) (v : q_H) (G : q_Gr) (Q : q_V → q_H → q_Gr → Prop) : q_wp d 158 46 [z0, .inl a] st v G Q = q_wp d 158 47 [z0, .inl a] (.inl a :: st) v G Q := q_w_iload_n c_158_46 rfl
theorem c_158_47 : q_code 158 47 = (.iaload, 1, 0, 0, 0, 0, 0) := by decide +kernel
theorem e_158_47 (d : Nat) (a : Nat) (i : Int) (z0 z1 : q_V) (st : List q_V) (v : q_H) (G : q_Gr) (Q : q_V → q_H → q_Gr → Prop) : q_wp d 158 47 [z0, z1] (.inl i :: .inr (.inr (.inl (some a))) :: st) v G Q = (((G.2.1 a).1 = 20 ∧ 0 ≤ i ∧ i < (G.2.1 a).2) ∧ q_wp d 158 48 [z0, z1] (.inl (v a i.toNat) :: st) v G Q) := q_w_iald c_158_47
theorem c_158_48 : q_code 158 48 = (.ireturn, 1, 0, 0, 0, 0, 0) := by decide +kernel
theorem e_158_48 (d : Nat) (a : Int) (z0 z1 : q_V) (v : q_H) (G : q_Gr) (Q : q_V → q_H → q_Gr → Prop) : q_wp d 158 48 [z0, z1] [.inl a] v G Q = Q (.inl a) v G := q_w_ireturn c_158_48 rfl
theorem e_158 (d : Nat) (a0 : Nat) (a1 : Int) (v : q_H) (G : q_Gr) (Q : q_V → q_H → q_Gr → Prop) : q_call (d + 1) 158 [.inr (.inr (.inl (some a0))), .inl a1] v G Q = ((G.2.1 a0).1 = 11 ∧ q_wp d 158 0 [.inr (.inr (.inl (some a0))), .inl a1] [] v G Q) := by
  rw [q_call_in (by decide) (Nat.le_of_ble_eq_true rfl) rfl]
  exact congrArg (· ∧ _) (propext beq_iff_eq)
/-- all but the heads of loops: [] -/
def E158 := And.intro @e_158 (And.intro @e_158_0 (And.intro @e_158_1 (And.intro @e_158_2 (And.intro @e_158_5 (And.intro @e_158_6 (And.intro @e_158_9 (And.intro @e_158_12 (And.intro @e_158_14 (And.intro @e_158_15 (And.intro @e_158_16 (And.intro @e_158_17 (And.intro @e_158_20 (And.intro @e_158_21 (And.intro @e_158_24 (And.intro @e_158_25 (And.intro @e_158_26 (And.intro @e_158_29 (And.intro @e_158_30 (And.intro @e_158_31 (And.intro @e_158_34 (And.intro @e_158_35 (And.intro @e_158_36 (And.intro @e_158_39 (And.intro @e_158_40 (And.intro @e_158_41 (And.intro @e_158_42 (And.intro @e_158_43 (And.intro @e_158_46 (And.intro @e_158_47 (@e_158_48))))))))))))))))))))))))))))))
/-! ProvenRowsModel.isTable(I)Z -/
theorem c_159_0 : q_code 159 0 = (.iload_n 0, 1, 0, 0, 0, 0, 0) := by decide +kernel
theorem e_159_0 (d : Nat) (a : Int) (st : List q_V) (v : q_H) (G : q_Gr) (Q : q_V → q_H → q_Gr → Prop) : q_wp d 159 0 [.inl a] st v G Q = q_wp d 159 1 [.inl a] (.inl a :: st) v G Q := q_w_iload_n c_159_0 rfl
theorem c_159_1 : q_code 159 1 = (.i2l, 1, 0, 0, 0, 0, 0) := by decide +kernel
theorem e_159_1 (d : Nat) (a : Int) (z0 : q_V) (st : List q_V) (v : q_H) (G : q_Gr) (Q : q_V → q_H → q_Gr → Prop) : q_wp d 159 1 [z0] (.inl a :: st) v G Q = ((q_inR a) ∧ q_wp d 159 2 [z0] (.inr (.inl a) :: st) v G Q) := q_w_i2l c_159_1
theorem c_159_2 : q_code 159 2 = (.lconst 0, 1, 0, 0, 0, 0, 0) := by decide +kernel
theorem e_159_2 (d : Nat)  (z0 : q_V) (st : List q_V) (v : q_H) (G : q_Gr) (Q : q_V → q_H → q_Gr → Prop) : q_wp d 159 2 [z0] st v G Q = q_wp d 159 3 [z0] (.inr (.inl 0) :: st) v G Q := q_w_lconst c_159_2
theorem c_159_3 : q_code 159 3 = (.ldc2_w 145, 3, 0, 0, 0, 1098, 2) := by decide +kernel
theorem e_159_3 (d : Nat)  (z0 : q_V) (st : List q_V) (v : q_H) (G : q_Gr) (Q : q_V → q_H → q_Gr → Prop) : q_wp d 159 3 [z0] st v G Q = q_wp d 159 6 [z0] (.inr (.inl 2) :: st) v G Q := q_w_ldc2 c_159_3
theorem c_159_6 : q_code 159 6 = (.invokestatic 137, 3, 151, 3, 0, 1095, 1) := by decide +kernel
theorem e_159_6 (d : Nat) (x0 x1 x2 : q_V) (z0 : q_V) (v : q_H) (G : q_Gr) (Q : q_V → q_H → q_Gr → Prop) : q_wp d 159 6 [z0] [x2, x1, x0] v G Q = q_call d 151 [x0, x1, x2] v G (fun r v G => q_wp d 159 9 [z0] (q_push r []) v G Q) := q_wp_ca (m2 := 151) (k := 3) (as := [x0, x1, x2]) (rest := []) (congrArg q_kind c_159_6) (congrArg (fun w => w.2.2.1) c_159_6) (congrArg (fun w => w.2.2.2.1) c_159_6) rfl (Nat.le_of_ble_eq_true rfl) rfl
theorem c_159_9 : q_code 159 9 = (.ireturn, 1, 0, 0, 0, 0, 0) := by decide +kernel
theorem e_159_9 (d : Nat) (a : Int) (z0 : q_V) (v : q_H) (G : q_Gr) (Q : q_V → q_H → q_Gr → Prop) : q_wp d 159 9 [z0] [.inl a] v G Q = ((0 ≤ a ∧ a ≤ 1) ∧ Q (.inl a) v G) := q_w_zreturn c_159_9 rfl
theorem e_159 (d : Nat) (a0 : Int) (v : q_H) (G : q_Gr) (Q : q_V → q_H → q_Gr → Prop) : q_call (d + 1) 159 [.inl a0] v G Q = q_wp d 159 0 [.inl a0] [] v G Q := by
  rw [q_call_in (by decide) (Nat.le_of_ble_eq_true rfl) rfl]
  show (true = true ∧ _) = _
  simp only [true_and]
  rfl
/-- all but the heads of loops: [] -/
def E159 := And.intro @e_159 (And.intro @e_159_0 (And.intro @e_159_1 (And.intro @e_159_2 (And.intro @e_159_3 (And.intro @e_159_6 (@e_159_9))))))
/-! ProvenRowsModel.isKey(I)Z -/
theorem c_160_0 : q_code 160 0 = (.iload_n 0, 1, 0, 0, 0, 0, 0) := by decide +kernel
theorem e_160_0 (d : Nat) (a : Int) (st : List q_V) (v : q_H) (G : q_Gr) (Q : q_V → q_H → q_Gr → Prop) : q_wp d 160 0 [.inl a] st v G Q = q_wp d 160 1 [.inl a] (.inl a :: st) v G Q := q_w_iload_n c_160_0 rfl
theorem c_160_1 : q_code 160 1 = (.i2l, 1, 0, 0, 0, 0, 0) := by decide +kernel
theorem e_160_1 (d : Nat) (a : Int) (z0 : q_V) (st : List q_V) (v : q_H) (G : q_Gr) (Q : q_V → q_H → q_Gr → Prop) : q_wp d 160 1 [z0] (.inl a :: st) v G Q = ((q_inR a) ∧ q_wp d 160 2 [z0] (.inr (.inl a) :: st) v G Q) := q_w_i2l c_160_1
theorem c_160_2 : q_code 160 2 = (.lconst 0, 1, 0, 0, 0, 0, 0) := by decide +kernel
theorem e_160_2 (d : Nat)  (z0 : q_V) (st : List q_V) (v : q_H) (G : q_Gr) (Q : q_V → q_H → q_Gr → Prop) : q_wp d 160 2 [z0] st v G Q = q_wp d 160 3 [z0] (.inr (.inl 0) :: st) v G Q := q_w_lconst c_160_2
theorem c_160_3 : q_code 160 3 = (.ldc2_w 152, 3, 0, 0, 0, 1126, 999) := by decide +kernel
theorem e_160_3 (d : Nat)  (z0 : q_V) (st : List q_V) (v : q_H) (G : q_Gr) (Q : q_V → q_H → q_Gr → Prop) : q_wp d 160 3 [z0] st v G Q = q_wp d 160 6 [z0] (.inr (.inl 999) :: st) v G Q := q_w_ldc2 c_160_3
theorem c_160_6 : q_code 160 6 = (.invokestatic 137, 3, 151, 3, 0, 1095, 1) := by decide +kernel
theorem e_160_6 (d : Nat) (x0 x1 x2 : q_V) (z0 : q_V) (v : q_H) (G : q_Gr) (Q : q_V → q_H → q_Gr → Prop) : q_wp d 160 6 [z0] [x2, x1, x0] v G Q = q_call d 151 [x0, x1, x2] v G (fun r v G => q_wp d 160 9 [z0] (q_push r []) v G Q) := q_wp_ca (m2 := 151) (k := 3) (as := [x0, x1, x2]) (rest := []) (congrArg q_kind c_160_6) (congrArg (fun w => w.2.2.1) c_160_6) (congrArg (fun w => w.2.2.2.1) c_160_6) rfl (Nat.le_of_ble_eq_true rfl) rfl
theorem c_160_9 : q_code 160 9 = (.ireturn, 1, 0, 0, 0, 0, 0) := by decide +kernel
theorem e_160_9 (d : Nat) (a : Int) (z0 : q_V) (v : q_H) (G : q_Gr) (Q : q_V → q_H → q_Gr → Prop) : q_wp d 160 9 [z0] [.inl a] v G Q = ((0 ≤ a ∧ a ≤ 1) ∧ Q (.inl a) v G) := q_w_zreturn c_160_9 rfl
theorem e_160 (d : Nat) (a0 : Int) (v : q_H) (G : q_Gr) (Q : q_V → q_H → q_Gr → Prop) : q_call (d + 1) 160 [.inl a0] v G Q = q_wp d 160 0 [.inl a0] [] v G Q := by
  rw [q_call_in (by decide) (Nat.le_of_ble_eq_true rfl) rfl]
  show (true = true ∧ _) = _
  simp only [true_and]
  rfl
/-- all but the heads of loops: [] -/
def E160 := And.intro @e_160 (And.intro @e_160_0 (And.intro @e_160_1 (And.intro @e_160_2 (And.intro @e_160_3 (And.intro @e_160_6 (@e_160_9))))))
/-! ProvenRowsModel.placeOf(II)I -/
theorem c_161_0 : q_code 161 0 = (.bipush 14, 2, 0, 0, 0, 0, 0) := by decide +kernel
theorem e_161_0 (d : Nat)  (z0 z1 z2 z3 : q_V) (st : List q_V) (v : q_H) (G : q_Gr) (Q : q_V → q_H → q_Gr → Prop) : q_wp d 161 0 [z0, z1, z2, z3] st v G Q = q_wp d 161 2 [z0, z1, z2, z3] (.inl 14 :: st) v G Q := (q_w_bipush c_161_0).trans (by simp only [show ((-128 : Int) ≤ 14 ∧ (14 : Int) ≤ 127) = True by decide, true_and])
theorem c_161_2 : q_code 161 2 = (.iload_n 1, 1, 0, 0, 0, 0, 0) := by decide +kernel
theorem e_161_2 (d : Nat) (a : Int) (z0 z2 z3 : q_V) (st : List q_V) (v : q_H) (G : q_Gr) (Q : q_V → q_H → q_Gr → Prop) : q_wp d 161 2 [z0, .inl a, z2, z3] st v G Q = q_wp d 161 3 [z0, .inl a, z2, z3] (.inl a :: st) v G Q := q_w_iload_n c_161_2 rfl
theorem c_161_3 : q_code 161 3 = (.imul, 1, 0, 0, 0, 0, 0) := by decide +kernel
theorem e_161_3 (d : Nat) (a b : Int) (z0 z1 z2 z3 : q_V) (st : List q_V) (v : q_H) (G : q_Gr) (Q : q_V → q_H → q_Gr → Prop) : q_wp d 161 3 [z0, z1, z2, z3] (.inl b :: .inl a :: st) v G Q = q_wp d 161 4 [z0, z1, z2, z3] (.inl (a * b) :: st) v G Q := q_w_imul c_161_3
theorem c_161_4 : q_code 161 4 = (.istore_n 3, 1, 0, 0, 0, 0, 0) := by decide +kernel
theorem e_161_4 (d : Nat) (a : Int) (z0 z1 z2 z3 : q_V) (st : List q_V) (v : q_H) (G : q_Gr) (Q : q_V → q_H → q_Gr → Prop) : q_wp d 161 4 [z0, z1, z2, z3] (.inl a :: st) v G Q = q_wp d 161 5 [z0, z1, z2, .inl a] st v G Q := q_w_istore_n c_161_4
theorem c_161_5 : q_code 161 5 = (.iload_n 3, 1, 0, 0, 0, 0, 0) := by decide +kernel
theorem e_161_5 (d : Nat) (a : Int) (z0 z1 z2 : q_V) (st : List q_V) (v : q_H) (G : q_Gr) (Q : q_V → q_H → q_Gr → Prop) : q_wp d 161 5 [z0, z1, z2, .inl a] st v G Q = q_wp d 161 6 [z0, z1, z2, .inl a] (.inl a :: st) v G Q := q_w_iload_n c_161_5 rfl
theorem c_161_6 : q_code 161 6 = (.bipush 14, 2, 0, 0, 0, 0, 0) := by decide +kernel
theorem e_161_6 (d : Nat)  (z0 z1 z2 z3 : q_V) (st : List q_V) (v : q_H) (G : q_Gr) (Q : q_V → q_H → q_Gr → Prop) : q_wp d 161 6 [z0, z1, z2, z3] st v G Q = q_wp d 161 8 [z0, z1, z2, z3] (.inl 14 :: st) v G Q := (q_w_bipush c_161_6).trans (by simp only [show ((-128 : Int) ≤ 14 ∧ (14 : Int) ≤ 127) = True by decide, true_and])
theorem c_161_8 : q_code 161 8 = (.iload_n 1, 1, 0, 0, 0, 0, 0) := by decide +kernel
theorem e_161_8 (d : Nat) (a : Int) (z0 z2 z3 : q_V) (st : List q_V) (v : q_H) (G : q_Gr) (Q : q_V → q_H → q_Gr → Prop) : q_wp d 161 8 [z0, .inl a, z2, z3] st v G Q = q_wp d 161 9 [z0, .inl a, z2, z3] (.inl a :: st) v G Q := q_w_iload_n c_161_8 rfl
theorem c_161_9 : q_code 161 9 = (.imul, 1, 0, 0, 0, 0, 0) := by decide +kernel
theorem e_161_9 (d : Nat) (a b : Int) (z0 z1 z2 z3 : q_V) (st : List q_V) (v : q_H) (G : q_Gr) (Q : q_V → q_H → q_Gr → Prop) : q_wp d 161 9 [z0, z1, z2, z3] (.inl b :: .inl a :: st) v G Q = q_wp d 161 10 [z0, z1, z2, z3] (.inl (a * b) :: st) v G Q := q_w_imul c_161_9
theorem c_161_10 : q_code 161 10 = (.aload_n 0, 1, 0, 0, 0, 0, 0) := by decide +kernel
theorem e_161_10 (d : Nat) (a : Option Nat) (z1 z2 z3 : q_V) (st : List q_V) (v : q_H) (G : q_Gr) (Q : q_V → q_H → q_Gr → Prop) : q_wp d 161 10 [.inr (.inr (.inl a)), z1, z2, z3] st v G Q = q_wp d 161 11 [.inr (.inr (.inl a)), z1, z2, z3] (.inr (.inr (.inl a)) :: st) v G Q := q_w_aload_n c_161_10 rfl
theorem c_161_11 : q_code 161 11 = (.getfield 19, 3, 11, 5, 1, 960, 0) := by decide +kernel
theorem e_161_11 (d : Nat) (a : Nat) (z0 z1 z2 z3 : q_V) (st : List q_V) (v : q_H) (G : q_Gr) (Q : q_V → q_H → q_Gr → Prop) : q_wp d 161 11 [z0, z1, z2, z3] (.inr (.inr (.inl (some a))) :: st) v G Q = (((G.2.1 a).1 = 11) ∧ q_wp d 161 14 [z0, z1, z2, z3] (.inr (.inr (.inl (G.1 a 5))) :: st) v G Q) := q_w_getP c_161_11
theorem c_161_14 : q_code 161 14 = (.iload_n 1, 1, 0, 0, 0, 0, 0) := by decide +kernel
theorem e_161_14 (d : Nat) (a : Int) (z0 z2 z3 : q_V) (st : List q_V) (v : q_H) (G : q_Gr) (Q : q_V → q_H → q_Gr → Prop) : q_wp d 161 14 [z0, .inl a, z2, z3] st v G Q = q_wp d 161 15 [z0, .inl a, z2, z3] (.inl a :: st) v G Q := q_w_iload_n c_161_14 rfl
theorem c_161_15 : q_code 161 15 = (.iaload, 1, 0, 0, 0, 0, 0) := by decide +kernel
theorem e_161_15 (d : Nat) (a : Nat) (i : Int) (z0 z1 z2 z3 : q_V) (st : List q_V) (v : q_H) (G : q_Gr) (Q : q_V → q_H → q_Gr → Prop) : q_wp d 161 15 [z0, z1, z2, z3] (.inl i :: .inr (.inr (.inl (some a))) :: st) v G Q = (((G.2.1 a).1 = 20 ∧ 0 ≤ i ∧ i < (G.2.1 a).2) ∧ q_wp d 161 16 [z0, z1, z2, z3] (.inl (v a i.toNat) :: st) v G Q) := q_w_iald c_161_15
theorem c_161_16 : q_code 161 16 = (.iadd, 1, 0, 0, 0, 0, 0) := by decide +kernel
theorem e_161_16 (d : Nat) (a b : Int) (z0 z1 z2 z3 : q_V) (st : List q_V) (v : q_H) (G : q_Gr) (Q : q_V → q_H → q_Gr → Prop) : q_wp d 161 16 [z0, z1, z2, z3] (.inl b :: .inl a :: st) v G Q = q_wp d 161 17 [z0, z1, z2, z3] (.inl (a + b) :: st) v G Q := q_w_iadd c_161_16
theorem c_161_17 : q_code 161 17 = (.if_icmp .ge 19, 3, 0, 0, 0, 0, 0) := by decide +kernel
theorem e_161_17 (d : Nat) (a b : Int) (z0 z1 z2 z3 : q_V) (st : List q_V) (v : q_H) (G : q_Gr) (Q : q_V → q_H → q_Gr → Prop) : q_wp d 161 17 [z0, z1, z2, z3] (.inl b :: .inl a :: st) v G Q = ((q_inR a ∧ q_inR b) ∧ if b ≤ a then q_wp d 161 36 [z0, z1, z2, z3] st v G Q else q_wp d 161 20 [z0, z1, z2, z3] st v G Q) := q_w_icmp_ge c_161_17 (by decide)
theorem c_161_20 : q_code 161 20 = (.aload_n 0, 1, 0, 0, 0, 0, 0) := by decide +kernel
theorem e_161_20 (d : Nat) (a : Option Nat) (z1 z2 z3 : q_V) (st : List q_V) (v : q_H) (G : q_Gr) (Q : q_V → q_H → q_Gr → Prop) : q_wp d 161 20 [.inr (.inr (.inl a)), z1, z2, z3] st v G Q = q_wp d 161 21 [.inr (.inr (.inl a)), z1, z2, z3] (.inr (.inr (.inl a)) :: st) v G Q := q_w_aload_n c_161_20 rfl
theorem c_161_21 : q_code 161 21 = (.getfield 22, 3, 11, 6, 1, 961, 0) := by decide +kernel
theorem e_161_21 (d : Nat) (a : Nat) (z0 z1 z2 z3 : q_V) (st : List q_V) (v : q_H) (G : q_Gr) (Q : q_V → q_H → q_Gr → Prop) : q_wp d 161 21 [z0, z1, z2, z3] (.inr (.inr (.inl (some a))) :: st) v G Q = (((G.2.1 a).1 = 11) ∧ q_wp d 161 24 [z0, z1, z2, z3] (.inr (.inr (.inl (G.1 a 6))) :: st) v G Q) := q_w_getP c_161_21
theorem c_161_24 : q_code 161 24 = (.iload_n 3, 1, 0, 0, 0, 0, 0) := by decide +kernel
theorem e_161_24 (d : Nat) (a : Int) (z0 z1 z2 : q_V) (st : List q_V) (v : q_H) (G : q_Gr) (Q : q_V → q_H → q_Gr → Prop) : q_wp d 161 24 [z0, z1, z2, .inl a] st v G Q = q_wp d 161 25 [z0, z1, z2, .inl a] (.inl a :: st) v G Q := q_w_iload_n c_161_24 rfl
theorem c_161_25 : q_code 161 25 = (.iaload, 1, 0, 0, 0, 0, 0) := by decide +kernel
theorem e_161_25 (d : Nat) (a : Nat) (i : Int) (z0 z1 z2 z3 : q_V) (st : List q_V) (v : q_H) (G : q_Gr) (Q : q_V → q_H → q_Gr → Prop) : q_wp d 161 25 [z0, z1, z2, z3] (.inl i :: .inr (.inr (.inl (some a))) :: st) v G Q = (((G.2.1 a).1 = 20 ∧ 0 ≤ i ∧ i < (G.2.1 a).2) ∧ q_wp d 161 26 [z0, z1, z2, z3] (.inl (v a i.toNat) :: st) v G Q) := q_w_iald c_161_25
theorem c_161_26 : q_code 161 26 = (.iload_n 2, 1, 0, 0, 0, 0, 0) := by decide +kernel
theorem e_161_26 (d : Nat) (a : Int) (z0 z1 z3 : q_V) (st : List q_V) (v : q_H) (G : q_Gr) (Q : q_V → q_H → q_Gr → Prop) : q_wp d 161 26 [z0, z1, .inl a, z3] st v G Q = q_wp d 161 27 [z0, z1, .inl a, z3] (.inl a :: st) v G Q := q_w_iload_n c_161_26 rfl
theorem c_161_27 : q_code 161 27 = (.if_icmp .ge 9, 3, 0, 0, 0, 0, 0) := by decide +kernel
theorem e_161_27 (d : Nat) (a b : Int) (z0 z1 z2 z3 : q_V) (st : List q_V) (v : q_H) (G : q_Gr) (Q : q_V → q_H → q_Gr → Prop) : q_wp d 161 27 [z0, z1, z2, z3] (.inl b :: .inl a :: st) v G Q = ((q_inR a ∧ q_inR b) ∧ if b ≤ a then q_wp d 161 36 [z0, z1, z2, z3] st v G Q else q_wp d 161 30 [z0, z1, z2, z3] st v G Q) := q_w_icmp_ge c_161_27 (by decide)
theorem c_161_30 : q_code 161 30 = (.iinc 3 1, 3, 0, 0, 0, 0, 0) := by decide +kernel
theorem e_161_30 (d : Nat) (a : Int) (z0 z1 z2 : q_V) (st : List q_V) (v : q_H) (G : q_Gr) (Q : q_V → q_H → q_Gr → Prop) : q_wp d 161 30 [z0, z1, z2, .inl a] st v G Q = q_wp d 161 33 [z0, z1, z2, .inl (a + 1)] st v G Q := q_w_iinc c_161_30 rfl
theorem c_161_33 : q_code 161 33 = (.goto (-28), 3, 0, 0, 0, 0, 0) := by decide +kernel
theorem e_161_33 (d : Nat)  (z0 z1 z2 z3 : q_V) (st : List q_V) (v : q_H) (G : q_Gr) (Q : q_V → q_H → q_Gr → Prop) : q_wp d 161 33 [z0, z1, z2, z3] st v G Q = q_wp d 161 5 [z0, z1, z2, z3] st v G Q := q_w_goto c_161_33 (by decide)
theorem c_161_36 : q_code 161 36 = (.iload_n 3, 1, 0, 0, 0, 0, 0) := by decide +kernel
theorem e_161_36 (d : Nat) (a : Int) (z0 z1 z2 : q_V) (st : List q_V) (v : q_H) (G : q_Gr) (Q : q_V → q_H → q_Gr → Prop) : q_wp d 161 36 [z0, z1, z2, .inl a] st v G Q = q_wp d 161 37 [z0, z1, z2, .inl a] (.inl a :: st) v G Q := q_w_iload_n c_161_36 rfl
theorem c_161_37 : q_code 161 37 = (.ireturn, 1, 0, 0, 0, 0, 0) := by decide +kernel
theorem e_161_37 (d : Nat) (a : Int) (z0 z1 z2 z3 : q_V) (v : q_H) (G : q_Gr) (Q : q_V → q_H → q_Gr → Prop) : q_wp d 161 37 [z0, z1, z2, z3] [.inl a] v G Q = Q (.inl a) v G := q_w_ireturn c_161_37 rfl
theorem e_161 (d : Nat) (a0 : Nat) (a1 : Int) (a2 : Int) (v : q_H) (G : q_Gr) (Q : q_V → q_H → q_Gr → Prop) : q_call (d + 1) 161 [.inr (.inr (.inl (some a0))), .inl a1, .inl a2] v G Q = ((G.2.1 a0).1 = 11 ∧ q_wp d 161 0 [.inr (.inr (.inl (some a0))), .inl a1, .inl a2, .inr (.inr (.inr ()))] [] v G Q) := by
  rw [q_call_in (by decide) (Nat.le_of_ble_eq_true rfl) rfl]
  exact congrArg (· ∧ _) (propext beq_iff_eq)
/-- all but the heads of loops: [5] -/
def E161 := And.intro @e_161 (And.intro @e_161_0 (And.intro @e_161_2 (And.intro @e_161_3 (And.intro @e_161_4 (And.intro @e_161_6 (And.intro @e_161_8 (And.intro @e_161_9 (And.intro @e_161_10 (And.intro @e_161_11 (And.intro @e_161_14 (And.intro @e_161_15 (And.intro @e_161_16 (And.intro @e_161_17 (And.intro @e_161_20 (And.intro @e_161_21 (And.intro @e_161_24 (And.intro @e_161_25 (And.intro @e_161_26 (And.intro @e_161_27 (And.intro @e_161_30 (And.intro @e_161_33 (And.intro @e_161_36 (@e_161_37)))))))))))))))))))))))
/-! ProvenRowsModel.hasKey(II)Z -/
theorem c_162_0 : q_code 162 0 = (.aload_n 0, 1, 0, 0, 0, 0, 0) := by decide +kernel
theorem e_162_0 (d : Nat) (a : Option Nat) (z1 z2 z3 : q_V) (st : List q_V) (v : q_H) (G : q_Gr) (Q : q_V → q_H → q_Gr → Prop) : q_wp d 162 0 [.inr (.inr (.inl a)), z1, z2, z3] st v G Q = q_wp d 162 1 [.inr (.inr (.inl a)), z1, z2, z3] (.inr (.inr (.inl a)) :: st) v G Q := q_w_aload_n c_162_0 rfl
theorem c_162_1 : q_code 162 1 = (.iload_n 1, 1, 0, 0, 0, 0, 0) := by decide +kernel
theorem e_162_1 (d : Nat) (a : Int) (z0 z2 z3 : q_V) (st : List q_V) (v : q_H) (G : q_Gr) (Q : q_V → q_H → q_Gr → Prop) : q_wp d 162 1 [z0, .inl a, z2, z3] st v G Q = q_wp d 162 2 [z0, .inl a, z2, z3] (.inl a :: st) v G Q := q_w_iload_n c_162_1 rfl
theorem c_162_2 : q_code 162 2 = (.iload_n 2, 1, 0, 0, 0, 0, 0) := by decide +kernel
theorem e_162_2 (d : Nat) (a : Int) (z0 z1 z3 : q_V) (st : List q_V) (v : q_H) (G : q_Gr) (Q : q_V → q_H → q_Gr → Prop) : q_wp d 162 2 [z0, z1, .inl a, z3] st v G Q = q_wp d 162 3 [z0, z1, .inl a, z3] (.inl a :: st) v G Q := q_w_iload_n c_162_2 rfl
theorem c_162_3 : q_code 162 3 = (.invokevirtual 154, 3, 161, 3, 0, 1127, 1) := by decide +kernel
theorem e_162_3 (d : Nat) (x0 x1 x2 : q_V) (z0 z1 z2 z3 : q_V) (v : q_H) (G : q_Gr) (Q : q_V → q_H → q_Gr → Prop) : q_wp d 162 3 [z0, z1, z2, z3] [x2, x1, x0] v G Q = q_call d 161 [x0, x1, x2] v G (fun r v G => q_wp d 162 6 [z0, z1, z2, z3] (q_push r []) v G Q) := q_wp_ca (m2 := 161) (k := 3) (as := [x0, x1, x2]) (rest := []) (congrArg q_kind c_162_3) (congrArg (fun w => w.2.2.1) c_162_3) (congrArg (fun w => w.2.2.2.1) c_162_3) rfl (Nat.le_of_ble_eq_true rfl) rfl
theorem c_162_6 : q_code 162 6 = (.istore_n 3, 1, 0, 0, 0, 0, 0) := by decide +kernel
theorem e_162_6 (d : Nat) (a : Int) (z0 z1 z2 z3 : q_V) (st : List q_V) (v : q_H) (G : q_Gr) (Q : q_V → q_H → q_Gr → Prop) : q_wp d 162 6 [z0, z1, z2, z3] (.inl a :: st) v G Q = q_wp d 162 7 [z0, z1, z2, .inl a] st v G Q := q_w_istore_n c_162_6
theorem c_162_7 : q_code 162 7 = (.iload_n 3, 1, 0, 0, 0, 0, 0) := by decide +kernel
theorem e_162_7 (d : Nat) (a : Int) (z0 z1 z2 : q_V) (st : List q_V) (v : q_H) (G : q_Gr) (Q : q_V → q_H → q_Gr → Prop) : q_wp d 162 7 [z0, z1, z2, .inl a] st v G Q = q_wp d 162 8 [z0, z1, z2, .inl a] (.inl a :: st) v G Q := q_w_iload_n c_162_7 rfl
theorem c_162_8 : q_code 162 8 = (.bipush 14, 2, 0, 0, 0, 0, 0) := by decide +kernel
theorem e_162_8 (d : Nat)  (z0 z1 z2 z3 : q_V) (st : List q_V) (v : q_H) (G : q_Gr) (Q : q_V → q_H → q_Gr → Prop) : q_wp d 162 8 [z0, z1, z2, z3] st v G Q = q_wp d 162 10 [z0, z1, z2, z3] (.inl 14 :: st) v G Q := (q_w_bipush c_162_8).trans (by simp only [show ((-128 : Int) ≤ 14 ∧ (14 : Int) ≤ 127) = True by decide, true_and])
theorem c_162_10 : q_code 162 10 = (.iload_n 1, 1, 0, 0, 0, 0, 0) := by decide +kernel
theorem e_162_10 (d : Nat) (a : Int) (z0 z2 z3 : q_V) (st : List q_V) (v : q_H) (G : q_Gr) (Q : q_V → q_H → q_Gr → Prop) : q_wp d 162 10 [z0, .inl a, z2, z3] st v G Q = q_wp d 162 11 [z0, .inl a, z2, z3] (.inl a :: st) v G Q := q_w_iload_n c_162_10 rfl
theorem c_162_11 : q_code 162 11 = (.imul, 1, 0, 0, 0, 0, 0) := by decide +kernel
theorem e_162_11 (d : Nat) (a b : Int) (z0 z1 z2 z3 : q_V) (st : List q_V) (v : q_H) (G : q_Gr) (Q : q_V → q_H → q_Gr → Prop) : q_wp d 162 11 [z0, z1, z2, z3] (.inl b :: .inl a :: st) v G Q = q_wp d 162 12 [z0, z1, z2, z3] (.inl (a * b) :: st) v G Q := q_w_imul c_162_11
theorem c_162_12 : q_code 162 12 = (.aload_n 0, 1, 0, 0, 0, 0, 0) := by decide +kernel
theorem e_162_12 (d : Nat) (a : Option Nat) (z1 z2 z3 : q_V) (st : List q_V) (v : q_H) (G : q_Gr) (Q : q_V → q_H → q_Gr → Prop) : q_wp d 162 12 [.inr (.inr (.inl a)), z1, z2, z3] st v G Q = q_wp d 162 13 [.inr (.inr (.inl a)), z1, z2, z3] (.inr (.inr (.inl a)) :: st) v G Q := q_w_aload_n c_162_12 rfl
theorem c_162_13 : q_code 162 13 = (.getfield 19, 3, 11, 5, 1, 960, 0) := by decide +kernel
theorem e_162_13 (d : Nat) (a : Nat) (z0 z1 z2 z3 : q_V) (st : List q_V) (v : q_H) (G : q_Gr) (Q : q_V → q_H → q_Gr → Prop) : q_wp d 162 13 [z0, z1, z2, z3] (.inr (.inr (.inl (some a))) :: st) v G Q = (((G.2.1 a).1 = 11) ∧ q_wp d 162 16 [z0, z1, z2, z3] (.inr (.inr (.inl (G.1 a 5))) :: st) v G Q) := q_w_getP c_162_13
theorem c_162_16 : q_code 162 16 = (.iload_n 1, 1, 0, 0, 0, 0, 0) := by decide +kernel
theorem e_162_16 (d : Nat) (a : Int) (z0 z2 z3 : q_V) (st : List q_V) (v : q_H) (G : q_Gr) (Q : q_V → q_H → q_Gr → Prop) : q_wp d 162 16 [z0, .inl a, z2, z3] st v G Q = q_wp d 162 17 [z0, .inl a, z2, z3] (.inl a :: st) v G Q := q_w_iload_n c_162_16 rfl
theorem c_162_17 : q_code 162 17 = (.iaload, 1, 0, 0, 0, 0, 0) := by decide +kernel
theorem e_162_17 (d : Nat) (a : Nat) (i : Int) (z0 z1 z2 z3 : q_V) (st : List q_V) (v : q_H) (G : q_Gr) (Q : q_V → q_H → q_Gr → Prop) : q_wp d 162 17 [z0, z1, z2, z3] (.inl i :: .inr (.inr (.inl (some a))) :: st) v G Q = (((G.2.1 a).1 = 20 ∧ 0 ≤ i ∧ i < (G.2.1 a).2) ∧ q_wp d 162 18 [z0, z1, z2, z3] (.inl (v a i.toNat) :: st) v G Q) := q_w_iald c_162_17
theorem c_162_18 : q_code 162 18 = (.iadd, 1, 0, 0, 0, 0, 0) := by decide +kernel
theorem e_162_18 (d : Nat) (a b : Int) (z0 z1 z2 z3 : q_V) (st : List q_V) (v : q_H) (G : q_Gr) (Q : q_V → q_H → q_Gr → Prop) : q_wp d 162 18 [z0, z1, z2, z3] (.inl b :: .inl a :: st) v G Q = q_wp d 162 19 [z0, z1, z2, z3] (.inl (a + b) :: st) v G Q := q_w_iadd c_162_18
theorem c_162_19 : q_code 162 19 = (.if_icmp .ge 17, 3, 0, 0, 0, 0, 0) := by decide +kernel
theorem e_162_19 (d : Nat) (a b : Int) (z0 z1 z2 z3 : q_V) (st : List q_V) (v : q_H) (G : q_Gr) (Q : q_V → q_H → q_Gr → Prop) : q_wp d 162 19 [z0, z1, z2, z3] (.inl b :: .inl a :: st) v G Q = ((q_inR a ∧ q_inR b) ∧ if b ≤ a then q_wp d 162 36 [z0, z1, z2, z3] st v G Q else q_wp d 162 22 [z0, z1, z2, z3] st v G Q) := q_w_icmp_ge c_162_19 (by decide)
theorem c_162_22 : q_code 162 22 = (.aload_n 0, 1, 0, 0, 0, 0, 0) := by decide +kernel
theorem e_162_22 (d : Nat) (a : Option Nat) (z1 z2 z3 : q_V) (st : List q_V) (v : q_H) (G : q_Gr) (Q : q_V → q_H → q_Gr → Prop) : q_wp d 162 22 [.inr (.inr (.inl a)), z1, z2, z3] st v G Q = q_wp d 162 23 [.inr (.inr (.inl a)), z1, z2, z3] (.inr (.inr (.inl a)) :: st) v G Q := q_w_aload_n c_162_22 rfl
theorem c_162_23 : q_code 162 23 = (.getfield 22, 3, 11, 6, 1, 961, 0) := by decide +kernel
theorem e_162_23 (d : Nat) (a : Nat) (z0 z1 z2 z3 : q_V) (st : List q_V) (v : q_H) (G : q_Gr) (Q : q_V → q_H → q_Gr → Prop) : q_wp d 162 23 [z0, z1, z2, z3] (.inr (.inr (.inl (some a))) :: st) v G Q = (((G.2.1 a).1 = 11) ∧ q_wp d 162 26 [z0, z1, z2, z3] (.inr (.inr (.inl (G.1 a 6))) :: st) v G Q) := q_w_getP c_162_23
theorem c_162_26 : q_code 162 26 = (.iload_n 3, 1, 0, 0, 0, 0, 0) := by decide +kernel
theorem e_162_26 (d : Nat) (a : Int) (z0 z1 z2 : q_V) (st : List q_V) (v : q_H) (G : q_Gr) (Q : q_V → q_H → q_Gr → Prop) : q_wp d 162 26 [z0, z1, z2, .inl a] st v G Q = q_wp d 162 27 [z0, z1, z2, .inl a] (.inl a :: st) v G Q := q_w_iload_n c_162_26 rfl
theorem c_162_27 : q_code 162 27 = (.iaload, 1, 0, 0, 0, 0, 0) := by decide +kernel
theorem e_162_27 (d : Nat) (a : Nat) (i : Int) (z0 z1 z2 z3 : q_V) (st : List q_V) (v : q_H) (G : q_Gr) (Q : q_V → q_H → q_Gr → Prop) : q_wp d 162 27 [z0, z1, z2, z3] (.inl i :: .inr (.inr (.inl (some a))) :: st) v G Q = (((G.2.1 a).1 = 20 ∧ 0 ≤ i ∧ i < (G.2.1 a).2) ∧ q_wp d 162 28 [z0, z1, z2, z3] (.inl (v a i.toNat) :: st) v G Q) := q_w_iald c_162_27
theorem c_162_28 : q_code 162 28 = (.iload_n 2, 1, 0, 0, 0, 0, 0) := by decide +kernel
theorem e_162_28 (d : Nat) (a : Int) (z0 z1 z3 : q_V) (st : List q_V) (v : q_H) (G : q_Gr) (Q : q_V → q_H → q_Gr → Prop) : q_wp d 162 28 [z0, z1, .inl a, z3] st v G Q = q_wp d 162 29 [z0, z1, .inl a, z3] (.inl a :: st) v G Q := q_w_iload_n c_162_28 rfl
theorem c_162_29 : q_code 162 29 = (.if_icmp .ne 7, 3, 0, 0, 0, 0, 0) := by decide +kernel
theorem e_162_29 (d : Nat) (a b : Int) (z0 z1 z2 z3 : q_V) (st : List q_V) (v : q_H) (G : q_Gr) (Q : q_V → q_H → q_Gr → Prop) : q_wp d 162 29 [z0, z1, z2, z3] (.inl b :: .inl a :: st) v G Q = ((q_inR a ∧ q_inR b) ∧ if ¬ a = b then q_wp d 162 36 [z0, z1, z2, z3] st v G Q else q_wp d 162 32 [z0, z1, z2, z3] st v G Q) := q_w_icmp_ne c_162_29 (by decide)
theorem c_162_32 : q_code 162 32 = (.iconst 1, 1, 0, 0, 0, 0, 0) := by decide +kernel
theorem e_162_32 (d : Nat)  (z0 z1 z2 z3 : q_V) (st : List q_V) (v : q_H) (G : q_Gr) (Q : q_V → q_H → q_Gr → Prop) : q_wp d 162 32 [z0, z1, z2, z3] st v G Q = q_wp d 162 33 [z0, z1, z2, z3] (.inl 1 :: st) v G Q := q_w_iconst c_162_32
theorem c_162_33 : q_code 162 33 = (.goto 4, 3, 0, 0, 0, 0, 0) := by decide +kernel
theorem e_162_33 (d : Nat)  (z0 z1 z2 z3 : q_V) (st : List q_V) (v : q_H) (G : q_Gr) (Q : q_V → q_H → q_Gr → Prop) : q_wp d 162 33 [z0, z1, z2, z3] st v G Q = q_wp d 162 37 [z0, z1, z2, z3] st v G Q := q_w_goto c_162_33 (by decide)
theorem c_162_36 : q_code 162 36 = (.iconst 0, 1, 0, 0, 0, 0, 0) := by decide +kernel
theorem e_162_36 (d : Nat)  (z0 z1 z2 z3 : q_V) (st : List q_V) (v : q_H) (G : q_Gr) (Q : q_V → q_H → q_Gr → Prop) : q_wp d 162 36 [z0, z1, z2, z3] st v G Q = q_wp d 162 37 [z0, z1, z2, z3] (.inl 0 :: st) v G Q := q_w_iconst c_162_36
theorem c_162_37 : q_code 162 37 = (.ireturn, 1, 0, 0, 0, 0, 0) := by decide +kernel
theorem e_162_37 (d : Nat) (a : Int) (z0 z1 z2 z3 : q_V) (v : q_H) (G : q_Gr) (Q : q_V → q_H → q_Gr → Prop) : q_wp d 162 37 [z0, z1, z2, z3] [.inl a] v G Q = ((0 ≤ a ∧ a ≤ 1) ∧ Q (.inl a) v G) := q_w_zreturn c_162_37 rfl
theorem e_162 (d : Nat) (a0 : Nat) (a1 : Int) (a2 : Int) (v : q_H) (G : q_Gr) (Q : q_V → q_H → q_Gr → Prop) : q_call (d + 1) 162 [.inr (.inr (.inl (some a0))), .inl a1, .inl a2] v G Q = ((G.2.1 a0).1 = 11 ∧ q_wp d 162 0 [.inr (.inr (.inl (some a0))), .inl a1, .inl a2, .inr (.inr (.inr ()))] [] v G Q) := by
  rw [q_call_in (by decide) (Nat.le_of_ble_eq_true rfl) rfl]
  exact congrArg (· ∧ _) (propext beq_iff_eq)
/-- all but the heads of loops: [] -/
def E162 := And.intro @e_162 (And.intro @e_162_0 (And.intro @e_162_1 (And.intro @e_162_2 (And.intro @e_162_3 (And.intro @e_162_6 (And.intro @e_162_7 (And.intro @e_162_8 (And.intro @e_162_10 (And.intro @e_162_11 (And.intro @e_162_12 (And.intro @e_162_13 (And.intro @e_162_16 (And.intro @e_162_17 (And.intro @e_162_18 (And.intro @e_162_19 (And.intro @e_162_22 (And.intro @e_162_23 (And.intro @e_162_26 (And.intro @e_162_27 (And.intro @e_162_28 (And.intro @e_162_29 (And.intro @e_162_32 (And.intro @e_162_33 (And.intro @e_162_36 (@e_162_37)))))))))))))))))))))))))
/-! ProvenRowsModel.put(III)I -/
theorem c_163_0 : q_code 163 0 = (.aload_n 0, 1, 0, 0, 0, 0, 0) := by decide +kernel
theorem e_163_0 (d : Nat) (a : Option Nat) (z1 z2 z3 z4 z5 : q_V) (st : List q_V) (v : q_H) (G : q_Gr) (Q : q_V → q_H → q_Gr → Prop) : q_wp d 163 0 [.inr (.inr (.inl a)), z1, z2, z3, z4, z5] st v G Q = q_wp d 163 1 [.inr (.inr (.inl a)), z1, z2, z3, z4, z5] (.inr (.inr (.inl a)) :: st) v G Q := q_w_aload_n c_163_0 rfl
theorem c_163_1 : q_code 163 1 = (.iconst 0, 1, 0, 0, 0, 0, 0) := by decide +kernel
theorem e_163_1 (d : Nat)  (z0 z1 z2 z3 z4 z5 : q_V) (st : List q_V) (v : q_H) (G : q_Gr) (Q : q_V → q_H → q_Gr → Prop) : q_wp d 163 1 [z0, z1, z2, z3, z4, z5] st v G Q = q_wp d 163 2 [z0, z1, z2, z3, z4, z5] (.inl 0 :: st) v G Q := q_w_iconst c_163_1
theorem c_163_2 : q_code 163 2 = (.putfield 119, 3, 11, 0, 0, 955, 0) := by decide +kernel
theorem e_163_2 (d : Nat) (a : Nat) (b : Int) (z0 z1 z2 z3 z4 z5 : q_V) (st : List q_V) (v : q_H) (G : q_Gr) (Q : q_V → q_H → q_Gr → Prop) : q_wp d 163 2 [z0, z1, z2, z3, z4, z5] (.inl b :: .inr (.inr (.inl (some a))) :: st) v G Q = (((G.2.1 a).1 = 11) ∧ q_wp d 163 5 [z0, z1, z2, z3, z4, z5] st (q_up v a 0 b) G Q) := q_w_putI c_163_2
theorem c_163_5 : q_code 163 5 = (.iload_n 1, 1, 0, 0, 0, 0, 0) := by decide +kernel
theorem e_163_5 (d : Nat) (a : Int) (z0 z2 z3 z4 z5 : q_V) (st : List q_V) (v : q_H) (G : q_Gr) (Q : q_V → q_H → q_Gr → Prop) : q_wp d 163 5 [z0, .inl a, z2, z3, z4, z5] st v G Q = q_wp d 163 6 [z0, .inl a, z2, z3, z4, z5] (.inl a :: st) v G Q := q_w_iload_n c_163_5 rfl
theorem c_163_6 : q_code 163 6 = (.invokestatic 158, 3, 159, 1, 0, 1120, 1) := by decide +kernel
theorem e_163_6 (d : Nat) (x0 : q_V) (z0 z1 z2 z3 z4 z5 : q_V) (v : q_H) (G : q_Gr) (Q : q_V → q_H → q_Gr → Prop) : q_wp d 163 6 [z0, z1, z2, z3, z4, z5] [x0] v G Q = q_call d 159 [x0] v G (fun r v G => q_wp d 163 9 [z0, z1, z2, z3, z4, z5] (q_push r []) v G Q) := q_wp_ca (m2 := 159) (k := 1) (as := [x0]) (rest := []) (congrArg q_kind c_163_6) (congrArg (fun w => w.2.2.1) c_163_6) (congrArg (fun w => w.2.2.2.1) c_163_6) rfl (Nat.le_of_ble_eq_true rfl) rfl
theorem c_163_9 : q_code 163 9 = (.ifCond .eq 22, 3, 0, 0, 0, 0, 0) := by decide +kernel
theorem e_163_9 (d : Nat) (a : Int) (z0 z1 z2 z3 z4 z5 : q_V) (st : List q_V) (v : q_H) (G : q_Gr) (Q : q_V → q_H → q_Gr → Prop) : q_wp d 163 9 [z0, z1, z2, z3, z4, z5] (.inl a :: st) v G Q = ((q_inR a) ∧ if a = 0 then q_wp d 163 31 [z0, z1, z2, z3, z4, z5] st v G Q else q_wp d 163 12 [z0, z1, z2, z3, z4, z5] st v G Q) := q_w_if_eq c_163_9 (by decide)
theorem c_163_12 : q_code 163 12 = (.iload_n 2, 1, 0, 0, 0, 0, 0) := by decide +kernel
theorem e_163_12 (d : Nat) (a : Int) (z0 z1 z3 z4 z5 : q_V) (st : List q_V) (v : q_H) (G : q_Gr) (Q : q_V → q_H → q_Gr → Prop) : q_wp d 163 12 [z0, z1, .inl a, z3, z4, z5] st v G Q = q_wp d 163 13 [z0, z1, .inl a, z3, z4, z5] (.inl a :: st) v G Q := q_w_iload_n c_163_12 rfl
theorem c_163_13 : q_code 163 13 = (.invokestatic 161, 3, 160, 1, 0, 1123, 1) := by decide +kernel
theorem e_163_13 (d : Nat) (x0 : q_V) (z0 z1 z2 z3 z4 z5 : q_V) (v : q_H) (G : q_Gr) (Q : q_V → q_H → q_Gr → Prop) : q_wp d 163 13 [z0, z1, z2, z3, z4, z5] [x0] v G Q = q_call d 160 [x0] v G (fun r v G => q_wp d 163 16 [z0, z1, z2, z3, z4, z5] (q_push r []) v G Q) := q_wp_ca (m2 := 160) (k := 1) (as := [x0]) (rest := []) (congrArg q_kind c_163_13) (congrArg (fun w => w.2.2.1) c_163_13) (congrArg (fun w => w.2.2.2.1) c_163_13) rfl (Nat.le_of_ble_eq_true rfl) rfl
theorem c_163_16 : q_code 163 16 = (.ifCond .eq 15, 3, 0, 0, 0, 0, 0) := by decide +kernel
theorem e_163_16 (d : Nat) (a : Int) (z0 z1 z2 z3 z4 z5 : q_V) (st : List q_V) (v : q_H) (G : q_Gr) (Q : q_V → q_H → q_Gr → Prop) : q_wp d 163 16 [z0, z1, z2, z3, z4, z5] (.inl a :: st) v G Q = ((q_inR a) ∧ if a = 0 then q_wp d 163 31 [z0, z1, z2, z3, z4, z5] st v G Q else q_wp d 163 19 [z0, z1, z2, z3, z4, z5] st v G Q) := q_w_if_eq c_163_16 (by decide)
theorem c_163_19 : q_code 163 19 = (.iload_n 3, 1, 0, 0, 0, 0, 0) := by decide +kernel
theorem e_163_19 (d : Nat) (a : Int) (z0 z1 z2 z4 z5 : q_V) (st : List q_V) (v : q_H) (G : q_Gr) (Q : q_V → q_H → q_Gr → Prop) : q_wp d 163 19 [z0, z1, z2, .inl a, z4, z5] st v G Q = q_wp d 163 20 [z0, z1, z2, .inl a, z4, z5] (.inl a :: st) v G Q := q_w_iload_n c_163_19 rfl
theorem c_163_20 : q_code 163 20 = (.i2l, 1, 0, 0, 0, 0, 0) := by decide +kernel
theorem e_163_20 (d : Nat) (a : Int) (z0 z1 z2 z3 z4 z5 : q_V) (st : List q_V) (v : q_H) (G : q_Gr) (Q : q_V → q_H → q_Gr → Prop) : q_wp d 163 20 [z0, z1, z2, z3, z4, z5] (.inl a :: st) v G Q = ((q_inR a) ∧ q_wp d 163 21 [z0, z1, z2, z3, z4, z5] (.inr (.inl a) :: st) v G Q) := q_w_i2l c_163_20
theorem c_163_21 : q_code 163 21 = (.lconst 0, 1, 0, 0, 0, 0, 0) := by decide +kernel
theorem e_163_21 (d : Nat)  (z0 z1 z2 z3 z4 z5 : q_V) (st : List q_V) (v : q_H) (G : q_Gr) (Q : q_V → q_H → q_Gr → Prop) : q_wp d 163 21 [z0, z1, z2, z3, z4, z5] st v G Q = q_wp d 163 22 [z0, z1, z2, z3, z4, z5] (.inr (.inl 0) :: st) v G Q := q_w_lconst c_163_21
theorem c_163_22 : q_code 163 22 = (.ldc2_w 152, 3, 0, 0, 0, 1126, 999) := by decide +kernel
theorem e_163_22 (d : Nat)  (z0 z1 z2 z3 z4 z5 : q_V) (st : List q_V) (v : q_H) (G : q_Gr) (Q : q_V → q_H → q_Gr → Prop) : q_wp d 163 22 [z0, z1, z2, z3, z4, z5] st v G Q = q_wp d 163 25 [z0, z1, z2, z3, z4, z5] (.inr (.inl 999) :: st) v G Q := q_w_ldc2 c_163_22
theorem c_163_25 : q_code 163 25 = (.invokestatic 137, 3, 151, 3, 0, 1095, 1) := by decide +kernel
theorem e_163_25 (d : Nat) (x0 x1 x2 : q_V) (z0 z1 z2 z3 z4 z5 : q_V) (v : q_H) (G : q_Gr) (Q : q_V → q_H → q_Gr → Prop) : q_wp d 163 25 [z0, z1, z2, z3, z4, z5] [x2, x1, x0] v G Q = q_call d 151 [x0, x1, x2] v G (fun r v G => q_wp d 163 28 [z0, z1, z2, z3, z4, z5] (q_push r []) v G Q) := q_wp_ca (m2 := 151) (k := 3) (as := [x0, x1, x2]) (rest := []) (congrArg q_kind c_163_25) (congrArg (fun w => w.2.2.1) c_163_25) (congrArg (fun w => w.2.2.2.1) c_163_25) rfl (Nat.le_of_ble_eq_true rfl) rfl
theorem c_163_28 : q_code 163 28 = (.ifCond .ne 6, 3, 0, 0, 0, 0, 0) := by decide +kernel
theorem e_163_28 (d : Nat) (a : Int) (z0 z1 z2 z3 z4 z5 : q_V) (st : List q_V) (v : q_H) (G : q_Gr) (Q : q_V → q_H → q_Gr → Prop) : q_wp d 163 28 [z0, z1, z2, z3, z4, z5] (.inl a :: st) v G Q = ((q_inR a) ∧ if ¬ a = 0 then q_wp d 163 34 [z0, z1, z2, z3, z4, z5] st v G Q else q_wp d 163 31 [z0, z1, z2, z3, z4, z5] st v G Q) := q_w_if_ne c_163_28 (by decide)
theorem c_163_31 : q_code 163 31 = (.ldc 147, 2, 0, 0, 0, 1099, (-1000001)) := by decide +kernel
theorem e_163_31 (d : Nat)  (z0 z1 z2 z3 z4 z5 : q_V) (st : List q_V) (v : q_H) (G : q_Gr) (Q : q_V → q_H → q_Gr → Prop) : q_wp d 163 31 [z0, z1, z2, z3, z4, z5] st v G Q = q_wp d 163 33 [z0, z1, z2, z3, z4, z5] (.inl (-1000001) :: st) v G Q := q_w_ldc c_163_31
theorem c_163_33 : q_code 163 33 = (.ireturn, 1, 0, 0, 0, 0, 0) := by decide +kernel
theorem e_163_33 (d : Nat) (a : Int) (z0 z1 z2 z3 z4 z5 : q_V) (v : q_H) (G : q_Gr) (Q : q_V → q_H → q_Gr → Prop) : q_wp d 163 33 [z0, z1, z2, z3, z4, z5] [.inl a] v G Q = Q (.inl a) v G := q_w_ireturn c_163_33 rfl
theorem c_163_34 : q_code 163 34 = (.aload_n 0, 1, 0, 0, 0, 0, 0) := by decide +kernel
theorem e_163_34 (d : Nat) (a : Option Nat) (z1 z2 z3 z4 z5 : q_V) (st : List q_V) (v : q_H) (G : q_Gr) (Q : q_V → q_H → q_Gr → Prop) : q_wp d 163 34 [.inr (.inr (.inl a)), z1, z2, z3, z4, z5] st v G Q = q_wp d 163 35 [.inr (.inr (.inl a)), z1, z2, z3, z4, z5] (.inr (.inr (.inl a)) :: st) v G Q := q_w_aload_n c_163_34 rfl
theorem c_163_35 : q_code 163 35 = (.iload_n 1, 1, 0, 0, 0, 0, 0) := by decide +kernel
theorem e_163_35 (d : Nat) (a : Int) (z0 z2 z3 z4 z5 : q_V) (st : List q_V) (v : q_H) (G : q_Gr) (Q : q_V → q_H → q_Gr → Prop) : q_wp d 163 35 [z0, .inl a, z2, z3, z4, z5] st v G Q = q_wp d 163 36 [z0, .inl a, z2, z3, z4, z5] (.inl a :: st) v G Q := q_w_iload_n c_163_35 rfl
theorem c_163_36 : q_code 163 36 = (.iload_n 2, 1, 0, 0, 0, 0, 0) := by decide +kernel
theorem e_163_36 (d : Nat) (a : Int) (z0 z1 z3 z4 z5 : q_V) (st : List q_V) (v : q_H) (G : q_Gr) (Q : q_V → q_H → q_Gr → Prop) : q_wp d 163 36 [z0, z1, .inl a, z3, z4, z5] st v G Q = q_wp d 163 37 [z0, z1, .inl a, z3, z4, z5] (.inl a :: st) v G Q := q_w_iload_n c_163_36 rfl
theorem c_163_37 : q_code 163 37 = (.invokevirtual 154, 3, 161, 3, 0, 1127, 1) := by decide +kernel
theorem e_163_37 (d : Nat) (x0 x1 x2 : q_V) (z0 z1 z2 z3 z4 z5 : q_V) (v : q_H) (G : q_Gr) (Q : q_V → q_H → q_Gr → Prop) : q_wp d 163 37 [z0, z1, z2, z3, z4, z5] [x2, x1, x0] v G Q = q_call d 161 [x0, x1, x2] v G (fun r v G => q_wp d 163 40 [z0, z1, z2, z3, z4, z5] (q_push r []) v G Q) := q_wp_ca (m2 := 161) (k := 3) (as := [x0, x1, x2]) (rest := []) (congrArg q_kind c_163_37) (congrArg (fun w => w.2.2.1) c_163_37) (congrArg (fun w => w.2.2.2.1) c_163_37) rfl (Nat.le_of_ble_eq_true rfl) rfl
theorem c_163_40 : q_code 163 40 = (.istore 4, 2, 0, 0, 0, 0, 0) := by decide +kernel
theorem e_163_40 (d : Nat) (a : Int) (z0 z1 z2 z3 z4 z5 : q_V) (st : List q_V) (v : q_H) (G : q_Gr) (Q : q_V → q_H → q_Gr → Prop) : q_wp d 163 40 [z0, z1, z2, z3, z4, z5] (.inl a :: st) v G Q = q_wp d 163 42 [z0, z1, z2, z3, .inl a, z5] st v G Q := q_w_istore c_163_40
theorem c_163_42 : q_code 163 42 = (.aload_n 0, 1, 0, 0, 0, 0, 0) := by decide +kernel
theorem e_163_42 (d : Nat) (a : Option Nat) (z1 z2 z3 z4 z5 : q_V) (st : List q_V) (v : q_H) (G : q_Gr) (Q : q_V → q_H → q_Gr → Prop) : q_wp d 163 42 [.inr (.inr (.inl a)), z1, z2, z3, z4, z5] st v G Q = q_wp d 163 43 [.inr (.inr (.inl a)), z1, z2, z3, z4, z5] (.inr (.inr (.inl a)) :: st) v G Q := q_w_aload_n c_163_42 rfl
theorem c_163_43 : q_code 163 43 = (.iload_n 1, 1, 0, 0, 0, 0, 0) := by decide +kernel
theorem e_163_43 (d : Nat) (a : Int) (z0 z2 z3 z4 z5 : q_V) (st : List q_V) (v : q_H) (G : q_Gr) (Q : q_V → q_H → q_Gr → Prop) : q_wp d 163 43 [z0, .inl a, z2, z3, z4, z5] st v G Q = q_wp d 163 44 [z0, .inl a, z2, z3, z4, z5] (.inl a :: st) v G Q := q_w_iload_n c_163_43 rfl
theorem c_163_44 : q_code 163 44 = (.iload_n 2, 1, 0, 0, 0, 0, 0) := by decide +kernel
theorem e_163_44 (d : Nat) (a : Int) (z0 z1 z3 z4 z5 : q_V) (st : List q_V) (v : q_H) (G : q_Gr) (Q : q_V → q_H → q_Gr → Prop) : q_wp d 163 44 [z0, z1, .inl a, z3, z4, z5] st v G Q = q_wp d 163 45 [z0, z1, .inl a, z3, z4, z5] (.inl a :: st) v G Q := q_w_iload_n c_163_44 rfl
theorem c_163_45 : q_code 163 45 = (.invokevirtual 164, 3, 162, 3, 0, 1130, 1) := by decide +kernel
theorem e_163_45 (d : Nat) (x0 x1 x2 : q_V) (z0 z1 z2 z3 z4 z5 : q_V) (v : q_H) (G : q_Gr) (Q : q_V → q_H → q_Gr → Prop) : q_wp d 163 45 [z0, z1, z2, z3, z4, z5] [x2, x1, x0] v G Q = q_call d 162 [x0, x1, x2] v G (fun r v G => q_wp d 163 48 [z0, z1, z2, z3, z4, z5] (q_push r []) v G Q) := q_wp_ca (m2 := 162) (k := 3) (as := [x0, x1, x2]) (rest := []) (congrArg q_kind c_163_45) (congrArg (fun w => w.2.2.1) c_163_45) (congrArg (fun w => w.2.2.2.1) c_163_45) rfl (Nat.le_of_ble_eq_true rfl) rfl
theorem c_163_48 : q_code 163 48 = (.ifCond .ne 93, 3, 0, 0, 0, 0, 0) := by decide +kernel
theorem e_163_48 (d : Nat) (a : Int) (z0 z1 z2 z3 z4 z5 : q_V) (st : List q_V) (v : q_H) (G : q_Gr) (Q : q_V → q_H → q_Gr → Prop) : q_wp d 163 48 [z0, z1, z2, z3, z4, z5] (.inl a :: st) v G Q = ((q_inR a) ∧ if ¬ a = 0 then q_wp d 163 141 [z0, z1, z2, z3, z4, z5] st v G Q else q_wp d 163 51 [z0, z1, z2, z3, z4, z5] st v G Q) := q_w_if_ne c_163_48 (by decide)
theorem c_163_51 : q_code 163 51 = (.aload_n 0, 1, 0, 0, 0, 0, 0) := by decide +kernel
theorem e_163_51 (d : Nat) (a : Option Nat) (z1 z2 z3 z4 z5 : q_V) (st : List q_V) (v : q_H) (G : q_Gr) (Q : q_V → q_H → q_Gr → Prop) : q_wp d 163 51 [.inr (.inr (.inl a)), z1, z2, z3, z4, z5] st v G Q = q_wp d 163 52 [.inr (.inr (.inl a)), z1, z2, z3, z4, z5] (.inr (.inr (.inl a)) :: st) v G Q := q_w_aload_n c_163_51 rfl
theorem c_163_52 : q_code 163 52 = (.getfield 19, 3, 11, 5, 1, 960, 0) := by decide +kernel
theorem e_163_52 (d : Nat) (a : Nat) (z0 z1 z2 z3 z4 z5 : q_V) (st : List q_V) (v : q_H) (G : q_Gr) (Q : q_V → q_H → q_Gr → Prop) : q_wp d 163 52 [z0, z1, z2, z3, z4, z5] (.inr (.inr (.inl (some a))) :: st) v G Q = (((G.2.1 a).1 = 11) ∧ q_wp d 163 55 [z0, z1, z2, z3, z4, z5] (.inr (.inr (.inl (G.1 a 5))) :: st) v G Q) := q_w_getP c_163_52
theorem c_163_55 : q_code 163 55 = (.iload_n 1, 1, 0, 0, 0, 0, 0) := by decide +kernel
theorem e_163_55 (d : Nat) (a : Int) (z0 z2 z3 z4 z5 : q_V) (st : List q_V) (v : q_H) (G : q_Gr) (Q : q_V → q_H → q_Gr → Prop) : q_wp d 163 55 [z0, .inl a, z2, z3, z4, z5] st v G Q = q_wp d 163 56 [z0, .inl a, z2, z3, z4, z5] (.inl a :: st) v G Q := q_w_iload_n c_163_55 rfl
theorem c_163_56 : q_code 163 56 = (.iaload, 1, 0, 0, 0, 0, 0) := by decide +kernel
theorem e_163_56 (d : Nat) (a : Nat) (i : Int) (z0 z1 z2 z3 z4 z5 : q_V) (st : List q_V) (v : q_H) (G : q_Gr) (Q : q_V → q_H → q_Gr → Prop) : q_wp d 163 56 [z0, z1, z2, z3, z4, z5] (.inl i :: .inr (.inr (.inl (some a))) :: st) v G Q = (((G.2.1 a).1 = 20 ∧ 0 ≤ i ∧ i < (G.2.1 a).2) ∧ q_wp d 163 57 [z0, z1, z2, z3, z4, z5] (.inl (v a i.toNat) :: st) v G Q) := q_w_iald c_163_56
theorem c_163_57 : q_code 163 57 = (.bipush 14, 2, 0, 0, 0, 0, 0) := by decide +kernel
theorem e_163_57 (d : Nat)  (z0 z1 z2 z3 z4 z5 : q_V) (st : List q_V) (v : q_H) (G : q_Gr) (Q : q_V → q_H → q_Gr → Prop) : q_wp d 163 57 [z0, z1, z2, z3, z4, z5] st v G Q = q_wp d 163 59 [z0, z1, z2, z3, z4, z5] (.inl 14 :: st) v G Q := (q_w_bipush c_163_57).trans (by simp only [show ((-128 : Int) ≤ 14 ∧ (14 : Int) ≤ 127) = True by decide, true_and])
theorem c_163_59 : q_code 163 59 = (.if_icmp .ne 6, 3, 0, 0, 0, 0, 0) := by decide +kernel
theorem e_163_59 (d : Nat) (a b : Int) (z0 z1 z2 z3 z4 z5 : q_V) (st : List q_V) (v : q_H) (G : q_Gr) (Q : q_V → q_H → q_Gr → Prop) : q_wp d 163 59 [z0, z1, z2, z3, z4, z5] (.inl b :: .inl a :: st) v G Q = ((q_inR a ∧ q_inR b) ∧ if ¬ a = b then q_wp d 163 65 [z0, z1, z2, z3, z4, z5] st v G Q else q_wp d 163 62 [z0, z1, z2, z3, z4, z5] st v G Q) := q_w_icmp_ne c_163_59 (by decide)
theorem c_163_62 : q_code 163 62 = (.ldc 168, 2, 0, 0, 0, 1133, (-1000003)) := by decide +kernel
theorem e_163_62 (d : Nat)  (z0 z1 z2 z3 z4 z5 : q_V) (st : List q_V) (v : q_H) (G : q_Gr) (Q : q_V → q_H → q_Gr → Prop) : q_wp d 163 62 [z0, z1, z2, z3, z4, z5] st v G Q = q_wp d 163 64 [z0, z1, z2, z3, z4, z5] (.inl (-1000003) :: st) v G Q := q_w_ldc c_163_62
theorem c_163_64 : q_code 163 64 = (.ireturn, 1, 0, 0, 0, 0, 0) := by decide +kernel
theorem e_163_64 (d : Nat) (a : Int) (z0 z1 z2 z3 z4 z5 : q_V) (v : q_H) (G : q_Gr) (Q : q_V → q_H → q_Gr → Prop) : q_wp d 163 64 [z0, z1, z2, z3, z4, z5] [.inl a] v G Q = Q (.inl a) v G := q_w_ireturn c_163_64 rfl
theorem c_163_65 : q_code 163 65 = (.bipush 14, 2, 0, 0, 0, 0, 0) := by decide +kernel
theorem e_163_65 (d : Nat)  (z0 z1 z2 z3 z4 z5 : q_V) (st : List q_V) (v : q_H) (G : q_Gr) (Q : q_V → q_H → q_Gr → Prop) : q_wp d 163 65 [z0, z1, z2, z3, z4, z5] st v G Q = q_wp d 163 67 [z0, z1, z2, z3, z4, z5] (.inl 14 :: st) v G Q := (q_w_bipush c_163_65).trans (by simp only [show ((-128 : Int) ≤ 14 ∧ (14 : Int) ≤ 127) = True by decide, true_and])
theorem c_163_67 : q_code 163 67 = (.iload_n 1, 1, 0, 0, 0, 0, 0) := by decide +kernel
theorem e_163_67 (d : Nat) (a : Int) (z0 z2 z3 z4 z5 : q_V) (st : List q_V) (v : q_H) (G : q_Gr) (Q : q_V → q_H → q_Gr → Prop) : q_wp d 163 67 [z0, .inl a, z2, z3, z4, z5] st v G Q = q_wp d 163 68 [z0, .inl a, z2, z3, z4, z5] (.inl a :: st) v G Q := q_w_iload_n c_163_67 rfl
theorem c_163_68 : q_code 163 68 = (.imul, 1, 0, 0, 0, 0, 0) := by decide +kernel
theorem e_163_68 (d : Nat) (a b : Int) (z0 z1 z2 z3 z4 z5 : q_V) (st : List q_V) (v : q_H) (G : q_Gr) (Q : q_V → q_H → q_Gr → Prop) : q_wp d 163 68 [z0, z1, z2, z3, z4, z5] (.inl b :: .inl a :: st) v G Q = q_wp d 163 69 [z0, z1, z2, z3, z4, z5] (.inl (a * b) :: st) v G Q := q_w_imul c_163_68
theorem c_163_69 : q_code 163 69 = (.aload_n 0, 1, 0, 0, 0, 0, 0) := by decide +kernel
theorem e_163_69 (d : Nat) (a : Option Nat) (z1 z2 z3 z4 z5 : q_V) (st : List q_V) (v : q_H) (G : q_Gr) (Q : q_V → q_H → q_Gr → Prop) : q_wp d 163 69 [.inr (.inr (.inl a)), z1, z2, z3, z4, z5] st v G Q = q_wp d 163 70 [.inr (.inr (.inl a)), z1, z2, z3, z4, z5] (.inr (.inr (.inl a)) :: st) v G Q := q_w_aload_n c_163_69 rfl
theorem c_163_70 : q_code 163 70 = (.getfield 19, 3, 11, 5, 1, 960, 0) := by decide +kernel
theorem e_163_70 (d : Nat) (a : Nat) (z0 z1 z2 z3 z4 z5 : q_V) (st : List q_V) (v : q_H) (G : q_Gr) (Q : q_V → q_H → q_Gr → Prop) : q_wp d 163 70 [z0, z1, z2, z3, z4, z5] (.inr (.inr (.inl (some a))) :: st) v G Q = (((G.2.1 a).1 = 11) ∧ q_wp d 163 73 [z0, z1, z2, z3, z4, z5] (.inr (.inr (.inl (G.1 a 5))) :: st) v G Q) := q_w_getP c_163_70
theorem c_163_73 : q_code 163 73 = (.iload_n 1, 1, 0, 0, 0, 0, 0) := by decide +kernel
theorem e_163_73 (d : Nat) (a : Int) (z0 z2 z3 z4 z5 : q_V) (st : List q_V) (v : q_H) (G : q_Gr) (Q : q_V → q_H → q_Gr → Prop) : q_wp d 163 73 [z0, .inl a, z2, z3, z4, z5] st v G Q = q_wp d 163 74 [z0, .inl a, z2, z3, z4, z5] (.inl a :: st) v G Q := q_w_iload_n c_163_73 rfl
theorem c_163_74 : q_code 163 74 = (.iaload, 1, 0, 0, 0, 0, 0) := by decide +kernel
theorem e_163_74 (d : Nat) (a : Nat) (i : Int) (z0 z1 z2 z3 z4 z5 : q_V) (st : List q_V) (v : q_H) (G : q_Gr) (Q : q_V → q_H → q_Gr → Prop) : q_wp d 163 74 [z0, z1, z2, z3, z4, z5] (.inl i :: .inr (.inr (.inl (some a))) :: st) v G Q = (((G.2.1 a).1 = 20 ∧ 0 ≤ i ∧ i < (G.2.1 a).2) ∧ q_wp d 163 75 [z0, z1, z2, z3, z4, z5] (.inl (v a i.toNat) :: st) v G Q) := q_w_iald c_163_74
theorem c_163_75 : q_code 163 75 = (.iadd, 1, 0, 0, 0, 0, 0) := by decide +kernel
theorem e_163_75 (d : Nat) (a b : Int) (z0 z1 z2 z3 z4 z5 : q_V) (st : List q_V) (v : q_H) (G : q_Gr) (Q : q_V → q_H → q_Gr → Prop) : q_wp d 163 75 [z0, z1, z2, z3, z4, z5] (.inl b :: .inl a :: st) v G Q = q_wp d 163 76 [z0, z1, z2, z3, z4, z5] (.inl (a + b) :: st) v G Q := q_w_iadd c_163_75
theorem c_163_76 : q_code 163 76 = (.istore 5, 2, 0, 0, 0, 0, 0) := by decide +kernel
theorem e_163_76 (d : Nat) (a : Int) (z0 z1 z2 z3 z4 z5 : q_V) (st : List q_V) (v : q_H) (G : q_Gr) (Q : q_V → q_H → q_Gr → Prop) : q_wp d 163 76 [z0, z1, z2, z3, z4, z5] (.inl a :: st) v G Q = q_wp d 163 78 [z0, z1, z2, z3, z4, .inl a] st v G Q := q_w_istore c_163_76
theorem c_163_78 : q_code 163 78 = (.iload 5, 2, 0, 0, 0, 0, 0) := by decide +kernel
theorem e_163_78 (d : Nat) (a : Int) (z0 z1 z2 z3 z4 : q_V) (st : List q_V) (v : q_H) (G : q_Gr) (Q : q_V → q_H → q_Gr → Prop) : q_wp d 163 78 [z0, z1, z2, z3, z4, .inl a] st v G Q = q_wp d 163 80 [z0, z1, z2, z3, z4, .inl a] (.inl a :: st) v G Q := q_w_iload c_163_78 rfl
theorem c_163_80 : q_code 163 80 = (.iload 4, 2, 0, 0, 0, 0, 0) := by decide +kernel
theorem e_163_80 (d : Nat) (a : Int) (z0 z1 z2 z3 z5 : q_V) (st : List q_V) (v : q_H) (G : q_Gr) (Q : q_V → q_H → q_Gr → Prop) : q_wp d 163 80 [z0, z1, z2, z3, .inl a, z5] st v G Q = q_wp d 163 82 [z0, z1, z2, z3, .inl a, z5] (.inl a :: st) v G Q := q_w_iload c_163_80 rfl
theorem c_163_82 : q_code 163 82 = (.if_icmp .le 41, 3, 0, 0, 0, 0, 0) := by decide +kernel
theorem e_163_82 (d : Nat) (a b : Int) (z0 z1 z2 z3 z4 z5 : q_V) (st : List q_V) (v : q_H) (G : q_Gr) (Q : q_V → q_H → q_Gr → Prop) : q_wp d 163 82 [z0, z1, z2, z3, z4, z5] (.inl b :: .inl a :: st) v G Q = ((q_inR a ∧ q_inR b) ∧ if a ≤ b then q_wp d 163 123 [z0, z1, z2, z3, z4, z5] st v G Q else q_wp d 163 85 [z0, z1, z2, z3, z4, z5] st v G Q) := q_w_icmp_le c_163_82 (by decide)
theorem c_163_85 : q_code 163 85 = (.aload_n 0, 1, 0, 0, 0, 0, 0) := by decide +kernel
theorem e_163_85 (d : Nat) (a : Option Nat) (z1 z2 z3 z4 z5 : q_V) (st : List q_V) (v : q_H) (G : q_Gr) (Q : q_V → q_H → q_Gr → Prop) : q_wp d 163 85 [.inr (.inr (.inl a)), z1, z2, z3, z4, z5] st v G Q = q_wp d 163 86 [.inr (.inr (.inl a)), z1, z2, z3, z4, z5] (.inr (.inr (.inl a)) :: st) v G Q := q_w_aload_n c_163_85 rfl
theorem c_163_86 : q_code 163 86 = (.getfield 22, 3, 11, 6, 1, 961, 0) := by decide +kernel
theorem e_163_86 (d : Nat) (a : Nat) (z0 z1 z2 z3 z4 z5 : q_V) (st : List q_V) (v : q_H) (G : q_Gr) (Q : q_V → q_H → q_Gr → Prop) : q_wp d 163 86 [z0, z1, z2, z3, z4, z5] (.inr (.inr (.inl (some a))) :: st) v G Q = (((G.2.1 a).1 = 11) ∧ q_wp d 163 89 [z0, z1, z2, z3, z4, z5] (.inr (.inr (.inl (G.1 a 6))) :: st) v G Q) := q_w_getP c_163_86
theorem c_163_89 : q_code 163 89 = (.iload 5, 2, 0, 0, 0, 0, 0) := by decide +kernel
theorem e_163_89 (d : Nat) (a : Int) (z0 z1 z2 z3 z4 : q_V) (st : List q_V) (v : q_H) (G : q_Gr) (Q : q_V → q_H → q_Gr → Prop) : q_wp d 163 89 [z0, z1, z2, z3, z4, .inl a] st v G Q = q_wp d 163 91 [z0, z1, z2, z3, z4, .inl a] (.inl a :: st) v G Q := q_w_iload c_163_89 rfl
theorem c_163_91 : q_code 163 91 = (.aload_n 0, 1, 0, 0, 0, 0, 0) := by decide +kernel
theorem e_163_91 (d : Nat) (a : Option Nat) (z1 z2 z3 z4 z5 : q_V) (st : List q_V) (v : q_H) (G : q_Gr) (Q : q_V → q_H → q_Gr → Prop) : q_wp d 163 91 [.inr (.inr (.inl a)), z1, z2, z3, z4, z5] st v G Q = q_wp d 163 92 [.inr (.inr (.inl a)), z1, z2, z3, z4, z5] (.inr (.inr (.inl a)) :: st) v G Q := q_w_aload_n c_163_91 rfl
theorem c_163_92 : q_code 163 92 = (.getfield 22, 3, 11, 6, 1, 961, 0) := by decide +kernel
theorem e_163_92 (d : Nat) (a : Nat) (z0 z1 z2 z3 z4 z5 : q_V) (st : List q_V) (v : q_H) (G : q_Gr) (Q : q_V → q_H → q_Gr → Prop) : q_wp d 163 92 [z0, z1, z2, z3, z4, z5] (.inr (.inr (.inl (some a))) :: st) v G Q = (((G.2.1 a).1 = 11) ∧ q_wp d 163 95 [z0, z1, z2, z3, z4, z5] (.inr (.inr (.inl (G.1 a 6))) :: st) v G Q) := q_w_getP c_163_92
theorem c_163_95 : q_code 163 95 = (.iload 5, 2, 0, 0, 0, 0, 0) := by decide +kernel
theorem e_163_95 (d : Nat) (a : Int) (z0 z1 z2 z3 z4 : q_V) (st : List q_V) (v : q_H) (G : q_Gr) (Q : q_V → q_H → q_Gr → Prop) : q_wp d 163 95 [z0, z1, z2, z3, z4, .inl a] st v G Q = q_wp d 163 97 [z0, z1, z2, z3, z4, .inl a] (.inl a :: st) v G Q := q_w_iload c_163_95 rfl
theorem c_163_97 : q_code 163 97 = (.iconst 1, 1, 0, 0, 0, 0, 0) := by decide +kernel
theorem e_163_97 (d : Nat)  (z0 z1 z2 z3 z4 z5 : q_V) (st : List q_V) (v : q_H) (G : q_Gr) (Q : q_V → q_H → q_Gr → Prop) : q_wp d 163 97 [z0, z1, z2, z3, z4, z5] st v G Q = q_wp d 163 98 [z0, z1, z2, z3, z4, z5] (.inl 1 :: st) v G Q := q_w_iconst c_163_97
theorem c_163_98 : q_code 163 98 = (.isub, 1, 0, 0, 0, 0, 0) := by decide +kernel
theorem e_163_98 (d : Nat) (a b : Int) (z0 z1 z2 z3 z4 z5 : q_V) (st : List q_V) (v : q_H) (G : q_Gr) (Q : q_V → q_H → q_Gr → Prop) : q_wp d 163 98 [z0, z1, z2, z3, z4, z5] (.inl b :: .inl a :: st) v G Q = q_wp d 163 99 [z0, z1, z2, z3, z4, z5] (.inl (a - b) :: st) v G Q := q_w_isub c_163_98
theorem c_163_99 : q_code 163 99 = (.iaload, 1, 0, 0, 0, 0, 0) := by decide +kernel
theorem e_163_99 (d : Nat) (a : Nat) (i : Int) (z0 z1 z2 z3 z4 z5 : q_V) (st : List q_V) (v : q_H) (G : q_Gr) (Q : q_V → q_H → q_Gr → Prop) : q_wp d 163 99 [z0, z1, z2, z3, z4, z5] (.inl i :: .inr (.inr (.inl (some a))) :: st) v G Q = (((G.2.1 a).1 = 20 ∧ 0 ≤ i ∧ i < (G.2.1 a).2) ∧ q_wp d 163 100 [z0, z1, z2, z3, z4, z5] (.inl (v a i.toNat) :: st) v G Q) := q_w_iald c_163_99
theorem c_163_100 : q_code 163 100 = (.iastore, 1, 0, 0, 0, 0, 0) := by decide +kernel
theorem e_163_100 (d : Nat) (a : Nat) (i b : Int) (z0 z1 z2 z3 z4 z5 : q_V) (st : List q_V) (v : q_H) (G : q_Gr) (Q : q_V → q_H → q_Gr → Prop) : q_wp d 163 100 [z0, z1, z2, z3, z4, z5] (.inl b :: .inl i :: .inr (.inr (.inl (some a))) :: st) v G Q = (((G.2.1 a).1 = 20 ∧ 32 ≤ a ∧ 0 ≤ i ∧ i < (G.2.1 a).2) ∧ q_wp d 163 101 [z0, z1, z2, z3, z4, z5] st (q_up v a i.toNat b) G Q) := q_w_iast c_163_100
theorem c_163_101 : q_code 163 101 = (.aload_n 0, 1, 0, 0, 0, 0, 0) := by decide +kernel
theorem e_163_101 (d : Nat) (a : Option Nat) (z1 z2 z3 z4 z5 : q_V) (st : List q_V) (v : q_H) (G : q_Gr) (Q : q_V → q_H → q_Gr → Prop) : q_wp d 163 101 [.inr (.inr (.inl a)), z1, z2, z3, z4, z5] st v G Q = q_wp d 163 102 [.inr (.inr (.inl a)), z1, z2, z3, z4, z5] (.inr (.inr (.inl a)) :: st) v G Q := q_w_aload_n c_163_101 rfl
theorem c_163_102 : q_code 163 102 = (.getfield 25, 3, 11, 7, 1, 962, 0) := by decide +kernel
theorem e_163_102 (d : Nat) (a : Nat) (z0 z1 z2 z3 z4 z5 : q_V) (st : List q_V) (v : q_H) (G : q_Gr) (Q : q_V → q_H → q_Gr → Prop) : q_wp d 163 102 [z0, z1, z2, z3, z4, z5] (.inr (.inr (.inl (some a))) :: st) v G Q = (((G.2.1 a).1 = 11) ∧ q_wp d 163 105 [z0, z1, z2, z3, z4, z5] (.inr (.inr (.inl (G.1 a 7))) :: st) v G Q) := q_w_getP c_163_102
theorem c_163_105 : q_code 163 105 = (.iload 5, 2, 0, 0, 0, 0, 0) := by decide +kernel
theorem e_163_105 (d : Nat) (a : Int) (z0 z1 z2 z3 z4 : q_V) (st : List q_V) (v : q_H) (G : q_Gr) (Q : q_V → q_H → q_Gr → Prop) : q_wp d 163 105 [z0, z1, z2, z3, z4, .inl a] st v G Q = q_wp d 163 107 [z0, z1, z2, z3, z4, .inl a] (.inl a :: st) v G Q := q_w_iload c_163_105 rfl
theorem c_163_107 : q_code 163 107 = (.aload_n 0, 1, 0, 0, 0, 0, 0) := by decide +kernel
theorem e_163_107 (d : Nat) (a : Option Nat) (z1 z2 z3 z4 z5 : q_V) (st : List q_V) (v : q_H) (G : q_Gr) (Q : q_V → q_H → q_Gr → Prop) : q_wp d 163 107 [.inr (.inr (.inl a)), z1, z2, z3, z4, z5] st v G Q = q_wp d 163 108 [.inr (.inr (.inl a)), z1, z2, z3, z4, z5] (.inr (.inr (.inl a)) :: st) v G Q := q_w_aload_n c_163_107 rfl
theorem c_163_108 : q_code 163 108 = (.getfield 25, 3, 11, 7, 1, 962, 0) := by decide +kernel
theorem e_163_108 (d : Nat) (a : Nat) (z0 z1 z2 z3 z4 z5 : q_V) (st : List q_V) (v : q_H) (G : q_Gr) (Q : q_V → q_H → q_Gr → Prop) : q_wp d 163 108 [z0, z1, z2, z3, z4, z5] (.inr (.inr (.inl (some a))) :: st) v G Q = (((G.2.1 a).1 = 11) ∧ q_wp d 163 111 [z0, z1, z2, z3, z4, z5] (.inr (.inr (.inl (G.1 a 7))) :: st) v G Q) := q_w_getP c_163_108
theorem c_163_111 : q_code 163 111 = (.iload 5, 2, 0, 0, 0, 0, 0) := by decide +kernel
theorem e_163_111 (d : Nat) (a : Int) (z0 z1 z2 z3 z4 : q_V) (st : List q_V) (v : q_H) (G : q_Gr) (Q : q_V → q_H → q_Gr → Prop) : q_wp d 163 111 [z0, z1, z2, z3, z4, .inl a] st v G Q = q_wp d 163 113 [z0, z1, z2, z3, z4, .inl a] (.inl a :: st) v G Q := q_w_iload c_163_111 rfl
theorem c_163_113 : q_code 163 113 = (.iconst 1, 1, 0, 0, 0, 0, 0) := by decide +kernel
theorem e_163_113 (d : Nat)  (z0 z1 z2 z3 z4 z5 : q_V) (st : List q_V) (v : q_H) (G : q_Gr) (Q : q_V → q_H → q_Gr → Prop) : q_wp d 163 113 [z0, z1, z2, z3, z4, z5] st v G Q = q_wp d 163 114 [z0, z1, z2, z3, z4, z5] (.inl 1 :: st) v G Q := q_w_iconst c_163_113
theorem c_163_114 : q_code 163 114 = (.isub, 1, 0, 0, 0, 0, 0) := by decide +kernel
theorem e_163_114 (d : Nat) (a b : Int) (z0 z1 z2 z3 z4 z5 : q_V) (st : List q_V) (v : q_H) (G : q_Gr) (Q : q_V → q_H → q_Gr → Prop) : q_wp d 163 114 [z0, z1, z2, z3, z4, z5] (.inl b :: .inl a :: st) v G Q = q_wp d 163 115 [z0, z1, z2, z3, z4, z5] (.inl (a - b) :: st) v G Q := q_w_isub c_163_114
theorem c_163_115 : q_code 163 115 = (.iaload, 1, 0, 0, 0, 0, 0) := by decide +kernel
theorem e_163_115 (d : Nat) (a : Nat) (i : Int) (z0 z1 z2 z3 z4 z5 : q_V) (st : List q_V) (v : q_H) (G : q_Gr) (Q : q_V → q_H → q_Gr → Prop) : q_wp d 163 115 [z0, z1, z2, z3, z4, z5] (.inl i :: .inr (.inr (.inl (some a))) :: st) v G Q = (((G.2.1 a).1 = 20 ∧ 0 ≤ i ∧ i < (G.2.1 a).2) ∧ q_wp d 163 116 [z0, z1, z2, z3, z4, z5] (.inl (v a i.toNat) :: st) v G Q) := q_w_iald c_163_115
theorem c_163_116 : q_code 163 116 = (.iastore, 1, 0, 0, 0, 0, 0) := by decide +kernel
theorem e_163_116 (d : Nat) (a : Nat) (i b : Int) (z0 z1 z2 z3 z4 z5 : q_V) (st : List q_V) (v : q_H) (G : q_Gr) (Q : q_V → q_H → q_Gr → Prop) : q_wp d 163 116 [z0, z1, z2, z3, z4, z5] (.inl b :: .inl i :: .inr (.inr (.inl (some a))) :: st) v G Q = (((G.2.1 a).1 = 20 ∧ 32 ≤ a ∧ 0 ≤ i ∧ i < (G.2.1 a).2) ∧ q_wp d 163 117 [z0, z1, z2, z3, z4, z5] st (q_up v a i.toNat b) G Q) := q_w_iast c_163_116
theorem c_163_117 : q_code 163 117 = (.iinc 5 (-1), 3, 0, 0, 0, 0, 0) := by decide +kernel
theorem e_163_117 (d : Nat) (a : Int) (z0 z1 z2 z3 z4 : q_V) (st : List q_V) (v : q_H) (G : q_Gr) (Q : q_V → q_H → q_Gr → Prop) : q_wp d 163 117 [z0, z1, z2, z3, z4, .inl a] st v G Q = q_wp d 163 120 [z0, z1, z2, z3, z4, .inl (a + (-1))] st v G Q := q_w_iinc c_163_117 rfl
theorem c_163_120 : q_code 163 120 = (.goto (-42), 3, 0, 0, 0, 0, 0) := by decide +kernel
theorem e_163_120 (d : Nat)  (z0 z1 z2 z3 z4 z5 : q_V) (st : List q_V) (v : q_H) (G : q_Gr) (Q : q_V → q_H → q_Gr → Prop) : q_wp d 163 120 [z0, z1, z2, z3, z4, z5] st v G Q = q_wp d 163 78 [z0, z1, z2, z3, z4, z5] st v G Q := q_w_goto c_163_120 (by decide)
theorem c_163_123 : q_code 163 123 = (.aload_n 0, 1, 0, 0, 0, 0, 0) := by decide +kernel
theorem e_163_123 (d : Nat) (a : Option Nat) (z1 z2 z3 z4 z5 : q_V) (st : List q_V) (v : q_H) (G : q_Gr) (Q : q_V → q_H → q_Gr → Prop) : q_wp d 163 123 [.inr (.inr (.inl a)), z1, z2, z3, z4, z5] st v G Q = q_wp d 163 124 [.inr (.inr (.inl a)), z1, z2, z3, z4, z5] (.inr (.inr (.inl a)) :: st) v G Q := q_w_aload_n c_163_123 rfl
theorem c_163_124 : q_code 163 124 = (.getfield 22, 3, 11, 6, 1, 961, 0) := by decide +kernel
theorem e_163_124 (d : Nat) (a : Nat) (z0 z1 z2 z3 z4 z5 : q_V) (st : List q_V) (v : q_H) (G : q_Gr) (Q : q_V → q_H → q_Gr → Prop) : q_wp d 163 124 [z0, z1, z2, z3, z4, z5] (.inr (.inr (.inl (some a))) :: st) v G Q = (((G.2.1 a).1 = 11) ∧ q_wp d 163 127 [z0, z1, z2, z3, z4, z5] (.inr (.inr (.inl (G.1 a 6))) :: st) v G Q) := q_w_getP c_163_124
theorem c_163_127 : q_code 163 127 = (.iload 4, 2, 0, 0, 0, 0, 0) := by decide +kernel
theorem e_163_127 (d : Nat) (a : Int) (z0 z1 z2 z3 z5 : q_V) (st : List q_V) (v : q_H) (G : q_Gr) (Q : q_V → q_H → q_Gr → Prop) : q_wp d 163 127 [z0, z1, z2, z3, .inl a, z5] st v G Q = q_wp d 163 129 [z0, z1, z2, z3, .inl a, z5] (.inl a :: st) v G Q := q_w_iload c_163_127 rfl
theorem c_163_129 : q_code 163 129 = (.iload_n 2, 1, 0, 0, 0, 0, 0) := by decide +kernel
theorem e_163_129 (d : Nat) (a : Int) (z0 z1 z3 z4 z5 : q_V) (st : List q_V) (v : q_H) (G : q_Gr) (Q : q_V → q_H → q_Gr → Prop) : q_wp d 163 129 [z0, z1, .inl a, z3, z4, z5] st v G Q = q_wp d 163 130 [z0, z1, .inl a, z3, z4, z5] (.inl a :: st) v G Q := q_w_iload_n c_163_129 rfl
theorem c_163_130 : q_code 163 130 = (.iastore, 1, 0, 0, 0, 0, 0) := by decide +kernel
theorem e_163_130 (d : Nat) (a : Nat) (i b : Int) (z0 z1 z2 z3 z4 z5 : q_V) (st : List q_V) (v : q_H) (G : q_Gr) (Q : q_V → q_H → q_Gr → Prop) : q_wp d 163 130 [z0, z1, z2, z3, z4, z5] (.inl b :: .inl i :: .inr (.inr (.inl (some a))) :: st) v G Q = (((G.2.1 a).1 = 20 ∧ 32 ≤ a ∧ 0 ≤ i ∧ i < (G.2.1 a).2) ∧ q_wp d 163 131 [z0, z1, z2, z3, z4, z5] st (q_up v a i.toNat b) G Q) := q_w_iast c_163_130
theorem c_163_131 : q_code 163 131 = (.aload_n 0, 1, 0, 0, 0, 0, 0) := by decide +kernel
theorem e_163_131 (d : Nat) (a : Option Nat) (z1 z2 z3 z4 z5 : q_V) (st : List q_V) (v : q_H) (G : q_Gr) (Q : q_V → q_H → q_Gr → Prop) : q_wp d 163 131 [.inr (.inr (.inl a)), z1, z2, z3, z4, z5] st v G Q = q_wp d 163 132 [.inr (.inr (.inl a)), z1, z2, z3, z4, z5] (.inr (.inr (.inl a)) :: st) v G Q := q_w_aload_n c_163_131 rfl
theorem c_163_132 : q_code 163 132 = (.getfield 19, 3, 11, 5, 1, 960, 0) := by decide +kernel
theorem e_163_132 (d : Nat) (a : Nat) (z0 z1 z2 z3 z4 z5 : q_V) (st : List q_V) (v : q_H) (G : q_Gr) (Q : q_V → q_H → q_Gr → Prop) : q_wp d 163 132 [z0, z1, z2, z3, z4, z5] (.inr (.inr (.inl (some a))) :: st) v G Q = (((G.2.1 a).1 = 11) ∧ q_wp d 163 135 [z0, z1, z2, z3, z4, z5] (.inr (.inr (.inl (G.1 a 5))) :: st) v G Q) := q_w_getP c_163_132
theorem c_163_135 : q_code 163 135 = (.iload_n 1, 1, 0, 0, 0, 0, 0) := by decide +kernel
theorem e_163_135 (d : Nat) (a : Int) (z0 z2 z3 z4 z5 : q_V) (st : List q_V) (v : q_H) (G : q_Gr) (Q : q_V → q_H → q_Gr → Prop) : q_wp d 163 135 [z0, .inl a, z2, z3, z4, z5] st v G Q = q_wp d 163 136 [z0, .inl a, z2, z3, z4, z5] (.inl a :: st) v G Q := q_w_iload_n c_163_135 rfl
theorem c_163_136 : q_code 163 136 = (.dup2, 1, 0, 0, 0, 0, 0) := by decide +kernel
theorem e_163_136 (d : Nat) (i : Int) (a : Nat) (z0 z1 z2 z3 z4 z5 : q_V) (st : List q_V) (v : q_H) (G : q_Gr) (Q : q_V → q_H → q_Gr → Prop) : q_wp d 163 136 [z0, z1, z2, z3, z4, z5] (.inl i :: .inr (.inr (.inl (some a))) :: st) v G Q = q_wp d 163 137 [z0, z1, z2, z3, z4, z5] (.inl i :: .inr (.inr (.inl (some a))) :: .inl i :: .inr (.inr (.inl (some a))) :: st) v G Q := q_w_dup2 c_163_136
theorem c_163_137 : q_code 163 137 = (.iaload, 1, 0, 0, 0, 0, 0) := by decide +kernel
theorem e_163_137 (d : Nat) (a : Nat) (i : Int) (z0 z1 z2 z3 z4 z5 : q_V) (st : List q_V) (v : q_H) (G : q_Gr) (Q : q_V → q_H → q_Gr → Prop) : q_wp d 163 137 [z0, z1, z2, z3, z4, z5] (.inl i :: .inr (.inr (.inl (some a))) :: st) v G Q = (((G.2.1 a).1 = 20 ∧ 0 ≤ i ∧ i < (G.2.1 a).2) ∧ q_wp d 163 138 [z0, z1, z2, z3, z4, z5] (.inl (v a i.toNat) :: st) v G Q) := q_w_iald c_163_137
theorem c_163_138 : q_code 163 138 = (.iconst 1, 1, 0, 0, 0, 0, 0) := by decide +kernel
theorem e_163_138 (d : Nat)  (z0 z1 z2 z3 z4 z5 : q_V) (st : List q_V) (v : q_H) (G : q_Gr) (Q : q_V → q_H → q_Gr → Prop) : q_wp d 163 138 [z0, z1, z2, z3, z4, z5] st v G Q = q_wp d 163 139 [z0, z1, z2, z3, z4, z5] (.inl 1 :: st) v G Q := q_w_iconst c_163_138
theorem c_163_139 : q_code 163 139 = (.iadd, 1, 0, 0, 0, 0, 0) := by decide +kernel
theorem e_163_139 (d : Nat) (a b : Int) (z0 z1 z2 z3 z4 z5 : q_V) (st : List q_V) (v : q_H) (G : q_Gr) (Q : q_V → q_H → q_Gr → Prop) : q_wp d 163 139 [z0, z1, z2, z3, z4, z5] (.inl b :: .inl a :: st) v G Q = q_wp d 163 140 [z0, z1, z2, z3, z4, z5] (.inl (a + b) :: st) v G Q := q_w_iadd c_163_139
theorem c_163_140 : q_code 163 140 = (.iastore, 1, 0, 0, 0, 0, 0) := by decide +kernel
theorem e_163_140 (d : Nat) (a : Nat) (i b : Int) (z0 z1 z2 z3 z4 z5 : q_V) (st : List q_V) (v : q_H) (G : q_Gr) (Q : q_V → q_H → q_Gr → Prop) : q_wp d 163 140 [z0, z1, z2, z3, z4, z5] (.inl b :: .inl i :: .inr (.inr (.inl (some a))) :: st) v G Q = (((G.2.1 a).1 = 20 ∧ 32 ≤ a ∧ 0 ≤ i ∧ i < (G.2.1 a).2) ∧ q_wp d 163 141 [z0, z1, z2, z3, z4, z5] st (q_up v a i.toNat b) G Q) := q_w_iast c_163_140
theorem c_163_141 : q_code 163 141 = (.aload_n 0, 1, 0, 0, 0, 0, 0) := by decide +kernel
theorem e_163_141 (d : Nat) (a : Option Nat) (z1 z2 z3 z4 z5 : q_V) (st : List q_V) (v : q_H) (G : q_Gr) (Q : q_V → q_H → q_Gr → Prop) : q_wp d 163 141 [.inr (.inr (.inl a)), z1, z2, z3, z4, z5] st v G Q = q_wp d 163 142 [.inr (.inr (.inl a)), z1, z2, z3, z4, z5] (.inr (.inr (.inl a)) :: st) v G Q := q_w_aload_n c_163_141 rfl
theorem c_163_142 : q_code 163 142 = (.getfield 25, 3, 11, 7, 1, 962, 0) := by decide +kernel
theorem e_163_142 (d : Nat) (a : Nat) (z0 z1 z2 z3 z4 z5 : q_V) (st : List q_V) (v : q_H) (G : q_Gr) (Q : q_V → q_H → q_Gr → Prop) : q_wp d 163 142 [z0, z1, z2, z3, z4, z5] (.inr (.inr (.inl (some a))) :: st) v G Q = (((G.2.1 a).1 = 11) ∧ q_wp d 163 145 [z0, z1, z2, z3, z4, z5] (.inr (.inr (.inl (G.1 a 7))) :: st) v G Q) := q_w_getP c_163_142
theorem c_163_145 : q_code 163 145 = (.iload 4, 2, 0, 0, 0, 0, 0) := by decide +kernel
theorem e_163_145 (d : Nat) (a : Int) (z0 z1 z2 z3 z5 : q_V) (st : List q_V) (v : q_H) (G : q_Gr) (Q : q_V → q_H → q_Gr → Prop) : q_wp d 163 145 [z0, z1, z2, z3, .inl a, z5] st v G Q = q_wp d 163 147 [z0, z1, z2, z3, .inl a, z5] (.inl a :: st) v G Q := q_w_iload c_163_145 rfl
theorem c_163_147 : q_code 163 147 = (.iload_n 3, 1, 0, 0, 0, 0, 0) := by decide +kernel
theorem e_163_147 (d : Nat) (a : Int) (z0 z1 z2 z4 z5 : q_V) (st : List q_V) (v : q_H) (G : q_Gr) (Q : q_V → q_H → q_Gr → Prop) : q_wp d 163 147 [z0, z1, z2, .inl a, z4, z5] st v G Q = q_wp d 163 148 [z0, z1, z2, .inl a, z4, z5] (.inl a :: st) v G Q := q_w_iload_n c_163_147 rfl
theorem c_163_148 : q_code 163 148 = (.iastore, 1, 0, 0, 0, 0, 0) := by decide +kernel
theorem e_163_148 (d : Nat) (a : Nat) (i b : Int) (z0 z1 z2 z3 z4 z5 : q_V) (st : List q_V) (v : q_H) (G : q_Gr) (Q : q_V → q_H → q_Gr → Prop) : q_wp d 163 148 [z0, z1, z2, z3, z4, z5] (.inl b :: .inl i :: .inr (.inr (.inl (some a))) :: st) v G Q = (((G.2.1 a).1 = 20 ∧ 32 ≤ a ∧ 0 ≤ i ∧ i < (G.2.1 a).2) ∧ q_wp d 163 149 [z0, z1, z2, z3, z4, z5] st (q_up v a i.toNat b) G Q) := q_w_iast c_163_148
theorem c_163_149 : q_code 163 149 = (.aload_n 0, 1, 0, 0, 0, 0, 0) := by decide +kernel
theorem e_163_149 (d : Nat) (a : Option Nat) (z1 z2 z3 z4 z5 : q_V) (st : List q_V) (v : q_H) (G : q_Gr) (Q : q_V → q_H → q_Gr → Prop) : q_wp d 163 149 [.inr (.inr (.inl a)), z1, z2, z3, z4, z5] st v G Q = q_wp d 163 150 [.inr (.inr (.inl a)), z1, z2, z3, z4, z5] (.inr (.inr (.inl a)) :: st) v G Q := q_w_aload_n c_163_149 rfl
theorem c_163_150 : q_code 163 150 = (.getfield 19, 3, 11, 5, 1, 960, 0) := by decide +kernel
theorem e_163_150 (d : Nat) (a : Nat) (z0 z1 z2 z3 z4 z5 : q_V) (st : List q_V) (v : q_H) (G : q_Gr) (Q : q_V → q_H → q_Gr → Prop) : q_wp d 163 150 [z0, z1, z2, z3, z4, z5] (.inr (.inr (.inl (some a))) :: st) v G Q = (((G.2.1 a).1 = 11) ∧ q_wp d 163 153 [z0, z1, z2, z3, z4, z5] (.inr (.inr (.inl (G.1 a 5))) :: st) v G Q) := q_w_getP c_163_150
theorem c_163_153 : q_code 163 153 = (.iload_n 1, 1, 0, 0, 0, 0, 0) := by decide +kernel
theorem e_163_153 (d : Nat) (a : Int) (z0 z2 z3 z4 z5 : q_V) (st : List q_V) (v : q_H) (G : q_Gr) (Q : q_V → q_H → q_Gr → Prop) : q_wp d 163 153 [z0, .inl a, z2, z3, z4, z5] st v G Q = q_wp d 163 154 [z0, .inl a, z2, z3, z4, z5] (.inl a :: st) v G Q := q_w_iload_n c_163_153 rfl
theorem c_163_154 : q_code 163 154 = (.iaload, 1, 0, 0, 0, 0, 0) := by decide +kernel
theorem e_163_154 (d : Nat) (a : Nat) (i : Int) (z0 z1 z2 z3 z4 z5 : q_V) (st : List q_V) (v : q_H) (G : q_Gr) (Q : q_V → q_H → q_Gr → Prop) : q_wp d 163 154 [z0, z1, z2, z3, z4, z5] (.inl i :: .inr (.inr (.inl (some a))) :: st) v G Q = (((G.2.1 a).1 = 20 ∧ 0 ≤ i ∧ i < (G.2.1 a).2) ∧ q_wp d 163 155 [z0, z1, z2, z3, z4, z5] (.inl (v a i.toNat) :: st) v G Q) := q_w_iald c_163_154
theorem c_163_155 : q_code 163 155 = (.ireturn, 1, 0, 0, 0, 0, 0) := by decide +kernel
theorem e_163_155 (d : Nat) (a : Int) (z0 z1 z2 z3 z4 z5 : q_V) (v : q_H) (G : q_Gr) (Q : q_V → q_H → q_Gr → Prop) : q_wp d 163 155 [z0, z1, z2, z3, z4, z5] [.inl a] v G Q = Q (.inl a) v G := q_w_ireturn c_163_155 rfl
theorem e_163 (d : Nat) (a0 : Nat) (a1 : Int) (a2 : Int) (a3 : Int) (v : q_H) (G : q_Gr) (Q : q_V → q_H → q_Gr → Prop) : q_call (d + 1) 163 [.inr (.inr (.inl (some a0))), .inl a1, .inl a2, .inl a3] v G Q = ((G.2.1 a0).1 = 11 ∧ q_wp d 163 0 [.inr (.inr (.inl (some a0))), .inl a1, .inl a2, .inl a3, .inr (.inr (.inr ())), .inr (.inr (.inr ()))] [] v G Q) := by
  rw [q_call_in (by decide) (Nat.le_of_ble_eq_true rfl) rfl]
  exact congrArg (· ∧ _) (propext beq_iff_eq)
/-- all but the heads of loops: [78] -/
def E163 := And.intro @e_163 (And.intro @e_163_0 (And.intro @e_163_1 (And.intro @e_163_2 (And.intro @e_163_5 (And.intro @e_163_6 (And.intro @e_163_9 (And.intro @e_163_12 (And.intro @e_163_13 (And.intro @e_163_16 (And.intro @e_163_19 (And.intro @e_163_20 (And.intro @e_163_21 (And.intro @e_163_22 (And.intro @e_163_25 (And.intro @e_163_28 (And.intro @e_163_31 (And.intro @e_163_33 (And.intro @e_163_34 (And.intro @e_163_35 (And.intro @e_163_36 (And.intro @e_163_37 (And.intro @e_163_40 (And.intro @e_163_42 (And.intro @e_163_43 (And.intro @e_163_44 (And.intro @e_163_45 (And.intro @e_163_48 (And.intro @e_163_51 (And.intro @e_163_52 (And.intro @e_163_55 (And.intro @e_163_56 (And.intro @e_163_57 (And.intro @e_163_59 (And.intro @e_163_62 (And.intro @e_163_64 (And.intro @e_163_65 (And.intro @e_163_67 (And.intro @e_163_68 (And.intro @e_163_69 (And.intro @e_163_70 (And.intro @e_163_73 (And.intro @e_163_74 (And.intro @e_163_75 (And.intro @e_163_76 (And.intro @e_163_80 (And.intro @e_163_82 (And.intro @e_163_85 (And.intro @e_163_86 (And.intro @e_163_89 (And.intro @e_163_91 (And.intro @e_163_92 (And.intro @e_163_95 (And.intro @e_163_97 (And.intro @e_163_98 (And.intro @e_163_99 (And.intro @e_163_100 (And.intro @e_163_101 (And.intro @e_163_102 (And.intro @e_163_105 (And.intro @e_163_107 (And.intro @e_163_108 (And.intro @e_163_111 (And.intro @e_163_113 (And.intro @e_163_114 (And.intro @e_163_115 (And.intro @e_163_116 (And.intro @e_163_117 (And.intro @e_163_120 (And.intro @e_163_123 (And.intro @e_163_124 (And.intro @e_163_127 (And.intro @e_163_129 (And.intro @e_163_130 (And.intro @e_163_131 (And.intro @e_163_132 (And.intro @e_163_135 (And.intro @e_163_136 (And.intro @e_163_137 (And.intro @e_163_138 (And.intro @e_163_139 (And.intro @e_163_140 (And.intro @e_163_141 (And.intro @e_163_142 (And.intro @e_163_145 (And.intro @e_163_147 (And.intro @e_163_148 (And.intro @e_163_149 (And.intro @e_163_150 (And.intro @e_163_153 (And.intro @e_163_154 (@e_163_155)))))))))))))))))))))))))))))))))))))))))))))))))))))))))))))))))))))))))))))))))))))))))))
/-! ProvenRowsModel.take(II)I -/
theorem c_164_0 : q_code 164 0 = (.aload_n 0, 1, 0, 0, 0, 0, 0) := by decide +kernel
theorem e_164_0 (d : Nat) (a : Option Nat) (z1 z2 z3 z4 z5 : q_V) (st : List q_V) (v : q_H) (G : q_Gr) (Q : q_V → q_H → q_Gr → Prop) : q_wp d 164 0 [.inr (.inr (.inl a)), z1, z2, z3, z4, z5] st v G Q = q_wp d 164 1 [.inr (.inr (.inl a)), z1, z2, z3, z4, z5] (.inr (.inr (.inl a)) :: st) v G Q := q_w_aload_n c_164_0 rfl
theorem c_164_1 : q_code 164 1 = (.iconst 0, 1, 0, 0, 0, 0, 0) := by decide +kernel
theorem e_164_1 (d : Nat)  (z0 z1 z2 z3 z4 z5 : q_V) (st : List q_V) (v : q_H) (G : q_Gr) (Q : q_V → q_H → q_Gr → Prop) : q_wp d 164 1 [z0, z1, z2, z3, z4, z5] st v G Q = q_wp d 164 2 [z0, z1, z2, z3, z4, z5] (.inl 0 :: st) v G Q := q_w_iconst c_164_1
theorem c_164_2 : q_code 164 2 = (.putfield 119, 3, 11, 0, 0, 955, 0) := by decide +kernel
theorem e_164_2 (d : Nat) (a : Nat) (b : Int) (z0 z1 z2 z3 z4 z5 : q_V) (st : List q_V) (v : q_H) (G : q_Gr) (Q : q_V → q_H → q_Gr → Prop) : q_wp d 164 2 [z0, z1, z2, z3, z4, z5] (.inl b :: .inr (.inr (.inl (some a))) :: st) v G Q = (((G.2.1 a).1 = 11) ∧ q_wp d 164 5 [z0, z1, z2, z3, z4, z5] st (q_up v a 0 b) G Q) := q_w_putI c_164_2
theorem c_164_5 : q_code 164 5 = (.iload_n 1, 1, 0, 0, 0, 0, 0) := by decide +kernel
theorem e_164_5 (d : Nat) (a : Int) (z0 z2 z3 z4 z5 : q_V) (st : List q_V) (v : q_H) (G : q_Gr) (Q : q_V → q_H → q_Gr → Prop) : q_wp d 164 5 [z0, .inl a, z2, z3, z4, z5] st v G Q = q_wp d 164 6 [z0, .inl a, z2, z3, z4, z5] (.inl a :: st) v G Q := q_w_iload_n c_164_5 rfl
theorem c_164_6 : q_code 164 6 = (.invokestatic 158, 3, 159, 1, 0, 1120, 1) := by decide +kernel
theorem e_164_6 (d : Nat) (x0 : q_V) (z0 z1 z2 z3 z4 z5 : q_V) (v : q_H) (G : q_Gr) (Q : q_V → q_H → q_Gr → Prop) : q_wp d 164 6 [z0, z1, z2, z3, z4, z5] [x0] v G Q = q_call d 159 [x0] v G (fun r v G => q_wp d 164 9 [z0, z1, z2, z3, z4, z5] (q_push r []) v G Q) := q_wp_ca (m2 := 159) (k := 1) (as := [x0]) (rest := []) (congrArg q_kind c_164_6) (congrArg (fun w => w.2.2.1) c_164_6) (congrArg (fun w => w.2.2.2.1) c_164_6) rfl (Nat.le_of_ble_eq_true rfl) rfl
theorem c_164_9 : q_code 164 9 = (.ifCond .eq 10, 3, 0, 0, 0, 0, 0) := by decide +kernel
theorem e_164_9 (d : Nat) (a : Int) (z0 z1 z2 z3 z4 z5 : q_V) (st : List q_V) (v : q_H) (G : q_Gr) (Q : q_V → q_H → q_Gr → Prop) : q_wp d 164 9 [z0, z1, z2, z3, z4, z5] (.inl a :: st) v G Q = ((q_inR a) ∧ if a = 0 then q_wp d 164 19 [z0, z1, z2, z3, z4, z5] st v G Q else q_wp d 164 12 [z0, z1, z2, z3, z4, z5] st v G Q) := q_w_if_eq c_164_9 (by decide)
theorem c_164_12 : q_code 164 12 = (.iload_n 2, 1, 0, 0, 0, 0, 0) := by decide +kernel
theorem e_164_12 (d : Nat) (a : Int) (z0 z1 z3 z4 z5 : q_V) (st : List q_V) (v : q_H) (G : q_Gr) (Q : q_V → q_H → q_Gr → Prop) : q_wp d 164 12 [z0, z1, .inl a, z3, z4, z5] st v G Q = q_wp d 164 13 [z0, z1, .inl a, z3, z4, z5] (.inl a :: st) v G Q := q_w_iload_n c_164_12 rfl
theorem c_164_13 : q_code 164 13 = (.invokestatic 161, 3, 160, 1, 0, 1123, 1) := by decide +kernel
theorem e_164_13 (d : Nat) (x0 : q_V) (z0 z1 z2 z3 z4 z5 : q_V) (v : q_H) (G : q_Gr) (Q : q_V → q_H → q_Gr → Prop) : q_wp d 164 13 [z0, z1, z2, z3, z4, z5] [x0] v G Q = q_call d 160 [x0] v G (fun r v G => q_wp d 164 16 [z0, z1, z2, z3, z4, z5] (q_push r []) v G Q) := q_wp_ca (m2 := 160) (k := 1) (as := [x0]) (rest := []) (congrArg q_kind c_164_13) (congrArg (fun w => w.2.2.1) c_164_13) (congrArg (fun w => w.2.2.2.1) c_164_13) rfl (Nat.le_of_ble_eq_true rfl) rfl
theorem c_164_16 : q_code 164 16 = (.ifCond .ne 6, 3, 0, 0, 0, 0, 0) := by decide +kernel
theorem e_164_16 (d : Nat) (a : Int) (z0 z1 z2 z3 z4 z5 : q_V) (st : List q_V) (v : q_H) (G : q_Gr) (Q : q_V → q_H → q_Gr → Prop) : q_wp d 164 16 [z0, z1, z2, z3, z4, z5] (.inl a :: st) v G Q = ((q_inR a) ∧ if ¬ a = 0 then q_wp d 164 22 [z0, z1, z2, z3, z4, z5] st v G Q else q_wp d 164 19 [z0, z1, z2, z3, z4, z5] st v G Q) := q_w_if_ne c_164_16 (by decide)
theorem c_164_19 : q_code 164 19 = (.ldc 147, 2, 0, 0, 0, 1099, (-1000001)) := by decide +kernel
theorem e_164_19 (d : Nat)  (z0 z1 z2 z3 z4 z5 : q_V) (st : List q_V) (v : q_H) (G : q_Gr) (Q : q_V → q_H → q_Gr → Prop) : q_wp d 164 19 [z0, z1, z2, z3, z4, z5] st v G Q = q_wp d 164 21 [z0, z1, z2, z3, z4, z5] (.inl (-1000001) :: st) v G Q := q_w_ldc c_164_19
theorem c_164_21 : q_code 164 21 = (.ireturn, 1, 0, 0, 0, 0, 0) := by decide +kernel
theorem e_164_21 (d : Nat) (a : Int) (z0 z1 z2 z3 z4 z5 : q_V) (v : q_H) (G : q_Gr) (Q : q_V → q_H → q_Gr → Prop) : q_wp d 164 21 [z0, z1, z2, z3, z4, z5] [.inl a] v G Q = Q (.inl a) v G := q_w_ireturn c_164_21 rfl
theorem c_164_22 : q_code 164 22 = (.aload_n 0, 1, 0, 0, 0, 0, 0) := by decide +kernel
theorem e_164_22 (d : Nat) (a : Option Nat) (z1 z2 z3 z4 z5 : q_V) (st : List q_V) (v : q_H) (G : q_Gr) (Q : q_V → q_H → q_Gr → Prop) : q_wp d 164 22 [.inr (.inr (.inl a)), z1, z2, z3, z4, z5] st v G Q = q_wp d 164 23 [.inr (.inr (.inl a)), z1, z2, z3, z4, z5] (.inr (.inr (.inl a)) :: st) v G Q := q_w_aload_n c_164_22 rfl
theorem c_164_23 : q_code 164 23 = (.iload_n 1, 1, 0, 0, 0, 0, 0) := by decide +kernel
theorem e_164_23 (d : Nat) (a : Int) (z0 z2 z3 z4 z5 : q_V) (st : List q_V) (v : q_H) (G : q_Gr) (Q : q_V → q_H → q_Gr → Prop) : q_wp d 164 23 [z0, .inl a, z2, z3, z4, z5] st v G Q = q_wp d 164 24 [z0, .inl a, z2, z3, z4, z5] (.inl a :: st) v G Q := q_w_iload_n c_164_23 rfl
theorem c_164_24 : q_code 164 24 = (.iload_n 2, 1, 0, 0, 0, 0, 0) := by decide +kernel
theorem e_164_24 (d : Nat) (a : Int) (z0 z1 z3 z4 z5 : q_V) (st : List q_V) (v : q_H) (G : q_Gr) (Q : q_V → q_H → q_Gr → Prop) : q_wp d 164 24 [z0, z1, .inl a, z3, z4, z5] st v G Q = q_wp d 164 25 [z0, z1, .inl a, z3, z4, z5] (.inl a :: st) v G Q := q_w_iload_n c_164_24 rfl
theorem c_164_25 : q_code 164 25 = (.invokevirtual 164, 3, 162, 3, 0, 1130, 1) := by decide +kernel
theorem e_164_25 (d : Nat) (x0 x1 x2 : q_V) (z0 z1 z2 z3 z4 z5 : q_V) (v : q_H) (G : q_Gr) (Q : q_V → q_H → q_Gr → Prop) : q_wp d 164 25 [z0, z1, z2, z3, z4, z5] [x2, x1, x0] v G Q = q_call d 162 [x0, x1, x2] v G (fun r v G => q_wp d 164 28 [z0, z1, z2, z3, z4, z5] (q_push r []) v G Q) := q_wp_ca (m2 := 162) (k := 3) (as := [x0, x1, x2]) (rest := []) (congrArg q_kind c_164_25) (congrArg (fun w => w.2.2.1) c_164_25) (congrArg (fun w => w.2.2.2.1) c_164_25) rfl (Nat.le_of_ble_eq_true rfl) rfl
theorem c_164_28 : q_code 164 28 = (.ifCond .ne 6, 3, 0, 0, 0, 0, 0) := by decide +kernel
theorem e_164_28 (d : Nat) (a : Int) (z0 z1 z2 z3 z4 z5 : q_V) (st : List q_V) (v : q_H) (G : q_Gr) (Q : q_V → q_H → q_Gr → Prop) : q_wp d 164 28 [z0, z1, z2, z3, z4, z5] (.inl a :: st) v G Q = ((q_inR a) ∧ if ¬ a = 0 then q_wp d 164 34 [z0, z1, z2, z3, z4, z5] st v G Q else q_wp d 164 31 [z0, z1, z2, z3, z4, z5] st v G Q) := q_w_if_ne c_164_28 (by decide)
theorem c_164_31 : q_code 164 31 = (.ldc 169, 2, 0, 0, 0, 1138, (-1000002)) := by decide +kernel
theorem e_164_31 (d : Nat)  (z0 z1 z2 z3 z4 z5 : q_V) (st : List q_V) (v : q_H) (G : q_Gr) (Q : q_V → q_H → q_Gr → Prop) : q_wp d 164 31 [z0, z1, z2, z3, z4, z5] st v G Q = q_wp d 164 33 [z0, z1, z2, z3, z4, z5] (.inl (-1000002) :: st) v G Q := q_w_ldc c_164_31
theorem c_164_33 : q_code 164 33 = (.ireturn, 1, 0, 0, 0, 0, 0) := by decide +kernel
theorem e_164_33 (d : Nat) (a : Int) (z0 z1 z2 z3 z4 z5 : q_V) (v : q_H) (G : q_Gr) (Q : q_V → q_H → q_Gr → Prop) : q_wp d 164 33 [z0, z1, z2, z3, z4, z5] [.inl a] v G Q = Q (.inl a) v G := q_w_ireturn c_164_33 rfl
theorem c_164_34 : q_code 164 34 = (.aload_n 0, 1, 0, 0, 0, 0, 0) := by decide +kernel
theorem e_164_34 (d : Nat) (a : Option Nat) (z1 z2 z3 z4 z5 : q_V) (st : List q_V) (v : q_H) (G : q_Gr) (Q : q_V → q_H → q_Gr → Prop) : q_wp d 164 34 [.inr (.inr (.inl a)), z1, z2, z3, z4, z5] st v G Q = q_wp d 164 35 [.inr (.inr (.inl a)), z1, z2, z3, z4, z5] (.inr (.inr (.inl a)) :: st) v G Q := q_w_aload_n c_164_34 rfl
theorem c_164_35 : q_code 164 35 = (.iload_n 1, 1, 0, 0, 0, 0, 0) := by decide +kernel
theorem e_164_35 (d : Nat) (a : Int) (z0 z2 z3 z4 z5 : q_V) (st : List q_V) (v : q_H) (G : q_Gr) (Q : q_V → q_H → q_Gr → Prop) : q_wp d 164 35 [z0, .inl a, z2, z3, z4, z5] st v G Q = q_wp d 164 36 [z0, .inl a, z2, z3, z4, z5] (.inl a :: st) v G Q := q_w_iload_n c_164_35 rfl
theorem c_164_36 : q_code 164 36 = (.iload_n 2, 1, 0, 0, 0, 0, 0) := by decide +kernel
theorem e_164_36 (d : Nat) (a : Int) (z0 z1 z3 z4 z5 : q_V) (st : List q_V) (v : q_H) (G : q_Gr) (Q : q_V → q_H → q_Gr → Prop) : q_wp d 164 36 [z0, z1, .inl a, z3, z4, z5] st v G Q = q_wp d 164 37 [z0, z1, .inl a, z3, z4, z5] (.inl a :: st) v G Q := q_w_iload_n c_164_36 rfl
theorem c_164_37 : q_code 164 37 = (.invokevirtual 154, 3, 161, 3, 0, 1127, 1) := by decide +kernel
theorem e_164_37 (d : Nat) (x0 x1 x2 : q_V) (z0 z1 z2 z3 z4 z5 : q_V) (v : q_H) (G : q_Gr) (Q : q_V → q_H → q_Gr → Prop) : q_wp d 164 37 [z0, z1, z2, z3, z4, z5] [x2, x1, x0] v G Q = q_call d 161 [x0, x1, x2] v G (fun r v G => q_wp d 164 40 [z0, z1, z2, z3, z4, z5] (q_push r []) v G Q) := q_wp_ca (m2 := 161) (k := 3) (as := [x0, x1, x2]) (rest := []) (congrArg q_kind c_164_37) (congrArg (fun w => w.2.2.1) c_164_37) (congrArg (fun w => w.2.2.2.1) c_164_37) rfl (Nat.le_of_ble_eq_true rfl) rfl
theorem c_164_40 : q_code 164 40 = (.istore_n 3, 1, 0, 0, 0, 0, 0) := by decide +kernel
theorem e_164_40 (d : Nat) (a : Int) (z0 z1 z2 z3 z4 z5 : q_V) (st : List q_V) (v : q_H) (G : q_Gr) (Q : q_V → q_H → q_Gr → Prop) : q_wp d 164 40 [z0, z1, z2, z3, z4, z5] (.inl a :: st) v G Q = q_wp d 164 41 [z0, z1, z2, .inl a, z4, z5] st v G Q := q_w_istore_n c_164_40
theorem c_164_41 : q_code 164 41 = (.aload_n 0, 1, 0, 0, 0, 0, 0) := by decide +kernel
theorem e_164_41 (d : Nat) (a : Option Nat) (z1 z2 z3 z4 z5 : q_V) (st : List q_V) (v : q_H) (G : q_Gr) (Q : q_V → q_H → q_Gr → Prop) : q_wp d 164 41 [.inr (.inr (.inl a)), z1, z2, z3, z4, z5] st v G Q = q_wp d 164 42 [.inr (.inr (.inl a)), z1, z2, z3, z4, z5] (.inr (.inr (.inl a)) :: st) v G Q := q_w_aload_n c_164_41 rfl
theorem c_164_42 : q_code 164 42 = (.getfield 25, 3, 11, 7, 1, 962, 0) := by decide +kernel
theorem e_164_42 (d : Nat) (a : Nat) (z0 z1 z2 z3 z4 z5 : q_V) (st : List q_V) (v : q_H) (G : q_Gr) (Q : q_V → q_H → q_Gr → Prop) : q_wp d 164 42 [z0, z1, z2, z3, z4, z5] (.inr (.inr (.inl (some a))) :: st) v G Q = (((G.2.1 a).1 = 11) ∧ q_wp d 164 45 [z0, z1, z2, z3, z4, z5] (.inr (.inr (.inl (G.1 a 7))) :: st) v G Q) := q_w_getP c_164_42
theorem c_164_45 : q_code 164 45 = (.iload_n 3, 1, 0, 0, 0, 0, 0) := by decide +kernel
theorem e_164_45 (d : Nat) (a : Int) (z0 z1 z2 z4 z5 : q_V) (st : List q_V) (v : q_H) (G : q_Gr) (Q : q_V → q_H → q_Gr → Prop) : q_wp d 164 45 [z0, z1, z2, .inl a, z4, z5] st v G Q = q_wp d 164 46 [z0, z1, z2, .inl a, z4, z5] (.inl a :: st) v G Q := q_w_iload_n c_164_45 rfl
theorem c_164_46 : q_code 164 46 = (.iaload, 1, 0, 0, 0, 0, 0) := by decide +kernel
theorem e_164_46 (d : Nat) (a : Nat) (i : Int) (z0 z1 z2 z3 z4 z5 : q_V) (st : List q_V) (v : q_H) (G : q_Gr) (Q : q_V → q_H → q_Gr → Prop) : q_wp d 164 46 [z0, z1, z2, z3, z4, z5] (.inl i :: .inr (.inr (.inl (some a))) :: st) v G Q = (((G.2.1 a).1 = 20 ∧ 0 ≤ i ∧ i < (G.2.1 a).2) ∧ q_wp d 164 47 [z0, z1, z2, z3, z4, z5] (.inl (v a i.toNat) :: st) v G Q) := q_w_iald c_164_46
theorem c_164_47 : q_code 164 47 = (.istore 4, 2, 0, 0, 0, 0, 0) := by decide +kernel
theorem e_164_47 (d : Nat) (a : Int) (z0 z1 z2 z3 z4 z5 : q_V) (st : List q_V) (v : q_H) (G : q_Gr) (Q : q_V → q_H → q_Gr → Prop) : q_wp d 164 47 [z0, z1, z2, z3, z4, z5] (.inl a :: st) v G Q = q_wp d 164 49 [z0, z1, z2, z3, .inl a, z5] st v G Q := q_w_istore c_164_47
theorem c_164_49 : q_code 164 49 = (.aload_n 0, 1, 0, 0, 0, 0, 0) := by decide +kernel
theorem e_164_49 (d : Nat) (a : Option Nat) (z1 z2 z3 z4 z5 : q_V) (st : List q_V) (v : q_H) (G : q_Gr) (Q : q_V → q_H → q_Gr → Prop) : q_wp d 164 49 [.inr (.inr (.inl a)), z1, z2, z3, z4, z5] st v G Q = q_wp d 164 50 [.inr (.inr (.inl a)), z1, z2, z3, z4, z5] (.inr (.inr (.inl a)) :: st) v G Q := q_w_aload_n c_164_49 rfl
theorem c_164_50 : q_code 164 50 = (.getfield 19, 3, 11, 5, 1, 960, 0) := by decide +kernel
theorem e_164_50 (d : Nat) (a : Nat) (z0 z1 z2 z3 z4 z5 : q_V) (st : List q_V) (v : q_H) (G : q_Gr) (Q : q_V → q_H → q_Gr → Prop) : q_wp d 164 50 [z0, z1, z2, z3, z4, z5] (.inr (.inr (.inl (some a))) :: st) v G Q = (((G.2.1 a).1 = 11) ∧ q_wp d 164 53 [z0, z1, z2, z3, z4, z5] (.inr (.inr (.inl (G.1 a 5))) :: st) v G Q) := q_w_getP c_164_50
theorem c_164_53 : q_code 164 53 = (.iload_n 1, 1, 0, 0, 0, 0, 0) := by decide +kernel
theorem e_164_53 (d : Nat) (a : Int) (z0 z2 z3 z4 z5 : q_V) (st : List q_V) (v : q_H) (G : q_Gr) (Q : q_V → q_H → q_Gr → Prop) : q_wp d 164 53 [z0, .inl a, z2, z3, z4, z5] st v G Q = q_wp d 164 54 [z0, .inl a, z2, z3, z4, z5] (.inl a :: st) v G Q := q_w_iload_n c_164_53 rfl
theorem c_164_54 : q_code 164 54 = (.dup2, 1, 0, 0, 0, 0, 0) := by decide +kernel
theorem e_164_54 (d : Nat) (i : Int) (a : Nat) (z0 z1 z2 z3 z4 z5 : q_V) (st : List q_V) (v : q_H) (G : q_Gr) (Q : q_V → q_H → q_Gr → Prop) : q_wp d 164 54 [z0, z1, z2, z3, z4, z5] (.inl i :: .inr (.inr (.inl (some a))) :: st) v G Q = q_wp d 164 55 [z0, z1, z2, z3, z4, z5] (.inl i :: .inr (.inr (.inl (some a))) :: .inl i :: .inr (.inr (.inl (some a))) :: st) v G Q := q_w_dup2 c_164_54
theorem c_164_55 : q_code 164 55 = (.iaload, 1, 0, 0, 0, 0, 0) := by decide +kernel
theorem e_164_55 (d : Nat) (a : Nat) (i : Int) (z0 z1 z2 z3 z4 z5 : q_V) (st : List q_V) (v : q_H) (G : q_Gr) (Q : q_V → q_H → q_Gr → Prop) : q_wp d 164 55 [z0, z1, z2, z3, z4, z5] (.inl i :: .inr (.inr (.inl (some a))) :: st) v G Q = (((G.2.1 a).1 = 20 ∧ 0 ≤ i ∧ i < (G.2.1 a).2) ∧ q_wp d 164 56 [z0, z1, z2, z3, z4, z5] (.inl (v a i.toNat) :: st) v G Q) := q_w_iald c_164_55
theorem c_164_56 : q_code 164 56 = (.iconst 1, 1, 0, 0, 0, 0, 0) := by decide +kernel
theorem e_164_56 (d : Nat)  (z0 z1 z2 z3 z4 z5 : q_V) (st : List q_V) (v : q_H) (G : q_Gr) (Q : q_V → q_H → q_Gr → Prop) : q_wp d 164 56 [z0, z1, z2, z3, z4, z5] st v G Q = q_wp d 164 57 [z0, z1, z2, z3, z4, z5] (.inl 1 :: st) v G Q := q_w_iconst c_164_56
theorem c_164_57 : q_code 164 57 = (.isub, 1, 0, 0, 0, 0, 0) := by decide +kernel
theorem e_164_57 (d : Nat) (a b : Int) (z0 z1 z2 z3 z4 z5 : q_V) (st : List q_V) (v : q_H) (G : q_Gr) (Q : q_V → q_H → q_Gr → Prop) : q_wp d 164 57 [z0, z1, z2, z3, z4, z5] (.inl b :: .inl a :: st) v G Q = q_wp d 164 58 [z0, z1, z2, z3, z4, z5] (.inl (a - b) :: st) v G Q := q_w_isub c_164_57
theorem c_164_58 : q_code 164 58 = (.iastore, 1, 0, 0, 0, 0, 0) := by decide +kernel
theorem e_164_58 (d : Nat) (a : Nat) (i b : Int) (z0 z1 z2 z3 z4 z5 : q_V) (st : List q_V) (v : q_H) (G : q_Gr) (Q : q_V → q_H → q_Gr → Prop) : q_wp d 164 58 [z0, z1, z2, z3, z4, z5] (.inl b :: .inl i :: .inr (.inr (.inl (some a))) :: st) v G Q = (((G.2.1 a).1 = 20 ∧ 32 ≤ a ∧ 0 ≤ i ∧ i < (G.2.1 a).2) ∧ q_wp d 164 59 [z0, z1, z2, z3, z4, z5] st (q_up v a i.toNat b) G Q) := q_w_iast c_164_58
theorem c_164_59 : q_code 164 59 = (.iload_n 3, 1, 0, 0, 0, 0, 0) := by decide +kernel
theorem e_164_59 (d : Nat) (a : Int) (z0 z1 z2 z4 z5 : q_V) (st : List q_V) (v : q_H) (G : q_Gr) (Q : q_V → q_H → q_Gr → Prop) : q_wp d 164 59 [z0, z1, z2, .inl a, z4, z5] st v G Q = q_wp d 164 60 [z0, z1, z2, .inl a, z4, z5] (.inl a :: st) v G Q := q_w_iload_n c_164_59 rfl
theorem c_164_60 : q_code 164 60 = (.istore 5, 2, 0, 0, 0, 0, 0) := by decide +kernel
theorem e_164_60 (d : Nat) (a : Int) (z0 z1 z2 z3 z4 z5 : q_V) (st : List q_V) (v : q_H) (G : q_Gr) (Q : q_V → q_H → q_Gr → Prop) : q_wp d 164 60 [z0, z1, z2, z3, z4, z5] (.inl a :: st) v G Q = q_wp d 164 62 [z0, z1, z2, z3, z4, .inl a] st v G Q := q_w_istore c_164_60
theorem c_164_62 : q_code 164 62 = (.iload 5, 2, 0, 0, 0, 0, 0) := by decide +kernel
theorem e_164_62 (d : Nat) (a : Int) (z0 z1 z2 z3 z4 : q_V) (st : List q_V) (v : q_H) (G : q_Gr) (Q : q_V → q_H → q_Gr → Prop) : q_wp d 164 62 [z0, z1, z2, z3, z4, .inl a] st v G Q = q_wp d 164 64 [z0, z1, z2, z3, z4, .inl a] (.inl a :: st) v G Q := q_w_iload c_164_62 rfl
theorem c_164_64 : q_code 164 64 = (.bipush 14, 2, 0, 0, 0, 0, 0) := by decide +kernel
theorem e_164_64 (d : Nat)  (z0 z1 z2 z3 z4 z5 : q_V) (st : List q_V) (v : q_H) (G : q_Gr) (Q : q_V → q_H → q_Gr → Prop) : q_wp d 164 64 [z0, z1, z2, z3, z4, z5] st v G Q = q_wp d 164 66 [z0, z1, z2, z3, z4, z5] (.inl 14 :: st) v G Q := (q_w_bipush c_164_64).trans (by simp only [show ((-128 : Int) ≤ 14 ∧ (14 : Int) ≤ 127) = True by decide, true_and])
theorem c_164_66 : q_code 164 66 = (.iload_n 1, 1, 0, 0, 0, 0, 0) := by decide +kernel
theorem e_164_66 (d : Nat) (a : Int) (z0 z2 z3 z4 z5 : q_V) (st : List q_V) (v : q_H) (G : q_Gr) (Q : q_V → q_H → q_Gr → Prop) : q_wp d 164 66 [z0, .inl a, z2, z3, z4, z5] st v G Q = q_wp d 164 67 [z0, .inl a, z2, z3, z4, z5] (.inl a :: st) v G Q := q_w_iload_n c_164_66 rfl
theorem c_164_67 : q_code 164 67 = (.imul, 1, 0, 0, 0, 0, 0) := by decide +kernel
theorem e_164_67 (d : Nat) (a b : Int) (z0 z1 z2 z3 z4 z5 : q_V) (st : List q_V) (v : q_H) (G : q_Gr) (Q : q_V → q_H → q_Gr → Prop) : q_wp d 164 67 [z0, z1, z2, z3, z4, z5] (.inl b :: .inl a :: st) v G Q = q_wp d 164 68 [z0, z1, z2, z3, z4, z5] (.inl (a * b) :: st) v G Q := q_w_imul c_164_67
theorem c_164_68 : q_code 164 68 = (.aload_n 0, 1, 0, 0, 0, 0, 0) := by decide +kernel
theorem e_164_68 (d : Nat) (a : Option Nat) (z1 z2 z3 z4 z5 : q_V) (st : List q_V) (v : q_H) (G : q_Gr) (Q : q_V → q_H → q_Gr → Prop) : q_wp d 164 68 [.inr (.inr (.inl a)), z1, z2, z3, z4, z5] st v G Q = q_wp d 164 69 [.inr (.inr (.inl a)), z1, z2, z3, z4, z5] (.inr (.inr (.inl a)) :: st) v G Q := q_w_aload_n c_164_68 rfl
theorem c_164_69 : q_code 164 69 = (.getfield 19, 3, 11, 5, 1, 960, 0) := by decide +kernel
theorem e_164_69 (d : Nat) (a : Nat) (z0 z1 z2 z3 z4 z5 : q_V) (st : List q_V) (v : q_H) (G : q_Gr) (Q : q_V → q_H → q_Gr → Prop) : q_wp d 164 69 [z0, z1, z2, z3, z4, z5] (.inr (.inr (.inl (some a))) :: st) v G Q = (((G.2.1 a).1 = 11) ∧ q_wp d 164 72 [z0, z1, z2, z3, z4, z5] (.inr (.inr (.inl (G.1 a 5))) :: st) v G Q) := q_w_getP c_164_69
theorem c_164_72 : q_code 164 72 = (.iload_n 1, 1, 0, 0, 0, 0, 0) := by decide +kernel
theorem e_164_72 (d : Nat) (a : Int) (z0 z2 z3 z4 z5 : q_V) (st : List q_V) (v : q_H) (G : q_Gr) (Q : q_V → q_H → q_Gr → Prop) : q_wp d 164 72 [z0, .inl a, z2, z3, z4, z5] st v G Q = q_wp d 164 73 [z0, .inl a, z2, z3, z4, z5] (.inl a :: st) v G Q := q_w_iload_n c_164_72 rfl
theorem c_164_73 : q_code 164 73 = (.iaload, 1, 0, 0, 0, 0, 0) := by decide +kernel
theorem e_164_73 (d : Nat) (a : Nat) (i : Int) (z0 z1 z2 z3 z4 z5 : q_V) (st : List q_V) (v : q_H) (G : q_Gr) (Q : q_V → q_H → q_Gr → Prop) : q_wp d 164 73 [z0, z1, z2, z3, z4, z5] (.inl i :: .inr (.inr (.inl (some a))) :: st) v G Q = (((G.2.1 a).1 = 20 ∧ 0 ≤ i ∧ i < (G.2.1 a).2) ∧ q_wp d 164 74 [z0, z1, z2, z3, z4, z5] (.inl (v a i.toNat) :: st) v G Q) := q_w_iald c_164_73
theorem c_164_74 : q_code 164 74 = (.iadd, 1, 0, 0, 0, 0, 0) := by decide +kernel
theorem e_164_74 (d : Nat) (a b : Int) (z0 z1 z2 z3 z4 z5 : q_V) (st : List q_V) (v : q_H) (G : q_Gr) (Q : q_V → q_H → q_Gr → Prop) : q_wp d 164 74 [z0, z1, z2, z3, z4, z5] (.inl b :: .inl a :: st) v G Q = q_wp d 164 75 [z0, z1, z2, z3, z4, z5] (.inl (a + b) :: st) v G Q := q_w_iadd c_164_74
theorem c_164_75 : q_code 164 75 = (.if_icmp .ge 41, 3, 0, 0, 0, 0, 0) := by decide +kernel
theorem e_164_75 (d : Nat) (a b : Int) (z0 z1 z2 z3 z4 z5 : q_V) (st : List q_V) (v : q_H) (G : q_Gr) (Q : q_V → q_H → q_Gr → Prop) : q_wp d 164 75 [z0, z1, z2, z3, z4, z5] (.inl b :: .inl a :: st) v G Q = ((q_inR a ∧ q_inR b) ∧ if b ≤ a then q_wp d 164 116 [z0, z1, z2, z3, z4, z5] st v G Q else q_wp d 164 78 [z0, z1, z2, z3, z4, z5] st v G Q) := q_w_icmp_ge c_164_75 (by decide)
theorem c_164_78 : q_code 164 78 = (.aload_n 0, 1, 0, 0, 0, 0, 0) := by decide +kernel
theorem e_164_78 (d : Nat) (a : Option Nat) (z1 z2 z3 z4 z5 : q_V) (st : List q_V) (v : q_H) (G : q_Gr) (Q : q_V → q_H → q_Gr → Prop) : q_wp d 164 78 [.inr (.inr (.inl a)), z1, z2, z3, z4, z5] st v G Q = q_wp d 164 79 [.inr (.inr (.inl a)), z1, z2, z3, z4, z5] (.inr (.inr (.inl a)) :: st) v G Q := q_w_aload_n c_164_78 rfl
theorem c_164_79 : q_code 164 79 = (.getfield 22, 3, 11, 6, 1, 961, 0) := by decide +kernel
theorem e_164_79 (d : Nat) (a : Nat) (z0 z1 z2 z3 z4 z5 : q_V) (st : List q_V) (v : q_H) (G : q_Gr) (Q : q_V → q_H → q_Gr → Prop) : q_wp d 164 79 [z0, z1, z2, z3, z4, z5] (.inr (.inr (.inl (some a))) :: st) v G Q = (((G.2.1 a).1 = 11) ∧ q_wp d 164 82 [z0, z1, z2, z3, z4, z5] (.inr (.inr (.inl (G.1 a 6))) :: st) v G Q) := q_w_getP c_164_79
theorem c_164_82 : q_code 164 82 = (.iload 5, 2, 0, 0, 0, 0, 0) := by decide +kernel
theorem e_164_82 (d : Nat) (a : Int) (z0 z1 z2 z3 z4 : q_V) (st : List q_V) (v : q_H) (G : q_Gr) (Q : q_V → q_H → q_Gr → Prop) : q_wp d 164 82 [z0, z1, z2, z3, z4, .inl a] st v G Q = q_wp d 164 84 [z0, z1, z2, z3, z4, .inl a] (.inl a :: st) v G Q := q_w_iload c_164_82 rfl
theorem c_164_84 : q_code 164 84 = (.aload_n 0, 1, 0, 0, 0, 0, 0) := by decide +kernel
theorem e_164_84 (d : Nat) (a : Option Nat) (z1 z2 z3 z4 z5 : q_V) (st : List q_V) (v : q_H) (G : q_Gr) (Q : q_V → q_H → q_Gr → Prop) : q_wp d 164 84 [.inr (.inr (.inl a)), z1, z2, z3, z4, z5] st v G Q = q_wp d 164 85 [.inr (.inr (.inl a)), z1, z2, z3, z4, z5] (.inr (.inr (.inl a)) :: st) v G Q := q_w_aload_n c_164_84 rfl
theorem c_164_85 : q_code 164 85 = (.getfield 22, 3, 11, 6, 1, 961, 0) := by decide +kernel
theorem e_164_85 (d : Nat) (a : Nat) (z0 z1 z2 z3 z4 z5 : q_V) (st : List q_V) (v : q_H) (G : q_Gr) (Q : q_V → q_H → q_Gr → Prop) : q_wp d 164 85 [z0, z1, z2, z3, z4, z5] (.inr (.inr (.inl (some a))) :: st) v G Q = (((G.2.1 a).1 = 11) ∧ q_wp d 164 88 [z0, z1, z2, z3, z4, z5] (.inr (.inr (.inl (G.1 a 6))) :: st) v G Q) := q_w_getP c_164_85
theorem c_164_88 : q_code 164 88 = (.iload 5, 2, 0, 0, 0, 0, 0) := by decide +kernel
theorem e_164_88 (d : Nat) (a : Int) (z0 z1 z2 z3 z4 : q_V) (st : List q_V) (v : q_H) (G : q_Gr) (Q : q_V → q_H → q_Gr → Prop) : q_wp d 164 88 [z0, z1, z2, z3, z4, .inl a] st v G Q = q_wp d 164 90 [z0, z1, z2, z3, z4, .inl a] (.inl a :: st) v G Q := q_w_iload c_164_88 rfl
theorem c_164_90 : q_code 164 90 = (.iconst 1, 1, 0, 0, 0, 0, 0) := by decide +kernel
theorem e_164_90 (d : Nat)  (z0 z1 z2 z3 z4 z5 : q_V) (st : List q_V) (v : q_H) (G : q_Gr) (Q : q_V → q_H → q_Gr → Prop) : q_wp d 164 90 [z0, z1, z2, z3, z4, z5] st v G Q = q_wp d 164 91 [z0, z1, z2, z3, z4, z5] (.inl 1 :: st) v G Q := q_w_iconst c_164_90
theorem c_164_91 : q_code 164 91 = (.iadd, 1, 0, 0, 0, 0, 0) := by decide +kernel
theorem e_164_91 (d : Nat) (a b : Int) (z0 z1 z2 z3 z4 z5 : q_V) (st : List q_V) (v : q_H) (G : q_Gr) (Q : q_V → q_H → q_Gr → Prop) : q_wp d 164 91 [z0, z1, z2, z3, z4, z5] (.inl b :: .inl a :: st) v G Q = q_wp d 164 92 [z0, z1, z2, z3, z4, z5] (.inl (a + b) :: st) v G Q := q_w_iadd c_164_91
theorem c_164_92 : q_code 164 92 = (.iaload, 1, 0, 0, 0, 0, 0) := by decide +kernel
theorem e_164_92 (d : Nat) (a : Nat) (i : Int) (z0 z1 z2 z3 z4 z5 : q_V) (st : List q_V) (v : q_H) (G : q_Gr) (Q : q_V → q_H → q_Gr → Prop) : q_wp d 164 92 [z0, z1, z2, z3, z4, z5] (.inl i :: .inr (.inr (.inl (some a))) :: st) v G Q = (((G.2.1 a).1 = 20 ∧ 0 ≤ i ∧ i < (G.2.1 a).2) ∧ q_wp d 164 93 [z0, z1, z2, z3, z4, z5] (.inl (v a i.toNat) :: st) v G Q) := q_w_iald c_164_92
theorem c_164_93 : q_code 164 93 = (.iastore, 1, 0, 0, 0, 0, 0) := by decide +kernel
theorem e_164_93 (d : Nat) (a : Nat) (i b : Int) (z0 z1 z2 z3 z4 z5 : q_V) (st : List q_V) (v : q_H) (G : q_Gr) (Q : q_V → q_H → q_Gr → Prop) : q_wp d 164 93 [z0, z1, z2, z3, z4, z5] (.inl b :: .inl i :: .inr (.inr (.inl (some a))) :: st) v G Q = (((G.2.1 a).1 = 20 ∧ 32 ≤ a ∧ 0 ≤ i ∧ i < (G.2.1 a).2) ∧ q_wp d 164 94 [z0, z1, z2, z3, z4, z5] st (q_up v a i.toNat b) G Q) := q_w_iast c_164_93
theorem c_164_94 : q_code 164 94 = (.aload_n 0, 1, 0, 0, 0, 0, 0) := by decide +kernel
theorem e_164_94 (d : Nat) (a : Option Nat) (z1 z2 z3 z4 z5 : q_V) (st : List q_V) (v : q_H) (G : q_Gr) (Q : q_V → q_H → q_Gr → Prop) : q_wp d 164 94 [.inr (.inr (.inl a)), z1, z2, z3, z4, z5] st v G Q = q_wp d 164 95 [.inr (.inr (.inl a)), z1, z2, z3, z4, z5] (.inr (.inr (.inl a)) :: st) v G Q := q_w_aload_n c_164_94 rfl
theorem c_164_95 : q_code 164 95 = (.getfield 25, 3, 11, 7, 1, 962, 0) := by decide +kernel
theorem e_164_95 (d : Nat) (a : Nat) (z0 z1 z2 z3 z4 z5 : q_V) (st : List q_V) (v : q_H) (G : q_Gr) (Q : q_V → q_H → q_Gr → Prop) : q_wp d 164 95 [z0, z1, z2, z3, z4, z5] (.inr (.inr (.inl (some a))) :: st) v G Q = (((G.2.1 a).1 = 11) ∧ q_wp d 164 98 [z0, z1, z2, z3, z4, z5] (.inr (.inr (.inl (G.1 a 7))) :: st) v G Q) := q_w_getP c_164_95
theorem c_164_98 : q_code 164 98 = (.iload 5, 2, 0, 0, 0, 0, 0) := by decide +kernel
theorem e_164_98 (d : Nat) (a : Int) (z0 z1 z2 z3 z4 : q_V) (st : List q_V) (v : q_H) (G : q_Gr) (Q : q_V → q_H → q_Gr → Prop) : q_wp d 164 98 [z0, z1, z2, z3, z4, .inl a] st v G Q = q_wp d 164 100 [z0, z1, z2, z3, z4, .inl a] (.inl a :: st) v G Q := q_w_iload c_164_98 rfl
theorem c_164_100 : q_code 164 100 = (.aload_n 0, 1, 0, 0, 0, 0, 0) := by decide +kernel
theorem e_164_100 (d : Nat) (a : Option Nat) (z1 z2 z3 z4 z5 : q_V) (st : List q_V) (v : q_H) (G : q_Gr) (Q : q_V → q_H → q_Gr → Prop) : q_wp d 164 100 [.inr (.inr (.inl a)), z1, z2, z3, z4, z5] st v G Q = q_wp d 164 101 [.inr (.inr (.inl a)), z1, z2, z3, z4, z5] (.inr (.inr (.inl a)) :: st) v G Q := q_w_aload_n c_164_100 rfl
theorem c_164_101 : q_code 164 101 = (.getfield 25, 3, 11, 7, 1, 962, 0) := by decide +kernel
theorem e_164_101 (d : Nat) (a : Nat) (z0 z1 z2 z3 z4 z5 : q_V) (st : List q_V) (v : q_H) (G : q_Gr) (Q : q_V → q_H → q_Gr → Prop) : q_wp d 164 101 [z0, z1, z2, z3, z4, z5] (.inr (.inr (.inl (some a))) :: st) v G Q = (((G.2.1 a).1 = 11) ∧ q_wp d 164 104 [z0, z1, z2, z3, z4, z5] (.inr (.inr (.inl (G.1 a 7))) :: st) v G Q) := q_w_getP c_164_101
theorem c_164_104 : q_code 164 104 = (.iload 5, 2, 0, 0, 0, 0, 0) := by decide +kernel
theorem e_164_104 (d : Nat) (a : Int) (z0 z1 z2 z3 z4 : q_V) (st : List q_V) (v : q_H) (G : q_Gr) (Q : q_V → q_H → q_Gr → Prop) : q_wp d 164 104 [z0, z1, z2, z3, z4, .inl a] st v G Q = q_wp d 164 106 [z0, z1, z2, z3, z4, .inl a] (.inl a :: st) v G Q := q_w_iload c_164_104 rfl
theorem c_164_106 : q_code 164 106 = (.iconst 1, 1, 0, 0, 0, 0, 0) := by decide +kernel
theorem e_164_106 (d : Nat)  (z0 z1 z2 z3 z4 z5 : q_V) (st : List q_V) (v : q_H) (G : q_Gr) (Q : q_V → q_H → q_Gr → Prop) : q_wp d 164 106 [z0, z1, z2, z3, z4, z5] st v G Q = q_wp d 164 107 [z0, z1, z2, z3, z4, z5] (.inl 1 :: st) v G Q := q_w_iconst c_164_106
theorem c_164_107 : q_code 164 107 = (.iadd, 1, 0, 0, 0, 0, 0) := by decide +kernel
theorem e_164_107 (d : Nat) (a b : Int) (z0 z1 z2 z3 z4 z5 : q_V) (st : List q_V) (v : q_H) (G : q_Gr) (Q : q_V → q_H → q_Gr → Prop) : q_wp d 164 107 [z0, z1, z2, z3, z4, z5] (.inl b :: .inl a :: st) v G Q = q_wp d 164 108 [z0, z1, z2, z3, z4, z5] (.inl (a + b) :: st) v G Q := q_w_iadd c_164_107
theorem c_164_108 : q_code 164 108 = (.iaload, 1, 0, 0, 0, 0, 0) := by decide +kernel
theorem e_164_108 (d : Nat) (a : Nat) (i : Int) (z0 z1 z2 z3 z4 z5 : q_V) (st : List q_V) (v : q_H) (G : q_Gr) (Q : q_V → q_H → q_Gr → Prop) : q_wp d 164 108 [z0, z1, z2, z3, z4, z5] (.inl i :: .inr (.inr (.inl (some a))) :: st) v G Q = (((G.2.1 a).1 = 20 ∧ 0 ≤ i ∧ i < (G.2.1 a).2) ∧ q_wp d 164 109 [z0, z1, z2, z3, z4, z5] (.inl (v a i.toNat) :: st) v G Q) := q_w_iald c_164_108
theorem c_164_109 : q_code 164 109 = (.iastore, 1, 0, 0, 0, 0, 0) := by decide +kernel
theorem e_164_109 (d : Nat) (a : Nat) (i b : Int) (z0 z1 z2 z3 z4 z5 : q_V) (st : List q_V) (v : q_H) (G : q_Gr) (Q : q_V → q_H → q_Gr → Prop) : q_wp d 164 109 [z0, z1, z2, z3, z4, z5] (.inl b :: .inl i :: .inr (.inr (.inl (some a))) :: st) v G Q = (((G.2.1 a).1 = 20 ∧ 32 ≤ a ∧ 0 ≤ i ∧ i < (G.2.1 a).2) ∧ q_wp d 164 110 [z0, z1, z2, z3, z4, z5] st (q_up v a i.toNat b) G Q) := q_w_iast c_164_109
theorem c_164_110 : q_code 164 110 = (.iinc 5 1, 3, 0, 0, 0, 0, 0) := by decide +kernel
theorem e_164_110 (d : Nat) (a : Int) (z0 z1 z2 z3 z4 : q_V) (st : List q_V) (v : q_H) (G : q_Gr) (Q : q_V → q_H → q_Gr → Prop) : q_wp d 164 110 [z0, z1, z2, z3, z4, .inl a] st v G Q = q_wp d 164 113 [z0, z1, z2, z3, z4, .inl (a + 1)] st v G Q := q_w_iinc c_164_110 rfl
theorem c_164_113 : q_code 164 113 = (.goto (-51), 3, 0, 0, 0, 0, 0) := by decide +kernel
theorem e_164_113 (d : Nat)  (z0 z1 z2 z3 z4 z5 : q_V) (st : List q_V) (v : q_H) (G : q_Gr) (Q : q_V → q_H → q_Gr → Prop) : q_wp d 164 113 [z0, z1, z2, z3, z4, z5] st v G Q = q_wp d 164 62 [z0, z1, z2, z3, z4, z5] st v G Q := q_w_goto c_164_113 (by decide)
theorem c_164_116 : q_code 164 116 = (.iload 4, 2, 0, 0, 0, 0, 0) := by decide +kernel
theorem e_164_116 (d : Nat) (a : Int) (z0 z1 z2 z3 z5 : q_V) (st : List q_V) (v : q_H) (G : q_Gr) (Q : q_V → q_H → q_Gr → Prop) : q_wp d 164 116 [z0, z1, z2, z3, .inl a, z5] st v G Q = q_wp d 164 118 [z0, z1, z2, z3, .inl a, z5] (.inl a :: st) v G Q := q_w_iload c_164_116 rfl
theorem c_164_118 : q_code 164 118 = (.ireturn, 1, 0, 0, 0, 0, 0) := by decide +kernel
theorem e_164_118 (d : Nat) (a : Int) (z0 z1 z2 z3 z4 z5 : q_V) (v : q_H) (G : q_Gr) (Q : q_V → q_H → q_Gr → Prop) : q_wp d 164 118 [z0, z1, z2, z3, z4, z5] [.inl a] v G Q = Q (.inl a) v G := q_w_ireturn c_164_118 rfl
theorem e_164 (d : Nat) (a0 : Nat) (a1 : Int) (a2 : Int) (v : q_H) (G : q_Gr) (Q : q_V → q_H → q_Gr → Prop) : q_call (d + 1) 164 [.inr (.inr (.inl (some a0))), .inl a1, .inl a2] v G Q = ((G.2.1 a0).1 = 11 ∧ q_wp d 164 0 [.inr (.inr (.inl (some a0))), .inl a1, .inl a2, .inr (.inr (.inr ())), .inr (.inr (.inr ())), .inr (.inr (.inr ()))] [] v G Q) := by
  rw [q_call_in (by decide) (Nat.le_of_ble_eq_true rfl) rfl]
  exact congrArg (· ∧ _) (propext beq_iff_eq)
/-- all but the heads of loops: [62] -/
def E164 := And.intro @e_164 (And.intro @e_164_0 (And.intro @e_164_1 (And.intro @e_164_2 (And.intro @e_164_5 (And.intro @e_164_6 (And.intro @e_164_9 (And.intro @e_164_12 (And.intro @e_164_13 (And.intro @e_164_16 (And.intro @e_164_19 (And.intro @e_164_21 (And.intro @e_164_22 (And.intro @e_164_23 (And.intro @e_164_24 (And.intro @e_164_25 (And.intro @e_164_28 (And.intro @e_164_31 (And.intro @e_164_33 (And.intro @e_164_34 (And.intro @e_164_35 (And.intro @e_164_36 (And.intro @e_164_37 (And.intro @e_164_40 (And.intro @e_164_41 (And.intro @e_164_42 (And.intro @e_164_45 (And.intro @e_164_46 (And.intro @e_164_47 (And.intro @e_164_49 (And.intro @e_164_50 (And.intro @e_164_53 (And.intro @e_164_54 (And.intro @e_164_55 (And.intro @e_164_56 (And.intro @e_164_57 (And.intro @e_164_58 (And.intro @e_164_59 (And.intro @e_164_60 (And.intro @e_164_64 (And.intro @e_164_66 (And.intro @e_164_67 (And.intro @e_164_68 (And.intro @e_164_69 (And.intro @e_164_72 (And.intro @e_164_73 (And.intro @e_164_74 (And.intro @e_164_75 (And.intro @e_164_78 (And.intro @e_164_79 (And.intro @e_164_82 (And.intro @e_164_84 (And.intro @e_164_85 (And.intro @e_164_88 (And.intro @e_164_90 (And.intro @e_164_91 (And.intro @e_164_92 (And.intro @e_164_93 (And.intro @e_164_94 (And.intro @e_164_95 (And.intro @e_164_98 (And.intro @e_164_100 (And.intro @e_164_101 (And.intro @e_164_104 (And.intro @e_164_106 (And.intro @e_164_107 (And.intro @e_164_108 (And.intro @e_164_109 (And.intro @e_164_110 (And.intro @e_164_113 (And.intro @e_164_116 (@e_164_118)))))))))))))))))))))))))))))))))))))))))))))))))))))))))))))))))))))))
/-! ProvenRowsModel.sealOfLeaf(II)I -/
theorem c_165_0 : q_code 165 0 = (.iload_n 0, 1, 0, 0, 0, 0, 0) := by decide +kernel
theorem e_165_0 (d : Nat) (a : Int) (z1 : q_V) (st : List q_V) (v : q_H) (G : q_Gr) (Q : q_V → q_H → q_Gr → Prop) : q_wp d 165 0 [.inl a, z1] st v G Q = q_wp d 165 1 [.inl a, z1] (.inl a :: st) v G Q := q_w_iload_n c_165_0 rfl
theorem c_165_1 : q_code 165 1 = (.iconst 1, 1, 0, 0, 0, 0, 0) := by decide +kernel
theorem e_165_1 (d : Nat)  (z0 z1 : q_V) (st : List q_V) (v : q_H) (G : q_Gr) (Q : q_V → q_H → q_Gr → Prop) : q_wp d 165 1 [z0, z1] st v G Q = q_wp d 165 2 [z0, z1] (.inl 1 :: st) v G Q := q_w_iconst c_165_1
theorem c_165_2 : q_code 165 2 = (.iadd, 1, 0, 0, 0, 0, 0) := by decide +kernel
theorem e_165_2 (d : Nat) (a b : Int) (z0 z1 : q_V) (st : List q_V) (v : q_H) (G : q_Gr) (Q : q_V → q_H → q_Gr → Prop) : q_wp d 165 2 [z0, z1] (.inl b :: .inl a :: st) v G Q = q_wp d 165 3 [z0, z1] (.inl (a + b) :: st) v G Q := q_w_iadd c_165_2
theorem c_165_3 : q_code 165 3 = (.iload_n 1, 1, 0, 0, 0, 0, 0) := by decide +kernel
theorem e_165_3 (d : Nat) (a : Int) (z0 : q_V) (st : List q_V) (v : q_H) (G : q_Gr) (Q : q_V → q_H → q_Gr → Prop) : q_wp d 165 3 [z0, .inl a] st v G Q = q_wp d 165 4 [z0, .inl a] (.inl a :: st) v G Q := q_w_iload_n c_165_3 rfl
theorem c_165_4 : q_code 165 4 = (.invokestatic 170, 3, 153, 2, 0, 1153, 1) := by decide +kernel
theorem e_165_4 (d : Nat) (x0 x1 : q_V) (z0 z1 : q_V) (v : q_H) (G : q_Gr) (Q : q_V → q_H → q_Gr → Prop) : q_wp d 165 4 [z0, z1] [x1, x0] v G Q = q_call d 153 [x0, x1] v G (fun r v G => q_wp d 165 7 [z0, z1] (q_push r []) v G Q) := q_wp_ca (m2 := 153) (k := 2) (as := [x0, x1]) (rest := []) (congrArg q_kind c_165_4) (congrArg (fun w => w.2.2.1) c_165_4) (congrArg (fun w => w.2.2.2.1) c_165_4) rfl (Nat.le_of_ble_eq_true rfl) rfl
theorem c_165_7 : q_code 165 7 = (.bipush 7, 2, 0, 0, 0, 0, 0) := by decide +kernel
theorem e_165_7 (d : Nat)  (z0 z1 : q_V) (st : List q_V) (v : q_H) (G : q_Gr) (Q : q_V → q_H → q_Gr → Prop) : q_wp d 165 7 [z0, z1] st v G Q = q_wp d 165 9 [z0, z1] (.inl 7 :: st) v G Q := (q_w_bipush c_165_7).trans (by simp only [show ((-128 : Int) ≤ 7 ∧ (7 : Int) ≤ 127) = True by decide, true_and])
theorem c_165_9 : q_code 165 9 = (.invokestatic 170, 3, 153, 2, 0, 1153, 1) := by decide +kernel
theorem e_165_9 (d : Nat) (x0 x1 : q_V) (z0 z1 : q_V) (v : q_H) (G : q_Gr) (Q : q_V → q_H → q_Gr → Prop) : q_wp d 165 9 [z0, z1] [x1, x0] v G Q = q_call d 153 [x0, x1] v G (fun r v G => q_wp d 165 12 [z0, z1] (q_push r []) v G Q) := q_wp_ca (m2 := 153) (k := 2) (as := [x0, x1]) (rest := []) (congrArg q_kind c_165_9) (congrArg (fun w => w.2.2.1) c_165_9) (congrArg (fun w => w.2.2.2.1) c_165_9) rfl (Nat.le_of_ble_eq_true rfl) rfl
theorem c_165_12 : q_code 165 12 = (.ireturn, 1, 0, 0, 0, 0, 0) := by decide +kernel
theorem e_165_12 (d : Nat) (a : Int) (z0 z1 : q_V) (v : q_H) (G : q_Gr) (Q : q_V → q_H → q_Gr → Prop) : q_wp d 165 12 [z0, z1] [.inl a] v G Q = Q (.inl a) v G := q_w_ireturn c_165_12 rfl
theorem e_165 (d : Nat) (a0 : Int) (a1 : Int) (v : q_H) (G : q_Gr) (Q : q_V → q_H → q_Gr → Prop) : q_call (d + 1) 165 [.inl a0, .inl a1] v G Q = q_wp d 165 0 [.inl a0, .inl a1] [] v G Q := by
  rw [q_call_in (by decide) (Nat.le_of_ble_eq_true rfl) rfl]
  show (true = true ∧ _) = _
  simp only [true_and]
  rfl
/-- all but the heads of loops: [] -/
def E165 := And.intro @e_165 (And.intro @e_165_0 (And.intro @e_165_1 (And.intro @e_165_2 (And.intro @e_165_3 (And.intro @e_165_4 (And.intro @e_165_7 (And.intro @e_165_9 (@e_165_12))))))))
/-! ProvenRowsModel.sealOfFork(IIII)I -/
theorem c_166_0 : q_code 166 0 = (.iload_n 0, 1, 0, 0, 0, 0, 0) := by decide +kernel
theorem e_166_0 (d : Nat) (a : Int) (z1 z2 z3 : q_V) (st : List q_V) (v : q_H) (G : q_Gr) (Q : q_V → q_H → q_Gr → Prop) : q_wp d 166 0 [.inl a, z1, z2, z3] st v G Q = q_wp d 166 1 [.inl a, z1, z2, z3] (.inl a :: st) v G Q := q_w_iload_n c_166_0 rfl
theorem c_166_1 : q_code 166 1 = (.iload_n 1, 1, 0, 0, 0, 0, 0) := by decide +kernel
theorem e_166_1 (d : Nat) (a : Int) (z0 z2 z3 : q_V) (st : List q_V) (v : q_H) (G : q_Gr) (Q : q_V → q_H → q_Gr → Prop) : q_wp d 166 1 [z0, .inl a, z2, z3] st v G Q = q_wp d 166 2 [z0, .inl a, z2, z3] (.inl a :: st) v G Q := q_w_iload_n c_166_1 rfl
theorem c_166_2 : q_code 166 2 = (.invokestatic 170, 3, 153, 2, 0, 1153, 1) := by decide +kernel
theorem e_166_2 (d : Nat) (x0 x1 : q_V) (z0 z1 z2 z3 : q_V) (v : q_H) (G : q_Gr) (Q : q_V → q_H → q_Gr → Prop) : q_wp d 166 2 [z0, z1, z2, z3] [x1, x0] v G Q = q_call d 153 [x0, x1] v G (fun r v G => q_wp d 166 5 [z0, z1, z2, z3] (q_push r []) v G Q) := q_wp_ca (m2 := 153) (k := 2) (as := [x0, x1]) (rest := []) (congrArg q_kind c_166_2) (congrArg (fun w => w.2.2.1) c_166_2) (congrArg (fun w => w.2.2.2.1) c_166_2) rfl (Nat.le_of_ble_eq_true rfl) rfl
theorem c_166_5 : q_code 166 5 = (.iload_n 2, 1, 0, 0, 0, 0, 0) := by decide +kernel
theorem e_166_5 (d : Nat) (a : Int) (z0 z1 z3 : q_V) (st : List q_V) (v : q_H) (G : q_Gr) (Q : q_V → q_H → q_Gr → Prop) : q_wp d 166 5 [z0, z1, .inl a, z3] st v G Q = q_wp d 166 6 [z0, z1, .inl a, z3] (.inl a :: st) v G Q := q_w_iload_n c_166_5 rfl
theorem c_166_6 : q_code 166 6 = (.iload_n 3, 1, 0, 0, 0, 0, 0) := by decide +kernel
theorem e_166_6 (d : Nat) (a : Int) (z0 z1 z2 : q_V) (st : List q_V) (v : q_H) (G : q_Gr) (Q : q_V → q_H → q_Gr → Prop) : q_wp d 166 6 [z0, z1, z2, .inl a] st v G Q = q_wp d 166 7 [z0, z1, z2, .inl a] (.inl a :: st) v G Q := q_w_iload_n c_166_6 rfl
theorem c_166_7 : q_code 166 7 = (.invokestatic 170, 3, 153, 2, 0, 1153, 1) := by decide +kernel
theorem e_166_7 (d : Nat) (x0 x1 y0 : q_V) (z0 z1 z2 z3 : q_V) (v : q_H) (G : q_Gr) (Q : q_V → q_H → q_Gr → Prop) : q_wp d 166 7 [z0, z1, z2, z3] [x1, x0, y0] v G Q = q_call d 153 [x0, x1] v G (fun r v G => q_wp d 166 10 [z0, z1, z2, z3] (q_push r [y0]) v G Q) := q_wp_ca (m2 := 153) (k := 2) (as := [x0, x1]) (rest := [y0]) (congrArg q_kind c_166_7) (congrArg (fun w => w.2.2.1) c_166_7) (congrArg (fun w => w.2.2.2.1) c_166_7) rfl (Nat.le_of_ble_eq_true rfl) rfl
theorem c_166_10 : q_code 166 10 = (.invokestatic 170, 3, 153, 2, 0, 1153, 1) := by decide +kernel
theorem e_166_10 (d : Nat) (x0 x1 : q_V) (z0 z1 z2 z3 : q_V) (v : q_H) (G : q_Gr) (Q : q_V → q_H → q_Gr → Prop) : q_wp d 166 10 [z0, z1, z2, z3] [x1, x0] v G Q = q_call d 153 [x0, x1] v G (fun r v G => q_wp d 166 13 [z0, z1, z2, z3] (q_push r []) v G Q) := q_wp_ca (m2 := 153) (k := 2) (as := [x0, x1]) (rest := []) (congrArg q_kind c_166_10) (congrArg (fun w => w.2.2.1) c_166_10) (congrArg (fun w => w.2.2.2.1) c_166_10) rfl (Nat.le_of_ble_eq_true rfl) rfl
theorem c_166_13 : q_code 166 13 = (.ireturn, 1, 0, 0, 0, 0, 0) := by decide +kernel
theorem e_166_13 (d : Nat) (a : Int) (z0 z1 z2 z3 : q_V) (v : q_H) (G : q_Gr) (Q : q_V → q_H → q_Gr → Prop) : q_wp d 166 13 [z0, z1, z2, z3] [.inl a] v G Q = Q (.inl a) v G := q_w_ireturn c_166_13 rfl
theorem e_166 (d : Nat) (a0 : Int) (a1 : Int) (a2 : Int) (a3 : Int) (v : q_H) (G : q_Gr) (Q : q_V → q_H → q_Gr → Prop) : q_call (d + 1) 166 [.inl a0, .inl a1, .inl a2, .inl a3] v G Q = q_wp d 166 0 [.inl a0, .inl a1, .inl a2, .inl a3] [] v G Q := by
  rw [q_call_in (by decide) (Nat.le_of_ble_eq_true rfl) rfl]
  show (true = true ∧ _) = _
  simp only [true_and]
  rfl
/-- all but the heads of loops: [] -/
def E166 := And.intro @e_166 (And.intro @e_166_0 (And.intro @e_166_1 (And.intro @e_166_2 (And.intro @e_166_5 (And.intro @e_166_6 (And.intro @e_166_7 (And.intro @e_166_10 (@e_166_13))))))))
/-! ProvenRowsModel.layLeaves(I)V -/
theorem c_167_0 : q_code 167 0 = (.aload_n 0, 1, 0, 0, 0, 0, 0) := by decide +kernel
theorem e_167_0 (d : Nat) (a : Option Nat) (z1 z2 z3 z4 z5 z6 z7 : q_V) (st : List q_V) (v : q_H) (G : q_Gr) (Q : q_V → q_H → q_Gr → Prop) : q_wp d 167 0 [.inr (.inr (.inl a)), z1, z2, z3, z4, z5, z6, z7] st v G Q = q_wp d 167 1 [.inr (.inr (.inl a)), z1, z2, z3, z4, z5, z6, z7] (.inr (.inr (.inl a)) :: st) v G Q := q_w_aload_n c_167_0 rfl
theorem c_167_1 : q_code 167 1 = (.aload_n 0, 1, 0, 0, 0, 0, 0) := by decide +kernel
theorem e_167_1 (d : Nat) (a : Option Nat) (z1 z2 z3 z4 z5 z6 z7 : q_V) (st : List q_V) (v : q_H) (G : q_Gr) (Q : q_V → q_H → q_Gr → Prop) : q_wp d 167 1 [.inr (.inr (.inl a)), z1, z2, z3, z4, z5, z6, z7] st v G Q = q_wp d 167 2 [.inr (.inr (.inl a)), z1, z2, z3, z4, z5, z6, z7] (.inr (.inr (.inl a)) :: st) v G Q := q_w_aload_n c_167_1 rfl
theorem c_167_2 : q_code 167 2 = (.getfield 19, 3, 11, 5, 1, 960, 0) := by decide +kernel
theorem e_167_2 (d : Nat) (a : Nat) (z0 z1 z2 z3 z4 z5 z6 z7 : q_V) (st : List q_V) (v : q_H) (G : q_Gr) (Q : q_V → q_H → q_Gr → Prop) : q_wp d 167 2 [z0, z1, z2, z3, z4, z5, z6, z7] (.inr (.inr (.inl (some a))) :: st) v G Q = (((G.2.1 a).1 = 11) ∧ q_wp d 167 5 [z0, z1, z2, z3, z4, z5, z6, z7] (.inr (.inr (.inl (G.1 a 5))) :: st) v G Q) := q_w_getP c_167_2
theorem c_167_5 : q_code 167 5 = (.iload_n 1, 1, 0, 0, 0, 0, 0) := by decide +kernel
theorem e_167_5 (d : Nat) (a : Int) (z0 z2 z3 z4 z5 z6 z7 : q_V) (st : List q_V) (v : q_H) (G : q_Gr) (Q : q_V → q_H → q_Gr → Prop) : q_wp d 167 5 [z0, .inl a, z2, z3, z4, z5, z6, z7] st v G Q = q_wp d 167 6 [z0, .inl a, z2, z3, z4, z5, z6, z7] (.inl a :: st) v G Q := q_w_iload_n c_167_5 rfl
theorem c_167_6 : q_code 167 6 = (.iaload, 1, 0, 0, 0, 0, 0) := by decide +kernel
theorem e_167_6 (d : Nat) (a : Nat) (i : Int) (z0 z1 z2 z3 z4 z5 z6 z7 : q_V) (st : List q_V) (v : q_H) (G : q_Gr) (Q : q_V → q_H → q_Gr → Prop) : q_wp d 167 6 [z0, z1, z2, z3, z4, z5, z6, z7] (.inl i :: .inr (.inr (.inl (some a))) :: st) v G Q = (((G.2.1 a).1 = 20 ∧ 0 ≤ i ∧ i < (G.2.1 a).2) ∧ q_wp d 167 7 [z0, z1, z2, z3, z4, z5, z6, z7] (.inl (v a i.toNat) :: st) v G Q) := q_w_iald c_167_6
theorem c_167_7 : q_code 167 7 = (.iconst 2, 1, 0, 0, 0, 0, 0) := by decide +kernel
theorem e_167_7 (d : Nat)  (z0 z1 z2 z3 z4 z5 z6 z7 : q_V) (st : List q_V) (v : q_H) (G : q_Gr) (Q : q_V → q_H → q_Gr → Prop) : q_wp d 167 7 [z0, z1, z2, z3, z4, z5, z6, z7] st v G Q = q_wp d 167 8 [z0, z1, z2, z3, z4, z5, z6, z7] (.inl 2 :: st) v G Q := q_w_iconst c_167_7
theorem c_167_8 : q_code 167 8 = (.iadd, 1, 0, 0, 0, 0, 0) := by decide +kernel
theorem e_167_8 (d : Nat) (a b : Int) (z0 z1 z2 z3 z4 z5 z6 z7 : q_V) (st : List q_V) (v : q_H) (G : q_Gr) (Q : q_V → q_H → q_Gr → Prop) : q_wp d 167 8 [z0, z1, z2, z3, z4, z5, z6, z7] (.inl b :: .inl a :: st) v G Q = q_wp d 167 9 [z0, z1, z2, z3, z4, z5, z6, z7] (.inl (a + b) :: st) v G Q := q_w_iadd c_167_8
theorem c_167_9 : q_code 167 9 = (.putfield 173, 3, 11, 8, 0, 963, 0) := by decide +kernel
theorem e_167_9 (d : Nat) (a : Nat) (b : Int) (z0 z1 z2 z3 z4 z5 z6 z7 : q_V) (st : List q_V) (v : q_H) (G : q_Gr) (Q : q_V → q_H → q_Gr → Prop) : q_wp d 167 9 [z0, z1, z2, z3, z4, z5, z6, z7] (.inl b :: .inr (.inr (.inl (some a))) :: st) v G Q = (((G.2.1 a).1 = 11) ∧ q_wp d 167 12 [z0, z1, z2, z3, z4, z5, z6, z7] st (q_up v a 8 b) G Q) := q_w_putI c_167_9
theorem c_167_12 : q_code 167 12 = (.iconst 0, 1, 0, 0, 0, 0, 0) := by decide +kernel
theorem e_167_12 (d : Nat)  (z0 z1 z2 z3 z4 z5 z6 z7 : q_V) (st : List q_V) (v : q_H) (G : q_Gr) (Q : q_V → q_H → q_Gr → Prop) : q_wp d 167 12 [z0, z1, z2, z3, z4, z5, z6, z7] st v G Q = q_wp d 167 13 [z0, z1, z2, z3, z4, z5, z6, z7] (.inl 0 :: st) v G Q := q_w_iconst c_167_12
theorem c_167_13 : q_code 167 13 = (.istore_n 2, 1, 0, 0, 0, 0, 0) := by decide +kernel
theorem e_167_13 (d : Nat) (a : Int) (z0 z1 z2 z3 z4 z5 z6 z7 : q_V) (st : List q_V) (v : q_H) (G : q_Gr) (Q : q_V → q_H → q_Gr → Prop) : q_wp d 167 13 [z0, z1, z2, z3, z4, z5, z6, z7] (.inl a :: st) v G Q = q_wp d 167 14 [z0, z1, .inl a, z3, z4, z5, z6, z7] st v G Q := q_w_istore_n c_167_13
theorem c_167_14 : q_code 167 14 = (.iload_n 2, 1, 0, 0, 0, 0, 0) := by decide +kernel
theorem e_167_14 (d : Nat) (a : Int) (z0 z1 z3 z4 z5 z6 z7 : q_V) (st : List q_V) (v : q_H) (G : q_Gr) (Q : q_V → q_H → q_Gr → Prop) : q_wp d 167 14 [z0, z1, .inl a, z3, z4, z5, z6, z7] st v G Q = q_wp d 167 15 [z0, z1, .inl a, z3, z4, z5, z6, z7] (.inl a :: st) v G Q := q_w_iload_n c_167_14 rfl
theorem c_167_15 : q_code 167 15 = (.aload_n 0, 1, 0, 0, 0, 0, 0) := by decide +kernel
theorem e_167_15 (d : Nat) (a : Option Nat) (z1 z2 z3 z4 z5 z6 z7 : q_V) (st : List q_V) (v : q_H) (G : q_Gr) (Q : q_V → q_H → q_Gr → Prop) : q_wp d 167 15 [.inr (.inr (.inl a)), z1, z2, z3, z4, z5, z6, z7] st v G Q = q_wp d 167 16 [.inr (.inr (.inl a)), z1, z2, z3, z4, z5, z6, z7] (.inr (.inr (.inl a)) :: st) v G Q := q_w_aload_n c_167_15 rfl
theorem c_167_16 : q_code 167 16 = (.getfield 173, 3, 11, 8, 0, 963, 0) := by decide +kernel
theorem e_167_16 (d : Nat) (a : Nat) (z0 z1 z2 z3 z4 z5 z6 z7 : q_V) (st : List q_V) (v : q_H) (G : q_Gr) (Q : q_V → q_H → q_Gr → Prop) : q_wp d 167 16 [z0, z1, z2, z3, z4, z5, z6, z7] (.inr (.inr (.inl (some a))) :: st) v G Q = (((G.2.1 a).1 = 11) ∧ q_wp d 167 19 [z0, z1, z2, z3, z4, z5, z6, z7] (.inl (v a 8) :: st) v G Q) := q_w_getI c_167_16
theorem c_167_19 : q_code 167 19 = (.if_icmp .ge 93, 3, 0, 0, 0, 0, 0) := by decide +kernel
theorem e_167_19 (d : Nat) (a b : Int) (z0 z1 z2 z3 z4 z5 z6 z7 : q_V) (st : List q_V) (v : q_H) (G : q_Gr) (Q : q_V → q_H → q_Gr → Prop) : q_wp d 167 19 [z0, z1, z2, z3, z4, z5, z6, z7] (.inl b :: .inl a :: st) v G Q = ((q_inR a ∧ q_inR b) ∧ if b ≤ a then q_wp d 167 112 [z0, z1, z2, z3, z4, z5, z6, z7] st v G Q else q_wp d 167 22 [z0, z1, z2, z3, z4, z5, z6, z7] st v G Q) := q_w_icmp_ge c_167_19 (by decide)
theorem c_167_22 : q_code 167 22 = (.iload_n 2, 1, 0, 0, 0, 0, 0) := by decide +kernel
theorem e_167_22 (d : Nat) (a : Int) (z0 z1 z3 z4 z5 z6 z7 : q_V) (st : List q_V) (v : q_H) (G : q_Gr) (Q : q_V → q_H → q_Gr → Prop) : q_wp d 167 22 [z0, z1, .inl a, z3, z4, z5, z6, z7] st v G Q = q_wp d 167 23 [z0, z1, .inl a, z3, z4, z5, z6, z7] (.inl a :: st) v G Q := q_w_iload_n c_167_22 rfl
theorem c_167_23 : q_code 167 23 = (.ifCond .eq 13, 3, 0, 0, 0, 0, 0) := by decide +kernel
theorem e_167_23 (d : Nat) (a : Int) (z0 z1 z2 z3 z4 z5 z6 z7 : q_V) (st : List q_V) (v : q_H) (G : q_Gr) (Q : q_V → q_H → q_Gr → Prop) : q_wp d 167 23 [z0, z1, z2, z3, z4, z5, z6, z7] (.inl a :: st) v G Q = ((q_inR a) ∧ if a = 0 then q_wp d 167 36 [z0, z1, z2, z3, z4, z5, z6, z7] st v G Q else q_wp d 167 26 [z0, z1, z2, z3, z4, z5, z6, z7] st v G Q) := q_w_if_eq c_167_23 (by decide)
theorem c_167_26 : q_code 167 26 = (.iload_n 2, 1, 0, 0, 0, 0, 0) := by decide +kernel
theorem e_167_26 (d : Nat) (a : Int) (z0 z1 z3 z4 z5 z6 z7 : q_V) (st : List q_V) (v : q_H) (G : q_Gr) (Q : q_V → q_H → q_Gr → Prop) : q_wp d 167 26 [z0, z1, .inl a, z3, z4, z5, z6, z7] st v G Q = q_wp d 167 27 [z0, z1, .inl a, z3, z4, z5, z6, z7] (.inl a :: st) v G Q := q_w_iload_n c_167_26 rfl
theorem c_167_27 : q_code 167 27 = (.aload_n 0, 1, 0, 0, 0, 0, 0) := by decide +kernel
theorem e_167_27 (d : Nat) (a : Option Nat) (z1 z2 z3 z4 z5 z6 z7 : q_V) (st : List q_V) (v : q_H) (G : q_Gr) (Q : q_V → q_H → q_Gr → Prop) : q_wp d 167 27 [.inr (.inr (.inl a)), z1, z2, z3, z4, z5, z6, z7] st v G Q = q_wp d 167 28 [.inr (.inr (.inl a)), z1, z2, z3, z4, z5, z6, z7] (.inr (.inr (.inl a)) :: st) v G Q := q_w_aload_n c_167_27 rfl
theorem c_167_28 : q_code 167 28 = (.getfield 173, 3, 11, 8, 0, 963, 0) := by decide +kernel
theorem e_167_28 (d : Nat) (a : Nat) (z0 z1 z2 z3 z4 z5 z6 z7 : q_V) (st : List q_V) (v : q_H) (G : q_Gr) (Q : q_V → q_H → q_Gr → Prop) : q_wp d 167 28 [z0, z1, z2, z3, z4, z5, z6, z7] (.inr (.inr (.inl (some a))) :: st) v G Q = (((G.2.1 a).1 = 11) ∧ q_wp d 167 31 [z0, z1, z2, z3, z4, z5, z6, z7] (.inl (v a 8) :: st) v G Q) := q_w_getI c_167_28
theorem c_167_31 : q_code 167 31 = (.iconst 1, 1, 0, 0, 0, 0, 0) := by decide +kernel
theorem e_167_31 (d : Nat)  (z0 z1 z2 z3 z4 z5 z6 z7 : q_V) (st : List q_V) (v : q_H) (G : q_Gr) (Q : q_V → q_H → q_Gr → Prop) : q_wp d 167 31 [z0, z1, z2, z3, z4, z5, z6, z7] st v G Q = q_wp d 167 32 [z0, z1, z2, z3, z4, z5, z6, z7] (.inl 1 :: st) v G Q := q_w_iconst c_167_31
theorem c_167_32 : q_code 167 32 = (.isub, 1, 0, 0, 0, 0, 0) := by decide +kernel
theorem e_167_32 (d : Nat) (a b : Int) (z0 z1 z2 z3 z4 z5 z6 z7 : q_V) (st : List q_V) (v : q_H) (G : q_Gr) (Q : q_V → q_H → q_Gr → Prop) : q_wp d 167 32 [z0, z1, z2, z3, z4, z5, z6, z7] (.inl b :: .inl a :: st) v G Q = q_wp d 167 33 [z0, z1, z2, z3, z4, z5, z6, z7] (.inl (a - b) :: st) v G Q := q_w_isub c_167_32
theorem c_167_33 : q_code 167 33 = (.if_icmp .ne 7, 3, 0, 0, 0, 0, 0) := by decide +kernel
theorem e_167_33 (d : Nat) (a b : Int) (z0 z1 z2 z3 z4 z5 z6 z7 : q_V) (st : List q_V) (v : q_H) (G : q_Gr) (Q : q_V → q_H → q_Gr → Prop) : q_wp d 167 33 [z0, z1, z2, z3, z4, z5, z6, z7] (.inl b :: .inl a :: st) v G Q = ((q_inR a ∧ q_inR b) ∧ if ¬ a = b then q_wp d 167 40 [z0, z1, z2, z3, z4, z5, z6, z7] st v G Q else q_wp d 167 36 [z0, z1, z2, z3, z4, z5, z6, z7] st v G Q) := q_w_icmp_ne c_167_33 (by decide)
theorem c_167_36 : q_code 167 36 = (.iconst 1, 1, 0, 0, 0, 0, 0) := by decide +kernel
theorem e_167_36 (d : Nat)  (z0 z1 z2 z3 z4 z5 z6 z7 : q_V) (st : List q_V) (v : q_H) (G : q_Gr) (Q : q_V → q_H → q_Gr → Prop) : q_wp d 167 36 [z0, z1, z2, z3, z4, z5, z6, z7] st v G Q = q_wp d 167 37 [z0, z1, z2, z3, z4, z5, z6, z7] (.inl 1 :: st) v G Q := q_w_iconst c_167_36
theorem c_167_37 : q_code 167 37 = (.goto 4, 3, 0, 0, 0, 0, 0) := by decide +kernel
theorem e_167_37 (d : Nat)  (z0 z1 z2 z3 z4 z5 z6 z7 : q_V) (st : List q_V) (v : q_H) (G : q_Gr) (Q : q_V → q_H → q_Gr → Prop) : q_wp d 167 37 [z0, z1, z2, z3, z4, z5, z6, z7] st v G Q = q_wp d 167 41 [z0, z1, z2, z3, z4, z5, z6, z7] st v G Q := q_w_goto c_167_37 (by decide)
theorem c_167_40 : q_code 167 40 = (.iconst 0, 1, 0, 0, 0, 0, 0) := by decide +kernel
theorem e_167_40 (d : Nat)  (z0 z1 z2 z3 z4 z5 z6 z7 : q_V) (st : List q_V) (v : q_H) (G : q_Gr) (Q : q_V → q_H → q_Gr → Prop) : q_wp d 167 40 [z0, z1, z2, z3, z4, z5, z6, z7] st v G Q = q_wp d 167 41 [z0, z1, z2, z3, z4, z5, z6, z7] (.inl 0 :: st) v G Q := q_w_iconst c_167_40
theorem c_167_41 : q_code 167 41 = (.istore_n 3, 1, 0, 0, 0, 0, 0) := by decide +kernel
theorem e_167_41 (d : Nat) (a : Int) (z0 z1 z2 z3 z4 z5 z6 z7 : q_V) (st : List q_V) (v : q_H) (G : q_Gr) (Q : q_V → q_H → q_Gr → Prop) : q_wp d 167 41 [z0, z1, z2, z3, z4, z5, z6, z7] (.inl a :: st) v G Q = q_wp d 167 42 [z0, z1, z2, .inl a, z4, z5, z6, z7] st v G Q := q_w_istore_n c_167_41
theorem c_167_42 : q_code 167 42 = (.aload_n 0, 1, 0, 0, 0, 0, 0) := by decide +kernel
theorem e_167_42 (d : Nat) (a : Option Nat) (z1 z2 z3 z4 z5 z6 z7 : q_V) (st : List q_V) (v : q_H) (G : q_Gr) (Q : q_V → q_H → q_Gr → Prop) : q_wp d 167 42 [.inr (.inr (.inl a)), z1, z2, z3, z4, z5, z6, z7] st v G Q = q_wp d 167 43 [.inr (.inr (.inl a)), z1, z2, z3, z4, z5, z6, z7] (.inr (.inr (.inl a)) :: st) v G Q := q_w_aload_n c_167_42 rfl
theorem c_167_43 : q_code 167 43 = (.getfield 28, 3, 11, 9, 1, 964, 0) := by decide +kernel
theorem e_167_43 (d : Nat) (a : Nat) (z0 z1 z2 z3 z4 z5 z6 z7 : q_V) (st : List q_V) (v : q_H) (G : q_Gr) (Q : q_V → q_H → q_Gr → Prop) : q_wp d 167 43 [z0, z1, z2, z3, z4, z5, z6, z7] (.inr (.inr (.inl (some a))) :: st) v G Q = (((G.2.1 a).1 = 11) ∧ q_wp d 167 46 [z0, z1, z2, z3, z4, z5, z6, z7] (.inr (.inr (.inl (G.1 a 9))) :: st) v G Q) := q_w_getP c_167_43
theorem c_167_46 : q_code 167 46 = (.iload_n 2, 1, 0, 0, 0, 0, 0) := by decide +kernel
theorem e_167_46 (d : Nat) (a : Int) (z0 z1 z3 z4 z5 z6 z7 : q_V) (st : List q_V) (v : q_H) (G : q_Gr) (Q : q_V → q_H → q_Gr → Prop) : q_wp d 167 46 [z0, z1, .inl a, z3, z4, z5, z6, z7] st v G Q = q_wp d 167 47 [z0, z1, .inl a, z3, z4, z5, z6, z7] (.inl a :: st) v G Q := q_w_iload_n c_167_46 rfl
theorem c_167_47 : q_code 167 47 = (.iload_n 2, 1, 0, 0, 0, 0, 0) := by decide +kernel
theorem e_167_47 (d : Nat) (a : Int) (z0 z1 z3 z4 z5 z6 z7 : q_V) (st : List q_V) (v : q_H) (G : q_Gr) (Q : q_V → q_H → q_Gr → Prop) : q_wp d 167 47 [z0, z1, .inl a, z3, z4, z5, z6, z7] st v G Q = q_wp d 167 48 [z0, z1, .inl a, z3, z4, z5, z6, z7] (.inl a :: st) v G Q := q_w_iload_n c_167_47 rfl
theorem c_167_48 : q_code 167 48 = (.ifCond .ne 7, 3, 0, 0, 0, 0, 0) := by decide +kernel
theorem e_167_48 (d : Nat) (a : Int) (z0 z1 z2 z3 z4 z5 z6 z7 : q_V) (st : List q_V) (v : q_H) (G : q_Gr) (Q : q_V → q_H → q_Gr → Prop) : q_wp d 167 48 [z0, z1, z2, z3, z4, z5, z6, z7] (.inl a :: st) v G Q = ((q_inR a) ∧ if ¬ a = 0 then q_wp d 167 55 [z0, z1, z2, z3, z4, z5, z6, z7] st v G Q else q_wp d 167 51 [z0, z1, z2, z3, z4, z5, z6, z7] st v G Q) := q_w_if_ne c_167_48 (by decide)
theorem c_167_51 : q_code 167 51 = (.iconst (-1), 1, 0, 0, 0, 0, 0) := by decide +kernel
theorem e_167_51 (d : Nat)  (z0 z1 z2 z3 z4 z5 z6 z7 : q_V) (st : List q_V) (v : q_H) (G : q_Gr) (Q : q_V → q_H → q_Gr → Prop) : q_wp d 167 51 [z0, z1, z2, z3, z4, z5, z6, z7] st v G Q = q_wp d 167 52 [z0, z1, z2, z3, z4, z5, z6, z7] (.inl (-1) :: st) v G Q := q_w_iconst c_167_51
theorem c_167_52 : q_code 167 52 = (.goto 26, 3, 0, 0, 0, 0, 0) := by decide +kernel
theorem e_167_52 (d : Nat)  (z0 z1 z2 z3 z4 z5 z6 z7 : q_V) (st : List q_V) (v : q_H) (G : q_Gr) (Q : q_V → q_H → q_Gr → Prop) : q_wp d 167 52 [z0, z1, z2, z3, z4, z5, z6, z7] st v G Q = q_wp d 167 78 [z0, z1, z2, z3, z4, z5, z6, z7] st v G Q := q_w_goto c_167_52 (by decide)
theorem c_167_55 : q_code 167 55 = (.iload_n 3, 1, 0, 0, 0, 0, 0) := by decide +kernel
theorem e_167_55 (d : Nat) (a : Int) (z0 z1 z2 z4 z5 z6 z7 : q_V) (st : List q_V) (v : q_H) (G : q_Gr) (Q : q_V → q_H → q_Gr → Prop) : q_wp d 167 55 [z0, z1, z2, .inl a, z4, z5, z6, z7] st v G Q = q_wp d 167 56 [z0, z1, z2, .inl a, z4, z5, z6, z7] (.inl a :: st) v G Q := q_w_iload_n c_167_55 rfl
theorem c_167_56 : q_code 167 56 = (.ifCond .eq 9, 3, 0, 0, 0, 0, 0) := by decide +kernel
theorem e_167_56 (d : Nat) (a : Int) (z0 z1 z2 z3 z4 z5 z6 z7 : q_V) (st : List q_V) (v : q_H) (G : q_Gr) (Q : q_V → q_H → q_Gr → Prop) : q_wp d 167 56 [z0, z1, z2, z3, z4, z5, z6, z7] (.inl a :: st) v G Q = ((q_inR a) ∧ if a = 0 then q_wp d 167 65 [z0, z1, z2, z3, z4, z5, z6, z7] st v G Q else q_wp d 167 59 [z0, z1, z2, z3, z4, z5, z6, z7] st v G Q) := q_w_if_eq c_167_56 (by decide)
theorem c_167_59 : q_code 167 59 = (.sipush 1000, 3, 0, 0, 0, 0, 0) := by decide +kernel
theorem e_167_59 (d : Nat)  (z0 z1 z2 z3 z4 z5 z6 z7 : q_V) (st : List q_V) (v : q_H) (G : q_Gr) (Q : q_V → q_H → q_Gr → Prop) : q_wp d 167 59 [z0, z1, z2, z3, z4, z5, z6, z7] st v G Q = q_wp d 167 62 [z0, z1, z2, z3, z4, z5, z6, z7] (.inl 1000 :: st) v G Q := (q_w_sipush c_167_59).trans (by simp only [show ((-32768 : Int) ≤ 1000 ∧ (1000 : Int) ≤ 32767) = True by decide, true_and])
theorem c_167_62 : q_code 167 62 = (.goto 16, 3, 0, 0, 0, 0, 0) := by decide +kernel
theorem e_167_62 (d : Nat)  (z0 z1 z2 z3 z4 z5 z6 z7 : q_V) (st : List q_V) (v : q_H) (G : q_Gr) (Q : q_V → q_H → q_Gr → Prop) : q_wp d 167 62 [z0, z1, z2, z3, z4, z5, z6, z7] st v G Q = q_wp d 167 78 [z0, z1, z2, z3, z4, z5, z6, z7] st v G Q := q_w_goto c_167_62 (by decide)
theorem c_167_65 : q_code 167 65 = (.aload_n 0, 1, 0, 0, 0, 0, 0) := by decide +kernel
theorem e_167_65 (d : Nat) (a : Option Nat) (z1 z2 z3 z4 z5 z6 z7 : q_V) (st : List q_V) (v : q_H) (G : q_Gr) (Q : q_V → q_H → q_Gr → Prop) : q_wp d 167 65 [.inr (.inr (.inl a)), z1, z2, z3, z4, z5, z6, z7] st v G Q = q_wp d 167 66 [.inr (.inr (.inl a)), z1, z2, z3, z4, z5, z6, z7] (.inr (.inr (.inl a)) :: st) v G Q := q_w_aload_n c_167_65 rfl
theorem c_167_66 : q_code 167 66 = (.getfield 22, 3, 11, 6, 1, 961, 0) := by decide +kernel
theorem e_167_66 (d : Nat) (a : Nat) (z0 z1 z2 z3 z4 z5 z6 z7 : q_V) (st : List q_V) (v : q_H) (G : q_Gr) (Q : q_V → q_H → q_Gr → Prop) : q_wp d 167 66 [z0, z1, z2, z3, z4, z5, z6, z7] (.inr (.inr (.inl (some a))) :: st) v G Q = (((G.2.1 a).1 = 11) ∧ q_wp d 167 69 [z0, z1, z2, z3, z4, z5, z6, z7] (.inr (.inr (.inl (G.1 a 6))) :: st) v G Q) := q_w_getP c_167_66
theorem c_167_69 : q_code 167 69 = (.bipush 14, 2, 0, 0, 0, 0, 0) := by decide +kernel
theorem e_167_69 (d : Nat)  (z0 z1 z2 z3 z4 z5 z6 z7 : q_V) (st : List q_V) (v : q_H) (G : q_Gr) (Q : q_V → q_H → q_Gr → Prop) : q_wp d 167 69 [z0, z1, z2, z3, z4, z5, z6, z7] st v G Q = q_wp d 167 71 [z0, z1, z2, z3, z4, z5, z6, z7] (.inl 14 :: st) v G Q := (q_w_bipush c_167_69).trans (by simp only [show ((-128 : Int) ≤ 14 ∧ (14 : Int) ≤ 127) = True by decide, true_and])
theorem c_167_71 : q_code 167 71 = (.iload_n 1, 1, 0, 0, 0, 0, 0) := by decide +kernel
theorem e_167_71 (d : Nat) (a : Int) (z0 z2 z3 z4 z5 z6 z7 : q_V) (st : List q_V) (v : q_H) (G : q_Gr) (Q : q_V → q_H → q_Gr → Prop) : q_wp d 167 71 [z0, .inl a, z2, z3, z4, z5, z6, z7] st v G Q = q_wp d 167 72 [z0, .inl a, z2, z3, z4, z5, z6, z7] (.inl a :: st) v G Q := q_w_iload_n c_167_71 rfl
theorem c_167_72 : q_code 167 72 = (.imul, 1, 0, 0, 0, 0, 0) := by decide +kernel
theorem e_167_72 (d : Nat) (a b : Int) (z0 z1 z2 z3 z4 z5 z6 z7 : q_V) (st : List q_V) (v : q_H) (G : q_Gr) (Q : q_V → q_H → q_Gr → Prop) : q_wp d 167 72 [z0, z1, z2, z3, z4, z5, z6, z7] (.inl b :: .inl a :: st) v G Q = q_wp d 167 73 [z0, z1, z2, z3, z4, z5, z6, z7] (.inl (a * b) :: st) v G Q := q_w_imul c_167_72
theorem c_167_73 : q_code 167 73 = (.iload_n 2, 1, 0, 0, 0, 0, 0) := by decide +kernel
theorem e_167_73 (d : Nat) (a : Int) (z0 z1 z3 z4 z5 z6 z7 : q_V) (st : List q_V) (v : q_H) (G : q_Gr) (Q : q_V → q_H → q_Gr → Prop) : q_wp d 167 73 [z0, z1, .inl a, z3, z4, z5, z6, z7] st v G Q = q_wp d 167 74 [z0, z1, .inl a, z3, z4, z5, z6, z7] (.inl a :: st) v G Q := q_w_iload_n c_167_73 rfl
theorem c_167_74 : q_code 167 74 = (.iadd, 1, 0, 0, 0, 0, 0) := by decide +kernel
theorem e_167_74 (d : Nat) (a b : Int) (z0 z1 z2 z3 z4 z5 z6 z7 : q_V) (st : List q_V) (v : q_H) (G : q_Gr) (Q : q_V → q_H → q_Gr → Prop) : q_wp d 167 74 [z0, z1, z2, z3, z4, z5, z6, z7] (.inl b :: .inl a :: st) v G Q = q_wp d 167 75 [z0, z1, z2, z3, z4, z5, z6, z7] (.inl (a + b) :: st) v G Q := q_w_iadd c_167_74
theorem c_167_75 : q_code 167 75 = (.iconst 1, 1, 0, 0, 0, 0, 0) := by decide +kernel
theorem e_167_75 (d : Nat)  (z0 z1 z2 z3 z4 z5 z6 z7 : q_V) (st : List q_V) (v : q_H) (G : q_Gr) (Q : q_V → q_H → q_Gr → Prop) : q_wp d 167 75 [z0, z1, z2, z3, z4, z5, z6, z7] st v G Q = q_wp d 167 76 [z0, z1, z2, z3, z4, z5, z6, z7] (.inl 1 :: st) v G Q := q_w_iconst c_167_75
theorem c_167_76 : q_code 167 76 = (.isub, 1, 0, 0, 0, 0, 0) := by decide +kernel
theorem e_167_76 (d : Nat) (a b : Int) (z0 z1 z2 z3 z4 z5 z6 z7 : q_V) (st : List q_V) (v : q_H) (G : q_Gr) (Q : q_V → q_H → q_Gr → Prop) : q_wp d 167 76 [z0, z1, z2, z3, z4, z5, z6, z7] (.inl b :: .inl a :: st) v G Q = q_wp d 167 77 [z0, z1, z2, z3, z4, z5, z6, z7] (.inl (a - b) :: st) v G Q := q_w_isub c_167_76
theorem c_167_77 : q_code 167 77 = (.iaload, 1, 0, 0, 0, 0, 0) := by decide +kernel
theorem e_167_77 (d : Nat) (a : Nat) (i : Int) (z0 z1 z2 z3 z4 z5 z6 z7 : q_V) (st : List q_V) (v : q_H) (G : q_Gr) (Q : q_V → q_H → q_Gr → Prop) : q_wp d 167 77 [z0, z1, z2, z3, z4, z5, z6, z7] (.inl i :: .inr (.inr (.inl (some a))) :: st) v G Q = (((G.2.1 a).1 = 20 ∧ 0 ≤ i ∧ i < (G.2.1 a).2) ∧ q_wp d 167 78 [z0, z1, z2, z3, z4, z5, z6, z7] (.inl (v a i.toNat) :: st) v G Q) := q_w_iald c_167_77
theorem c_167_78 : q_code 167 78 = (.iastore, 1, 0, 0, 0, 0, 0) := by decide +kernel
theorem e_167_78 (d : Nat) (a : Nat) (i b : Int) (z0 z1 z2 z3 z4 z5 z6 z7 : q_V) (st : List q_V) (v : q_H) (G : q_Gr) (Q : q_V → q_H → q_Gr → Prop) : q_wp d 167 78 [z0, z1, z2, z3, z4, z5, z6, z7] (.inl b :: .inl i :: .inr (.inr (.inl (some a))) :: st) v G Q = (((G.2.1 a).1 = 20 ∧ 32 ≤ a ∧ 0 ≤ i ∧ i < (G.2.1 a).2) ∧ q_wp d 167 79 [z0, z1, z2, z3, z4, z5, z6, z7] st (q_up v a i.toNat b) G Q) := q_w_iast c_167_78
theorem c_167_79 : q_code 167 79 = (.aload_n 0, 1, 0, 0, 0, 0, 0) := by decide +kernel
theorem e_167_79 (d : Nat) (a : Option Nat) (z1 z2 z3 z4 z5 z6 z7 : q_V) (st : List q_V) (v : q_H) (G : q_Gr) (Q : q_V → q_H → q_Gr → Prop) : q_wp d 167 79 [.inr (.inr (.inl a)), z1, z2, z3, z4, z5, z6, z7] st v G Q = q_wp d 167 80 [.inr (.inr (.inl a)), z1, z2, z3, z4, z5, z6, z7] (.inr (.inr (.inl a)) :: st) v G Q := q_w_aload_n c_167_79 rfl
theorem c_167_80 : q_code 167 80 = (.getfield 31, 3, 11, 10, 1, 965, 0) := by decide +kernel
theorem e_167_80 (d : Nat) (a : Nat) (z0 z1 z2 z3 z4 z5 z6 z7 : q_V) (st : List q_V) (v : q_H) (G : q_Gr) (Q : q_V → q_H → q_Gr → Prop) : q_wp d 167 80 [z0, z1, z2, z3, z4, z5, z6, z7] (.inr (.inr (.inl (some a))) :: st) v G Q = (((G.2.1 a).1 = 11) ∧ q_wp d 167 83 [z0, z1, z2, z3, z4, z5, z6, z7] (.inr (.inr (.inl (G.1 a 10))) :: st) v G Q) := q_w_getP c_167_80
theorem c_167_83 : q_code 167 83 = (.iload_n 2, 1, 0, 0, 0, 0, 0) := by decide +kernel
theorem e_167_83 (d : Nat) (a : Int) (z0 z1 z3 z4 z5 z6 z7 : q_V) (st : List q_V) (v : q_H) (G : q_Gr) (Q : q_V → q_H → q_Gr → Prop) : q_wp d 167 83 [z0, z1, .inl a, z3, z4, z5, z6, z7] st v G Q = q_wp d 167 84 [z0, z1, .inl a, z3, z4, z5, z6, z7] (.inl a :: st) v G Q := q_w_iload_n c_167_83 rfl
theorem c_167_84 : q_code 167 84 = (.iload_n 3, 1, 0, 0, 0, 0, 0) := by decide +kernel
theorem e_167_84 (d : Nat) (a : Int) (z0 z1 z2 z4 z5 z6 z7 : q_V) (st : List q_V) (v : q_H) (G : q_Gr) (Q : q_V → q_H → q_Gr → Prop) : q_wp d 167 84 [z0, z1, z2, .inl a, z4, z5, z6, z7] st v G Q = q_wp d 167 85 [z0, z1, z2, .inl a, z4, z5, z6, z7] (.inl a :: st) v G Q := q_w_iload_n c_167_84 rfl
theorem c_167_85 : q_code 167 85 = (.ifCond .eq 7, 3, 0, 0, 0, 0, 0) := by decide +kernel
theorem e_167_85 (d : Nat) (a : Int) (z0 z1 z2 z3 z4 z5 z6 z7 : q_V) (st : List q_V) (v : q_H) (G : q_Gr) (Q : q_V → q_H → q_Gr → Prop) : q_wp d 167 85 [z0, z1, z2, z3, z4, z5, z6, z7] (.inl a :: st) v G Q = ((q_inR a) ∧ if a = 0 then q_wp d 167 92 [z0, z1, z2, z3, z4, z5, z6, z7] st v G Q else q_wp d 167 88 [z0, z1, z2, z3, z4, z5, z6, z7] st v G Q) := q_w_if_eq c_167_85 (by decide)
theorem c_167_88 : q_code 167 88 = (.iconst 0, 1, 0, 0, 0, 0, 0) := by decide +kernel
theorem e_167_88 (d : Nat)  (z0 z1 z2 z3 z4 z5 z6 z7 : q_V) (st : List q_V) (v : q_H) (G : q_Gr) (Q : q_V → q_H → q_Gr → Prop) : q_wp d 167 88 [z0, z1, z2, z3, z4, z5, z6, z7] st v G Q = q_wp d 167 89 [z0, z1, z2, z3, z4, z5, z6, z7] (.inl 0 :: st) v G Q := q_w_iconst c_167_88
theorem c_167_89 : q_code 167 89 = (.goto 16, 3, 0, 0, 0, 0, 0) := by decide +kernel
theorem e_167_89 (d : Nat)  (z0 z1 z2 z3 z4 z5 z6 z7 : q_V) (st : List q_V) (v : q_H) (G : q_Gr) (Q : q_V → q_H → q_Gr → Prop) : q_wp d 167 89 [z0, z1, z2, z3, z4, z5, z6, z7] st v G Q = q_wp d 167 105 [z0, z1, z2, z3, z4, z5, z6, z7] st v G Q := q_w_goto c_167_89 (by decide)
theorem c_167_92 : q_code 167 92 = (.aload_n 0, 1, 0, 0, 0, 0, 0) := by decide +kernel
theorem e_167_92 (d : Nat) (a : Option Nat) (z1 z2 z3 z4 z5 z6 z7 : q_V) (st : List q_V) (v : q_H) (G : q_Gr) (Q : q_V → q_H → q_Gr → Prop) : q_wp d 167 92 [.inr (.inr (.inl a)), z1, z2, z3, z4, z5, z6, z7] st v G Q = q_wp d 167 93 [.inr (.inr (.inl a)), z1, z2, z3, z4, z5, z6, z7] (.inr (.inr (.inl a)) :: st) v G Q := q_w_aload_n c_167_92 rfl
theorem c_167_93 : q_code 167 93 = (.getfield 25, 3, 11, 7, 1, 962, 0) := by decide +kernel
theorem e_167_93 (d : Nat) (a : Nat) (z0 z1 z2 z3 z4 z5 z6 z7 : q_V) (st : List q_V) (v : q_H) (G : q_Gr) (Q : q_V → q_H → q_Gr → Prop) : q_wp d 167 93 [z0, z1, z2, z3, z4, z5, z6, z7] (.inr (.inr (.inl (some a))) :: st) v G Q = (((G.2.1 a).1 = 11) ∧ q_wp d 167 96 [z0, z1, z2, z3, z4, z5, z6, z7] (.inr (.inr (.inl (G.1 a 7))) :: st) v G Q) := q_w_getP c_167_93
theorem c_167_96 : q_code 167 96 = (.bipush 14, 2, 0, 0, 0, 0, 0) := by decide +kernel
theorem e_167_96 (d : Nat)  (z0 z1 z2 z3 z4 z5 z6 z7 : q_V) (st : List q_V) (v : q_H) (G : q_Gr) (Q : q_V → q_H → q_Gr → Prop) : q_wp d 167 96 [z0, z1, z2, z3, z4, z5, z6, z7] st v G Q = q_wp d 167 98 [z0, z1, z2, z3, z4, z5, z6, z7] (.inl 14 :: st) v G Q := (q_w_bipush c_167_96).trans (by simp only [show ((-128 : Int) ≤ 14 ∧ (14 : Int) ≤ 127) = True by decide, true_and])
theorem c_167_98 : q_code 167 98 = (.iload_n 1, 1, 0, 0, 0, 0, 0) := by decide +kernel
theorem e_167_98 (d : Nat) (a : Int) (z0 z2 z3 z4 z5 z6 z7 : q_V) (st : List q_V) (v : q_H) (G : q_Gr) (Q : q_V → q_H → q_Gr → Prop) : q_wp d 167 98 [z0, .inl a, z2, z3, z4, z5, z6, z7] st v G Q = q_wp d 167 99 [z0, .inl a, z2, z3, z4, z5, z6, z7] (.inl a :: st) v G Q := q_w_iload_n c_167_98 rfl
theorem c_167_99 : q_code 167 99 = (.imul, 1, 0, 0, 0, 0, 0) := by decide +kernel
theorem e_167_99 (d : Nat) (a b : Int) (z0 z1 z2 z3 z4 z5 z6 z7 : q_V) (st : List q_V) (v : q_H) (G : q_Gr) (Q : q_V → q_H → q_Gr → Prop) : q_wp d 167 99 [z0, z1, z2, z3, z4, z5, z6, z7] (.inl b :: .inl a :: st) v G Q = q_wp d 167 100 [z0, z1, z2, z3, z4, z5, z6, z7] (.inl (a * b) :: st) v G Q := q_w_imul c_167_99
theorem c_167_100 : q_code 167 100 = (.iload_n 2, 1, 0, 0, 0, 0, 0) := by decide +kernel
theorem e_167_100 (d : Nat) (a : Int) (z0 z1 z3 z4 z5 z6 z7 : q_V) (st : List q_V) (v : q_H) (G : q_Gr) (Q : q_V → q_H → q_Gr → Prop) : q_wp d 167 100 [z0, z1, .inl a, z3, z4, z5, z6, z7] st v G Q = q_wp d 167 101 [z0, z1, .inl a, z3, z4, z5, z6, z7] (.inl a :: st) v G Q := q_w_iload_n c_167_100 rfl
theorem c_167_101 : q_code 167 101 = (.iadd, 1, 0, 0, 0, 0, 0) := by decide +kernel
theorem e_167_101 (d : Nat) (a b : Int) (z0 z1 z2 z3 z4 z5 z6 z7 : q_V) (st : List q_V) (v : q_H) (G : q_Gr) (Q : q_V → q_H → q_Gr → Prop) : q_wp d 167 101 [z0, z1, z2, z3, z4, z5, z6, z7] (.inl b :: .inl a :: st) v G Q = q_wp d 167 102 [z0, z1, z2, z3, z4, z5, z6, z7] (.inl (a + b) :: st) v G Q := q_w_iadd c_167_101
theorem c_167_102 : q_code 167 102 = (.iconst 1, 1, 0, 0, 0, 0, 0) := by decide +kernel
theorem e_167_102 (d : Nat)  (z0 z1 z2 z3 z4 z5 z6 z7 : q_V) (st : List q_V) (v : q_H) (G : q_Gr) (Q : q_V → q_H → q_Gr → Prop) : q_wp d 167 102 [z0, z1, z2, z3, z4, z5, z6, z7] st v G Q = q_wp d 167 103 [z0, z1, z2, z3, z4, z5, z6, z7] (.inl 1 :: st) v G Q := q_w_iconst c_167_102
theorem c_167_103 : q_code 167 103 = (.isub, 1, 0, 0, 0, 0, 0) := by decide +kernel
theorem e_167_103 (d : Nat) (a b : Int) (z0 z1 z2 z3 z4 z5 z6 z7 : q_V) (st : List q_V) (v : q_H) (G : q_Gr) (Q : q_V → q_H → q_Gr → Prop) : q_wp d 167 103 [z0, z1, z2, z3, z4, z5, z6, z7] (.inl b :: .inl a :: st) v G Q = q_wp d 167 104 [z0, z1, z2, z3, z4, z5, z6, z7] (.inl (a - b) :: st) v G Q := q_w_isub c_167_103
theorem c_167_104 : q_code 167 104 = (.iaload, 1, 0, 0, 0, 0, 0) := by decide +kernel
theorem e_167_104 (d : Nat) (a : Nat) (i : Int) (z0 z1 z2 z3 z4 z5 z6 z7 : q_V) (st : List q_V) (v : q_H) (G : q_Gr) (Q : q_V → q_H → q_Gr → Prop) : q_wp d 167 104 [z0, z1, z2, z3, z4, z5, z6, z7] (.inl i :: .inr (.inr (.inl (some a))) :: st) v G Q = (((G.2.1 a).1 = 20 ∧ 0 ≤ i ∧ i < (G.2.1 a).2) ∧ q_wp d 167 105 [z0, z1, z2, z3, z4, z5, z6, z7] (.inl (v a i.toNat) :: st) v G Q) := q_w_iald c_167_104
theorem c_167_105 : q_code 167 105 = (.iastore, 1, 0, 0, 0, 0, 0) := by decide +kernel
theorem e_167_105 (d : Nat) (a : Nat) (i b : Int) (z0 z1 z2 z3 z4 z5 z6 z7 : q_V) (st : List q_V) (v : q_H) (G : q_Gr) (Q : q_V → q_H → q_Gr → Prop) : q_wp d 167 105 [z0, z1, z2, z3, z4, z5, z6, z7] (.inl b :: .inl i :: .inr (.inr (.inl (some a))) :: st) v G Q = (((G.2.1 a).1 = 20 ∧ 32 ≤ a ∧ 0 ≤ i ∧ i < (G.2.1 a).2) ∧ q_wp d 167 106 [z0, z1, z2, z3, z4, z5, z6, z7] st (q_up v a i.toNat b) G Q) := q_w_iast c_167_105
theorem c_167_106 : q_code 167 106 = (.iinc 2 1, 3, 0, 0, 0, 0, 0) := by decide +kernel
theorem e_167_106 (d : Nat) (a : Int) (z0 z1 z3 z4 z5 z6 z7 : q_V) (st : List q_V) (v : q_H) (G : q_Gr) (Q : q_V → q_H → q_Gr → Prop) : q_wp d 167 106 [z0, z1, .inl a, z3, z4, z5, z6, z7] st v G Q = q_wp d 167 109 [z0, z1, .inl (a + 1), z3, z4, z5, z6, z7] st v G Q := q_w_iinc c_167_106 rfl
theorem c_167_109 : q_code 167 109 = (.goto (-95), 3, 0, 0, 0, 0, 0) := by decide +kernel
theorem e_167_109 (d : Nat)  (z0 z1 z2 z3 z4 z5 z6 z7 : q_V) (st : List q_V) (v : q_H) (G : q_Gr) (Q : q_V → q_H → q_Gr → Prop) : q_wp d 167 109 [z0, z1, z2, z3, z4, z5, z6, z7] st v G Q = q_wp d 167 14 [z0, z1, z2, z3, z4, z5, z6, z7] st v G Q := q_w_goto c_167_109 (by decide)
theorem c_167_112 : q_code 167 112 = (.iconst 1, 1, 0, 0, 0, 0, 0) := by decide +kernel
theorem e_167_112 (d : Nat)  (z0 z1 z2 z3 z4 z5 z6 z7 : q_V) (st : List q_V) (v : q_H) (G : q_Gr) (Q : q_V → q_H → q_Gr → Prop) : q_wp d 167 112 [z0, z1, z2, z3, z4, z5, z6, z7] st v G Q = q_wp d 167 113 [z0, z1, z2, z3, z4, z5, z6, z7] (.inl 1 :: st) v G Q := q_w_iconst c_167_112
theorem c_167_113 : q_code 167 113 = (.istore_n 2, 1, 0, 0, 0, 0, 0) := by decide +kernel
theorem e_167_113 (d : Nat) (a : Int) (z0 z1 z2 z3 z4 z5 z6 z7 : q_V) (st : List q_V) (v : q_H) (G : q_Gr) (Q : q_V → q_H → q_Gr → Prop) : q_wp d 167 113 [z0, z1, z2, z3, z4, z5, z6, z7] (.inl a :: st) v G Q = q_wp d 167 114 [z0, z1, .inl a, z3, z4, z5, z6, z7] st v G Q := q_w_istore_n c_167_113
theorem c_167_114 : q_code 167 114 = (.iload_n 2, 1, 0, 0, 0, 0, 0) := by decide +kernel
theorem e_167_114 (d : Nat) (a : Int) (z0 z1 z3 z4 z5 z6 z7 : q_V) (st : List q_V) (v : q_H) (G : q_Gr) (Q : q_V → q_H → q_Gr → Prop) : q_wp d 167 114 [z0, z1, .inl a, z3, z4, z5, z6, z7] st v G Q = q_wp d 167 115 [z0, z1, .inl a, z3, z4, z5, z6, z7] (.inl a :: st) v G Q := q_w_iload_n c_167_114 rfl
theorem c_167_115 : q_code 167 115 = (.aload_n 0, 1, 0, 0, 0, 0, 0) := by decide +kernel
theorem e_167_115 (d : Nat) (a : Option Nat) (z1 z2 z3 z4 z5 z6 z7 : q_V) (st : List q_V) (v : q_H) (G : q_Gr) (Q : q_V → q_H → q_Gr → Prop) : q_wp d 167 115 [.inr (.inr (.inl a)), z1, z2, z3, z4, z5, z6, z7] st v G Q = q_wp d 167 116 [.inr (.inr (.inl a)), z1, z2, z3, z4, z5, z6, z7] (.inr (.inr (.inl a)) :: st) v G Q := q_w_aload_n c_167_115 rfl
theorem c_167_116 : q_code 167 116 = (.getfield 173, 3, 11, 8, 0, 963, 0) := by decide +kernel
theorem e_167_116 (d : Nat) (a : Nat) (z0 z1 z2 z3 z4 z5 z6 z7 : q_V) (st : List q_V) (v : q_H) (G : q_Gr) (Q : q_V → q_H → q_Gr → Prop) : q_wp d 167 116 [z0, z1, z2, z3, z4, z5, z6, z7] (.inr (.inr (.inl (some a))) :: st) v G Q = (((G.2.1 a).1 = 11) ∧ q_wp d 167 119 [z0, z1, z2, z3, z4, z5, z6, z7] (.inl (v a 8) :: st) v G Q) := q_w_getI c_167_116
theorem c_167_119 : q_code 167 119 = (.if_icmp .gt 168, 3, 0, 0, 0, 0, 0) := by decide +kernel
theorem e_167_119 (d : Nat) (a b : Int) (z0 z1 z2 z3 z4 z5 z6 z7 : q_V) (st : List q_V) (v : q_H) (G : q_Gr) (Q : q_V → q_H → q_Gr → Prop) : q_wp d 167 119 [z0, z1, z2, z3, z4, z5, z6, z7] (.inl b :: .inl a :: st) v G Q = ((q_inR a ∧ q_inR b) ∧ if b < a then q_wp d 167 287 [z0, z1, z2, z3, z4, z5, z6, z7] st v G Q else q_wp d 167 122 [z0, z1, z2, z3, z4, z5, z6, z7] st v G Q) := q_w_icmp_gt c_167_119 (by decide)
theorem c_167_122 : q_code 167 122 = (.iconst 0, 1, 0, 0, 0, 0, 0) := by decide +kernel
theorem e_167_122 (d : Nat)  (z0 z1 z2 z3 z4 z5 z6 z7 : q_V) (st : List q_V) (v : q_H) (G : q_Gr) (Q : q_V → q_H → q_Gr → Prop) : q_wp d 167 122 [z0, z1, z2, z3, z4, z5, z6, z7] st v G Q = q_wp d 167 123 [z0, z1, z2, z3, z4, z5, z6, z7] (.inl 0 :: st) v G Q := q_w_iconst c_167_122
theorem c_167_123 : q_code 167 123 = (.istore_n 3, 1, 0, 0, 0, 0, 0) := by decide +kernel
theorem e_167_123 (d : Nat) (a : Int) (z0 z1 z2 z3 z4 z5 z6 z7 : q_V) (st : List q_V) (v : q_H) (G : q_Gr) (Q : q_V → q_H → q_Gr → Prop) : q_wp d 167 123 [z0, z1, z2, z3, z4, z5, z6, z7] (.inl a :: st) v G Q = q_wp d 167 124 [z0, z1, z2, .inl a, z4, z5, z6, z7] st v G Q := q_w_istore_n c_167_123
theorem c_167_124 : q_code 167 124 = (.iload_n 3, 1, 0, 0, 0, 0, 0) := by decide +kernel
theorem e_167_124 (d : Nat) (a : Int) (z0 z1 z2 z4 z5 z6 z7 : q_V) (st : List q_V) (v : q_H) (G : q_Gr) (Q : q_V → q_H → q_Gr → Prop) : q_wp d 167 124 [z0, z1, z2, .inl a, z4, z5, z6, z7] st v G Q = q_wp d 167 125 [z0, z1, z2, .inl a, z4, z5, z6, z7] (.inl a :: st) v G Q := q_w_iload_n c_167_124 rfl
theorem c_167_125 : q_code 167 125 = (.iload_n 2, 1, 0, 0, 0, 0, 0) := by decide +kernel
theorem e_167_125 (d : Nat) (a : Int) (z0 z1 z3 z4 z5 z6 z7 : q_V) (st : List q_V) (v : q_H) (G : q_Gr) (Q : q_V → q_H → q_Gr → Prop) : q_wp d 167 125 [z0, z1, .inl a, z3, z4, z5, z6, z7] st v G Q = q_wp d 167 126 [z0, z1, .inl a, z3, z4, z5, z6, z7] (.inl a :: st) v G Q := q_w_iload_n c_167_125 rfl
theorem c_167_126 : q_code 167 126 = (.iadd, 1, 0, 0, 0, 0, 0) := by decide +kernel
theorem e_167_126 (d : Nat) (a b : Int) (z0 z1 z2 z3 z4 z5 z6 z7 : q_V) (st : List q_V) (v : q_H) (G : q_Gr) (Q : q_V → q_H → q_Gr → Prop) : q_wp d 167 126 [z0, z1, z2, z3, z4, z5, z6, z7] (.inl b :: .inl a :: st) v G Q = q_wp d 167 127 [z0, z1, z2, z3, z4, z5, z6, z7] (.inl (a + b) :: st) v G Q := q_w_iadd c_167_126
theorem c_167_127 : q_code 167 127 = (.aload_n 0, 1, 0, 0, 0, 0, 0) := by decide +kernel
theorem e_167_127 (d : Nat) (a : Option Nat) (z1 z2 z3 z4 z5 z6 z7 : q_V) (st : List q_V) (v : q_H) (G : q_Gr) (Q : q_V → q_H → q_Gr → Prop) : q_wp d 167 127 [.inr (.inr (.inl a)), z1, z2, z3, z4, z5, z6, z7] st v G Q = q_wp d 167 128 [.inr (.inr (.inl a)), z1, z2, z3, z4, z5, z6, z7] (.inr (.inr (.inl a)) :: st) v G Q := q_w_aload_n c_167_127 rfl
theorem c_167_128 : q_code 167 128 = (.getfield 173, 3, 11, 8, 0, 963, 0) := by decide +kernel
theorem e_167_128 (d : Nat) (a : Nat) (z0 z1 z2 z3 z4 z5 z6 z7 : q_V) (st : List q_V) (v : q_H) (G : q_Gr) (Q : q_V → q_H → q_Gr → Prop) : q_wp d 167 128 [z0, z1, z2, z3, z4, z5, z6, z7] (.inr (.inr (.inl (some a))) :: st) v G Q = (((G.2.1 a).1 = 11) ∧ q_wp d 167 131 [z0, z1, z2, z3, z4, z5, z6, z7] (.inl (v a 8) :: st) v G Q) := q_w_getI c_167_128
theorem c_167_131 : q_code 167 131 = (.if_icmp .gt 150, 3, 0, 0, 0, 0, 0) := by decide +kernel
theorem e_167_131 (d : Nat) (a b : Int) (z0 z1 z2 z3 z4 z5 z6 z7 : q_V) (st : List q_V) (v : q_H) (G : q_Gr) (Q : q_V → q_H → q_Gr → Prop) : q_wp d 167 131 [z0, z1, z2, z3, z4, z5, z6, z7] (.inl b :: .inl a :: st) v G Q = ((q_inR a ∧ q_inR b) ∧ if b < a then q_wp d 167 281 [z0, z1, z2, z3, z4, z5, z6, z7] st v G Q else q_wp d 167 134 [z0, z1, z2, z3, z4, z5, z6, z7] st v G Q) := q_w_icmp_gt c_167_131 (by decide)
theorem c_167_134 : q_code 167 134 = (.bipush 17, 2, 0, 0, 0, 0, 0) := by decide +kernel
theorem e_167_134 (d : Nat)  (z0 z1 z2 z3 z4 z5 z6 z7 : q_V) (st : List q_V) (v : q_H) (G : q_Gr) (Q : q_V → q_H → q_Gr → Prop) : q_wp d 167 134 [z0, z1, z2, z3, z4, z5, z6, z7] st v G Q = q_wp d 167 136 [z0, z1, z2, z3, z4, z5, z6, z7] (.inl 17 :: st) v G Q := (q_w_bipush c_167_134).trans (by simp only [show ((-128 : Int) ≤ 17 ∧ (17 : Int) ≤ 127) = True by decide, true_and])
theorem c_167_136 : q_code 167 136 = (.iload_n 3, 1, 0, 0, 0, 0, 0) := by decide +kernel
theorem e_167_136 (d : Nat) (a : Int) (z0 z1 z2 z4 z5 z6 z7 : q_V) (st : List q_V) (v : q_H) (G : q_Gr) (Q : q_V → q_H → q_Gr → Prop) : q_wp d 167 136 [z0, z1, z2, .inl a, z4, z5, z6, z7] st v G Q = q_wp d 167 137 [z0, z1, z2, .inl a, z4, z5, z6, z7] (.inl a :: st) v G Q := q_w_iload_n c_167_136 rfl
theorem c_167_137 : q_code 167 137 = (.imul, 1, 0, 0, 0, 0, 0) := by decide +kernel
theorem e_167_137 (d : Nat) (a b : Int) (z0 z1 z2 z3 z4 z5 z6 z7 : q_V) (st : List q_V) (v : q_H) (G : q_Gr) (Q : q_V → q_H → q_Gr → Prop) : q_wp d 167 137 [z0, z1, z2, z3, z4, z5, z6, z7] (.inl b :: .inl a :: st) v G Q = q_wp d 167 138 [z0, z1, z2, z3, z4, z5, z6, z7] (.inl (a * b) :: st) v G Q := q_w_imul c_167_137
theorem c_167_138 : q_code 167 138 = (.iload_n 2, 1, 0, 0, 0, 0, 0) := by decide +kernel
theorem e_167_138 (d : Nat) (a : Int) (z0 z1 z3 z4 z5 z6 z7 : q_V) (st : List q_V) (v : q_H) (G : q_Gr) (Q : q_V → q_H → q_Gr → Prop) : q_wp d 167 138 [z0, z1, .inl a, z3, z4, z5, z6, z7] st v G Q = q_wp d 167 139 [z0, z1, .inl a, z3, z4, z5, z6, z7] (.inl a :: st) v G Q := q_w_iload_n c_167_138 rfl
theorem c_167_139 : q_code 167 139 = (.iadd, 1, 0, 0, 0, 0, 0) := by decide +kernel
theorem e_167_139 (d : Nat) (a b : Int) (z0 z1 z2 z3 z4 z5 z6 z7 : q_V) (st : List q_V) (v : q_H) (G : q_Gr) (Q : q_V → q_H → q_Gr → Prop) : q_wp d 167 139 [z0, z1, z2, z3, z4, z5, z6, z7] (.inl b :: .inl a :: st) v G Q = q_wp d 167 140 [z0, z1, z2, z3, z4, z5, z6, z7] (.inl (a + b) :: st) v G Q := q_w_iadd c_167_139
theorem c_167_140 : q_code 167 140 = (.istore 4, 2, 0, 0, 0, 0, 0) := by decide +kernel
theorem e_167_140 (d : Nat) (a : Int) (z0 z1 z2 z3 z4 z5 z6 z7 : q_V) (st : List q_V) (v : q_H) (G : q_Gr) (Q : q_V → q_H → q_Gr → Prop) : q_wp d 167 140 [z0, z1, z2, z3, z4, z5, z6, z7] (.inl a :: st) v G Q = q_wp d 167 142 [z0, z1, z2, z3, .inl a, z5, z6, z7] st v G Q := q_w_istore c_167_140
theorem c_167_142 : q_code 167 142 = (.iload_n 2, 1, 0, 0, 0, 0, 0) := by decide +kernel
theorem e_167_142 (d : Nat) (a : Int) (z0 z1 z3 z4 z5 z6 z7 : q_V) (st : List q_V) (v : q_H) (G : q_Gr) (Q : q_V → q_H → q_Gr → Prop) : q_wp d 167 142 [z0, z1, .inl a, z3, z4, z5, z6, z7] st v G Q = q_wp d 167 143 [z0, z1, .inl a, z3, z4, z5, z6, z7] (.inl a :: st) v G Q := q_w_iload_n c_167_142 rfl
theorem c_167_143 : q_code 167 143 = (.iconst 1, 1, 0, 0, 0, 0, 0) := by decide +kernel
theorem e_167_143 (d : Nat)  (z0 z1 z2 z3 z4 z5 z6 z7 : q_V) (st : List q_V) (v : q_H) (G : q_Gr) (Q : q_V → q_H → q_Gr → Prop) : q_wp d 167 143 [z0, z1, z2, z3, z4, z5, z6, z7] st v G Q = q_wp d 167 144 [z0, z1, z2, z3, z4, z5, z6, z7] (.inl 1 :: st) v G Q := q_w_iconst c_167_143
theorem c_167_144 : q_code 167 144 = (.if_icmp .ne 41, 3, 0, 0, 0, 0, 0) := by decide +kernel
theorem e_167_144 (d : Nat) (a b : Int) (z0 z1 z2 z3 z4 z5 z6 z7 : q_V) (st : List q_V) (v : q_H) (G : q_Gr) (Q : q_V → q_H → q_Gr → Prop) : q_wp d 167 144 [z0, z1, z2, z3, z4, z5, z6, z7] (.inl b :: .inl a :: st) v G Q = ((q_inR a ∧ q_inR b) ∧ if ¬ a = b then q_wp d 167 185 [z0, z1, z2, z3, z4, z5, z6, z7] st v G Q else q_wp d 167 147 [z0, z1, z2, z3, z4, z5, z6, z7] st v G Q) := q_w_icmp_ne c_167_144 (by decide)
theorem c_167_147 : q_code 167 147 = (.aload_n 0, 1, 0, 0, 0, 0, 0) := by decide +kernel
theorem e_167_147 (d : Nat) (a : Option Nat) (z1 z2 z3 z4 z5 z6 z7 : q_V) (st : List q_V) (v : q_H) (G : q_Gr) (Q : q_V → q_H → q_Gr → Prop) : q_wp d 167 147 [.inr (.inr (.inl a)), z1, z2, z3, z4, z5, z6, z7] st v G Q = q_wp d 167 148 [.inr (.inr (.inl a)), z1, z2, z3, z4, z5, z6, z7] (.inr (.inr (.inl a)) :: st) v G Q := q_w_aload_n c_167_147 rfl
theorem c_167_148 : q_code 167 148 = (.getfield 34, 3, 11, 11, 1, 966, 0) := by decide +kernel
theorem e_167_148 (d : Nat) (a : Nat) (z0 z1 z2 z3 z4 z5 z6 z7 : q_V) (st : List q_V) (v : q_H) (G : q_Gr) (Q : q_V → q_H → q_Gr → Prop) : q_wp d 167 148 [z0, z1, z2, z3, z4, z5, z6, z7] (.inr (.inr (.inl (some a))) :: st) v G Q = (((G.2.1 a).1 = 11) ∧ q_wp d 167 151 [z0, z1, z2, z3, z4, z5, z6, z7] (.inr (.inr (.inl (G.1 a 11))) :: st) v G Q) := q_w_getP c_167_148
theorem c_167_151 : q_code 167 151 = (.iload 4, 2, 0, 0, 0, 0, 0) := by decide +kernel
theorem e_167_151 (d : Nat) (a : Int) (z0 z1 z2 z3 z5 z6 z7 : q_V) (st : List q_V) (v : q_H) (G : q_Gr) (Q : q_V → q_H → q_Gr → Prop) : q_wp d 167 151 [z0, z1, z2, z3, .inl a, z5, z6, z7] st v G Q = q_wp d 167 153 [z0, z1, z2, z3, .inl a, z5, z6, z7] (.inl a :: st) v G Q := q_w_iload c_167_151 rfl
theorem c_167_153 : q_code 167 153 = (.aload_n 0, 1, 0, 0, 0, 0, 0) := by decide +kernel
theorem e_167_153 (d : Nat) (a : Option Nat) (z1 z2 z3 z4 z5 z6 z7 : q_V) (st : List q_V) (v : q_H) (G : q_Gr) (Q : q_V → q_H → q_Gr → Prop) : q_wp d 167 153 [.inr (.inr (.inl a)), z1, z2, z3, z4, z5, z6, z7] st v G Q = q_wp d 167 154 [.inr (.inr (.inl a)), z1, z2, z3, z4, z5, z6, z7] (.inr (.inr (.inl a)) :: st) v G Q := q_w_aload_n c_167_153 rfl
theorem c_167_154 : q_code 167 154 = (.getfield 28, 3, 11, 9, 1, 964, 0) := by decide +kernel
theorem e_167_154 (d : Nat) (a : Nat) (z0 z1 z2 z3 z4 z5 z6 z7 : q_V) (st : List q_V) (v : q_H) (G : q_Gr) (Q : q_V → q_H → q_Gr → Prop) : q_wp d 167 154 [z0, z1, z2, z3, z4, z5, z6, z7] (.inr (.inr (.inl (some a))) :: st) v G Q = (((G.2.1 a).1 = 11) ∧ q_wp d 167 157 [z0, z1, z2, z3, z4, z5, z6, z7] (.inr (.inr (.inl (G.1 a 9))) :: st) v G Q) := q_w_getP c_167_154
theorem c_167_157 : q_code 167 157 = (.iload_n 3, 1, 0, 0, 0, 0, 0) := by decide +kernel
theorem e_167_157 (d : Nat) (a : Int) (z0 z1 z2 z4 z5 z6 z7 : q_V) (st : List q_V) (v : q_H) (G : q_Gr) (Q : q_V → q_H → q_Gr → Prop) : q_wp d 167 157 [z0, z1, z2, .inl a, z4, z5, z6, z7] st v G Q = q_wp d 167 158 [z0, z1, z2, .inl a, z4, z5, z6, z7] (.inl a :: st) v G Q := q_w_iload_n c_167_157 rfl
theorem c_167_158 : q_code 167 158 = (.iaload, 1, 0, 0, 0, 0, 0) := by decide +kernel
theorem e_167_158 (d : Nat) (a : Nat) (i : Int) (z0 z1 z2 z3 z4 z5 z6 z7 : q_V) (st : List q_V) (v : q_H) (G : q_Gr) (Q : q_V → q_H → q_Gr → Prop) : q_wp d 167 158 [z0, z1, z2, z3, z4, z5, z6, z7] (.inl i :: .inr (.inr (.inl (some a))) :: st) v G Q = (((G.2.1 a).1 = 20 ∧ 0 ≤ i ∧ i < (G.2.1 a).2) ∧ q_wp d 167 159 [z0, z1, z2, z3, z4, z5, z6, z7] (.inl (v a i.toNat) :: st) v G Q) := q_w_iald c_167_158
theorem c_167_159 : q_code 167 159 = (.aload_n 0, 1, 0, 0, 0, 0, 0) := by decide +kernel
theorem e_167_159 (d : Nat) (a : Option Nat) (z1 z2 z3 z4 z5 z6 z7 : q_V) (st : List q_V) (v : q_H) (G : q_Gr) (Q : q_V → q_H → q_Gr → Prop) : q_wp d 167 159 [.inr (.inr (.inl a)), z1, z2, z3, z4, z5, z6, z7] st v G Q = q_wp d 167 160 [.inr (.inr (.inl a)), z1, z2, z3, z4, z5, z6, z7] (.inr (.inr (.inl a)) :: st) v G Q := q_w_aload_n c_167_159 rfl
theorem c_167_160 : q_code 167 160 = (.getfield 31, 3, 11, 10, 1, 965, 0) := by decide +kernel
theorem e_167_160 (d : Nat) (a : Nat) (z0 z1 z2 z3 z4 z5 z6 z7 : q_V) (st : List q_V) (v : q_H) (G : q_Gr) (Q : q_V → q_H → q_Gr → Prop) : q_wp d 167 160 [z0, z1, z2, z3, z4, z5, z6, z7] (.inr (.inr (.inl (some a))) :: st) v G Q = (((G.2.1 a).1 = 11) ∧ q_wp d 167 163 [z0, z1, z2, z3, z4, z5, z6, z7] (.inr (.inr (.inl (G.1 a 10))) :: st) v G Q) := q_w_getP c_167_160
theorem c_167_163 : q_code 167 163 = (.iload_n 3, 1, 0, 0, 0, 0, 0) := by decide +kernel
theorem e_167_163 (d : Nat) (a : Int) (z0 z1 z2 z4 z5 z6 z7 : q_V) (st : List q_V) (v : q_H) (G : q_Gr) (Q : q_V → q_H → q_Gr → Prop) : q_wp d 167 163 [z0, z1, z2, .inl a, z4, z5, z6, z7] st v G Q = q_wp d 167 164 [z0, z1, z2, .inl a, z4, z5, z6, z7] (.inl a :: st) v G Q := q_w_iload_n c_167_163 rfl
theorem c_167_164 : q_code 167 164 = (.iaload, 1, 0, 0, 0, 0, 0) := by decide +kernel
theorem e_167_164 (d : Nat) (a : Nat) (i : Int) (z0 z1 z2 z3 z4 z5 z6 z7 : q_V) (st : List q_V) (v : q_H) (G : q_Gr) (Q : q_V → q_H → q_Gr → Prop) : q_wp d 167 164 [z0, z1, z2, z3, z4, z5, z6, z7] (.inl i :: .inr (.inr (.inl (some a))) :: st) v G Q = (((G.2.1 a).1 = 20 ∧ 0 ≤ i ∧ i < (G.2.1 a).2) ∧ q_wp d 167 165 [z0, z1, z2, z3, z4, z5, z6, z7] (.inl (v a i.toNat) :: st) v G Q) := q_w_iald c_167_164
theorem c_167_165 : q_code 167 165 = (.invokestatic 176, 3, 165, 2, 0, 1150, 1) := by decide +kernel
theorem e_167_165 (d : Nat) (x0 x1 y0 y1 : q_V) (z0 z1 z2 z3 z4 z5 z6 z7 : q_V) (v : q_H) (G : q_Gr) (Q : q_V → q_H → q_Gr → Prop) : q_wp d 167 165 [z0, z1, z2, z3, z4, z5, z6, z7] [x1, x0, y0, y1] v G Q = q_call d 165 [x0, x1] v G (fun r v G => q_wp d 167 168 [z0, z1, z2, z3, z4, z5, z6, z7] (q_push r [y0, y1]) v G Q) := q_wp_ca (m2 := 165) (k := 2) (as := [x0, x1]) (rest := [y0, y1]) (congrArg q_kind c_167_165) (congrArg (fun w => w.2.2.1) c_167_165) (congrArg (fun w => w.2.2.2.1) c_167_165) rfl (Nat.le_of_ble_eq_true rfl) rfl
theorem c_167_168 : q_code 167 168 = (.iastore, 1, 0, 0, 0, 0, 0) := by decide +kernel
theorem e_167_168 (d : Nat) (a : Nat) (i b : Int) (z0 z1 z2 z3 z4 z5 z6 z7 : q_V) (st : List q_V) (v : q_H) (G : q_Gr) (Q : q_V → q_H → q_Gr → Prop) : q_wp d 167 168 [z0, z1, z2, z3, z4, z5, z6, z7] (.inl b :: .inl i :: .inr (.inr (.inl (some a))) :: st) v G Q = (((G.2.1 a).1 = 20 ∧ 32 ≤ a ∧ 0 ≤ i ∧ i < (G.2.1 a).2) ∧ q_wp d 167 169 [z0, z1, z2, z3, z4, z5, z6, z7] st (q_up v a i.toNat b) G Q) := q_w_iast c_167_168
theorem c_167_169 : q_code 167 169 = (.aload_n 0, 1, 0, 0, 0, 0, 0) := by decide +kernel
theorem e_167_169 (d : Nat) (a : Option Nat) (z1 z2 z3 z4 z5 z6 z7 : q_V) (st : List q_V) (v : q_H) (G : q_Gr) (Q : q_V → q_H → q_Gr → Prop) : q_wp d 167 169 [.inr (.inr (.inl a)), z1, z2, z3, z4, z5, z6, z7] st v G Q = q_wp d 167 170 [.inr (.inr (.inl a)), z1, z2, z3, z4, z5, z6, z7] (.inr (.inr (.inl a)) :: st) v G Q := q_w_aload_n c_167_169 rfl
theorem c_167_170 : q_code 167 170 = (.getfield 37, 3, 11, 12, 1, 967, 0) := by decide +kernel
theorem e_167_170 (d : Nat) (a : Nat) (z0 z1 z2 z3 z4 z5 z6 z7 : q_V) (st : List q_V) (v : q_H) (G : q_Gr) (Q : q_V → q_H → q_Gr → Prop) : q_wp d 167 170 [z0, z1, z2, z3, z4, z5, z6, z7] (.inr (.inr (.inl (some a))) :: st) v G Q = (((G.2.1 a).1 = 11) ∧ q_wp d 167 173 [z0, z1, z2, z3, z4, z5, z6, z7] (.inr (.inr (.inl (G.1 a 12))) :: st) v G Q) := q_w_getP c_167_170
theorem c_167_173 : q_code 167 173 = (.iload 4, 2, 0, 0, 0, 0, 0) := by decide +kernel
theorem e_167_173 (d : Nat) (a : Int) (z0 z1 z2 z3 z5 z6 z7 : q_V) (st : List q_V) (v : q_H) (G : q_Gr) (Q : q_V → q_H → q_Gr → Prop) : q_wp d 167 173 [z0, z1, z2, z3, .inl a, z5, z6, z7] st v G Q = q_wp d 167 175 [z0, z1, z2, z3, .inl a, z5, z6, z7] (.inl a :: st) v G Q := q_w_iload c_167_173 rfl
theorem c_167_175 : q_code 167 175 = (.aload_n 0, 1, 0, 0, 0, 0, 0) := by decide +kernel
theorem e_167_175 (d : Nat) (a : Option Nat) (z1 z2 z3 z4 z5 z6 z7 : q_V) (st : List q_V) (v : q_H) (G : q_Gr) (Q : q_V → q_H → q_Gr → Prop) : q_wp d 167 175 [.inr (.inr (.inl a)), z1, z2, z3, z4, z5, z6, z7] st v G Q = q_wp d 167 176 [.inr (.inr (.inl a)), z1, z2, z3, z4, z5, z6, z7] (.inr (.inr (.inl a)) :: st) v G Q := q_w_aload_n c_167_175 rfl
theorem c_167_176 : q_code 167 176 = (.getfield 31, 3, 11, 10, 1, 965, 0) := by decide +kernel
theorem e_167_176 (d : Nat) (a : Nat) (z0 z1 z2 z3 z4 z5 z6 z7 : q_V) (st : List q_V) (v : q_H) (G : q_Gr) (Q : q_V → q_H → q_Gr → Prop) : q_wp d 167 176 [z0, z1, z2, z3, z4, z5, z6, z7] (.inr (.inr (.inl (some a))) :: st) v G Q = (((G.2.1 a).1 = 11) ∧ q_wp d 167 179 [z0, z1, z2, z3, z4, z5, z6, z7] (.inr (.inr (.inl (G.1 a 10))) :: st) v G Q) := q_w_getP c_167_176
theorem c_167_179 : q_code 167 179 = (.iload_n 3, 1, 0, 0, 0, 0, 0) := by decide +kernel
theorem e_167_179 (d : Nat) (a : Int) (z0 z1 z2 z4 z5 z6 z7 : q_V) (st : List q_V) (v : q_H) (G : q_Gr) (Q : q_V → q_H → q_Gr → Prop) : q_wp d 167 179 [z0, z1, z2, .inl a, z4, z5, z6, z7] st v G Q = q_wp d 167 180 [z0, z1, z2, .inl a, z4, z5, z6, z7] (.inl a :: st) v G Q := q_w_iload_n c_167_179 rfl
theorem c_167_180 : q_code 167 180 = (.iaload, 1, 0, 0, 0, 0, 0) := by decide +kernel
theorem e_167_180 (d : Nat) (a : Nat) (i : Int) (z0 z1 z2 z3 z4 z5 z6 z7 : q_V) (st : List q_V) (v : q_H) (G : q_Gr) (Q : q_V → q_H → q_Gr → Prop) : q_wp d 167 180 [z0, z1, z2, z3, z4, z5, z6, z7] (.inl i :: .inr (.inr (.inl (some a))) :: st) v G Q = (((G.2.1 a).1 = 20 ∧ 0 ≤ i ∧ i < (G.2.1 a).2) ∧ q_wp d 167 181 [z0, z1, z2, z3, z4, z5, z6, z7] (.inl (v a i.toNat) :: st) v G Q) := q_w_iald c_167_180
theorem c_167_181 : q_code 167 181 = (.iastore, 1, 0, 0, 0, 0, 0) := by decide +kernel
theorem e_167_181 (d : Nat) (a : Nat) (i b : Int) (z0 z1 z2 z3 z4 z5 z6 z7 : q_V) (st : List q_V) (v : q_H) (G : q_Gr) (Q : q_V → q_H → q_Gr → Prop) : q_wp d 167 181 [z0, z1, z2, z3, z4, z5, z6, z7] (.inl b :: .inl i :: .inr (.inr (.inl (some a))) :: st) v G Q = (((G.2.1 a).1 = 20 ∧ 32 ≤ a ∧ 0 ≤ i ∧ i < (G.2.1 a).2) ∧ q_wp d 167 182 [z0, z1, z2, z3, z4, z5, z6, z7] st (q_up v a i.toNat b) G Q) := q_w_iast c_167_181
theorem c_167_182 : q_code 167 182 = (.goto 93, 3, 0, 0, 0, 0, 0) := by decide +kernel
theorem e_167_182 (d : Nat)  (z0 z1 z2 z3 z4 z5 z6 z7 : q_V) (st : List q_V) (v : q_H) (G : q_Gr) (Q : q_V → q_H → q_Gr → Prop) : q_wp d 167 182 [z0, z1, z2, z3, z4, z5, z6, z7] st v G Q = q_wp d 167 275 [z0, z1, z2, z3, z4, z5, z6, z7] st v G Q := q_w_goto c_167_182 (by decide)
theorem c_167_185 : q_code 167 185 = (.iload_n 2, 1, 0, 0, 0, 0, 0) := by decide +kernel
theorem e_167_185 (d : Nat) (a : Int) (z0 z1 z3 z4 z5 z6 z7 : q_V) (st : List q_V) (v : q_H) (G : q_Gr) (Q : q_V → q_H → q_Gr → Prop) : q_wp d 167 185 [z0, z1, .inl a, z3, z4, z5, z6, z7] st v G Q = q_wp d 167 186 [z0, z1, .inl a, z3, z4, z5, z6, z7] (.inl a :: st) v G Q := q_w_iload_n c_167_185 rfl
theorem c_167_186 : q_code 167 186 = (.iconst 1, 1, 0, 0, 0, 0, 0) := by decide +kernel
theorem e_167_186 (d : Nat)  (z0 z1 z2 z3 z4 z5 z6 z7 : q_V) (st : List q_V) (v : q_H) (G : q_Gr) (Q : q_V → q_H → q_Gr → Prop) : q_wp d 167 186 [z0, z1, z2, z3, z4, z5, z6, z7] st v G Q = q_wp d 167 187 [z0, z1, z2, z3, z4, z5, z6, z7] (.inl 1 :: st) v G Q := q_w_iconst c_167_186
theorem c_167_187 : q_code 167 187 = (.iadd, 1, 0, 0, 0, 0, 0) := by decide +kernel
theorem e_167_187 (d : Nat) (a b : Int) (z0 z1 z2 z3 z4 z5 z6 z7 : q_V) (st : List q_V) (v : q_H) (G : q_Gr) (Q : q_V → q_H → q_Gr → Prop) : q_wp d 167 187 [z0, z1, z2, z3, z4, z5, z6, z7] (.inl b :: .inl a :: st) v G Q = q_wp d 167 188 [z0, z1, z2, z3, z4, z5, z6, z7] (.inl (a + b) :: st) v G Q := q_w_iadd c_167_187
theorem c_167_188 : q_code 167 188 = (.iconst 2, 1, 0, 0, 0, 0, 0) := by decide +kernel
theorem e_167_188 (d : Nat)  (z0 z1 z2 z3 z4 z5 z6 z7 : q_V) (st : List q_V) (v : q_H) (G : q_Gr) (Q : q_V → q_H → q_Gr → Prop) : q_wp d 167 188 [z0, z1, z2, z3, z4, z5, z6, z7] st v G Q = q_wp d 167 189 [z0, z1, z2, z3, z4, z5, z6, z7] (.inl 2 :: st) v G Q := q_w_iconst c_167_188
theorem c_167_189 : q_code 167 189 = (.idiv, 1, 0, 0, 0, 0, 0) := by decide +kernel
theorem e_167_189 (d : Nat) (a b : Int) (z0 z1 z2 z3 z4 z5 z6 z7 : q_V) (st : List q_V) (v : q_H) (G : q_Gr) (Q : q_V → q_H → q_Gr → Prop) : q_wp d 167 189 [z0, z1, z2, z3, z4, z5, z6, z7] (.inl b :: .inl a :: st) v G Q = ((q_inR a ∧ 0 < b ∧ b ≤ 2147483647) ∧ q_wp d 167 190 [z0, z1, z2, z3, z4, z5, z6, z7] (.inl (a.tdiv b) :: st) v G Q) := q_w_idiv c_167_189
theorem c_167_190 : q_code 167 190 = (.istore 5, 2, 0, 0, 0, 0, 0) := by decide +kernel
theorem e_167_190 (d : Nat) (a : Int) (z0 z1 z2 z3 z4 z5 z6 z7 : q_V) (st : List q_V) (v : q_H) (G : q_Gr) (Q : q_V → q_H → q_Gr → Prop) : q_wp d 167 190 [z0, z1, z2, z3, z4, z5, z6, z7] (.inl a :: st) v G Q = q_wp d 167 192 [z0, z1, z2, z3, z4, .inl a, z6, z7] st v G Q := q_w_istore c_167_190
theorem c_167_192 : q_code 167 192 = (.bipush 17, 2, 0, 0, 0, 0, 0) := by decide +kernel
theorem e_167_192 (d : Nat)  (z0 z1 z2 z3 z4 z5 z6 z7 : q_V) (st : List q_V) (v : q_H) (G : q_Gr) (Q : q_V → q_H → q_Gr → Prop) : q_wp d 167 192 [z0, z1, z2, z3, z4, z5, z6, z7] st v G Q = q_wp d 167 194 [z0, z1, z2, z3, z4, z5, z6, z7] (.inl 17 :: st) v G Q := (q_w_bipush c_167_192).trans (by simp only [show ((-128 : Int) ≤ 17 ∧ (17 : Int) ≤ 127) = True by decide, true_and])
theorem c_167_194 : q_code 167 194 = (.iload_n 3, 1, 0, 0, 0, 0, 0) := by decide +kernel
theorem e_167_194 (d : Nat) (a : Int) (z0 z1 z2 z4 z5 z6 z7 : q_V) (st : List q_V) (v : q_H) (G : q_Gr) (Q : q_V → q_H → q_Gr → Prop) : q_wp d 167 194 [z0, z1, z2, .inl a, z4, z5, z6, z7] st v G Q = q_wp d 167 195 [z0, z1, z2, .inl a, z4, z5, z6, z7] (.inl a :: st) v G Q := q_w_iload_n c_167_194 rfl
theorem c_167_195 : q_code 167 195 = (.imul, 1, 0, 0, 0, 0, 0) := by decide +kernel
theorem e_167_195 (d : Nat) (a b : Int) (z0 z1 z2 z3 z4 z5 z6 z7 : q_V) (st : List q_V) (v : q_H) (G : q_Gr) (Q : q_V → q_H → q_Gr → Prop) : q_wp d 167 195 [z0, z1, z2, z3, z4, z5, z6, z7] (.inl b :: .inl a :: st) v G Q = q_wp d 167 196 [z0, z1, z2, z3, z4, z5, z6, z7] (.inl (a * b) :: st) v G Q := q_w_imul c_167_195
theorem c_167_196 : q_code 167 196 = (.iload 5, 2, 0, 0, 0, 0, 0) := by decide +kernel
theorem e_167_196 (d : Nat) (a : Int) (z0 z1 z2 z3 z4 z6 z7 : q_V) (st : List q_V) (v : q_H) (G : q_Gr) (Q : q_V → q_H → q_Gr → Prop) : q_wp d 167 196 [z0, z1, z2, z3, z4, .inl a, z6, z7] st v G Q = q_wp d 167 198 [z0, z1, z2, z3, z4, .inl a, z6, z7] (.inl a :: st) v G Q := q_w_iload c_167_196 rfl
theorem c_167_198 : q_code 167 198 = (.iadd, 1, 0, 0, 0, 0, 0) := by decide +kernel
theorem e_167_198 (d : Nat) (a b : Int) (z0 z1 z2 z3 z4 z5 z6 z7 : q_V) (st : List q_V) (v : q_H) (G : q_Gr) (Q : q_V → q_H → q_Gr → Prop) : q_wp d 167 198 [z0, z1, z2, z3, z4, z5, z6, z7] (.inl b :: .inl a :: st) v G Q = q_wp d 167 199 [z0, z1, z2, z3, z4, z5, z6, z7] (.inl (a + b) :: st) v G Q := q_w_iadd c_167_198
theorem c_167_199 : q_code 167 199 = (.istore 6, 2, 0, 0, 0, 0, 0) := by decide +kernel
theorem e_167_199 (d : Nat) (a : Int) (z0 z1 z2 z3 z4 z5 z6 z7 : q_V) (st : List q_V) (v : q_H) (G : q_Gr) (Q : q_V → q_H → q_Gr → Prop) : q_wp d 167 199 [z0, z1, z2, z3, z4, z5, z6, z7] (.inl a :: st) v G Q = q_wp d 167 201 [z0, z1, z2, z3, z4, z5, .inl a, z7] st v G Q := q_w_istore c_167_199
theorem c_167_201 : q_code 167 201 = (.bipush 17, 2, 0, 0, 0, 0, 0) := by decide +kernel
theorem e_167_201 (d : Nat)  (z0 z1 z2 z3 z4 z5 z6 z7 : q_V) (st : List q_V) (v : q_H) (G : q_Gr) (Q : q_V → q_H → q_Gr → Prop) : q_wp d 167 201 [z0, z1, z2, z3, z4, z5, z6, z7] st v G Q = q_wp d 167 203 [z0, z1, z2, z3, z4, z5, z6, z7] (.inl 17 :: st) v G Q := (q_w_bipush c_167_201).trans (by simp only [show ((-128 : Int) ≤ 17 ∧ (17 : Int) ≤ 127) = True by decide, true_and])
theorem c_167_203 : q_code 167 203 = (.iload_n 3, 1, 0, 0, 0, 0, 0) := by decide +kernel
theorem e_167_203 (d : Nat) (a : Int) (z0 z1 z2 z4 z5 z6 z7 : q_V) (st : List q_V) (v : q_H) (G : q_Gr) (Q : q_V → q_H → q_Gr → Prop) : q_wp d 167 203 [z0, z1, z2, .inl a, z4, z5, z6, z7] st v G Q = q_wp d 167 204 [z0, z1, z2, .inl a, z4, z5, z6, z7] (.inl a :: st) v G Q := q_w_iload_n c_167_203 rfl
theorem c_167_204 : q_code 167 204 = (.iload 5, 2, 0, 0, 0, 0, 0) := by decide +kernel
theorem e_167_204 (d : Nat) (a : Int) (z0 z1 z2 z3 z4 z6 z7 : q_V) (st : List q_V) (v : q_H) (G : q_Gr) (Q : q_V → q_H → q_Gr → Prop) : q_wp d 167 204 [z0, z1, z2, z3, z4, .inl a, z6, z7] st v G Q = q_wp d 167 206 [z0, z1, z2, z3, z4, .inl a, z6, z7] (.inl a :: st) v G Q := q_w_iload c_167_204 rfl
theorem c_167_206 : q_code 167 206 = (.iadd, 1, 0, 0, 0, 0, 0) := by decide +kernel
theorem e_167_206 (d : Nat) (a b : Int) (z0 z1 z2 z3 z4 z5 z6 z7 : q_V) (st : List q_V) (v : q_H) (G : q_Gr) (Q : q_V → q_H → q_Gr → Prop) : q_wp d 167 206 [z0, z1, z2, z3, z4, z5, z6, z7] (.inl b :: .inl a :: st) v G Q = q_wp d 167 207 [z0, z1, z2, z3, z4, z5, z6, z7] (.inl (a + b) :: st) v G Q := q_w_iadd c_167_206
theorem c_167_207 : q_code 167 207 = (.imul, 1, 0, 0, 0, 0, 0) := by decide +kernel
theorem e_167_207 (d : Nat) (a b : Int) (z0 z1 z2 z3 z4 z5 z6 z7 : q_V) (st : List q_V) (v : q_H) (G : q_Gr) (Q : q_V → q_H → q_Gr → Prop) : q_wp d 167 207 [z0, z1, z2, z3, z4, z5, z6, z7] (.inl b :: .inl a :: st) v G Q = q_wp d 167 208 [z0, z1, z2, z3, z4, z5, z6, z7] (.inl (a * b) :: st) v G Q := q_w_imul c_167_207
theorem c_167_208 : q_code 167 208 = (.iload_n 2, 1, 0, 0, 0, 0, 0) := by decide +kernel
theorem e_167_208 (d : Nat) (a : Int) (z0 z1 z3 z4 z5 z6 z7 : q_V) (st : List q_V) (v : q_H) (G : q_Gr) (Q : q_V → q_H → q_Gr → Prop) : q_wp d 167 208 [z0, z1, .inl a, z3, z4, z5, z6, z7] st v G Q = q_wp d 167 209 [z0, z1, .inl a, z3, z4, z5, z6, z7] (.inl a :: st) v G Q := q_w_iload_n c_167_208 rfl
theorem c_167_209 : q_code 167 209 = (.iadd, 1, 0, 0, 0, 0, 0) := by decide +kernel
theorem e_167_209 (d : Nat) (a b : Int) (z0 z1 z2 z3 z4 z5 z6 z7 : q_V) (st : List q_V) (v : q_H) (G : q_Gr) (Q : q_V → q_H → q_Gr → Prop) : q_wp d 167 209 [z0, z1, z2, z3, z4, z5, z6, z7] (.inl b :: .inl a :: st) v G Q = q_wp d 167 210 [z0, z1, z2, z3, z4, z5, z6, z7] (.inl (a + b) :: st) v G Q := q_w_iadd c_167_209
theorem c_167_210 : q_code 167 210 = (.iload 5, 2, 0, 0, 0, 0, 0) := by decide +kernel
theorem e_167_210 (d : Nat) (a : Int) (z0 z1 z2 z3 z4 z6 z7 : q_V) (st : List q_V) (v : q_H) (G : q_Gr) (Q : q_V → q_H → q_Gr → Prop) : q_wp d 167 210 [z0, z1, z2, z3, z4, .inl a, z6, z7] st v G Q = q_wp d 167 212 [z0, z1, z2, z3, z4, .inl a, z6, z7] (.inl a :: st) v G Q := q_w_iload c_167_210 rfl
theorem c_167_212 : q_code 167 212 = (.isub, 1, 0, 0, 0, 0, 0) := by decide +kernel
theorem e_167_212 (d : Nat) (a b : Int) (z0 z1 z2 z3 z4 z5 z6 z7 : q_V) (st : List q_V) (v : q_H) (G : q_Gr) (Q : q_V → q_H → q_Gr → Prop) : q_wp d 167 212 [z0, z1, z2, z3, z4, z5, z6, z7] (.inl b :: .inl a :: st) v G Q = q_wp d 167 213 [z0, z1, z2, z3, z4, z5, z6, z7] (.inl (a - b) :: st) v G Q := q_w_isub c_167_212
theorem c_167_213 : q_code 167 213 = (.istore 7, 2, 0, 0, 0, 0, 0) := by decide +kernel
theorem e_167_213 (d : Nat) (a : Int) (z0 z1 z2 z3 z4 z5 z6 z7 : q_V) (st : List q_V) (v : q_H) (G : q_Gr) (Q : q_V → q_H → q_Gr → Prop) : q_wp d 167 213 [z0, z1, z2, z3, z4, z5, z6, z7] (.inl a :: st) v G Q = q_wp d 167 215 [z0, z1, z2, z3, z4, z5, z6, .inl a] st v G Q := q_w_istore c_167_213
theorem c_167_215 : q_code 167 215 = (.aload_n 0, 1, 0, 0, 0, 0, 0) := by decide +kernel
theorem e_167_215 (d : Nat) (a : Option Nat) (z1 z2 z3 z4 z5 z6 z7 : q_V) (st : List q_V) (v : q_H) (G : q_Gr) (Q : q_V → q_H → q_Gr → Prop) : q_wp d 167 215 [.inr (.inr (.inl a)), z1, z2, z3, z4, z5, z6, z7] st v G Q = q_wp d 167 216 [.inr (.inr (.inl a)), z1, z2, z3, z4, z5, z6, z7] (.inr (.inr (.inl a)) :: st) v G Q := q_w_aload_n c_167_215 rfl
theorem c_167_216 : q_code 167 216 = (.getfield 34, 3, 11, 11, 1, 966, 0) := by decide +kernel
theorem e_167_216 (d : Nat) (a : Nat) (z0 z1 z2 z3 z4 z5 z6 z7 : q_V) (st : List q_V) (v : q_H) (G : q_Gr) (Q : q_V → q_H → q_Gr → Prop) : q_wp d 167 216 [z0, z1, z2, z3, z4, z5, z6, z7] (.inr (.inr (.inl (some a))) :: st) v G Q = (((G.2.1 a).1 = 11) ∧ q_wp d 167 219 [z0, z1, z2, z3, z4, z5, z6, z7] (.inr (.inr (.inl (G.1 a 11))) :: st) v G Q) := q_w_getP c_167_216
theorem c_167_219 : q_code 167 219 = (.iload 4, 2, 0, 0, 0, 0, 0) := by decide +kernel
theorem e_167_219 (d : Nat) (a : Int) (z0 z1 z2 z3 z5 z6 z7 : q_V) (st : List q_V) (v : q_H) (G : q_Gr) (Q : q_V → q_H → q_Gr → Prop) : q_wp d 167 219 [z0, z1, z2, z3, .inl a, z5, z6, z7] st v G Q = q_wp d 167 221 [z0, z1, z2, z3, .inl a, z5, z6, z7] (.inl a :: st) v G Q := q_w_iload c_167_219 rfl
theorem c_167_221 : q_code 167 221 = (.aload_n 0, 1, 0, 0, 0, 0, 0) := by decide +kernel
theorem e_167_221 (d : Nat) (a : Option Nat) (z1 z2 z3 z4 z5 z6 z7 : q_V) (st : List q_V) (v : q_H) (G : q_Gr) (Q : q_V → q_H → q_Gr → Prop) : q_wp d 167 221 [.inr (.inr (.inl a)), z1, z2, z3, z4, z5, z6, z7] st v G Q = q_wp d 167 222 [.inr (.inr (.inl a)), z1, z2, z3, z4, z5, z6, z7] (.inr (.inr (.inl a)) :: st) v G Q := q_w_aload_n c_167_221 rfl
theorem c_167_222 : q_code 167 222 = (.getfield 34, 3, 11, 11, 1, 966, 0) := by decide +kernel
theorem e_167_222 (d : Nat) (a : Nat) (z0 z1 z2 z3 z4 z5 z6 z7 : q_V) (st : List q_V) (v : q_H) (G : q_Gr) (Q : q_V → q_H → q_Gr → Prop) : q_wp d 167 222 [z0, z1, z2, z3, z4, z5, z6, z7] (.inr (.inr (.inl (some a))) :: st) v G Q = (((G.2.1 a).1 = 11) ∧ q_wp d 167 225 [z0, z1, z2, z3, z4, z5, z6, z7] (.inr (.inr (.inl (G.1 a 11))) :: st) v G Q) := q_w_getP c_167_222
theorem c_167_225 : q_code 167 225 = (.iload 6, 2, 0, 0, 0, 0, 0) := by decide +kernel
theorem e_167_225 (d : Nat) (a : Int) (z0 z1 z2 z3 z4 z5 z7 : q_V) (st : List q_V) (v : q_H) (G : q_Gr) (Q : q_V → q_H → q_Gr → Prop) : q_wp d 167 225 [z0, z1, z2, z3, z4, z5, .inl a, z7] st v G Q = q_wp d 167 227 [z0, z1, z2, z3, z4, z5, .inl a, z7] (.inl a :: st) v G Q := q_w_iload c_167_225 rfl
theorem c_167_227 : q_code 167 227 = (.iaload, 1, 0, 0, 0, 0, 0) := by decide +kernel
theorem e_167_227 (d : Nat) (a : Nat) (i : Int) (z0 z1 z2 z3 z4 z5 z6 z7 : q_V) (st : List q_V) (v : q_H) (G : q_Gr) (Q : q_V → q_H → q_Gr → Prop) : q_wp d 167 227 [z0, z1, z2, z3, z4, z5, z6, z7] (.inl i :: .inr (.inr (.inl (some a))) :: st) v G Q = (((G.2.1 a).1 = 20 ∧ 0 ≤ i ∧ i < (G.2.1 a).2) ∧ q_wp d 167 228 [z0, z1, z2, z3, z4, z5, z6, z7] (.inl (v a i.toNat) :: st) v G Q) := q_w_iald c_167_227
theorem c_167_228 : q_code 167 228 = (.aload_n 0, 1, 0, 0, 0, 0, 0) := by decide +kernel
theorem e_167_228 (d : Nat) (a : Option Nat) (z1 z2 z3 z4 z5 z6 z7 : q_V) (st : List q_V) (v : q_H) (G : q_Gr) (Q : q_V → q_H → q_Gr → Prop) : q_wp d 167 228 [.inr (.inr (.inl a)), z1, z2, z3, z4, z5, z6, z7] st v G Q = q_wp d 167 229 [.inr (.inr (.inl a)), z1, z2, z3, z4, z5, z6, z7] (.inr (.inr (.inl a)) :: st) v G Q := q_w_aload_n c_167_228 rfl
theorem c_167_229 : q_code 167 229 = (.getfield 34, 3, 11, 11, 1, 966, 0) := by decide +kernel
theorem e_167_229 (d : Nat) (a : Nat) (z0 z1 z2 z3 z4 z5 z6 z7 : q_V) (st : List q_V) (v : q_H) (G : q_Gr) (Q : q_V → q_H → q_Gr → Prop) : q_wp d 167 229 [z0, z1, z2, z3, z4, z5, z6, z7] (.inr (.inr (.inl (some a))) :: st) v G Q = (((G.2.1 a).1 = 11) ∧ q_wp d 167 232 [z0, z1, z2, z3, z4, z5, z6, z7] (.inr (.inr (.inl (G.1 a 11))) :: st) v G Q) := q_w_getP c_167_229
theorem c_167_232 : q_code 167 232 = (.iload 7, 2, 0, 0, 0, 0, 0) := by decide +kernel
theorem e_167_232 (d : Nat) (a : Int) (z0 z1 z2 z3 z4 z5 z6 : q_V) (st : List q_V) (v : q_H) (G : q_Gr) (Q : q_V → q_H → q_Gr → Prop) : q_wp d 167 232 [z0, z1, z2, z3, z4, z5, z6, .inl a] st v G Q = q_wp d 167 234 [z0, z1, z2, z3, z4, z5, z6, .inl a] (.inl a :: st) v G Q := q_w_iload c_167_232 rfl
theorem c_167_234 : q_code 167 234 = (.iaload, 1, 0, 0, 0, 0, 0) := by decide +kernel
theorem e_167_234 (d : Nat) (a : Nat) (i : Int) (z0 z1 z2 z3 z4 z5 z6 z7 : q_V) (st : List q_V) (v : q_H) (G : q_Gr) (Q : q_V → q_H → q_Gr → Prop) : q_wp d 167 234 [z0, z1, z2, z3, z4, z5, z6, z7] (.inl i :: .inr (.inr (.inl (some a))) :: st) v G Q = (((G.2.1 a).1 = 20 ∧ 0 ≤ i ∧ i < (G.2.1 a).2) ∧ q_wp d 167 235 [z0, z1, z2, z3, z4, z5, z6, z7] (.inl (v a i.toNat) :: st) v G Q) := q_w_iald c_167_234
theorem c_167_235 : q_code 167 235 = (.aload_n 0, 1, 0, 0, 0, 0, 0) := by decide +kernel
theorem e_167_235 (d : Nat) (a : Option Nat) (z1 z2 z3 z4 z5 z6 z7 : q_V) (st : List q_V) (v : q_H) (G : q_Gr) (Q : q_V → q_H → q_Gr → Prop) : q_wp d 167 235 [.inr (.inr (.inl a)), z1, z2, z3, z4, z5, z6, z7] st v G Q = q_wp d 167 236 [.inr (.inr (.inl a)), z1, z2, z3, z4, z5, z6, z7] (.inr (.inr (.inl a)) :: st) v G Q := q_w_aload_n c_167_235 rfl
theorem c_167_236 : q_code 167 236 = (.getfield 37, 3, 11, 12, 1, 967, 0) := by decide +kernel
theorem e_167_236 (d : Nat) (a : Nat) (z0 z1 z2 z3 z4 z5 z6 z7 : q_V) (st : List q_V) (v : q_H) (G : q_Gr) (Q : q_V → q_H → q_Gr → Prop) : q_wp d 167 236 [z0, z1, z2, z3, z4, z5, z6, z7] (.inr (.inr (.inl (some a))) :: st) v G Q = (((G.2.1 a).1 = 11) ∧ q_wp d 167 239 [z0, z1, z2, z3, z4, z5, z6, z7] (.inr (.inr (.inl (G.1 a 12))) :: st) v G Q) := q_w_getP c_167_236
theorem c_167_239 : q_code 167 239 = (.iload 6, 2, 0, 0, 0, 0, 0) := by decide +kernel
theorem e_167_239 (d : Nat) (a : Int) (z0 z1 z2 z3 z4 z5 z7 : q_V) (st : List q_V) (v : q_H) (G : q_Gr) (Q : q_V → q_H → q_Gr → Prop) : q_wp d 167 239 [z0, z1, z2, z3, z4, z5, .inl a, z7] st v G Q = q_wp d 167 241 [z0, z1, z2, z3, z4, z5, .inl a, z7] (.inl a :: st) v G Q := q_w_iload c_167_239 rfl
theorem c_167_241 : q_code 167 241 = (.iaload, 1, 0, 0, 0, 0, 0) := by decide +kernel
theorem e_167_241 (d : Nat) (a : Nat) (i : Int) (z0 z1 z2 z3 z4 z5 z6 z7 : q_V) (st : List q_V) (v : q_H) (G : q_Gr) (Q : q_V → q_H → q_Gr → Prop) : q_wp d 167 241 [z0, z1, z2, z3, z4, z5, z6, z7] (.inl i :: .inr (.inr (.inl (some a))) :: st) v G Q = (((G.2.1 a).1 = 20 ∧ 0 ≤ i ∧ i < (G.2.1 a).2) ∧ q_wp d 167 242 [z0, z1, z2, z3, z4, z5, z6, z7] (.inl (v a i.toNat) :: st) v G Q) := q_w_iald c_167_241
theorem c_167_242 : q_code 167 242 = (.aload_n 0, 1, 0, 0, 0, 0, 0) := by decide +kernel
theorem e_167_242 (d : Nat) (a : Option Nat) (z1 z2 z3 z4 z5 z6 z7 : q_V) (st : List q_V) (v : q_H) (G : q_Gr) (Q : q_V → q_H → q_Gr → Prop) : q_wp d 167 242 [.inr (.inr (.inl a)), z1, z2, z3, z4, z5, z6, z7] st v G Q = q_wp d 167 243 [.inr (.inr (.inl a)), z1, z2, z3, z4, z5, z6, z7] (.inr (.inr (.inl a)) :: st) v G Q := q_w_aload_n c_167_242 rfl
theorem c_167_243 : q_code 167 243 = (.getfield 37, 3, 11, 12, 1, 967, 0) := by decide +kernel
theorem e_167_243 (d : Nat) (a : Nat) (z0 z1 z2 z3 z4 z5 z6 z7 : q_V) (st : List q_V) (v : q_H) (G : q_Gr) (Q : q_V → q_H → q_Gr → Prop) : q_wp d 167 243 [z0, z1, z2, z3, z4, z5, z6, z7] (.inr (.inr (.inl (some a))) :: st) v G Q = (((G.2.1 a).1 = 11) ∧ q_wp d 167 246 [z0, z1, z2, z3, z4, z5, z6, z7] (.inr (.inr (.inl (G.1 a 12))) :: st) v G Q) := q_w_getP c_167_243
theorem c_167_246 : q_code 167 246 = (.iload 7, 2, 0, 0, 0, 0, 0) := by decide +kernel
theorem e_167_246 (d : Nat) (a : Int) (z0 z1 z2 z3 z4 z5 z6 : q_V) (st : List q_V) (v : q_H) (G : q_Gr) (Q : q_V → q_H → q_Gr → Prop) : q_wp d 167 246 [z0, z1, z2, z3, z4, z5, z6, .inl a] st v G Q = q_wp d 167 248 [z0, z1, z2, z3, z4, z5, z6, .inl a] (.inl a :: st) v G Q := q_w_iload c_167_246 rfl
theorem c_167_248 : q_code 167 248 = (.iaload, 1, 0, 0, 0, 0, 0) := by decide +kernel
theorem e_167_248 (d : Nat) (a : Nat) (i : Int) (z0 z1 z2 z3 z4 z5 z6 z7 : q_V) (st : List q_V) (v : q_H) (G : q_Gr) (Q : q_V → q_H → q_Gr → Prop) : q_wp d 167 248 [z0, z1, z2, z3, z4, z5, z6, z7] (.inl i :: .inr (.inr (.inl (some a))) :: st) v G Q = (((G.2.1 a).1 = 20 ∧ 0 ≤ i ∧ i < (G.2.1 a).2) ∧ q_wp d 167 249 [z0, z1, z2, z3, z4, z5, z6, z7] (.inl (v a i.toNat) :: st) v G Q) := q_w_iald c_167_248
theorem c_167_249 : q_code 167 249 = (.invokestatic 179, 3, 166, 4, 0, 1160, 1) := by decide +kernel
theorem e_167_249 (d : Nat) (x0 x1 x2 x3 y0 y1 : q_V) (z0 z1 z2 z3 z4 z5 z6 z7 : q_V) (v : q_H) (G : q_Gr) (Q : q_V → q_H → q_Gr → Prop) : q_wp d 167 249 [z0, z1, z2, z3, z4, z5, z6, z7] [x3, x2, x1, x0, y0, y1] v G Q = q_call d 166 [x0, x1, x2, x3] v G (fun r v G => q_wp d 167 252 [z0, z1, z2, z3, z4, z5, z6, z7] (q_push r [y0, y1]) v G Q) := q_wp_ca (m2 := 166) (k := 4) (as := [x0, x1, x2, x3]) (rest := [y0, y1]) (congrArg q_kind c_167_249) (congrArg (fun w => w.2.2.1) c_167_249) (congrArg (fun w => w.2.2.2.1) c_167_249) rfl (Nat.le_of_ble_eq_true rfl) rfl
theorem c_167_252 : q_code 167 252 = (.iastore, 1, 0, 0, 0, 0, 0) := by decide +kernel
theorem e_167_252 (d : Nat) (a : Nat) (i b : Int) (z0 z1 z2 z3 z4 z5 z6 z7 : q_V) (st : List q_V) (v : q_H) (G : q_Gr) (Q : q_V → q_H → q_Gr → Prop) : q_wp d 167 252 [z0, z1, z2, z3, z4, z5, z6, z7] (.inl b :: .inl i :: .inr (.inr (.inl (some a))) :: st) v G Q = (((G.2.1 a).1 = 20 ∧ 32 ≤ a ∧ 0 ≤ i ∧ i < (G.2.1 a).2) ∧ q_wp d 167 253 [z0, z1, z2, z3, z4, z5, z6, z7] st (q_up v a i.toNat b) G Q) := q_w_iast c_167_252
theorem c_167_253 : q_code 167 253 = (.aload_n 0, 1, 0, 0, 0, 0, 0) := by decide +kernel
theorem e_167_253 (d : Nat) (a : Option Nat) (z1 z2 z3 z4 z5 z6 z7 : q_V) (st : List q_V) (v : q_H) (G : q_Gr) (Q : q_V → q_H → q_Gr → Prop) : q_wp d 167 253 [.inr (.inr (.inl a)), z1, z2, z3, z4, z5, z6, z7] st v G Q = q_wp d 167 254 [.inr (.inr (.inl a)), z1, z2, z3, z4, z5, z6, z7] (.inr (.inr (.inl a)) :: st) v G Q := q_w_aload_n c_167_253 rfl
theorem c_167_254 : q_code 167 254 = (.getfield 37, 3, 11, 12, 1, 967, 0) := by decide +kernel
theorem e_167_254 (d : Nat) (a : Nat) (z0 z1 z2 z3 z4 z5 z6 z7 : q_V) (st : List q_V) (v : q_H) (G : q_Gr) (Q : q_V → q_H → q_Gr → Prop) : q_wp d 167 254 [z0, z1, z2, z3, z4, z5, z6, z7] (.inr (.inr (.inl (some a))) :: st) v G Q = (((G.2.1 a).1 = 11) ∧ q_wp d 167 257 [z0, z1, z2, z3, z4, z5, z6, z7] (.inr (.inr (.inl (G.1 a 12))) :: st) v G Q) := q_w_getP c_167_254
theorem c_167_257 : q_code 167 257 = (.iload 4, 2, 0, 0, 0, 0, 0) := by decide +kernel
theorem e_167_257 (d : Nat) (a : Int) (z0 z1 z2 z3 z5 z6 z7 : q_V) (st : List q_V) (v : q_H) (G : q_Gr) (Q : q_V → q_H → q_Gr → Prop) : q_wp d 167 257 [z0, z1, z2, z3, .inl a, z5, z6, z7] st v G Q = q_wp d 167 259 [z0, z1, z2, z3, .inl a, z5, z6, z7] (.inl a :: st) v G Q := q_w_iload c_167_257 rfl
theorem c_167_259 : q_code 167 259 = (.aload_n 0, 1, 0, 0, 0, 0, 0) := by decide +kernel
theorem e_167_259 (d : Nat) (a : Option Nat) (z1 z2 z3 z4 z5 z6 z7 : q_V) (st : List q_V) (v : q_H) (G : q_Gr) (Q : q_V → q_H → q_Gr → Prop) : q_wp d 167 259 [.inr (.inr (.inl a)), z1, z2, z3, z4, z5, z6, z7] st v G Q = q_wp d 167 260 [.inr (.inr (.inl a)), z1, z2, z3, z4, z5, z6, z7] (.inr (.inr (.inl a)) :: st) v G Q := q_w_aload_n c_167_259 rfl
theorem c_167_260 : q_code 167 260 = (.getfield 37, 3, 11, 12, 1, 967, 0) := by decide +kernel
theorem e_167_260 (d : Nat) (a : Nat) (z0 z1 z2 z3 z4 z5 z6 z7 : q_V) (st : List q_V) (v : q_H) (G : q_Gr) (Q : q_V → q_H → q_Gr → Prop) : q_wp d 167 260 [z0, z1, z2, z3, z4, z5, z6, z7] (.inr (.inr (.inl (some a))) :: st) v G Q = (((G.2.1 a).1 = 11) ∧ q_wp d 167 263 [z0, z1, z2, z3, z4, z5, z6, z7] (.inr (.inr (.inl (G.1 a 12))) :: st) v G Q) := q_w_getP c_167_260
theorem c_167_263 : q_code 167 263 = (.iload 6, 2, 0, 0, 0, 0, 0) := by decide +kernel
theorem e_167_263 (d : Nat) (a : Int) (z0 z1 z2 z3 z4 z5 z7 : q_V) (st : List q_V) (v : q_H) (G : q_Gr) (Q : q_V → q_H → q_Gr → Prop) : q_wp d 167 263 [z0, z1, z2, z3, z4, z5, .inl a, z7] st v G Q = q_wp d 167 265 [z0, z1, z2, z3, z4, z5, .inl a, z7] (.inl a :: st) v G Q := q_w_iload c_167_263 rfl
theorem c_167_265 : q_code 167 265 = (.iaload, 1, 0, 0, 0, 0, 0) := by decide +kernel
theorem e_167_265 (d : Nat) (a : Nat) (i : Int) (z0 z1 z2 z3 z4 z5 z6 z7 : q_V) (st : List q_V) (v : q_H) (G : q_Gr) (Q : q_V → q_H → q_Gr → Prop) : q_wp d 167 265 [z0, z1, z2, z3, z4, z5, z6, z7] (.inl i :: .inr (.inr (.inl (some a))) :: st) v G Q = (((G.2.1 a).1 = 20 ∧ 0 ≤ i ∧ i < (G.2.1 a).2) ∧ q_wp d 167 266 [z0, z1, z2, z3, z4, z5, z6, z7] (.inl (v a i.toNat) :: st) v G Q) := q_w_iald c_167_265
theorem c_167_266 : q_code 167 266 = (.aload_n 0, 1, 0, 0, 0, 0, 0) := by decide +kernel
theorem e_167_266 (d : Nat) (a : Option Nat) (z1 z2 z3 z4 z5 z6 z7 : q_V) (st : List q_V) (v : q_H) (G : q_Gr) (Q : q_V → q_H → q_Gr → Prop) : q_wp d 167 266 [.inr (.inr (.inl a)), z1, z2, z3, z4, z5, z6, z7] st v G Q = q_wp d 167 267 [.inr (.inr (.inl a)), z1, z2, z3, z4, z5, z6, z7] (.inr (.inr (.inl a)) :: st) v G Q := q_w_aload_n c_167_266 rfl
theorem c_167_267 : q_code 167 267 = (.getfield 37, 3, 11, 12, 1, 967, 0) := by decide +kernel
theorem e_167_267 (d : Nat) (a : Nat) (z0 z1 z2 z3 z4 z5 z6 z7 : q_V) (st : List q_V) (v : q_H) (G : q_Gr) (Q : q_V → q_H → q_Gr → Prop) : q_wp d 167 267 [z0, z1, z2, z3, z4, z5, z6, z7] (.inr (.inr (.inl (some a))) :: st) v G Q = (((G.2.1 a).1 = 11) ∧ q_wp d 167 270 [z0, z1, z2, z3, z4, z5, z6, z7] (.inr (.inr (.inl (G.1 a 12))) :: st) v G Q) := q_w_getP c_167_267
theorem c_167_270 : q_code 167 270 = (.iload 7, 2, 0, 0, 0, 0, 0) := by decide +kernel
theorem e_167_270 (d : Nat) (a : Int) (z0 z1 z2 z3 z4 z5 z6 : q_V) (st : List q_V) (v : q_H) (G : q_Gr) (Q : q_V → q_H → q_Gr → Prop) : q_wp d 167 270 [z0, z1, z2, z3, z4, z5, z6, .inl a] st v G Q = q_wp d 167 272 [z0, z1, z2, z3, z4, z5, z6, .inl a] (.inl a :: st) v G Q := q_w_iload c_167_270 rfl
theorem c_167_272 : q_code 167 272 = (.iaload, 1, 0, 0, 0, 0, 0) := by decide +kernel
theorem e_167_272 (d : Nat) (a : Nat) (i : Int) (z0 z1 z2 z3 z4 z5 z6 z7 : q_V) (st : List q_V) (v : q_H) (G : q_Gr) (Q : q_V → q_H → q_Gr → Prop) : q_wp d 167 272 [z0, z1, z2, z3, z4, z5, z6, z7] (.inl i :: .inr (.inr (.inl (some a))) :: st) v G Q = (((G.2.1 a).1 = 20 ∧ 0 ≤ i ∧ i < (G.2.1 a).2) ∧ q_wp d 167 273 [z0, z1, z2, z3, z4, z5, z6, z7] (.inl (v a i.toNat) :: st) v G Q) := q_w_iald c_167_272
theorem c_167_273 : q_code 167 273 = (.iadd, 1, 0, 0, 0, 0, 0) := by decide +kernel
theorem e_167_273 (d : Nat) (a b : Int) (z0 z1 z2 z3 z4 z5 z6 z7 : q_V) (st : List q_V) (v : q_H) (G : q_Gr) (Q : q_V → q_H → q_Gr → Prop) : q_wp d 167 273 [z0, z1, z2, z3, z4, z5, z6, z7] (.inl b :: .inl a :: st) v G Q = q_wp d 167 274 [z0, z1, z2, z3, z4, z5, z6, z7] (.inl (a + b) :: st) v G Q := q_w_iadd c_167_273
theorem c_167_274 : q_code 167 274 = (.iastore, 1, 0, 0, 0, 0, 0) := by decide +kernel
theorem e_167_274 (d : Nat) (a : Nat) (i b : Int) (z0 z1 z2 z3 z4 z5 z6 z7 : q_V) (st : List q_V) (v : q_H) (G : q_Gr) (Q : q_V → q_H → q_Gr → Prop) : q_wp d 167 274 [z0, z1, z2, z3, z4, z5, z6, z7] (.inl b :: .inl i :: .inr (.inr (.inl (some a))) :: st) v G Q = (((G.2.1 a).1 = 20 ∧ 32 ≤ a ∧ 0 ≤ i ∧ i < (G.2.1 a).2) ∧ q_wp d 167 275 [z0, z1, z2, z3, z4, z5, z6, z7] st (q_up v a i.toNat b) G Q) := q_w_iast c_167_274
theorem c_167_275 : q_code 167 275 = (.iinc 3 1, 3, 0, 0, 0, 0, 0) := by decide +kernel
theorem e_167_275 (d : Nat) (a : Int) (z0 z1 z2 z4 z5 z6 z7 : q_V) (st : List q_V) (v : q_H) (G : q_Gr) (Q : q_V → q_H → q_Gr → Prop) : q_wp d 167 275 [z0, z1, z2, .inl a, z4, z5, z6, z7] st v G Q = q_wp d 167 278 [z0, z1, z2, .inl (a + 1), z4, z5, z6, z7] st v G Q := q_w_iinc c_167_275 rfl
theorem c_167_278 : q_code 167 278 = (.goto (-154), 3, 0, 0, 0, 0, 0) := by decide +kernel
theorem e_167_278 (d : Nat)  (z0 z1 z2 z3 z4 z5 z6 z7 : q_V) (st : List q_V) (v : q_H) (G : q_Gr) (Q : q_V → q_H → q_Gr → Prop) : q_wp d 167 278 [z0, z1, z2, z3, z4, z5, z6, z7] st v G Q = q_wp d 167 124 [z0, z1, z2, z3, z4, z5, z6, z7] st v G Q := q_w_goto c_167_278 (by decide)
theorem c_167_281 : q_code 167 281 = (.iinc 2 1, 3, 0, 0, 0, 0, 0) := by decide +kernel
theorem e_167_281 (d : Nat) (a : Int) (z0 z1 z3 z4 z5 z6 z7 : q_V) (st : List q_V) (v : q_H) (G : q_Gr) (Q : q_V → q_H → q_Gr → Prop) : q_wp d 167 281 [z0, z1, .inl a, z3, z4, z5, z6, z7] st v G Q = q_wp d 167 284 [z0, z1, .inl (a + 1), z3, z4, z5, z6, z7] st v G Q := q_w_iinc c_167_281 rfl
theorem c_167_284 : q_code 167 284 = (.goto (-170), 3, 0, 0, 0, 0, 0) := by decide +kernel
theorem e_167_284 (d : Nat)  (z0 z1 z2 z3 z4 z5 z6 z7 : q_V) (st : List q_V) (v : q_H) (G : q_Gr) (Q : q_V → q_H → q_Gr → Prop) : q_wp d 167 284 [z0, z1, z2, z3, z4, z5, z6, z7] st v G Q = q_wp d 167 114 [z0, z1, z2, z3, z4, z5, z6, z7] st v G Q := q_w_goto c_167_284 (by decide)
theorem c_167_287 : q_code 167 287 = (.return_, 1, 0, 0, 0, 0, 0) := by decide +kernel
theorem e_167_287 (d : Nat)  (z0 z1 z2 z3 z4 z5 z6 z7 : q_V) (v : q_H) (G : q_Gr) (Q : q_V → q_H → q_Gr → Prop) : q_wp d 167 287 [z0, z1, z2, z3, z4, z5, z6, z7] [] v G Q = Q (.inr (.inr (.inr ()))) v G := q_w_return c_167_287 rfl
theorem e_167 (d : Nat) (a0 : Nat) (a1 : Int) (v : q_H) (G : q_Gr) (Q : q_V → q_H → q_Gr → Prop) : q_call (d + 1) 167 [.inr (.inr (.inl (some a0))), .inl a1] v G Q = ((G.2.1 a0).1 = 11 ∧ q_wp d 167 0 [.inr (.inr (.inl (some a0))), .inl a1, .inr (.inr (.inr ())), .inr (.inr (.inr ())), .inr (.inr (.inr ())), .inr (.inr (.inr ())), .inr (.inr (.inr ())), .inr (.inr (.inr ()))] [] v G Q) := by
  rw [q_call_in (by decide) (Nat.le_of_ble_eq_true rfl) rfl]
  exact congrArg (· ∧ _) (propext beq_iff_eq)
/-- all but the heads of loops: [14, 114, 124] -/
def E167 := And.intro @e_167 (And.intro @e_167_0 (And.intro @e_167_1 (And.intro @e_167_2 (And.intro @e_167_5 (And.intro @e_167_6 (And.intro @e_167_7 (And.intro @e_167_8 (And.intro @e_167_9 (And.intro @e_167_12 (And.intro @e_167_13 (And.intro @e_167_15 (And.intro @e_167_16 (And.intro @e_167_19 (And.intro @e_167_22 (And.intro @e_167_23 (And.intro @e_167_26 (And.intro @e_167_27 (And.intro @e_167_28 (And.intro @e_167_31 (And.intro @e_167_32 (And.intro @e_167_33 (And.intro @e_167_36 (And.intro @e_167_37 (And.intro @e_167_40 (And.intro @e_167_41 (And.intro @e_167_42 (And.intro @e_167_43 (And.intro @e_167_46 (And.intro @e_167_47 (And.intro @e_167_48 (And.intro @e_167_51 (And.intro @e_167_52 (And.intro @e_167_55 (And.intro @e_167_56 (And.intro @e_167_59 (And.intro @e_167_62 (And.intro @e_167_65 (And.intro @e_167_66 (And.intro @e_167_69 (And.intro @e_167_71 (And.intro @e_167_72 (And.intro @e_167_73 (And.intro @e_167_74 (And.intro @e_167_75 (And.intro @e_167_76 (And.intro @e_167_77 (And.intro @e_167_78 (And.intro @e_167_79 (And.intro @e_167_80 (And.intro @e_167_83 (And.intro @e_167_84 (And.intro @e_167_85 (And.intro @e_167_88 (And.intro @e_167_89 (And.intro @e_167_92 (And.intro @e_167_93 (And.intro @e_167_96 (And.intro @e_167_98 (And.intro @e_167_99 (And.intro @e_167_100 (And.intro @e_167_101 (And.intro @e_167_102 (And.intro @e_167_103 (And.intro @e_167_104 (And.intro @e_167_105 (And.intro @e_167_106 (And.intro @e_167_109 (And.intro @e_167_112 (And.intro @e_167_113 (And.intro @e_167_115 (And.intro @e_167_116 (And.intro @e_167_119 (And.intro @e_167_122 (And.intro @e_167_123 (And.intro @e_167_125 (And.intro @e_167_126 (And.intro @e_167_127 (And.intro @e_167_128 (And.intro @e_167_131 (And.intro @e_167_134 (And.intro @e_167_136 (And.intro @e_167_137 (And.intro @e_167_138 (And.intro @e_167_139 (And.intro @e_167_140 (And.intro @e_167_142 (And.intro @e_167_143 (And.intro @e_167_144 (And.intro @e_167_147 (And.intro @e_167_148 (And.intro @e_167_151 (And.intro @e_167_153 (And.intro @e_167_154 (And.intro @e_167_157 (And.intro @e_167_158 (And.intro @e_167_159 (And.intro @e_167_160 (And.intro @e_167_163 (And.intro @e_167_164 (And.intro @e_167_165 (And.intro @e_167_168 (And.intro @e_167_169 (And.intro @e_167_170 (And.intro @e_167_173 (And.intro @e_167_175 (And.intro @e_167_176 (And.intro @e_167_179 (And.intro @e_167_180 (And.intro @e_167_181 (And.intro @e_167_182 (And.intro @e_167_185 (And.intro @e_167_186 (And.intro @e_167_187 (And.intro @e_167_188 (And.intro @e_167_189 (And.intro @e_167_190 (And.intro @e_167_192 (And.intro @e_167_194 (And.intro @e_167_195 (And.intro @e_167_196 (And.intro @e_167_198 (And.intro @e_167_199 (And.intro @e_167_201 (And.intro @e_167_203 (And.intro @e_167_204 (And.intro @e_167_206 (And.intro @e_167_207 (And.intro @e_167_208 (And.intro @e_167_209 (And.intro @e_167_210 (And.intro @e_167_212 (And.intro @e_167_213 (And.intro @e_167_215 (And.intro @e_167_216 (And.intro @e_167_219 (And.intro @e_167_221 (And.intro @e_167_222 (And.intro @e_167_225 (And.intro @e_167_227 (And.intro @e_167_228 (And.intro @e_167_229 (And.intro @e_167_232 (And.intro @e_167_234 (And.intro @e_167_235 (And.intro @e_167_236 (And.intro @e_167_239 (And.intro @e_167_241 (And.intro @e_167_242 (And.intro @e_167_243 (And.intro @e_167_246 (And.intro @e_167_248 (And.intro @e_167_249 (And.intro @e_167_252 (And.intro @e_167_253 (And.intro @e_167_254 (And.intro @e_167_257 (And.intro @e_167_259 (And.intro @e_167_260 (And.intro @e_167_263 (And.intro @e_167_265 (And.intro @e_167_266 (And.intro @e_167_267 (And.intro @e_167_270 (And.intro @e_167_272 (And.intro @e_167_273 (And.intro @e_167_274 (And.intro @e_167_275 (And.intro @e_167_278 (And.intro @e_167_281 (And.intro @e_167_284 (@e_167_287)))))))))))))))))))))))))))))))))))))))))))))))))))))))))))))))))))))))))))))))))))))))))))))))))))))))))))))))))))))))))))))))))))))))))))))))))))))))))))))))))))))))))))
/-! ProvenRowsModel.sealOfTable(I)I -/
theorem c_168_0 : q_code 168 0 = (.aload_n 0, 1, 0, 0, 0, 0, 0) := by decide +kernel
theorem e_168_0 (d : Nat) (a : Option Nat) (z1 : q_V) (st : List q_V) (v : q_H) (G : q_Gr) (Q : q_V → q_H → q_Gr → Prop) : q_wp d 168 0 [.inr (.inr (.inl a)), z1] st v G Q = q_wp d 168 1 [.inr (.inr (.inl a)), z1] (.inr (.inr (.inl a)) :: st) v G Q := q_w_aload_n c_168_0 rfl
theorem c_168_1 : q_code 168 1 = (.iload_n 1, 1, 0, 0, 0, 0, 0) := by decide +kernel
theorem e_168_1 (d : Nat) (a : Int) (z0 : q_V) (st : List q_V) (v : q_H) (G : q_Gr) (Q : q_V → q_H → q_Gr → Prop) : q_wp d 168 1 [z0, .inl a] st v G Q = q_wp d 168 2 [z0, .inl a] (.inl a :: st) v G Q := q_w_iload_n c_168_1 rfl
theorem c_168_2 : q_code 168 2 = (.invokevirtual 183, 3, 167, 2, 0, 1147, 0) := by decide +kernel
theorem e_168_2 (d : Nat) (x0 x1 : q_V) (z0 z1 : q_V) (v : q_H) (G : q_Gr) (Q : q_V → q_H → q_Gr → Prop) : q_wp d 168 2 [z0, z1] [x1, x0] v G Q = q_call d 167 [x0, x1] v G (fun r v G => q_wp d 168 5 [z0, z1] (q_push r []) v G Q) := q_wp_ca (m2 := 167) (k := 2) (as := [x0, x1]) (rest := []) (congrArg q_kind c_168_2) (congrArg (fun w => w.2.2.1) c_168_2) (congrArg (fun w => w.2.2.2.1) c_168_2) rfl (Nat.le_of_ble_eq_true rfl) rfl
theorem c_168_5 : q_code 168 5 = (.aload_n 0, 1, 0, 0, 0, 0, 0) := by decide +kernel
theorem e_168_5 (d : Nat) (a : Option Nat) (z1 : q_V) (st : List q_V) (v : q_H) (G : q_Gr) (Q : q_V → q_H → q_Gr → Prop) : q_wp d 168 5 [.inr (.inr (.inl a)), z1] st v G Q = q_wp d 168 6 [.inr (.inr (.inl a)), z1] (.inr (.inr (.inl a)) :: st) v G Q := q_w_aload_n c_168_5 rfl
theorem c_168_6 : q_code 168 6 = (.getfield 34, 3, 11, 11, 1, 966, 0) := by decide +kernel
theorem e_168_6 (d : Nat) (a : Nat) (z0 z1 : q_V) (st : List q_V) (v : q_H) (G : q_Gr) (Q : q_V → q_H → q_Gr → Prop) : q_wp d 168 6 [z0, z1] (.inr (.inr (.inl (some a))) :: st) v G Q = (((G.2.1 a).1 = 11) ∧ q_wp d 168 9 [z0, z1] (.inr (.inr (.inl (G.1 a 11))) :: st) v G Q) := q_w_getP c_168_6
theorem c_168_9 : q_code 168 9 = (.aload_n 0, 1, 0, 0, 0, 0, 0) := by decide +kernel
theorem e_168_9 (d : Nat) (a : Option Nat) (z1 : q_V) (st : List q_V) (v : q_H) (G : q_Gr) (Q : q_V → q_H → q_Gr → Prop) : q_wp d 168 9 [.inr (.inr (.inl a)), z1] st v G Q = q_wp d 168 10 [.inr (.inr (.inl a)), z1] (.inr (.inr (.inl a)) :: st) v G Q := q_w_aload_n c_168_9 rfl
theorem c_168_10 : q_code 168 10 = (.getfield 173, 3, 11, 8, 0, 963, 0) := by decide +kernel
theorem e_168_10 (d : Nat) (a : Nat) (z0 z1 : q_V) (st : List q_V) (v : q_H) (G : q_Gr) (Q : q_V → q_H → q_Gr → Prop) : q_wp d 168 10 [z0, z1] (.inr (.inr (.inl (some a))) :: st) v G Q = (((G.2.1 a).1 = 11) ∧ q_wp d 168 13 [z0, z1] (.inl (v a 8) :: st) v G Q) := q_w_getI c_168_10
theorem c_168_13 : q_code 168 13 = (.iaload, 1, 0, 0, 0, 0, 0) := by decide +kernel
theorem e_168_13 (d : Nat) (a : Nat) (i : Int) (z0 z1 : q_V) (st : List q_V) (v : q_H) (G : q_Gr) (Q : q_V → q_H → q_Gr → Prop) : q_wp d 168 13 [z0, z1] (.inl i :: .inr (.inr (.inl (some a))) :: st) v G Q = (((G.2.1 a).1 = 20 ∧ 0 ≤ i ∧ i < (G.2.1 a).2) ∧ q_wp d 168 14 [z0, z1] (.inl (v a i.toNat) :: st) v G Q) := q_w_iald c_168_13
theorem c_168_14 : q_code 168 14 = (.aload_n 0, 1, 0, 0, 0, 0, 0) := by decide +kernel
theorem e_168_14 (d : Nat) (a : Option Nat) (z1 : q_V) (st : List q_V) (v : q_H) (G : q_Gr) (Q : q_V → q_H → q_Gr → Prop) : q_wp d 168 14 [.inr (.inr (.inl a)), z1] st v G Q = q_wp d 168 15 [.inr (.inr (.inl a)), z1] (.inr (.inr (.inl a)) :: st) v G Q := q_w_aload_n c_168_14 rfl
theorem c_168_15 : q_code 168 15 = (.getfield 37, 3, 11, 12, 1, 967, 0) := by decide +kernel
theorem e_168_15 (d : Nat) (a : Nat) (z0 z1 : q_V) (st : List q_V) (v : q_H) (G : q_Gr) (Q : q_V → q_H → q_Gr → Prop) : q_wp d 168 15 [z0, z1] (.inr (.inr (.inl (some a))) :: st) v G Q = (((G.2.1 a).1 = 11) ∧ q_wp d 168 18 [z0, z1] (.inr (.inr (.inl (G.1 a 12))) :: st) v G Q) := q_w_getP c_168_15
theorem c_168_18 : q_code 168 18 = (.aload_n 0, 1, 0, 0, 0, 0, 0) := by decide +kernel
theorem e_168_18 (d : Nat) (a : Option Nat) (z1 : q_V) (st : List q_V) (v : q_H) (G : q_Gr) (Q : q_V → q_H → q_Gr → Prop) : q_wp d 168 18 [.inr (.inr (.inl a)), z1] st v G Q = q_wp d 168 19 [.inr (.inr (.inl a)), z1] (.inr (.inr (.inl a)) :: st) v G Q := q_w_aload_n c_168_18 rfl
theorem c_168_19 : q_code 168 19 = (.getfield 173, 3, 11, 8, 0, 963, 0) := by decide +kernel
theorem e_168_19 (d : Nat) (a : Nat) (z0 z1 : q_V) (st : List q_V) (v : q_H) (G : q_Gr) (Q : q_V → q_H → q_Gr → Prop) : q_wp d 168 19 [z0, z1] (.inr (.inr (.inl (some a))) :: st) v G Q = (((G.2.1 a).1 = 11) ∧ q_wp d 168 22 [z0, z1] (.inl (v a 8) :: st) v G Q) := q_w_getI c_168_19
theorem c_168_22 : q_code 168 22 = (.iaload, 1, 0, 0, 0, 0, 0) := by decide +kernel
theorem e_168_22 (d : Nat) (a : Nat) (i : Int) (z0 z1 : q_V) (st : List q_V) (v : q_H) (G : q_Gr) (Q : q_V → q_H → q_Gr → Prop) : q_wp d 168 22 [z0, z1] (.inl i :: .inr (.inr (.inl (some a))) :: st) v G Q = (((G.2.1 a).1 = 20 ∧ 0 ≤ i ∧ i < (G.2.1 a).2) ∧ q_wp d 168 23 [z0, z1] (.inl (v a i.toNat) :: st) v G Q) := q_w_iald c_168_22
theorem c_168_23 : q_code 168 23 = (.invokestatic 170, 3, 153, 2, 0, 1153, 1) := by decide +kernel
theorem e_168_23 (d : Nat) (x0 x1 : q_V) (z0 z1 : q_V) (v : q_H) (G : q_Gr) (Q : q_V → q_H → q_Gr → Prop) : q_wp d 168 23 [z0, z1] [x1, x0] v G Q = q_call d 153 [x0, x1] v G (fun r v G => q_wp d 168 26 [z0, z1] (q_push r []) v G Q) := q_wp_ca (m2 := 153) (k := 2) (as := [x0, x1]) (rest := []) (congrArg q_kind c_168_23) (congrArg (fun w => w.2.2.1) c_168_23) (congrArg (fun w => w.2.2.2.1) c_168_23) rfl (Nat.le_of_ble_eq_true rfl) rfl
theorem c_168_26 : q_code 168 26 = (.aload_n 0, 1, 0, 0, 0, 0, 0) := by decide +kernel
theorem e_168_26 (d : Nat) (a : Option Nat) (z1 : q_V) (st : List q_V) (v : q_H) (G : q_Gr) (Q : q_V → q_H → q_Gr → Prop) : q_wp d 168 26 [.inr (.inr (.inl a)), z1] st v G Q = q_wp d 168 27 [.inr (.inr (.inl a)), z1] (.inr (.inr (.inl a)) :: st) v G Q := q_w_aload_n c_168_26 rfl
theorem c_168_27 : q_code 168 27 = (.getfield 173, 3, 11, 8, 0, 963, 0) := by decide +kernel
theorem e_168_27 (d : Nat) (a : Nat) (z0 z1 : q_V) (st : List q_V) (v : q_H) (G : q_Gr) (Q : q_V → q_H → q_Gr → Prop) : q_wp d 168 27 [z0, z1] (.inr (.inr (.inl (some a))) :: st) v G Q = (((G.2.1 a).1 = 11) ∧ q_wp d 168 30 [z0, z1] (.inl (v a 8) :: st) v G Q) := q_w_getI c_168_27
theorem c_168_30 : q_code 168 30 = (.invokestatic 170, 3, 153, 2, 0, 1153, 1) := by decide +kernel
theorem e_168_30 (d : Nat) (x0 x1 : q_V) (z0 z1 : q_V) (v : q_H) (G : q_Gr) (Q : q_V → q_H → q_Gr → Prop) : q_wp d 168 30 [z0, z1] [x1, x0] v G Q = q_call d 153 [x0, x1] v G (fun r v G => q_wp d 168 33 [z0, z1] (q_push r []) v G Q) := q_wp_ca (m2 := 153) (k := 2) (as := [x0, x1]) (rest := []) (congrArg q_kind c_168_30) (congrArg (fun w => w.2.2.1) c_168_30) (congrArg (fun w => w.2.2.2.1) c_168_30) rfl (Nat.le_of_ble_eq_true rfl) rfl
theorem c_168_33 : q_code 168 33 = (.ireturn, 1, 0, 0, 0, 0, 0) := by decide +kernel
theorem e_168_33 (d : Nat) (a : Int) (z0 z1 : q_V) (v : q_H) (G : q_Gr) (Q : q_V → q_H → q_Gr → Prop) : q_wp d 168 33 [z0, z1] [.inl a] v G Q = Q (.inl a) v G := q_w_ireturn c_168_33 rfl
theorem e_168 (d : Nat) (a0 : Nat) (a1 : Int) (v : q_H) (G : q_Gr) (Q : q_V → q_H → q_Gr → Prop) : q_call (d + 1) 168 [.inr (.inr (.inl (some a0))), .inl a1] v G Q = ((G.2.1 a0).1 = 11 ∧ q_wp d 168 0 [.inr (.inr (.inl (some a0))), .inl a1] [] v G Q) := by
  rw [q_call_in (by decide) (Nat.le_of_ble_eq_true rfl) rfl]
  exact congrArg (· ∧ _) (propext beq_iff_eq)
/-- all but the heads of loops: [] -/
def E168 := And.intro @e_168 (And.intro @e_168_0 (And.intro @e_168_1 (And.intro @e_168_2 (And.intro @e_168_5 (And.intro @e_168_6 (And.intro @e_168_9 (And.intro @e_168_10 (And.intro @e_168_13 (And.intro @e_168_14 (And.intro @e_168_15 (And.intro @e_168_18 (And.intro @e_168_19 (And.intro @e_168_22 (And.intro @e_168_23 (And.intro @e_168_26 (And.intro @e_168_27 (And.intro @e_168_30 (@e_168_33))))))))))))))))))
/-! ProvenRowsModel.told(II)I -/
theorem c_169_0 : q_code 169 0 = (.aload_n 0, 1, 0, 0, 0, 0, 0) := by decide +kernel
theorem e_169_0 (d : Nat) (a : Option Nat) (z1 z2 z3 : q_V) (st : List q_V) (v : q_H) (G : q_Gr) (Q : q_V → q_H → q_Gr → Prop) : q_wp d 169 0 [.inr (.inr (.inl a)), z1, z2, z3] st v G Q = q_wp d 169 1 [.inr (.inr (.inl a)), z1, z2, z3] (.inr (.inr (.inl a)) :: st) v G Q := q_w_aload_n c_169_0 rfl
theorem c_169_1 : q_code 169 1 = (.iconst 0, 1, 0, 0, 0, 0, 0) := by decide +kernel
theorem e_169_1 (d : Nat)  (z0 z1 z2 z3 : q_V) (st : List q_V) (v : q_H) (G : q_Gr) (Q : q_V → q_H → q_Gr → Prop) : q_wp d 169 1 [z0, z1, z2, z3] st v G Q = q_wp d 169 2 [z0, z1, z2, z3] (.inl 0 :: st) v G Q := q_w_iconst c_169_1
theorem c_169_2 : q_code 169 2 = (.putfield 119, 3, 11, 0, 0, 955, 0) := by decide +kernel
theorem e_169_2 (d : Nat) (a : Nat) (b : Int) (z0 z1 z2 z3 : q_V) (st : List q_V) (v : q_H) (G : q_Gr) (Q : q_V → q_H → q_Gr → Prop) : q_wp d 169 2 [z0, z1, z2, z3] (.inl b :: .inr (.inr (.inl (some a))) :: st) v G Q = (((G.2.1 a).1 = 11) ∧ q_wp d 169 5 [z0, z1, z2, z3] st (q_up v a 0 b) G Q) := q_w_putI c_169_2
theorem c_169_5 : q_code 169 5 = (.iload_n 1, 1, 0, 0, 0, 0, 0) := by decide +kernel
theorem e_169_5 (d : Nat) (a : Int) (z0 z2 z3 : q_V) (st : List q_V) (v : q_H) (G : q_Gr) (Q : q_V → q_H → q_Gr → Prop) : q_wp d 169 5 [z0, .inl a, z2, z3] st v G Q = q_wp d 169 6 [z0, .inl a, z2, z3] (.inl a :: st) v G Q := q_w_iload_n c_169_5 rfl
theorem c_169_6 : q_code 169 6 = (.invokestatic 158, 3, 159, 1, 0, 1120, 1) := by decide +kernel
theorem e_169_6 (d : Nat) (x0 : q_V) (z0 z1 z2 z3 : q_V) (v : q_H) (G : q_Gr) (Q : q_V → q_H → q_Gr → Prop) : q_wp d 169 6 [z0, z1, z2, z3] [x0] v G Q = q_call d 159 [x0] v G (fun r v G => q_wp d 169 9 [z0, z1, z2, z3] (q_push r []) v G Q) := q_wp_ca (m2 := 159) (k := 1) (as := [x0]) (rest := []) (congrArg q_kind c_169_6) (congrArg (fun w => w.2.2.1) c_169_6) (congrArg (fun w => w.2.2.2.1) c_169_6) rfl (Nat.le_of_ble_eq_true rfl) rfl
theorem c_169_9 : q_code 169 9 = (.ifCond .eq 15, 3, 0, 0, 0, 0, 0) := by decide +kernel
theorem e_169_9 (d : Nat) (a : Int) (z0 z1 z2 z3 : q_V) (st : List q_V) (v : q_H) (G : q_Gr) (Q : q_V → q_H → q_Gr → Prop) : q_wp d 169 9 [z0, z1, z2, z3] (.inl a :: st) v G Q = ((q_inR a) ∧ if a = 0 then q_wp d 169 24 [z0, z1, z2, z3] st v G Q else q_wp d 169 12 [z0, z1, z2, z3] st v G Q) := q_w_if_eq c_169_9 (by decide)
theorem c_169_12 : q_code 169 12 = (.iload_n 2, 1, 0, 0, 0, 0, 0) := by decide +kernel
theorem e_169_12 (d : Nat) (a : Int) (z0 z1 z3 : q_V) (st : List q_V) (v : q_H) (G : q_Gr) (Q : q_V → q_H → q_Gr → Prop) : q_wp d 169 12 [z0, z1, .inl a, z3] st v G Q = q_wp d 169 13 [z0, z1, .inl a, z3] (.inl a :: st) v G Q := q_w_iload_n c_169_12 rfl
theorem c_169_13 : q_code 169 13 = (.i2l, 1, 0, 0, 0, 0, 0) := by decide +kernel
theorem e_169_13 (d : Nat) (a : Int) (z0 z1 z2 z3 : q_V) (st : List q_V) (v : q_H) (G : q_Gr) (Q : q_V → q_H → q_Gr → Prop) : q_wp d 169 13 [z0, z1, z2, z3] (.inl a :: st) v G Q = ((q_inR a) ∧ q_wp d 169 14 [z0, z1, z2, z3] (.inr (.inl a) :: st) v G Q) := q_w_i2l c_169_13
theorem c_169_14 : q_code 169 14 = (.lconst 0, 1, 0, 0, 0, 0, 0) := by decide +kernel
theorem e_169_14 (d : Nat)  (z0 z1 z2 z3 : q_V) (st : List q_V) (v : q_H) (G : q_Gr) (Q : q_V → q_H → q_Gr → Prop) : q_wp d 169 14 [z0, z1, z2, z3] st v G Q = q_wp d 169 15 [z0, z1, z2, z3] (.inr (.inl 0) :: st) v G Q := q_w_lconst c_169_14
theorem c_169_15 : q_code 169 15 = (.ldc2_w 187, 3, 0, 0, 0, 1143, 3) := by decide +kernel
theorem e_169_15 (d : Nat)  (z0 z1 z2 z3 : q_V) (st : List q_V) (v : q_H) (G : q_Gr) (Q : q_V → q_H → q_Gr → Prop) : q_wp d 169 15 [z0, z1, z2, z3] st v G Q = q_wp d 169 18 [z0, z1, z2, z3] (.inr (.inl 3) :: st) v G Q := q_w_ldc2 c_169_15
theorem c_169_18 : q_code 169 18 = (.invokestatic 137, 3, 151, 3, 0, 1095, 1) := by decide +kernel
theorem e_169_18 (d : Nat) (x0 x1 x2 : q_V) (z0 z1 z2 z3 : q_V) (v : q_H) (G : q_Gr) (Q : q_V → q_H → q_Gr → Prop) : q_wp d 169 18 [z0, z1, z2, z3] [x2, x1, x0] v G Q = q_call d 151 [x0, x1, x2] v G (fun r v G => q_wp d 169 21 [z0, z1, z2, z3] (q_push r []) v G Q) := q_wp_ca (m2 := 151) (k := 3) (as := [x0, x1, x2]) (rest := []) (congrArg q_kind c_169_18) (congrArg (fun w => w.2.2.1) c_169_18) (congrArg (fun w => w.2.2.2.1) c_169_18) rfl (Nat.le_of_ble_eq_true rfl) rfl
theorem c_169_21 : q_code 169 21 = (.ifCond .ne 6, 3, 0, 0, 0, 0, 0) := by decide +kernel
theorem e_169_21 (d : Nat) (a : Int) (z0 z1 z2 z3 : q_V) (st : List q_V) (v : q_H) (G : q_Gr) (Q : q_V → q_H → q_Gr → Prop) : q_wp d 169 21 [z0, z1, z2, z3] (.inl a :: st) v G Q = ((q_inR a) ∧ if ¬ a = 0 then q_wp d 169 27 [z0, z1, z2, z3] st v G Q else q_wp d 169 24 [z0, z1, z2, z3] st v G Q) := q_w_if_ne c_169_21 (by decide)
theorem c_169_24 : q_code 169 24 = (.ldc 147, 2, 0, 0, 0, 1099, (-1000001)) := by decide +kernel
theorem e_169_24 (d : Nat)  (z0 z1 z2 z3 : q_V) (st : List q_V) (v : q_H) (G : q_Gr) (Q : q_V → q_H → q_Gr → Prop) : q_wp d 169 24 [z0, z1, z2, z3] st v G Q = q_wp d 169 26 [z0, z1, z2, z3] (.inl (-1000001) :: st) v G Q := q_w_ldc c_169_24
theorem c_169_26 : q_code 169 26 = (.ireturn, 1, 0, 0, 0, 0, 0) := by decide +kernel
theorem e_169_26 (d : Nat) (a : Int) (z0 z1 z2 z3 : q_V) (v : q_H) (G : q_Gr) (Q : q_V → q_H → q_Gr → Prop) : q_wp d 169 26 [z0, z1, z2, z3] [.inl a] v G Q = Q (.inl a) v G := q_w_ireturn c_169_26 rfl
theorem c_169_27 : q_code 169 27 = (.aload_n 0, 1, 0, 0, 0, 0, 0) := by decide +kernel
theorem e_169_27 (d : Nat) (a : Option Nat) (z1 z2 z3 : q_V) (st : List q_V) (v : q_H) (G : q_Gr) (Q : q_V → q_H → q_Gr → Prop) : q_wp d 169 27 [.inr (.inr (.inl a)), z1, z2, z3] st v G Q = q_wp d 169 28 [.inr (.inr (.inl a)), z1, z2, z3] (.inr (.inr (.inl a)) :: st) v G Q := q_w_aload_n c_169_27 rfl
theorem c_169_28 : q_code 169 28 = (.iload_n 1, 1, 0, 0, 0, 0, 0) := by decide +kernel
theorem e_169_28 (d : Nat) (a : Int) (z0 z2 z3 : q_V) (st : List q_V) (v : q_H) (G : q_Gr) (Q : q_V → q_H → q_Gr → Prop) : q_wp d 169 28 [z0, .inl a, z2, z3] st v G Q = q_wp d 169 29 [z0, .inl a, z2, z3] (.inl a :: st) v G Q := q_w_iload_n c_169_28 rfl
theorem c_169_29 : q_code 169 29 = (.invokevirtual 189, 3, 168, 2, 0, 1144, 1) := by decide +kernel
theorem e_169_29 (d : Nat) (x0 x1 : q_V) (z0 z1 z2 z3 : q_V) (v : q_H) (G : q_Gr) (Q : q_V → q_H → q_Gr → Prop) : q_wp d 169 29 [z0, z1, z2, z3] [x1, x0] v G Q = q_call d 168 [x0, x1] v G (fun r v G => q_wp d 169 32 [z0, z1, z2, z3] (q_push r []) v G Q) := q_wp_ca (m2 := 168) (k := 2) (as := [x0, x1]) (rest := []) (congrArg q_kind c_169_29) (congrArg (fun w => w.2.2.1) c_169_29) (congrArg (fun w => w.2.2.2.1) c_169_29) rfl (Nat.le_of_ble_eq_true rfl) rfl
theorem c_169_32 : q_code 169 32 = (.istore_n 3, 1, 0, 0, 0, 0, 0) := by decide +kernel
theorem e_169_32 (d : Nat) (a : Int) (z0 z1 z2 z3 : q_V) (st : List q_V) (v : q_H) (G : q_Gr) (Q : q_V → q_H → q_Gr → Prop) : q_wp d 169 32 [z0, z1, z2, z3] (.inl a :: st) v G Q = q_wp d 169 33 [z0, z1, z2, .inl a] st v G Q := q_w_istore_n c_169_32
theorem c_169_33 : q_code 169 33 = (.iload_n 2, 1, 0, 0, 0, 0, 0) := by decide +kernel
theorem e_169_33 (d : Nat) (a : Int) (z0 z1 z3 : q_V) (st : List q_V) (v : q_H) (G : q_Gr) (Q : q_V → q_H → q_Gr → Prop) : q_wp d 169 33 [z0, z1, .inl a, z3] st v G Q = q_wp d 169 34 [z0, z1, .inl a, z3] (.inl a :: st) v G Q := q_w_iload_n c_169_33 rfl
theorem c_169_34 : q_code 169 34 = (.ifCond .ne 12, 3, 0, 0, 0, 0, 0) := by decide +kernel
theorem e_169_34 (d : Nat) (a : Int) (z0 z1 z2 z3 : q_V) (st : List q_V) (v : q_H) (G : q_Gr) (Q : q_V → q_H → q_Gr → Prop) : q_wp d 169 34 [z0, z1, z2, z3] (.inl a :: st) v G Q = ((q_inR a) ∧ if ¬ a = 0 then q_wp d 169 46 [z0, z1, z2, z3] st v G Q else q_wp d 169 37 [z0, z1, z2, z3] st v G Q) := q_w_if_ne c_169_34 (by decide)
theorem c_169_37 : q_code 169 37 = (.aload_n 0, 1, 0, 0, 0, 0, 0) := by decide +kernel
theorem e_169_37 (d : Nat) (a : Option Nat) (z1 z2 z3 : q_V) (st : List q_V) (v : q_H) (G : q_Gr) (Q : q_V → q_H → q_Gr → Prop) : q_wp d 169 37 [.inr (.inr (.inl a)), z1, z2, z3] st v G Q = q_wp d 169 38 [.inr (.inr (.inl a)), z1, z2, z3] (.inr (.inr (.inl a)) :: st) v G Q := q_w_aload_n c_169_37 rfl
theorem c_169_38 : q_code 169 38 = (.getfield 19, 3, 11, 5, 1, 960, 0) := by decide +kernel
theorem e_169_38 (d : Nat) (a : Nat) (z0 z1 z2 z3 : q_V) (st : List q_V) (v : q_H) (G : q_Gr) (Q : q_V → q_H → q_Gr → Prop) : q_wp d 169 38 [z0, z1, z2, z3] (.inr (.inr (.inl (some a))) :: st) v G Q = (((G.2.1 a).1 = 11) ∧ q_wp d 169 41 [z0, z1, z2, z3] (.inr (.inr (.inl (G.1 a 5))) :: st) v G Q) := q_w_getP c_169_38
theorem c_169_41 : q_code 169 41 = (.iload_n 1, 1, 0, 0, 0, 0, 0) := by decide +kernel
theorem e_169_41 (d : Nat) (a : Int) (z0 z2 z3 : q_V) (st : List q_V) (v : q_H) (G : q_Gr) (Q : q_V → q_H → q_Gr → Prop) : q_wp d 169 41 [z0, .inl a, z2, z3] st v G Q = q_wp d 169 42 [z0, .inl a, z2, z3] (.inl a :: st) v G Q := q_w_iload_n c_169_41 rfl
theorem c_169_42 : q_code 169 42 = (.iaload, 1, 0, 0, 0, 0, 0) := by decide +kernel
theorem e_169_42 (d : Nat) (a : Nat) (i : Int) (z0 z1 z2 z3 : q_V) (st : List q_V) (v : q_H) (G : q_Gr) (Q : q_V → q_H → q_Gr → Prop) : q_wp d 169 42 [z0, z1, z2, z3] (.inl i :: .inr (.inr (.inl (some a))) :: st) v G Q = (((G.2.1 a).1 = 20 ∧ 0 ≤ i ∧ i < (G.2.1 a).2) ∧ q_wp d 169 43 [z0, z1, z2, z3] (.inl (v a i.toNat) :: st) v G Q) := q_w_iald c_169_42
theorem c_169_43 : q_code 169 43 = (.goto 38, 3, 0, 0, 0, 0, 0) := by decide +kernel
theorem e_169_43 (d : Nat)  (z0 z1 z2 z3 : q_V) (st : List q_V) (v : q_H) (G : q_Gr) (Q : q_V → q_H → q_Gr → Prop) : q_wp d 169 43 [z0, z1, z2, z3] st v G Q = q_wp d 169 81 [z0, z1, z2, z3] st v G Q := q_w_goto c_169_43 (by decide)
theorem c_169_46 : q_code 169 46 = (.iload_n 2, 1, 0, 0, 0, 0, 0) := by decide +kernel
theorem e_169_46 (d : Nat) (a : Int) (z0 z1 z3 : q_V) (st : List q_V) (v : q_H) (G : q_Gr) (Q : q_V → q_H → q_Gr → Prop) : q_wp d 169 46 [z0, z1, .inl a, z3] st v G Q = q_wp d 169 47 [z0, z1, .inl a, z3] (.inl a :: st) v G Q := q_w_iload_n c_169_46 rfl
theorem c_169_47 : q_code 169 47 = (.iconst 1, 1, 0, 0, 0, 0, 0) := by decide +kernel
theorem e_169_47 (d : Nat)  (z0 z1 z2 z3 : q_V) (st : List q_V) (v : q_H) (G : q_Gr) (Q : q_V → q_H → q_Gr → Prop) : q_wp d 169 47 [z0, z1, z2, z3] st v G Q = q_wp d 169 48 [z0, z1, z2, z3] (.inl 1 :: st) v G Q := q_w_iconst c_169_47
theorem c_169_48 : q_code 169 48 = (.if_icmp .ne 7, 3, 0, 0, 0, 0, 0) := by decide +kernel
theorem e_169_48 (d : Nat) (a b : Int) (z0 z1 z2 z3 : q_V) (st : List q_V) (v : q_H) (G : q_Gr) (Q : q_V → q_H → q_Gr → Prop) : q_wp d 169 48 [z0, z1, z2, z3] (.inl b :: .inl a :: st) v G Q = ((q_inR a ∧ q_inR b) ∧ if ¬ a = b then q_wp d 169 55 [z0, z1, z2, z3] st v G Q else q_wp d 169 51 [z0, z1, z2, z3] st v G Q) := q_w_icmp_ne c_169_48 (by decide)
theorem c_169_51 : q_code 169 51 = (.iload_n 3, 1, 0, 0, 0, 0, 0) := by decide +kernel
theorem e_169_51 (d : Nat) (a : Int) (z0 z1 z2 : q_V) (st : List q_V) (v : q_H) (G : q_Gr) (Q : q_V → q_H → q_Gr → Prop) : q_wp d 169 51 [z0, z1, z2, .inl a] st v G Q = q_wp d 169 52 [z0, z1, z2, .inl a] (.inl a :: st) v G Q := q_w_iload_n c_169_51 rfl
theorem c_169_52 : q_code 169 52 = (.goto 29, 3, 0, 0, 0, 0, 0) := by decide +kernel
theorem e_169_52 (d : Nat)  (z0 z1 z2 z3 : q_V) (st : List q_V) (v : q_H) (G : q_Gr) (Q : q_V → q_H → q_Gr → Prop) : q_wp d 169 52 [z0, z1, z2, z3] st v G Q = q_wp d 169 81 [z0, z1, z2, z3] st v G Q := q_w_goto c_169_52 (by decide)
theorem c_169_55 : q_code 169 55 = (.iload_n 2, 1, 0, 0, 0, 0, 0) := by decide +kernel
theorem e_169_55 (d : Nat) (a : Int) (z0 z1 z3 : q_V) (st : List q_V) (v : q_H) (G : q_Gr) (Q : q_V → q_H → q_Gr → Prop) : q_wp d 169 55 [z0, z1, .inl a, z3] st v G Q = q_wp d 169 56 [z0, z1, .inl a, z3] (.inl a :: st) v G Q := q_w_iload_n c_169_55 rfl
theorem c_169_56 : q_code 169 56 = (.iconst 2, 1, 0, 0, 0, 0, 0) := by decide +kernel
theorem e_169_56 (d : Nat)  (z0 z1 z2 z3 : q_V) (st : List q_V) (v : q_H) (G : q_Gr) (Q : q_V → q_H → q_Gr → Prop) : q_wp d 169 56 [z0, z1, z2, z3] st v G Q = q_wp d 169 57 [z0, z1, z2, z3] (.inl 2 :: st) v G Q := q_w_iconst c_169_56
theorem c_169_57 : q_code 169 57 = (.if_icmp .ne 15, 3, 0, 0, 0, 0, 0) := by decide +kernel
theorem e_169_57 (d : Nat) (a b : Int) (z0 z1 z2 z3 : q_V) (st : List q_V) (v : q_H) (G : q_Gr) (Q : q_V → q_H → q_Gr → Prop) : q_wp d 169 57 [z0, z1, z2, z3] (.inl b :: .inl a :: st) v G Q = ((q_inR a ∧ q_inR b) ∧ if ¬ a = b then q_wp d 169 72 [z0, z1, z2, z3] st v G Q else q_wp d 169 60 [z0, z1, z2, z3] st v G Q) := q_w_icmp_ne c_169_57 (by decide)
theorem c_169_60 : q_code 169 60 = (.aload_n 0, 1, 0, 0, 0, 0, 0) := by decide +kernel
theorem e_169_60 (d : Nat) (a : Option Nat) (z1 z2 z3 : q_V) (st : List q_V) (v : q_H) (G : q_Gr) (Q : q_V → q_H → q_Gr → Prop) : q_wp d 169 60 [.inr (.inr (.inl a)), z1, z2, z3] st v G Q = q_wp d 169 61 [.inr (.inr (.inl a)), z1, z2, z3] (.inr (.inr (.inl a)) :: st) v G Q := q_w_aload_n c_169_60 rfl
theorem c_169_61 : q_code 169 61 = (.getfield 34, 3, 11, 11, 1, 966, 0) := by decide +kernel
theorem e_169_61 (d : Nat) (a : Nat) (z0 z1 z2 z3 : q_V) (st : List q_V) (v : q_H) (G : q_Gr) (Q : q_V → q_H → q_Gr → Prop) : q_wp d 169 61 [z0, z1, z2, z3] (.inr (.inr (.inl (some a))) :: st) v G Q = (((G.2.1 a).1 = 11) ∧ q_wp d 169 64 [z0, z1, z2, z3] (.inr (.inr (.inl (G.1 a 11))) :: st) v G Q) := q_w_getP c_169_61
theorem c_169_64 : q_code 169 64 = (.aload_n 0, 1, 0, 0, 0, 0, 0) := by decide +kernel
theorem e_169_64 (d : Nat) (a : Option Nat) (z1 z2 z3 : q_V) (st : List q_V) (v : q_H) (G : q_Gr) (Q : q_V → q_H → q_Gr → Prop) : q_wp d 169 64 [.inr (.inr (.inl a)), z1, z2, z3] st v G Q = q_wp d 169 65 [.inr (.inr (.inl a)), z1, z2, z3] (.inr (.inr (.inl a)) :: st) v G Q := q_w_aload_n c_169_64 rfl
theorem c_169_65 : q_code 169 65 = (.getfield 173, 3, 11, 8, 0, 963, 0) := by decide +kernel
theorem e_169_65 (d : Nat) (a : Nat) (z0 z1 z2 z3 : q_V) (st : List q_V) (v : q_H) (G : q_Gr) (Q : q_V → q_H → q_Gr → Prop) : q_wp d 169 65 [z0, z1, z2, z3] (.inr (.inr (.inl (some a))) :: st) v G Q = (((G.2.1 a).1 = 11) ∧ q_wp d 169 68 [z0, z1, z2, z3] (.inl (v a 8) :: st) v G Q) := q_w_getI c_169_65
theorem c_169_68 : q_code 169 68 = (.iaload, 1, 0, 0, 0, 0, 0) := by decide +kernel
theorem e_169_68 (d : Nat) (a : Nat) (i : Int) (z0 z1 z2 z3 : q_V) (st : List q_V) (v : q_H) (G : q_Gr) (Q : q_V → q_H → q_Gr → Prop) : q_wp d 169 68 [z0, z1, z2, z3] (.inl i :: .inr (.inr (.inl (some a))) :: st) v G Q = (((G.2.1 a).1 = 20 ∧ 0 ≤ i ∧ i < (G.2.1 a).2) ∧ q_wp d 169 69 [z0, z1, z2, z3] (.inl (v a i.toNat) :: st) v G Q) := q_w_iald c_169_68
theorem c_169_69 : q_code 169 69 = (.goto 12, 3, 0, 0, 0, 0, 0) := by decide +kernel
theorem e_169_69 (d : Nat)  (z0 z1 z2 z3 : q_V) (st : List q_V) (v : q_H) (G : q_Gr) (Q : q_V → q_H → q_Gr → Prop) : q_wp d 169 69 [z0, z1, z2, z3] st v G Q = q_wp d 169 81 [z0, z1, z2, z3] st v G Q := q_w_goto c_169_69 (by decide)
theorem c_169_72 : q_code 169 72 = (.aload_n 0, 1, 0, 0, 0, 0, 0) := by decide +kernel
theorem e_169_72 (d : Nat) (a : Option Nat) (z1 z2 z3 : q_V) (st : List q_V) (v : q_H) (G : q_Gr) (Q : q_V → q_H → q_Gr → Prop) : q_wp d 169 72 [.inr (.inr (.inl a)), z1, z2, z3] st v G Q = q_wp d 169 73 [.inr (.inr (.inl a)), z1, z2, z3] (.inr (.inr (.inl a)) :: st) v G Q := q_w_aload_n c_169_72 rfl
theorem c_169_73 : q_code 169 73 = (.getfield 37, 3, 11, 12, 1, 967, 0) := by decide +kernel
theorem e_169_73 (d : Nat) (a : Nat) (z0 z1 z2 z3 : q_V) (st : List q_V) (v : q_H) (G : q_Gr) (Q : q_V → q_H → q_Gr → Prop) : q_wp d 169 73 [z0, z1, z2, z3] (.inr (.inr (.inl (some a))) :: st) v G Q = (((G.2.1 a).1 = 11) ∧ q_wp d 169 76 [z0, z1, z2, z3] (.inr (.inr (.inl (G.1 a 12))) :: st) v G Q) := q_w_getP c_169_73
theorem c_169_76 : q_code 169 76 = (.aload_n 0, 1, 0, 0, 0, 0, 0) := by decide +kernel
theorem e_169_76 (d : Nat) (a : Option Nat) (z1 z2 z3 : q_V) (st : List q_V) (v : q_H) (G : q_Gr) (Q : q_V → q_H → q_Gr → Prop) : q_wp d 169 76 [.inr (.inr (.inl a)), z1, z2, z3] st v G Q = q_wp d 169 77 [.inr (.inr (.inl a)), z1, z2, z3] (.inr (.inr (.inl a)) :: st) v G Q := q_w_aload_n c_169_76 rfl
theorem c_169_77 : q_code 169 77 = (.getfield 173, 3, 11, 8, 0, 963, 0) := by decide +kernel
theorem e_169_77 (d : Nat) (a : Nat) (z0 z1 z2 z3 : q_V) (st : List q_V) (v : q_H) (G : q_Gr) (Q : q_V → q_H → q_Gr → Prop) : q_wp d 169 77 [z0, z1, z2, z3] (.inr (.inr (.inl (some a))) :: st) v G Q = (((G.2.1 a).1 = 11) ∧ q_wp d 169 80 [z0, z1, z2, z3] (.inl (v a 8) :: st) v G Q) := q_w_getI c_169_77
theorem c_169_80 : q_code 169 80 = (.iaload, 1, 0, 0, 0, 0, 0) := by decide +kernel
theorem e_169_80 (d : Nat) (a : Nat) (i : Int) (z0 z1 z2 z3 : q_V) (st : List q_V) (v : q_H) (G : q_Gr) (Q : q_V → q_H → q_Gr → Prop) : q_wp d 169 80 [z0, z1, z2, z3] (.inl i :: .inr (.inr (.inl (some a))) :: st) v G Q = (((G.2.1 a).1 = 20 ∧ 0 ≤ i ∧ i < (G.2.1 a).2) ∧ q_wp d 169 81 [z0, z1, z2, z3] (.inl (v a i.toNat) :: st) v G Q) := q_w_iald c_169_80
theorem c_169_81 : q_code 169 81 = (.ireturn, 1, 0, 0, 0, 0, 0) := by decide +kernel
theorem e_169_81 (d : Nat) (a : Int) (z0 z1 z2 z3 : q_V) (v : q_H) (G : q_Gr) (Q : q_V → q_H → q_Gr → Prop) : q_wp d 169 81 [z0, z1, z2, z3] [.inl a] v G Q = Q (.inl a) v G := q_w_ireturn c_169_81 rfl
theorem e_169 (d : Nat) (a0 : Nat) (a1 : Int) (a2 : Int) (v : q_H) (G : q_Gr) (Q : q_V → q_H → q_Gr → Prop) : q_call (d + 1) 169 [.inr (.inr (.inl (some a0))), .inl a1, .inl a2] v G Q = ((G.2.1 a0).1 = 11 ∧ q_wp d 169 0 [.inr (.inr (.inl (some a0))), .inl a1, .inl a2, .inr (.inr (.inr ()))] [] v G Q) := by
  rw [q_call_in (by decide) (Nat.le_of_ble_eq_true rfl) rfl]
  exact congrArg (· ∧ _) (propext beq_iff_eq)
/-- all but the heads of loops: [] -/
def E169 := And.intro @e_169 (And.intro @e_169_0 (And.intro @e_169_1 (And.intro @e_169_2 (And.intro @e_169_5 (And.intro @e_169_6 (And.intro @e_169_9 (And.intro @e_169_12 (And.intro @e_169_13 (And.intro @e_169_14 (And.intro @e_169_15 (And.intro @e_169_18 (And.intro @e_169_21 (And.intro @e_169_24 (And.intro @e_169_26 (And.intro @e_169_27 (And.intro @e_169_28 (And.intro @e_169_29 (And.intro @e_169_32 (And.intro @e_169_33 (And.intro @e_169_34 (And.intro @e_169_37 (And.intro @e_169_38 (And.intro @e_169_41 (And.intro @e_169_42 (And.intro @e_169_43 (And.intro @e_169_46 (And.intro @e_169_47 (And.intro @e_169_48 (And.intro @e_169_51 (And.intro @e_169_52 (And.intro @e_169_55 (And.intro @e_169_56 (And.intro @e_169_57 (And.intro @e_169_60 (And.intro @e_169_61 (And.intro @e_169_64 (And.intro @e_169_65 (And.intro @e_169_68 (And.intro @e_169_69 (And.intro @e_169_72 (And.intro @e_169_73 (And.intro @e_169_76 (And.intro @e_169_77 (And.intro @e_169_80 (@e_169_81)))))))))))))))))))))))))))))))))))))))))))))
/-! ProvenRowsModel.round()I -/
theorem c_170_0 : q_code 170 0 = (.aload_n 0, 1, 0, 0, 0, 0, 0) := by decide +kernel
theorem e_170_0 (d : Nat) (a : Option Nat) (z1 z2 : q_V) (st : List q_V) (v : q_H) (G : q_Gr) (Q : q_V → q_H → q_Gr → Prop) : q_wp d 170 0 [.inr (.inr (.inl a)), z1, z2] st v G Q = q_wp d 170 1 [.inr (.inr (.inl a)), z1, z2] (.inr (.inr (.inl a)) :: st) v G Q := q_w_aload_n c_170_0 rfl
theorem c_170_1 : q_code 170 1 = (.iconst 0, 1, 0, 0, 0, 0, 0) := by decide +kernel
theorem e_170_1 (d : Nat)  (z0 z1 z2 : q_V) (st : List q_V) (v : q_H) (G : q_Gr) (Q : q_V → q_H → q_Gr → Prop) : q_wp d 170 1 [z0, z1, z2] st v G Q = q_wp d 170 2 [z0, z1, z2] (.inl 0 :: st) v G Q := q_w_iconst c_170_1
theorem c_170_2 : q_code 170 2 = (.putfield 119, 3, 11, 0, 0, 955, 0) := by decide +kernel
theorem e_170_2 (d : Nat) (a : Nat) (b : Int) (z0 z1 z2 : q_V) (st : List q_V) (v : q_H) (G : q_Gr) (Q : q_V → q_H → q_Gr → Prop) : q_wp d 170 2 [z0, z1, z2] (.inl b :: .inr (.inr (.inl (some a))) :: st) v G Q = (((G.2.1 a).1 = 11) ∧ q_wp d 170 5 [z0, z1, z2] st (q_up v a 0 b) G Q) := q_w_putI c_170_2
theorem c_170_5 : q_code 170 5 = (.aload_n 0, 1, 0, 0, 0, 0, 0) := by decide +kernel
theorem e_170_5 (d : Nat) (a : Option Nat) (z1 z2 : q_V) (st : List q_V) (v : q_H) (G : q_Gr) (Q : q_V → q_H → q_Gr → Prop) : q_wp d 170 5 [.inr (.inr (.inl a)), z1, z2] st v G Q = q_wp d 170 6 [.inr (.inr (.inl a)), z1, z2] (.inr (.inr (.inl a)) :: st) v G Q := q_w_aload_n c_170_5 rfl
theorem c_170_6 : q_code 170 6 = (.getfield 192, 3, 11, 13, 0, 968, 0) := by decide +kernel
theorem e_170_6 (d : Nat) (a : Nat) (z0 z1 z2 : q_V) (st : List q_V) (v : q_H) (G : q_Gr) (Q : q_V → q_H → q_Gr → Prop) : q_wp d 170 6 [z0, z1, z2] (.inr (.inr (.inl (some a))) :: st) v G Q = (((G.2.1 a).1 = 11) ∧ q_wp d 170 9 [z0, z1, z2] (.inl (v a 13) :: st) v G Q) := q_w_getI c_170_6
theorem c_170_9 : q_code 170 9 = (.bipush 20, 2, 0, 0, 0, 0, 0) := by decide +kernel
theorem e_170_9 (d : Nat)  (z0 z1 z2 : q_V) (st : List q_V) (v : q_H) (G : q_Gr) (Q : q_V → q_H → q_Gr → Prop) : q_wp d 170 9 [z0, z1, z2] st v G Q = q_wp d 170 11 [z0, z1, z2] (.inl 20 :: st) v G Q := (q_w_bipush c_170_9).trans (by simp only [show ((-128 : Int) ≤ 20 ∧ (20 : Int) ≤ 127) = True by decide, true_and])
theorem c_170_11 : q_code 170 11 = (.if_icmp .ne 6, 3, 0, 0, 0, 0, 0) := by decide +kernel
theorem e_170_11 (d : Nat) (a b : Int) (z0 z1 z2 : q_V) (st : List q_V) (v : q_H) (G : q_Gr) (Q : q_V → q_H → q_Gr → Prop) : q_wp d 170 11 [z0, z1, z2] (.inl b :: .inl a :: st) v G Q = ((q_inR a ∧ q_inR b) ∧ if ¬ a = b then q_wp d 170 17 [z0, z1, z2] st v G Q else q_wp d 170 14 [z0, z1, z2] st v G Q) := q_w_icmp_ne c_170_11 (by decide)
theorem c_170_14 : q_code 170 14 = (.ldc 168, 2, 0, 0, 0, 1133, (-1000003)) := by decide +kernel
theorem e_170_14 (d : Nat)  (z0 z1 z2 : q_V) (st : List q_V) (v : q_H) (G : q_Gr) (Q : q_V → q_H → q_Gr → Prop) : q_wp d 170 14 [z0, z1, z2] st v G Q = q_wp d 170 16 [z0, z1, z2] (.inl (-1000003) :: st) v G Q := q_w_ldc c_170_14
theorem c_170_16 : q_code 170 16 = (.ireturn, 1, 0, 0, 0, 0, 0) := by decide +kernel
theorem e_170_16 (d : Nat) (a : Int) (z0 z1 z2 : q_V) (v : q_H) (G : q_Gr) (Q : q_V → q_H → q_Gr → Prop) : q_wp d 170 16 [z0, z1, z2] [.inl a] v G Q = Q (.inl a) v G := q_w_ireturn c_170_16 rfl
theorem c_170_17 : q_code 170 17 = (.iconst 4, 1, 0, 0, 0, 0, 0) := by decide +kernel
theorem e_170_17 (d : Nat)  (z0 z1 z2 : q_V) (st : List q_V) (v : q_H) (G : q_Gr) (Q : q_V → q_H → q_Gr → Prop) : q_wp d 170 17 [z0, z1, z2] st v G Q = q_wp d 170 18 [z0, z1, z2] (.inl 4 :: st) v G Q := q_w_iconst c_170_17
theorem c_170_18 : q_code 170 18 = (.aload_n 0, 1, 0, 0, 0, 0, 0) := by decide +kernel
theorem e_170_18 (d : Nat) (a : Option Nat) (z1 z2 : q_V) (st : List q_V) (v : q_H) (G : q_Gr) (Q : q_V → q_H → q_Gr → Prop) : q_wp d 170 18 [.inr (.inr (.inl a)), z1, z2] st v G Q = q_wp d 170 19 [.inr (.inr (.inl a)), z1, z2] (.inr (.inr (.inl a)) :: st) v G Q := q_w_aload_n c_170_18 rfl
theorem c_170_19 : q_code 170 19 = (.getfield 192, 3, 11, 13, 0, 968, 0) := by decide +kernel
theorem e_170_19 (d : Nat) (a : Nat) (z0 z1 z2 : q_V) (st : List q_V) (v : q_H) (G : q_Gr) (Q : q_V → q_H → q_Gr → Prop) : q_wp d 170 19 [z0, z1, z2] (.inr (.inr (.inl (some a))) :: st) v G Q = (((G.2.1 a).1 = 11) ∧ q_wp d 170 22 [z0, z1, z2] (.inl (v a 13) :: st) v G Q) := q_w_getI c_170_19
theorem c_170_22 : q_code 170 22 = (.imul, 1, 0, 0, 0, 0, 0) := by decide +kernel
theorem e_170_22 (d : Nat) (a b : Int) (z0 z1 z2 : q_V) (st : List q_V) (v : q_H) (G : q_Gr) (Q : q_V → q_H → q_Gr → Prop) : q_wp d 170 22 [z0, z1, z2] (.inl b :: .inl a :: st) v G Q = q_wp d 170 23 [z0, z1, z2] (.inl (a * b) :: st) v G Q := q_w_imul c_170_22
theorem c_170_23 : q_code 170 23 = (.istore_n 1, 1, 0, 0, 0, 0, 0) := by decide +kernel
theorem e_170_23 (d : Nat) (a : Int) (z0 z1 z2 : q_V) (st : List q_V) (v : q_H) (G : q_Gr) (Q : q_V → q_H → q_Gr → Prop) : q_wp d 170 23 [z0, z1, z2] (.inl a :: st) v G Q = q_wp d 170 24 [z0, .inl a, z2] st v G Q := q_w_istore_n c_170_23
theorem c_170_24 : q_code 170 24 = (.iconst 0, 1, 0, 0, 0, 0, 0) := by decide +kernel
theorem e_170_24 (d : Nat)  (z0 z1 z2 : q_V) (st : List q_V) (v : q_H) (G : q_Gr) (Q : q_V → q_H → q_Gr → Prop) : q_wp d 170 24 [z0, z1, z2] st v G Q = q_wp d 170 25 [z0, z1, z2] (.inl 0 :: st) v G Q := q_w_iconst c_170_24
theorem c_170_25 : q_code 170 25 = (.istore_n 2, 1, 0, 0, 0, 0, 0) := by decide +kernel
theorem e_170_25 (d : Nat) (a : Int) (z0 z1 z2 : q_V) (st : List q_V) (v : q_H) (G : q_Gr) (Q : q_V → q_H → q_Gr → Prop) : q_wp d 170 25 [z0, z1, z2] (.inl a :: st) v G Q = q_wp d 170 26 [z0, z1, .inl a] st v G Q := q_w_istore_n c_170_25
theorem c_170_26 : q_code 170 26 = (.iload_n 2, 1, 0, 0, 0, 0, 0) := by decide +kernel
theorem e_170_26 (d : Nat) (a : Int) (z0 z1 : q_V) (st : List q_V) (v : q_H) (G : q_Gr) (Q : q_V → q_H → q_Gr → Prop) : q_wp d 170 26 [z0, z1, .inl a] st v G Q = q_wp d 170 27 [z0, z1, .inl a] (.inl a :: st) v G Q := q_w_iload_n c_170_26 rfl
theorem c_170_27 : q_code 170 27 = (.iconst 3, 1, 0, 0, 0, 0, 0) := by decide +kernel
theorem e_170_27 (d : Nat)  (z0 z1 z2 : q_V) (st : List q_V) (v : q_H) (G : q_Gr) (Q : q_V → q_H → q_Gr → Prop) : q_wp d 170 27 [z0, z1, z2] st v G Q = q_wp d 170 28 [z0, z1, z2] (.inl 3 :: st) v G Q := q_w_iconst c_170_27
theorem c_170_28 : q_code 170 28 = (.if_icmp .ge 22, 3, 0, 0, 0, 0, 0) := by decide +kernel
theorem e_170_28 (d : Nat) (a b : Int) (z0 z1 z2 : q_V) (st : List q_V) (v : q_H) (G : q_Gr) (Q : q_V → q_H → q_Gr → Prop) : q_wp d 170 28 [z0, z1, z2] (.inl b :: .inl a :: st) v G Q = ((q_inR a ∧ q_inR b) ∧ if b ≤ a then q_wp d 170 50 [z0, z1, z2] st v G Q else q_wp d 170 31 [z0, z1, z2] st v G Q) := q_w_icmp_ge c_170_28 (by decide)
theorem c_170_31 : q_code 170 31 = (.aload_n 0, 1, 0, 0, 0, 0, 0) := by decide +kernel
theorem e_170_31 (d : Nat) (a : Option Nat) (z1 z2 : q_V) (st : List q_V) (v : q_H) (G : q_Gr) (Q : q_V → q_H → q_Gr → Prop) : q_wp d 170 31 [.inr (.inr (.inl a)), z1, z2] st v G Q = q_wp d 170 32 [.inr (.inr (.inl a)), z1, z2] (.inr (.inr (.inl a)) :: st) v G Q := q_w_aload_n c_170_31 rfl
theorem c_170_32 : q_code 170 32 = (.getfield 40, 3, 11, 14, 1, 969, 0) := by decide +kernel
theorem e_170_32 (d : Nat) (a : Nat) (z0 z1 z2 : q_V) (st : List q_V) (v : q_H) (G : q_Gr) (Q : q_V → q_H → q_Gr → Prop) : q_wp d 170 32 [z0, z1, z2] (.inr (.inr (.inl (some a))) :: st) v G Q = (((G.2.1 a).1 = 11) ∧ q_wp d 170 35 [z0, z1, z2] (.inr (.inr (.inl (G.1 a 14))) :: st) v G Q) := q_w_getP c_170_32
theorem c_170_35 : q_code 170 35 = (.iload_n 1, 1, 0, 0, 0, 0, 0) := by decide +kernel
theorem e_170_35 (d : Nat) (a : Int) (z0 z2 : q_V) (st : List q_V) (v : q_H) (G : q_Gr) (Q : q_V → q_H → q_Gr → Prop) : q_wp d 170 35 [z0, .inl a, z2] st v G Q = q_wp d 170 36 [z0, .inl a, z2] (.inl a :: st) v G Q := q_w_iload_n c_170_35 rfl
theorem c_170_36 : q_code 170 36 = (.iload_n 2, 1, 0, 0, 0, 0, 0) := by decide +kernel
theorem e_170_36 (d : Nat) (a : Int) (z0 z1 : q_V) (st : List q_V) (v : q_H) (G : q_Gr) (Q : q_V → q_H → q_Gr → Prop) : q_wp d 170 36 [z0, z1, .inl a] st v G Q = q_wp d 170 37 [z0, z1, .inl a] (.inl a :: st) v G Q := q_w_iload_n c_170_36 rfl
theorem c_170_37 : q_code 170 37 = (.iadd, 1, 0, 0, 0, 0, 0) := by decide +kernel
theorem e_170_37 (d : Nat) (a b : Int) (z0 z1 z2 : q_V) (st : List q_V) (v : q_H) (G : q_Gr) (Q : q_V → q_H → q_Gr → Prop) : q_wp d 170 37 [z0, z1, z2] (.inl b :: .inl a :: st) v G Q = q_wp d 170 38 [z0, z1, z2] (.inl (a + b) :: st) v G Q := q_w_iadd c_170_37
theorem c_170_38 : q_code 170 38 = (.aload_n 0, 1, 0, 0, 0, 0, 0) := by decide +kernel
theorem e_170_38 (d : Nat) (a : Option Nat) (z1 z2 : q_V) (st : List q_V) (v : q_H) (G : q_Gr) (Q : q_V → q_H → q_Gr → Prop) : q_wp d 170 38 [.inr (.inr (.inl a)), z1, z2] st v G Q = q_wp d 170 39 [.inr (.inr (.inl a)), z1, z2] (.inr (.inr (.inl a)) :: st) v G Q := q_w_aload_n c_170_38 rfl
theorem c_170_39 : q_code 170 39 = (.iload_n 2, 1, 0, 0, 0, 0, 0) := by decide +kernel
theorem e_170_39 (d : Nat) (a : Int) (z0 z1 : q_V) (st : List q_V) (v : q_H) (G : q_Gr) (Q : q_V → q_H → q_Gr → Prop) : q_wp d 170 39 [z0, z1, .inl a] st v G Q = q_wp d 170 40 [z0, z1, .inl a] (.inl a :: st) v G Q := q_w_iload_n c_170_39 rfl
theorem c_170_40 : q_code 170 40 = (.invokevirtual 189, 3, 168, 2, 0, 1144, 1) := by decide +kernel
theorem e_170_40 (d : Nat) (x0 x1 y0 y1 : q_V) (z0 z1 z2 : q_V) (v : q_H) (G : q_Gr) (Q : q_V → q_H → q_Gr → Prop) : q_wp d 170 40 [z0, z1, z2] [x1, x0, y0, y1] v G Q = q_call d 168 [x0, x1] v G (fun r v G => q_wp d 170 43 [z0, z1, z2] (q_push r [y0, y1]) v G Q) := q_wp_ca (m2 := 168) (k := 2) (as := [x0, x1]) (rest := [y0, y1]) (congrArg q_kind c_170_40) (congrArg (fun w => w.2.2.1) c_170_40) (congrArg (fun w => w.2.2.2.1) c_170_40) rfl (Nat.le_of_ble_eq_true rfl) rfl
theorem c_170_43 : q_code 170 43 = (.iastore, 1, 0, 0, 0, 0, 0) := by decide +kernel
theorem e_170_43 (d : Nat) (a : Nat) (i b : Int) (z0 z1 z2 : q_V) (st : List q_V) (v : q_H) (G : q_Gr) (Q : q_V → q_H → q_Gr → Prop) : q_wp d 170 43 [z0, z1, z2] (.inl b :: .inl i :: .inr (.inr (.inl (some a))) :: st) v G Q = (((G.2.1 a).1 = 20 ∧ 32 ≤ a ∧ 0 ≤ i ∧ i < (G.2.1 a).2) ∧ q_wp d 170 44 [z0, z1, z2] st (q_up v a i.toNat b) G Q) := q_w_iast c_170_43
theorem c_170_44 : q_code 170 44 = (.iinc 2 1, 3, 0, 0, 0, 0, 0) := by decide +kernel
theorem e_170_44 (d : Nat) (a : Int) (z0 z1 : q_V) (st : List q_V) (v : q_H) (G : q_Gr) (Q : q_V → q_H → q_Gr → Prop) : q_wp d 170 44 [z0, z1, .inl a] st v G Q = q_wp d 170 47 [z0, z1, .inl (a + 1)] st v G Q := q_w_iinc c_170_44 rfl
theorem c_170_47 : q_code 170 47 = (.goto (-21), 3, 0, 0, 0, 0, 0) := by decide +kernel
theorem e_170_47 (d : Nat)  (z0 z1 z2 : q_V) (st : List q_V) (v : q_H) (G : q_Gr) (Q : q_V → q_H → q_Gr → Prop) : q_wp d 170 47 [z0, z1, z2] st v G Q = q_wp d 170 26 [z0, z1, z2] st v G Q := q_w_goto c_170_47 (by decide)
theorem c_170_50 : q_code 170 50 = (.aload_n 0, 1, 0, 0, 0, 0, 0) := by decide +kernel
theorem e_170_50 (d : Nat) (a : Option Nat) (z1 z2 : q_V) (st : List q_V) (v : q_H) (G : q_Gr) (Q : q_V → q_H → q_Gr → Prop) : q_wp d 170 50 [.inr (.inr (.inl a)), z1, z2] st v G Q = q_wp d 170 51 [.inr (.inr (.inl a)), z1, z2] (.inr (.inr (.inl a)) :: st) v G Q := q_w_aload_n c_170_50 rfl
theorem c_170_51 : q_code 170 51 = (.getfield 40, 3, 11, 14, 1, 969, 0) := by decide +kernel
theorem e_170_51 (d : Nat) (a : Nat) (z0 z1 z2 : q_V) (st : List q_V) (v : q_H) (G : q_Gr) (Q : q_V → q_H → q_Gr → Prop) : q_wp d 170 51 [z0, z1, z2] (.inr (.inr (.inl (some a))) :: st) v G Q = (((G.2.1 a).1 = 11) ∧ q_wp d 170 54 [z0, z1, z2] (.inr (.inr (.inl (G.1 a 14))) :: st) v G Q) := q_w_getP c_170_51
theorem c_170_54 : q_code 170 54 = (.iload_n 1, 1, 0, 0, 0, 0, 0) := by decide +kernel
theorem e_170_54 (d : Nat) (a : Int) (z0 z2 : q_V) (st : List q_V) (v : q_H) (G : q_Gr) (Q : q_V → q_H → q_Gr → Prop) : q_wp d 170 54 [z0, .inl a, z2] st v G Q = q_wp d 170 55 [z0, .inl a, z2] (.inl a :: st) v G Q := q_w_iload_n c_170_54 rfl
theorem c_170_55 : q_code 170 55 = (.iaload, 1, 0, 0, 0, 0, 0) := by decide +kernel
theorem e_170_55 (d : Nat) (a : Nat) (i : Int) (z0 z1 z2 : q_V) (st : List q_V) (v : q_H) (G : q_Gr) (Q : q_V → q_H → q_Gr → Prop) : q_wp d 170 55 [z0, z1, z2] (.inl i :: .inr (.inr (.inl (some a))) :: st) v G Q = (((G.2.1 a).1 = 20 ∧ 0 ≤ i ∧ i < (G.2.1 a).2) ∧ q_wp d 170 56 [z0, z1, z2] (.inl (v a i.toNat) :: st) v G Q) := q_w_iald c_170_55
theorem c_170_56 : q_code 170 56 = (.aload_n 0, 1, 0, 0, 0, 0, 0) := by decide +kernel
theorem e_170_56 (d : Nat) (a : Option Nat) (z1 z2 : q_V) (st : List q_V) (v : q_H) (G : q_Gr) (Q : q_V → q_H → q_Gr → Prop) : q_wp d 170 56 [.inr (.inr (.inl a)), z1, z2] st v G Q = q_wp d 170 57 [.inr (.inr (.inl a)), z1, z2] (.inr (.inr (.inl a)) :: st) v G Q := q_w_aload_n c_170_56 rfl
theorem c_170_57 : q_code 170 57 = (.getfield 40, 3, 11, 14, 1, 969, 0) := by decide +kernel
theorem e_170_57 (d : Nat) (a : Nat) (z0 z1 z2 : q_V) (st : List q_V) (v : q_H) (G : q_Gr) (Q : q_V → q_H → q_Gr → Prop) : q_wp d 170 57 [z0, z1, z2] (.inr (.inr (.inl (some a))) :: st) v G Q = (((G.2.1 a).1 = 11) ∧ q_wp d 170 60 [z0, z1, z2] (.inr (.inr (.inl (G.1 a 14))) :: st) v G Q) := q_w_getP c_170_57
theorem c_170_60 : q_code 170 60 = (.iload_n 1, 1, 0, 0, 0, 0, 0) := by decide +kernel
theorem e_170_60 (d : Nat) (a : Int) (z0 z2 : q_V) (st : List q_V) (v : q_H) (G : q_Gr) (Q : q_V → q_H → q_Gr → Prop) : q_wp d 170 60 [z0, .inl a, z2] st v G Q = q_wp d 170 61 [z0, .inl a, z2] (.inl a :: st) v G Q := q_w_iload_n c_170_60 rfl
theorem c_170_61 : q_code 170 61 = (.iconst 1, 1, 0, 0, 0, 0, 0) := by decide +kernel
theorem e_170_61 (d : Nat)  (z0 z1 z2 : q_V) (st : List q_V) (v : q_H) (G : q_Gr) (Q : q_V → q_H → q_Gr → Prop) : q_wp d 170 61 [z0, z1, z2] st v G Q = q_wp d 170 62 [z0, z1, z2] (.inl 1 :: st) v G Q := q_w_iconst c_170_61
theorem c_170_62 : q_code 170 62 = (.iadd, 1, 0, 0, 0, 0, 0) := by decide +kernel
theorem e_170_62 (d : Nat) (a b : Int) (z0 z1 z2 : q_V) (st : List q_V) (v : q_H) (G : q_Gr) (Q : q_V → q_H → q_Gr → Prop) : q_wp d 170 62 [z0, z1, z2] (.inl b :: .inl a :: st) v G Q = q_wp d 170 63 [z0, z1, z2] (.inl (a + b) :: st) v G Q := q_w_iadd c_170_62
theorem c_170_63 : q_code 170 63 = (.iaload, 1, 0, 0, 0, 0, 0) := by decide +kernel
theorem e_170_63 (d : Nat) (a : Nat) (i : Int) (z0 z1 z2 : q_V) (st : List q_V) (v : q_H) (G : q_Gr) (Q : q_V → q_H → q_Gr → Prop) : q_wp d 170 63 [z0, z1, z2] (.inl i :: .inr (.inr (.inl (some a))) :: st) v G Q = (((G.2.1 a).1 = 20 ∧ 0 ≤ i ∧ i < (G.2.1 a).2) ∧ q_wp d 170 64 [z0, z1, z2] (.inl (v a i.toNat) :: st) v G Q) := q_w_iald c_170_63
theorem c_170_64 : q_code 170 64 = (.invokestatic 170, 3, 153, 2, 0, 1153, 1) := by decide +kernel
theorem e_170_64 (d : Nat) (x0 x1 : q_V) (z0 z1 z2 : q_V) (v : q_H) (G : q_Gr) (Q : q_V → q_H → q_Gr → Prop) : q_wp d 170 64 [z0, z1, z2] [x1, x0] v G Q = q_call d 153 [x0, x1] v G (fun r v G => q_wp d 170 67 [z0, z1, z2] (q_push r []) v G Q) := q_wp_ca (m2 := 153) (k := 2) (as := [x0, x1]) (rest := []) (congrArg q_kind c_170_64) (congrArg (fun w => w.2.2.1) c_170_64) (congrArg (fun w => w.2.2.2.1) c_170_64) rfl (Nat.le_of_ble_eq_true rfl) rfl
theorem c_170_67 : q_code 170 67 = (.aload_n 0, 1, 0, 0, 0, 0, 0) := by decide +kernel
theorem e_170_67 (d : Nat) (a : Option Nat) (z1 z2 : q_V) (st : List q_V) (v : q_H) (G : q_Gr) (Q : q_V → q_H → q_Gr → Prop) : q_wp d 170 67 [.inr (.inr (.inl a)), z1, z2] st v G Q = q_wp d 170 68 [.inr (.inr (.inl a)), z1, z2] (.inr (.inr (.inl a)) :: st) v G Q := q_w_aload_n c_170_67 rfl
theorem c_170_68 : q_code 170 68 = (.getfield 40, 3, 11, 14, 1, 969, 0) := by decide +kernel
theorem e_170_68 (d : Nat) (a : Nat) (z0 z1 z2 : q_V) (st : List q_V) (v : q_H) (G : q_Gr) (Q : q_V → q_H → q_Gr → Prop) : q_wp d 170 68 [z0, z1, z2] (.inr (.inr (.inl (some a))) :: st) v G Q = (((G.2.1 a).1 = 11) ∧ q_wp d 170 71 [z0, z1, z2] (.inr (.inr (.inl (G.1 a 14))) :: st) v G Q) := q_w_getP c_170_68
theorem c_170_71 : q_code 170 71 = (.iload_n 1, 1, 0, 0, 0, 0, 0) := by decide +kernel
theorem e_170_71 (d : Nat) (a : Int) (z0 z2 : q_V) (st : List q_V) (v : q_H) (G : q_Gr) (Q : q_V → q_H → q_Gr → Prop) : q_wp d 170 71 [z0, .inl a, z2] st v G Q = q_wp d 170 72 [z0, .inl a, z2] (.inl a :: st) v G Q := q_w_iload_n c_170_71 rfl
theorem c_170_72 : q_code 170 72 = (.iconst 2, 1, 0, 0, 0, 0, 0) := by decide +kernel
theorem e_170_72 (d : Nat)  (z0 z1 z2 : q_V) (st : List q_V) (v : q_H) (G : q_Gr) (Q : q_V → q_H → q_Gr → Prop) : q_wp d 170 72 [z0, z1, z2] st v G Q = q_wp d 170 73 [z0, z1, z2] (.inl 2 :: st) v G Q := q_w_iconst c_170_72
theorem c_170_73 : q_code 170 73 = (.iadd, 1, 0, 0, 0, 0, 0) := by decide +kernel
theorem e_170_73 (d : Nat) (a b : Int) (z0 z1 z2 : q_V) (st : List q_V) (v : q_H) (G : q_Gr) (Q : q_V → q_H → q_Gr → Prop) : q_wp d 170 73 [z0, z1, z2] (.inl b :: .inl a :: st) v G Q = q_wp d 170 74 [z0, z1, z2] (.inl (a + b) :: st) v G Q := q_w_iadd c_170_73
theorem c_170_74 : q_code 170 74 = (.iaload, 1, 0, 0, 0, 0, 0) := by decide +kernel
theorem e_170_74 (d : Nat) (a : Nat) (i : Int) (z0 z1 z2 : q_V) (st : List q_V) (v : q_H) (G : q_Gr) (Q : q_V → q_H → q_Gr → Prop) : q_wp d 170 74 [z0, z1, z2] (.inl i :: .inr (.inr (.inl (some a))) :: st) v G Q = (((G.2.1 a).1 = 20 ∧ 0 ≤ i ∧ i < (G.2.1 a).2) ∧ q_wp d 170 75 [z0, z1, z2] (.inl (v a i.toNat) :: st) v G Q) := q_w_iald c_170_74
theorem c_170_75 : q_code 170 75 = (.invokestatic 170, 3, 153, 2, 0, 1153, 1) := by decide +kernel
theorem e_170_75 (d : Nat) (x0 x1 : q_V) (z0 z1 z2 : q_V) (v : q_H) (G : q_Gr) (Q : q_V → q_H → q_Gr → Prop) : q_wp d 170 75 [z0, z1, z2] [x1, x0] v G Q = q_call d 153 [x0, x1] v G (fun r v G => q_wp d 170 78 [z0, z1, z2] (q_push r []) v G Q) := q_wp_ca (m2 := 153) (k := 2) (as := [x0, x1]) (rest := []) (congrArg q_kind c_170_75) (congrArg (fun w => w.2.2.1) c_170_75) (congrArg (fun w => w.2.2.2.1) c_170_75) rfl (Nat.le_of_ble_eq_true rfl) rfl
theorem c_170_78 : q_code 170 78 = (.istore_n 2, 1, 0, 0, 0, 0, 0) := by decide +kernel
theorem e_170_78 (d : Nat) (a : Int) (z0 z1 z2 : q_V) (st : List q_V) (v : q_H) (G : q_Gr) (Q : q_V → q_H → q_Gr → Prop) : q_wp d 170 78 [z0, z1, z2] (.inl a :: st) v G Q = q_wp d 170 79 [z0, z1, .inl a] st v G Q := q_w_istore_n c_170_78
theorem c_170_79 : q_code 170 79 = (.aload_n 0, 1, 0, 0, 0, 0, 0) := by decide +kernel
theorem e_170_79 (d : Nat) (a : Option Nat) (z1 z2 : q_V) (st : List q_V) (v : q_H) (G : q_Gr) (Q : q_V → q_H → q_Gr → Prop) : q_wp d 170 79 [.inr (.inr (.inl a)), z1, z2] st v G Q = q_wp d 170 80 [.inr (.inr (.inl a)), z1, z2] (.inr (.inr (.inl a)) :: st) v G Q := q_w_aload_n c_170_79 rfl
theorem c_170_80 : q_code 170 80 = (.getfield 40, 3, 11, 14, 1, 969, 0) := by decide +kernel
theorem e_170_80 (d : Nat) (a : Nat) (z0 z1 z2 : q_V) (st : List q_V) (v : q_H) (G : q_Gr) (Q : q_V → q_H → q_Gr → Prop) : q_wp d 170 80 [z0, z1, z2] (.inr (.inr (.inl (some a))) :: st) v G Q = (((G.2.1 a).1 = 11) ∧ q_wp d 170 83 [z0, z1, z2] (.inr (.inr (.inl (G.1 a 14))) :: st) v G Q) := q_w_getP c_170_80
theorem c_170_83 : q_code 170 83 = (.iload_n 1, 1, 0, 0, 0, 0, 0) := by decide +kernel
theorem e_170_83 (d : Nat) (a : Int) (z0 z2 : q_V) (st : List q_V) (v : q_H) (G : q_Gr) (Q : q_V → q_H → q_Gr → Prop) : q_wp d 170 83 [z0, .inl a, z2] st v G Q = q_wp d 170 84 [z0, .inl a, z2] (.inl a :: st) v G Q := q_w_iload_n c_170_83 rfl
theorem c_170_84 : q_code 170 84 = (.iconst 3, 1, 0, 0, 0, 0, 0) := by decide +kernel
theorem e_170_84 (d : Nat)  (z0 z1 z2 : q_V) (st : List q_V) (v : q_H) (G : q_Gr) (Q : q_V → q_H → q_Gr → Prop) : q_wp d 170 84 [z0, z1, z2] st v G Q = q_wp d 170 85 [z0, z1, z2] (.inl 3 :: st) v G Q := q_w_iconst c_170_84
theorem c_170_85 : q_code 170 85 = (.iadd, 1, 0, 0, 0, 0, 0) := by decide +kernel
theorem e_170_85 (d : Nat) (a b : Int) (z0 z1 z2 : q_V) (st : List q_V) (v : q_H) (G : q_Gr) (Q : q_V → q_H → q_Gr → Prop) : q_wp d 170 85 [z0, z1, z2] (.inl b :: .inl a :: st) v G Q = q_wp d 170 86 [z0, z1, z2] (.inl (a + b) :: st) v G Q := q_w_iadd c_170_85
theorem c_170_86 : q_code 170 86 = (.aload_n 0, 1, 0, 0, 0, 0, 0) := by decide +kernel
theorem e_170_86 (d : Nat) (a : Option Nat) (z1 z2 : q_V) (st : List q_V) (v : q_H) (G : q_Gr) (Q : q_V → q_H → q_Gr → Prop) : q_wp d 170 86 [.inr (.inr (.inl a)), z1, z2] st v G Q = q_wp d 170 87 [.inr (.inr (.inl a)), z1, z2] (.inr (.inr (.inl a)) :: st) v G Q := q_w_aload_n c_170_86 rfl
theorem c_170_87 : q_code 170 87 = (.getfield 192, 3, 11, 13, 0, 968, 0) := by decide +kernel
theorem e_170_87 (d : Nat) (a : Nat) (z0 z1 z2 : q_V) (st : List q_V) (v : q_H) (G : q_Gr) (Q : q_V → q_H → q_Gr → Prop) : q_wp d 170 87 [z0, z1, z2] (.inr (.inr (.inl (some a))) :: st) v G Q = (((G.2.1 a).1 = 11) ∧ q_wp d 170 90 [z0, z1, z2] (.inl (v a 13) :: st) v G Q) := q_w_getI c_170_87
theorem c_170_90 : q_code 170 90 = (.ifCond .ne 7, 3, 0, 0, 0, 0, 0) := by decide +kernel
theorem e_170_90 (d : Nat) (a : Int) (z0 z1 z2 : q_V) (st : List q_V) (v : q_H) (G : q_Gr) (Q : q_V → q_H → q_Gr → Prop) : q_wp d 170 90 [z0, z1, z2] (.inl a :: st) v G Q = ((q_inR a) ∧ if ¬ a = 0 then q_wp d 170 97 [z0, z1, z2] st v G Q else q_wp d 170 93 [z0, z1, z2] st v G Q) := q_w_if_ne c_170_90 (by decide)
theorem c_170_93 : q_code 170 93 = (.iload_n 2, 1, 0, 0, 0, 0, 0) := by decide +kernel
theorem e_170_93 (d : Nat) (a : Int) (z0 z1 : q_V) (st : List q_V) (v : q_H) (G : q_Gr) (Q : q_V → q_H → q_Gr → Prop) : q_wp d 170 93 [z0, z1, .inl a] st v G Q = q_wp d 170 94 [z0, z1, .inl a] (.inl a :: st) v G Q := q_w_iload_n c_170_93 rfl
theorem c_170_94 : q_code 170 94 = (.goto 15, 3, 0, 0, 0, 0, 0) := by decide +kernel
theorem e_170_94 (d : Nat)  (z0 z1 z2 : q_V) (st : List q_V) (v : q_H) (G : q_Gr) (Q : q_V → q_H → q_Gr → Prop) : q_wp d 170 94 [z0, z1, z2] st v G Q = q_wp d 170 109 [z0, z1, z2] st v G Q := q_w_goto c_170_94 (by decide)
theorem c_170_97 : q_code 170 97 = (.aload_n 0, 1, 0, 0, 0, 0, 0) := by decide +kernel
theorem e_170_97 (d : Nat) (a : Option Nat) (z1 z2 : q_V) (st : List q_V) (v : q_H) (G : q_Gr) (Q : q_V → q_H → q_Gr → Prop) : q_wp d 170 97 [.inr (.inr (.inl a)), z1, z2] st v G Q = q_wp d 170 98 [.inr (.inr (.inl a)), z1, z2] (.inr (.inr (.inl a)) :: st) v G Q := q_w_aload_n c_170_97 rfl
theorem c_170_98 : q_code 170 98 = (.getfield 40, 3, 11, 14, 1, 969, 0) := by decide +kernel
theorem e_170_98 (d : Nat) (a : Nat) (z0 z1 z2 : q_V) (st : List q_V) (v : q_H) (G : q_Gr) (Q : q_V → q_H → q_Gr → Prop) : q_wp d 170 98 [z0, z1, z2] (.inr (.inr (.inl (some a))) :: st) v G Q = (((G.2.1 a).1 = 11) ∧ q_wp d 170 101 [z0, z1, z2] (.inr (.inr (.inl (G.1 a 14))) :: st) v G Q) := q_w_getP c_170_98
theorem c_170_101 : q_code 170 101 = (.iload_n 1, 1, 0, 0, 0, 0, 0) := by decide +kernel
theorem e_170_101 (d : Nat) (a : Int) (z0 z2 : q_V) (st : List q_V) (v : q_H) (G : q_Gr) (Q : q_V → q_H → q_Gr → Prop) : q_wp d 170 101 [z0, .inl a, z2] st v G Q = q_wp d 170 102 [z0, .inl a, z2] (.inl a :: st) v G Q := q_w_iload_n c_170_101 rfl
theorem c_170_102 : q_code 170 102 = (.iconst 1, 1, 0, 0, 0, 0, 0) := by decide +kernel
theorem e_170_102 (d : Nat)  (z0 z1 z2 : q_V) (st : List q_V) (v : q_H) (G : q_Gr) (Q : q_V → q_H → q_Gr → Prop) : q_wp d 170 102 [z0, z1, z2] st v G Q = q_wp d 170 103 [z0, z1, z2] (.inl 1 :: st) v G Q := q_w_iconst c_170_102
theorem c_170_103 : q_code 170 103 = (.isub, 1, 0, 0, 0, 0, 0) := by decide +kernel
theorem e_170_103 (d : Nat) (a b : Int) (z0 z1 z2 : q_V) (st : List q_V) (v : q_H) (G : q_Gr) (Q : q_V → q_H → q_Gr → Prop) : q_wp d 170 103 [z0, z1, z2] (.inl b :: .inl a :: st) v G Q = q_wp d 170 104 [z0, z1, z2] (.inl (a - b) :: st) v G Q := q_w_isub c_170_103
theorem c_170_104 : q_code 170 104 = (.iaload, 1, 0, 0, 0, 0, 0) := by decide +kernel
theorem e_170_104 (d : Nat) (a : Nat) (i : Int) (z0 z1 z2 : q_V) (st : List q_V) (v : q_H) (G : q_Gr) (Q : q_V → q_H → q_Gr → Prop) : q_wp d 170 104 [z0, z1, z2] (.inl i :: .inr (.inr (.inl (some a))) :: st) v G Q = (((G.2.1 a).1 = 20 ∧ 0 ≤ i ∧ i < (G.2.1 a).2) ∧ q_wp d 170 105 [z0, z1, z2] (.inl (v a i.toNat) :: st) v G Q) := q_w_iald c_170_104
theorem c_170_105 : q_code 170 105 = (.iload_n 2, 1, 0, 0, 0, 0, 0) := by decide +kernel
theorem e_170_105 (d : Nat) (a : Int) (z0 z1 : q_V) (st : List q_V) (v : q_H) (G : q_Gr) (Q : q_V → q_H → q_Gr → Prop) : q_wp d 170 105 [z0, z1, .inl a] st v G Q = q_wp d 170 106 [z0, z1, .inl a] (.inl a :: st) v G Q := q_w_iload_n c_170_105 rfl
theorem c_170_106 : q_code 170 106 = (.invokestatic 170, 3, 153, 2, 0, 1153, 1) := by decide +kernel
theorem e_170_106 (d : Nat) (x0 x1 y0 y1 : q_V) (z0 z1 z2 : q_V) (v : q_H) (G : q_Gr) (Q : q_V → q_H → q_Gr → Prop) : q_wp d 170 106 [z0, z1, z2] [x1, x0, y0, y1] v G Q = q_call d 153 [x0, x1] v G (fun r v G => q_wp d 170 109 [z0, z1, z2] (q_push r [y0, y1]) v G Q) := q_wp_ca (m2 := 153) (k := 2) (as := [x0, x1]) (rest := [y0, y1]) (congrArg q_kind c_170_106) (congrArg (fun w => w.2.2.1) c_170_106) (congrArg (fun w => w.2.2.2.1) c_170_106) rfl (Nat.le_of_ble_eq_true rfl) rfl
theorem c_170_109 : q_code 170 109 = (.iastore, 1, 0, 0, 0, 0, 0) := by decide +kernel
theorem e_170_109 (d : Nat) (a : Nat) (i b : Int) (z0 z1 z2 : q_V) (st : List q_V) (v : q_H) (G : q_Gr) (Q : q_V → q_H → q_Gr → Prop) : q_wp d 170 109 [z0, z1, z2] (.inl b :: .inl i :: .inr (.inr (.inl (some a))) :: st) v G Q = (((G.2.1 a).1 = 20 ∧ 32 ≤ a ∧ 0 ≤ i ∧ i < (G.2.1 a).2) ∧ q_wp d 170 110 [z0, z1, z2] st (q_up v a i.toNat b) G Q) := q_w_iast c_170_109
theorem c_170_110 : q_code 170 110 = (.aload_n 0, 1, 0, 0, 0, 0, 0) := by decide +kernel
theorem e_170_110 (d : Nat) (a : Option Nat) (z1 z2 : q_V) (st : List q_V) (v : q_H) (G : q_Gr) (Q : q_V → q_H → q_Gr → Prop) : q_wp d 170 110 [.inr (.inr (.inl a)), z1, z2] st v G Q = q_wp d 170 111 [.inr (.inr (.inl a)), z1, z2] (.inr (.inr (.inl a)) :: st) v G Q := q_w_aload_n c_170_110 rfl
theorem c_170_111 : q_code 170 111 = (.dup, 1, 0, 0, 0, 0, 0) := by decide +kernel
theorem e_170_111 (d : Nat) (a : Option Nat) (z0 z1 z2 : q_V) (st : List q_V) (v : q_H) (G : q_Gr) (Q : q_V → q_H → q_Gr → Prop) : q_wp d 170 111 [z0, z1, z2] (.inr (.inr (.inl a)) :: st) v G Q = q_wp d 170 112 [z0, z1, z2] (.inr (.inr (.inl a)) :: .inr (.inr (.inl a)) :: st) v G Q := q_w_dupP c_170_111
theorem c_170_112 : q_code 170 112 = (.getfield 192, 3, 11, 13, 0, 968, 0) := by decide +kernel
theorem e_170_112 (d : Nat) (a : Nat) (z0 z1 z2 : q_V) (st : List q_V) (v : q_H) (G : q_Gr) (Q : q_V → q_H → q_Gr → Prop) : q_wp d 170 112 [z0, z1, z2] (.inr (.inr (.inl (some a))) :: st) v G Q = (((G.2.1 a).1 = 11) ∧ q_wp d 170 115 [z0, z1, z2] (.inl (v a 13) :: st) v G Q) := q_w_getI c_170_112
theorem c_170_115 : q_code 170 115 = (.iconst 1, 1, 0, 0, 0, 0, 0) := by decide +kernel
theorem e_170_115 (d : Nat)  (z0 z1 z2 : q_V) (st : List q_V) (v : q_H) (G : q_Gr) (Q : q_V → q_H → q_Gr → Prop) : q_wp d 170 115 [z0, z1, z2] st v G Q = q_wp d 170 116 [z0, z1, z2] (.inl 1 :: st) v G Q := q_w_iconst c_170_115
theorem c_170_116 : q_code 170 116 = (.iadd, 1, 0, 0, 0, 0, 0) := by decide +kernel
theorem e_170_116 (d : Nat) (a b : Int) (z0 z1 z2 : q_V) (st : List q_V) (v : q_H) (G : q_Gr) (Q : q_V → q_H → q_Gr → Prop) : q_wp d 170 116 [z0, z1, z2] (.inl b :: .inl a :: st) v G Q = q_wp d 170 117 [z0, z1, z2] (.inl (a + b) :: st) v G Q := q_w_iadd c_170_116
theorem c_170_117 : q_code 170 117 = (.putfield 192, 3, 11, 13, 0, 968, 0) := by decide +kernel
theorem e_170_117 (d : Nat) (a : Nat) (b : Int) (z0 z1 z2 : q_V) (st : List q_V) (v : q_H) (G : q_Gr) (Q : q_V → q_H → q_Gr → Prop) : q_wp d 170 117 [z0, z1, z2] (.inl b :: .inr (.inr (.inl (some a))) :: st) v G Q = (((G.2.1 a).1 = 11) ∧ q_wp d 170 120 [z0, z1, z2] st (q_up v a 13 b) G Q) := q_w_putI c_170_117
theorem c_170_120 : q_code 170 120 = (.aload_n 0, 1, 0, 0, 0, 0, 0) := by decide +kernel
theorem e_170_120 (d : Nat) (a : Option Nat) (z1 z2 : q_V) (st : List q_V) (v : q_H) (G : q_Gr) (Q : q_V → q_H → q_Gr → Prop) : q_wp d 170 120 [.inr (.inr (.inl a)), z1, z2] st v G Q = q_wp d 170 121 [.inr (.inr (.inl a)), z1, z2] (.inr (.inr (.inl a)) :: st) v G Q := q_w_aload_n c_170_120 rfl
theorem c_170_121 : q_code 170 121 = (.getfield 192, 3, 11, 13, 0, 968, 0) := by decide +kernel
theorem e_170_121 (d : Nat) (a : Nat) (z0 z1 z2 : q_V) (st : List q_V) (v : q_H) (G : q_Gr) (Q : q_V → q_H → q_Gr → Prop) : q_wp d 170 121 [z0, z1, z2] (.inr (.inr (.inl (some a))) :: st) v G Q = (((G.2.1 a).1 = 11) ∧ q_wp d 170 124 [z0, z1, z2] (.inl (v a 13) :: st) v G Q) := q_w_getI c_170_121
theorem c_170_124 : q_code 170 124 = (.iconst 1, 1, 0, 0, 0, 0, 0) := by decide +kernel
theorem e_170_124 (d : Nat)  (z0 z1 z2 : q_V) (st : List q_V) (v : q_H) (G : q_Gr) (Q : q_V → q_H → q_Gr → Prop) : q_wp d 170 124 [z0, z1, z2] st v G Q = q_wp d 170 125 [z0, z1, z2] (.inl 1 :: st) v G Q := q_w_iconst c_170_124
theorem c_170_125 : q_code 170 125 = (.isub, 1, 0, 0, 0, 0, 0) := by decide +kernel
theorem e_170_125 (d : Nat) (a b : Int) (z0 z1 z2 : q_V) (st : List q_V) (v : q_H) (G : q_Gr) (Q : q_V → q_H → q_Gr → Prop) : q_wp d 170 125 [z0, z1, z2] (.inl b :: .inl a :: st) v G Q = q_wp d 170 126 [z0, z1, z2] (.inl (a - b) :: st) v G Q := q_w_isub c_170_125
theorem c_170_126 : q_code 170 126 = (.ireturn, 1, 0, 0, 0, 0, 0) := by decide +kernel
theorem e_170_126 (d : Nat) (a : Int) (z0 z1 z2 : q_V) (v : q_H) (G : q_Gr) (Q : q_V → q_H → q_Gr → Prop) : q_wp d 170 126 [z0, z1, z2] [.inl a] v G Q = Q (.inl a) v G := q_w_ireturn c_170_126 rfl
theorem e_170 (d : Nat) (a0 : Nat) (v : q_H) (G : q_Gr) (Q : q_V → q_H → q_Gr → Prop) : q_call (d + 1) 170 [.inr (.inr (.inl (some a0)))] v G Q = ((G.2.1 a0).1 = 11 ∧ q_wp d 170 0 [.inr (.inr (.inl (some a0))), .inr (.inr (.inr ())), .inr (.inr (.inr ()))] [] v G Q) := by
  rw [q_call_in (by decide) (Nat.le_of_ble_eq_true rfl) rfl]
  exact congrArg (· ∧ _) (propext beq_iff_eq)
/-- all but the heads of loops: [26] -/
def E170 := And.intro @e_170 (And.intro @e_170_0 (And.intro @e_170_1 (And.intro @e_170_2 (And.intro @e_170_5 (And.intro @e_170_6 (And.intro @e_170_9 (And.intro @e_170_11 (And.intro @e_170_14 (And.intro @e_170_16 (And.intro @e_170_17 (And.intro @e_170_18 (And.intro @e_170_19 (And.intro @e_170_22 (And.intro @e_170_23 (And.intro @e_170_24 (And.intro @e_170_25 (And.intro @e_170_27 (And.intro @e_170_28 (And.intro @e_170_31 (And.intro @e_170_32 (And.intro @e_170_35 (And.intro @e_170_36 (And.intro @e_170_37 (And.intro @e_170_38 (And.intro @e_170_39 (And.intro @e_170_40 (And.intro @e_170_43 (And.intro @e_170_44 (And.intro @e_170_47 (And.intro @e_170_50 (And.intro @e_170_51 (And.intro @e_170_54 (And.intro @e_170_55 (And.intro @e_170_56 (And.intro @e_170_57 (And.intro @e_170_60 (And.intro @e_170_61 (And.intro @e_170_62 (And.intro @e_170_63 (And.intro @e_170_64 (And.intro @e_170_67 (And.intro @e_170_68 (And.intro @e_170_71 (And.intro @e_170_72 (And.intro @e_170_73 (And.intro @e_170_74 (And.intro @e_170_75 (And.intro @e_170_78 (And.intro @e_170_79 (And.intro @e_170_80 (And.intro @e_170_83 (And.intro @e_170_84 (And.intro @e_170_85 (And.intro @e_170_86 (And.intro @e_170_87 (And.intro @e_170_90 (And.intro @e_170_93 (And.intro @e_170_94 (And.intro @e_170_97 (And.intro @e_170_98 (And.intro @e_170_101 (And.intro @e_170_102 (And.intro @e_170_103 (And.intro @e_170_104 (And.intro @e_170_105 (And.intro @e_170_106 (And.intro @e_170_109 (And.intro @e_170_110 (And.intro @e_170_111 (And.intro @e_170_112 (And.intro @e_170_115 (And.intro @e_170_116 (And.intro @e_170_117 (And.intro @e_170_120 (And.intro @e_170_121 (And.intro @e_170_124 (And.intro @e_170_125 (@e_170_126))))))))))))))))))))))))))))))))))))))))))))))))))))))))))))))))))))))))))))))
/-! ProvenRowsModel.seal(II)I -/
theorem c_171_0 : q_code 171 0 = (.aload_n 0, 1, 0, 0, 0, 0, 0) := by decide +kernel
theorem e_171_0 (d : Nat) (a : Option Nat) (z1 z2 : q_V) (st : List q_V) (v : q_H) (G : q_Gr) (Q : q_V → q_H → q_Gr → Prop) : q_wp d 171 0 [.inr (.inr (.inl a)), z1, z2] st v G Q = q_wp d 171 1 [.inr (.inr (.inl a)), z1, z2] (.inr (.inr (.inl a)) :: st) v G Q := q_w_aload_n c_171_0 rfl
theorem c_171_1 : q_code 171 1 = (.iconst 0, 1, 0, 0, 0, 0, 0) := by decide +kernel
theorem e_171_1 (d : Nat)  (z0 z1 z2 : q_V) (st : List q_V) (v : q_H) (G : q_Gr) (Q : q_V → q_H → q_Gr → Prop) : q_wp d 171 1 [z0, z1, z2] st v G Q = q_wp d 171 2 [z0, z1, z2] (.inl 0 :: st) v G Q := q_w_iconst c_171_1
theorem c_171_2 : q_code 171 2 = (.putfield 119, 3, 11, 0, 0, 955, 0) := by decide +kernel
theorem e_171_2 (d : Nat) (a : Nat) (b : Int) (z0 z1 z2 : q_V) (st : List q_V) (v : q_H) (G : q_Gr) (Q : q_V → q_H → q_Gr → Prop) : q_wp d 171 2 [z0, z1, z2] (.inl b :: .inr (.inr (.inl (some a))) :: st) v G Q = (((G.2.1 a).1 = 11) ∧ q_wp d 171 5 [z0, z1, z2] st (q_up v a 0 b) G Q) := q_w_putI c_171_2
theorem c_171_5 : q_code 171 5 = (.iload_n 1, 1, 0, 0, 0, 0, 0) := by decide +kernel
theorem e_171_5 (d : Nat) (a : Int) (z0 z2 : q_V) (st : List q_V) (v : q_H) (G : q_Gr) (Q : q_V → q_H → q_Gr → Prop) : q_wp d 171 5 [z0, .inl a, z2] st v G Q = q_wp d 171 6 [z0, .inl a, z2] (.inl a :: st) v G Q := q_w_iload_n c_171_5 rfl
theorem c_171_6 : q_code 171 6 = (.i2l, 1, 0, 0, 0, 0, 0) := by decide +kernel
theorem e_171_6 (d : Nat) (a : Int) (z0 z1 z2 : q_V) (st : List q_V) (v : q_H) (G : q_Gr) (Q : q_V → q_H → q_Gr → Prop) : q_wp d 171 6 [z0, z1, z2] (.inl a :: st) v G Q = ((q_inR a) ∧ q_wp d 171 7 [z0, z1, z2] (.inr (.inl a) :: st) v G Q) := q_w_i2l c_171_6
theorem c_171_7 : q_code 171 7 = (.lconst 0, 1, 0, 0, 0, 0, 0) := by decide +kernel
theorem e_171_7 (d : Nat)  (z0 z1 z2 : q_V) (st : List q_V) (v : q_H) (G : q_Gr) (Q : q_V → q_H → q_Gr → Prop) : q_wp d 171 7 [z0, z1, z2] st v G Q = q_wp d 171 8 [z0, z1, z2] (.inr (.inl 0) :: st) v G Q := q_w_lconst c_171_7
theorem c_171_8 : q_code 171 8 = (.aload_n 0, 1, 0, 0, 0, 0, 0) := by decide +kernel
theorem e_171_8 (d : Nat) (a : Option Nat) (z1 z2 : q_V) (st : List q_V) (v : q_H) (G : q_Gr) (Q : q_V → q_H → q_Gr → Prop) : q_wp d 171 8 [.inr (.inr (.inl a)), z1, z2] st v G Q = q_wp d 171 9 [.inr (.inr (.inl a)), z1, z2] (.inr (.inr (.inl a)) :: st) v G Q := q_w_aload_n c_171_8 rfl
theorem c_171_9 : q_code 171 9 = (.getfield 192, 3, 11, 13, 0, 968, 0) := by decide +kernel
theorem e_171_9 (d : Nat) (a : Nat) (z0 z1 z2 : q_V) (st : List q_V) (v : q_H) (G : q_Gr) (Q : q_V → q_H → q_Gr → Prop) : q_wp d 171 9 [z0, z1, z2] (.inr (.inr (.inl (some a))) :: st) v G Q = (((G.2.1 a).1 = 11) ∧ q_wp d 171 12 [z0, z1, z2] (.inl (v a 13) :: st) v G Q) := q_w_getI c_171_9
theorem c_171_12 : q_code 171 12 = (.iconst 1, 1, 0, 0, 0, 0, 0) := by decide +kernel
theorem e_171_12 (d : Nat)  (z0 z1 z2 : q_V) (st : List q_V) (v : q_H) (G : q_Gr) (Q : q_V → q_H → q_Gr → Prop) : q_wp d 171 12 [z0, z1, z2] st v G Q = q_wp d 171 13 [z0, z1, z2] (.inl 1 :: st) v G Q := q_w_iconst c_171_12
theorem c_171_13 : q_code 171 13 = (.isub, 1, 0, 0, 0, 0, 0) := by decide +kernel
theorem e_171_13 (d : Nat) (a b : Int) (z0 z1 z2 : q_V) (st : List q_V) (v : q_H) (G : q_Gr) (Q : q_V → q_H → q_Gr → Prop) : q_wp d 171 13 [z0, z1, z2] (.inl b :: .inl a :: st) v G Q = q_wp d 171 14 [z0, z1, z2] (.inl (a - b) :: st) v G Q := q_w_isub c_171_13
theorem c_171_14 : q_code 171 14 = (.i2l, 1, 0, 0, 0, 0, 0) := by decide +kernel
theorem e_171_14 (d : Nat) (a : Int) (z0 z1 z2 : q_V) (st : List q_V) (v : q_H) (G : q_Gr) (Q : q_V → q_H → q_Gr → Prop) : q_wp d 171 14 [z0, z1, z2] (.inl a :: st) v G Q = ((q_inR a) ∧ q_wp d 171 15 [z0, z1, z2] (.inr (.inl a) :: st) v G Q) := q_w_i2l c_171_14
theorem c_171_15 : q_code 171 15 = (.invokestatic 137, 3, 151, 3, 0, 1095, 1) := by decide +kernel
theorem e_171_15 (d : Nat) (x0 x1 x2 : q_V) (z0 z1 z2 : q_V) (v : q_H) (G : q_Gr) (Q : q_V → q_H → q_Gr → Prop) : q_wp d 171 15 [z0, z1, z2] [x2, x1, x0] v G Q = q_call d 151 [x0, x1, x2] v G (fun r v G => q_wp d 171 18 [z0, z1, z2] (q_push r []) v G Q) := q_wp_ca (m2 := 151) (k := 3) (as := [x0, x1, x2]) (rest := []) (congrArg q_kind c_171_15) (congrArg (fun w => w.2.2.1) c_171_15) (congrArg (fun w => w.2.2.2.1) c_171_15) rfl (Nat.le_of_ble_eq_true rfl) rfl
theorem c_171_18 : q_code 171 18 = (.ifCond .eq 15, 3, 0, 0, 0, 0, 0) := by decide +kernel
theorem e_171_18 (d : Nat) (a : Int) (z0 z1 z2 : q_V) (st : List q_V) (v : q_H) (G : q_Gr) (Q : q_V → q_H → q_Gr → Prop) : q_wp d 171 18 [z0, z1, z2] (.inl a :: st) v G Q = ((q_inR a) ∧ if a = 0 then q_wp d 171 33 [z0, z1, z2] st v G Q else q_wp d 171 21 [z0, z1, z2] st v G Q) := q_w_if_eq c_171_18 (by decide)
theorem c_171_21 : q_code 171 21 = (.iload_n 2, 1, 0, 0, 0, 0, 0) := by decide +kernel
theorem e_171_21 (d : Nat) (a : Int) (z0 z1 : q_V) (st : List q_V) (v : q_H) (G : q_Gr) (Q : q_V → q_H → q_Gr → Prop) : q_wp d 171 21 [z0, z1, .inl a] st v G Q = q_wp d 171 22 [z0, z1, .inl a] (.inl a :: st) v G Q := q_w_iload_n c_171_21 rfl
theorem c_171_22 : q_code 171 22 = (.i2l, 1, 0, 0, 0, 0, 0) := by decide +kernel
theorem e_171_22 (d : Nat) (a : Int) (z0 z1 z2 : q_V) (st : List q_V) (v : q_H) (G : q_Gr) (Q : q_V → q_H → q_Gr → Prop) : q_wp d 171 22 [z0, z1, z2] (.inl a :: st) v G Q = ((q_inR a) ∧ q_wp d 171 23 [z0, z1, z2] (.inr (.inl a) :: st) v G Q) := q_w_i2l c_171_22
theorem c_171_23 : q_code 171 23 = (.lconst 0, 1, 0, 0, 0, 0, 0) := by decide +kernel
theorem e_171_23 (d : Nat)  (z0 z1 z2 : q_V) (st : List q_V) (v : q_H) (G : q_Gr) (Q : q_V → q_H → q_Gr → Prop) : q_wp d 171 23 [z0, z1, z2] st v G Q = q_wp d 171 24 [z0, z1, z2] (.inr (.inl 0) :: st) v G Q := q_w_lconst c_171_23
theorem c_171_24 : q_code 171 24 = (.ldc2_w 187, 3, 0, 0, 0, 1143, 3) := by decide +kernel
theorem e_171_24 (d : Nat)  (z0 z1 z2 : q_V) (st : List q_V) (v : q_H) (G : q_Gr) (Q : q_V → q_H → q_Gr → Prop) : q_wp d 171 24 [z0, z1, z2] st v G Q = q_wp d 171 27 [z0, z1, z2] (.inr (.inl 3) :: st) v G Q := q_w_ldc2 c_171_24
theorem c_171_27 : q_code 171 27 = (.invokestatic 137, 3, 151, 3, 0, 1095, 1) := by decide +kernel
theorem e_171_27 (d : Nat) (x0 x1 x2 : q_V) (z0 z1 z2 : q_V) (v : q_H) (G : q_Gr) (Q : q_V → q_H → q_Gr → Prop) : q_wp d 171 27 [z0, z1, z2] [x2, x1, x0] v G Q = q_call d 151 [x0, x1, x2] v G (fun r v G => q_wp d 171 30 [z0, z1, z2] (q_push r []) v G Q) := q_wp_ca (m2 := 151) (k := 3) (as := [x0, x1, x2]) (rest := []) (congrArg q_kind c_171_27) (congrArg (fun w => w.2.2.1) c_171_27) (congrArg (fun w => w.2.2.2.1) c_171_27) rfl (Nat.le_of_ble_eq_true rfl) rfl
theorem c_171_30 : q_code 171 30 = (.ifCond .ne 8, 3, 0, 0, 0, 0, 0) := by decide +kernel
theorem e_171_30 (d : Nat) (a : Int) (z0 z1 z2 : q_V) (st : List q_V) (v : q_H) (G : q_Gr) (Q : q_V → q_H → q_Gr → Prop) : q_wp d 171 30 [z0, z1, z2] (.inl a :: st) v G Q = ((q_inR a) ∧ if ¬ a = 0 then q_wp d 171 38 [z0, z1, z2] st v G Q else q_wp d 171 33 [z0, z1, z2] st v G Q) := q_w_if_ne c_171_30 (by decide)
theorem c_171_33 : q_code 171 33 = (.ldc 147, 2, 0, 0, 0, 1099, (-1000001)) := by decide +kernel
theorem e_171_33 (d : Nat)  (z0 z1 z2 : q_V) (st : List q_V) (v : q_H) (G : q_Gr) (Q : q_V → q_H → q_Gr → Prop) : q_wp d 171 33 [z0, z1, z2] st v G Q = q_wp d 171 35 [z0, z1, z2] (.inl (-1000001) :: st) v G Q := q_w_ldc c_171_33
theorem c_171_35 : q_code 171 35 = (.goto 13, 3, 0, 0, 0, 0, 0) := by decide +kernel
theorem e_171_35 (d : Nat)  (z0 z1 z2 : q_V) (st : List q_V) (v : q_H) (G : q_Gr) (Q : q_V → q_H → q_Gr → Prop) : q_wp d 171 35 [z0, z1, z2] st v G Q = q_wp d 171 48 [z0, z1, z2] st v G Q := q_w_goto c_171_35 (by decide)
theorem c_171_38 : q_code 171 38 = (.aload_n 0, 1, 0, 0, 0, 0, 0) := by decide +kernel
theorem e_171_38 (d : Nat) (a : Option Nat) (z1 z2 : q_V) (st : List q_V) (v : q_H) (G : q_Gr) (Q : q_V → q_H → q_Gr → Prop) : q_wp d 171 38 [.inr (.inr (.inl a)), z1, z2] st v G Q = q_wp d 171 39 [.inr (.inr (.inl a)), z1, z2] (.inr (.inr (.inl a)) :: st) v G Q := q_w_aload_n c_171_38 rfl
theorem c_171_39 : q_code 171 39 = (.getfield 40, 3, 11, 14, 1, 969, 0) := by decide +kernel
theorem e_171_39 (d : Nat) (a : Nat) (z0 z1 z2 : q_V) (st : List q_V) (v : q_H) (G : q_Gr) (Q : q_V → q_H → q_Gr → Prop) : q_wp d 171 39 [z0, z1, z2] (.inr (.inr (.inl (some a))) :: st) v G Q = (((G.2.1 a).1 = 11) ∧ q_wp d 171 42 [z0, z1, z2] (.inr (.inr (.inl (G.1 a 14))) :: st) v G Q) := q_w_getP c_171_39
theorem c_171_42 : q_code 171 42 = (.iconst 4, 1, 0, 0, 0, 0, 0) := by decide +kernel
theorem e_171_42 (d : Nat)  (z0 z1 z2 : q_V) (st : List q_V) (v : q_H) (G : q_Gr) (Q : q_V → q_H → q_Gr → Prop) : q_wp d 171 42 [z0, z1, z2] st v G Q = q_wp d 171 43 [z0, z1, z2] (.inl 4 :: st) v G Q := q_w_iconst c_171_42
theorem c_171_43 : q_code 171 43 = (.iload_n 1, 1, 0, 0, 0, 0, 0) := by decide +kernel
theorem e_171_43 (d : Nat) (a : Int) (z0 z2 : q_V) (st : List q_V) (v : q_H) (G : q_Gr) (Q : q_V → q_H → q_Gr → Prop) : q_wp d 171 43 [z0, .inl a, z2] st v G Q = q_wp d 171 44 [z0, .inl a, z2] (.inl a :: st) v G Q := q_w_iload_n c_171_43 rfl
theorem c_171_44 : q_code 171 44 = (.imul, 1, 0, 0, 0, 0, 0) := by decide +kernel
theorem e_171_44 (d : Nat) (a b : Int) (z0 z1 z2 : q_V) (st : List q_V) (v : q_H) (G : q_Gr) (Q : q_V → q_H → q_Gr → Prop) : q_wp d 171 44 [z0, z1, z2] (.inl b :: .inl a :: st) v G Q = q_wp d 171 45 [z0, z1, z2] (.inl (a * b) :: st) v G Q := q_w_imul c_171_44
theorem c_171_45 : q_code 171 45 = (.iload_n 2, 1, 0, 0, 0, 0, 0) := by decide +kernel
theorem e_171_45 (d : Nat) (a : Int) (z0 z1 : q_V) (st : List q_V) (v : q_H) (G : q_Gr) (Q : q_V → q_H → q_Gr → Prop) : q_wp d 171 45 [z0, z1, .inl a] st v G Q = q_wp d 171 46 [z0, z1, .inl a] (.inl a :: st) v G Q := q_w_iload_n c_171_45 rfl
theorem c_171_46 : q_code 171 46 = (.iadd, 1, 0, 0, 0, 0, 0) := by decide +kernel
theorem e_171_46 (d : Nat) (a b : Int) (z0 z1 z2 : q_V) (st : List q_V) (v : q_H) (G : q_Gr) (Q : q_V → q_H → q_Gr → Prop) : q_wp d 171 46 [z0, z1, z2] (.inl b :: .inl a :: st) v G Q = q_wp d 171 47 [z0, z1, z2] (.inl (a + b) :: st) v G Q := q_w_iadd c_171_46
theorem c_171_47 : q_code 171 47 = (.iaload, 1, 0, 0, 0, 0, 0) := by decide +kernel
theorem e_171_47 (d : Nat) (a : Nat) (i : Int) (z0 z1 z2 : q_V) (st : List q_V) (v : q_H) (G : q_Gr) (Q : q_V → q_H → q_Gr → Prop) : q_wp d 171 47 [z0, z1, z2] (.inl i :: .inr (.inr (.inl (some a))) :: st) v G Q = (((G.2.1 a).1 = 20 ∧ 0 ≤ i ∧ i < (G.2.1 a).2) ∧ q_wp d 171 48 [z0, z1, z2] (.inl (v a i.toNat) :: st) v G Q) := q_w_iald c_171_47
theorem c_171_48 : q_code 171 48 = (.ireturn, 1, 0, 0, 0, 0, 0) := by decide +kernel
theorem e_171_48 (d : Nat) (a : Int) (z0 z1 z2 : q_V) (v : q_H) (G : q_Gr) (Q : q_V → q_H → q_Gr → Prop) : q_wp d 171 48 [z0, z1, z2] [.inl a] v G Q = Q (.inl a) v G := q_w_ireturn c_171_48 rfl
theorem e_171 (d : Nat) (a0 : Nat) (a1 : Int) (a2 : Int) (v : q_H) (G : q_Gr) (Q : q_V → q_H → q_Gr → Prop) : q_call (d + 1) 171 [.inr (.inr (.inl (some a0))), .inl a1, .inl a2] v G Q = ((G.2.1 a0).1 = 11 ∧ q_wp d 171 0 [.inr (.inr (.inl (some a0))), .inl a1, .inl a2] [] v G Q) := by
  rw [q_call_in (by decide) (Nat.le_of_ble_eq_true rfl) rfl]
  exact congrArg (· ∧ _) (propext beq_iff_eq)
/-- all but the heads of loops: [] -/
def E171 := And.intro @e_171 (And.intro @e_171_0 (And.intro @e_171_1 (And.intro @e_171_2 (And.intro @e_171_5 (And.intro @e_171_6 (And.intro @e_171_7 (And.intro @e_171_8 (And.intro @e_171_9 (And.intro @e_171_12 (And.intro @e_171_13 (And.intro @e_171_14 (And.intro @e_171_15 (And.intro @e_171_18 (And.intro @e_171_21 (And.intro @e_171_22 (And.intro @e_171_23 (And.intro @e_171_24 (And.intro @e_171_27 (And.intro @e_171_30 (And.intro @e_171_33 (And.intro @e_171_35 (And.intro @e_171_38 (And.intro @e_171_39 (And.intro @e_171_42 (And.intro @e_171_43 (And.intro @e_171_44 (And.intro @e_171_45 (And.intro @e_171_46 (And.intro @e_171_47 (@e_171_48))))))))))))))))))))))))))))))
/-! ProvenRowsModel.feed(JI)I -/
theorem c_172_0 : q_code 172 0 = (.aload_n 0, 1, 0, 0, 0, 0, 0) := by decide +kernel
theorem e_172_0 (d : Nat) (a : Option Nat) (z1 z2 z3 z4 : q_V) (st : List q_V) (v : q_H) (G : q_Gr) (Q : q_V → q_H → q_Gr → Prop) : q_wp d 172 0 [.inr (.inr (.inl a)), z1, z2, z3, z4] st v G Q = q_wp d 172 1 [.inr (.inr (.inl a)), z1, z2, z3, z4] (.inr (.inr (.inl a)) :: st) v G Q := q_w_aload_n c_172_0 rfl
theorem c_172_1 : q_code 172 1 = (.iconst 0, 1, 0, 0, 0, 0, 0) := by decide +kernel
theorem e_172_1 (d : Nat)  (z0 z1 z2 z3 z4 : q_V) (st : List q_V) (v : q_H) (G : q_Gr) (Q : q_V → q_H → q_Gr → Prop) : q_wp d 172 1 [z0, z1, z2, z3, z4] st v G Q = q_wp d 172 2 [z0, z1, z2, z3, z4] (.inl 0 :: st) v G Q := q_w_iconst c_172_1
theorem c_172_2 : q_code 172 2 = (.putfield 119, 3, 11, 0, 0, 955, 0) := by decide +kernel
theorem e_172_2 (d : Nat) (a : Nat) (b : Int) (z0 z1 z2 z3 z4 : q_V) (st : List q_V) (v : q_H) (G : q_Gr) (Q : q_V → q_H → q_Gr → Prop) : q_wp d 172 2 [z0, z1, z2, z3, z4] (.inl b :: .inr (.inr (.inl (some a))) :: st) v G Q = (((G.2.1 a).1 = 11) ∧ q_wp d 172 5 [z0, z1, z2, z3, z4] st (q_up v a 0 b) G Q) := q_w_putI c_172_2
theorem c_172_5 : q_code 172 5 = (.iload_n 3, 1, 0, 0, 0, 0, 0) := by decide +kernel
theorem e_172_5 (d : Nat) (a : Int) (z0 z1 z2 z4 : q_V) (st : List q_V) (v : q_H) (G : q_Gr) (Q : q_V → q_H → q_Gr → Prop) : q_wp d 172 5 [z0, z1, z2, .inl a, z4] st v G Q = q_wp d 172 6 [z0, z1, z2, .inl a, z4] (.inl a :: st) v G Q := q_w_iload_n c_172_5 rfl
theorem c_172_6 : q_code 172 6 = (.i2l, 1, 0, 0, 0, 0, 0) := by decide +kernel
theorem e_172_6 (d : Nat) (a : Int) (z0 z1 z2 z3 z4 : q_V) (st : List q_V) (v : q_H) (G : q_Gr) (Q : q_V → q_H → q_Gr → Prop) : q_wp d 172 6 [z0, z1, z2, z3, z4] (.inl a :: st) v G Q = ((q_inR a) ∧ q_wp d 172 7 [z0, z1, z2, z3, z4] (.inr (.inl a) :: st) v G Q) := q_w_i2l c_172_6
theorem c_172_7 : q_code 172 7 = (.lconst 1, 1, 0, 0, 0, 0, 0) := by decide +kernel
theorem e_172_7 (d : Nat)  (z0 z1 z2 z3 z4 : q_V) (st : List q_V) (v : q_H) (G : q_Gr) (Q : q_V → q_H → q_Gr → Prop) : q_wp d 172 7 [z0, z1, z2, z3, z4] st v G Q = q_wp d 172 8 [z0, z1, z2, z3, z4] (.inr (.inl 1) :: st) v G Q := q_w_lconst c_172_7
theorem c_172_8 : q_code 172 8 = (.ldc2_w 195, 3, 0, 0, 0, 1175, 8) := by decide +kernel
theorem e_172_8 (d : Nat)  (z0 z1 z2 z3 z4 : q_V) (st : List q_V) (v : q_H) (G : q_Gr) (Q : q_V → q_H → q_Gr → Prop) : q_wp d 172 8 [z0, z1, z2, z3, z4] st v G Q = q_wp d 172 11 [z0, z1, z2, z3, z4] (.inr (.inl 8) :: st) v G Q := q_w_ldc2 c_172_8
theorem c_172_11 : q_code 172 11 = (.invokestatic 137, 3, 151, 3, 0, 1095, 1) := by decide +kernel
theorem e_172_11 (d : Nat) (x0 x1 x2 : q_V) (z0 z1 z2 z3 z4 : q_V) (v : q_H) (G : q_Gr) (Q : q_V → q_H → q_Gr → Prop) : q_wp d 172 11 [z0, z1, z2, z3, z4] [x2, x1, x0] v G Q = q_call d 151 [x0, x1, x2] v G (fun r v G => q_wp d 172 14 [z0, z1, z2, z3, z4] (q_push r []) v G Q) := q_wp_ca (m2 := 151) (k := 3) (as := [x0, x1, x2]) (rest := []) (congrArg q_kind c_172_11) (congrArg (fun w => w.2.2.1) c_172_11) (congrArg (fun w => w.2.2.2.1) c_172_11) rfl (Nat.le_of_ble_eq_true rfl) rfl
theorem c_172_14 : q_code 172 14 = (.ifCond .ne 6, 3, 0, 0, 0, 0, 0) := by decide +kernel
theorem e_172_14 (d : Nat) (a : Int) (z0 z1 z2 z3 z4 : q_V) (st : List q_V) (v : q_H) (G : q_Gr) (Q : q_V → q_H → q_Gr → Prop) : q_wp d 172 14 [z0, z1, z2, z3, z4] (.inl a :: st) v G Q = ((q_inR a) ∧ if ¬ a = 0 then q_wp d 172 20 [z0, z1, z2, z3, z4] st v G Q else q_wp d 172 17 [z0, z1, z2, z3, z4] st v G Q) := q_w_if_ne c_172_14 (by decide)
theorem c_172_17 : q_code 172 17 = (.ldc 147, 2, 0, 0, 0, 1099, (-1000001)) := by decide +kernel
theorem e_172_17 (d : Nat)  (z0 z1 z2 z3 z4 : q_V) (st : List q_V) (v : q_H) (G : q_Gr) (Q : q_V → q_H → q_Gr → Prop) : q_wp d 172 17 [z0, z1, z2, z3, z4] st v G Q = q_wp d 172 19 [z0, z1, z2, z3, z4] (.inl (-1000001) :: st) v G Q := q_w_ldc c_172_17
theorem c_172_19 : q_code 172 19 = (.ireturn, 1, 0, 0, 0, 0, 0) := by decide +kernel
theorem e_172_19 (d : Nat) (a : Int) (z0 z1 z2 z3 z4 : q_V) (v : q_H) (G : q_Gr) (Q : q_V → q_H → q_Gr → Prop) : q_wp d 172 19 [z0, z1, z2, z3, z4] [.inl a] v G Q = Q (.inl a) v G := q_w_ireturn c_172_19 rfl
theorem c_172_20 : q_code 172 20 = (.aload_n 0, 1, 0, 0, 0, 0, 0) := by decide +kernel
theorem e_172_20 (d : Nat) (a : Option Nat) (z1 z2 z3 z4 : q_V) (st : List q_V) (v : q_H) (G : q_Gr) (Q : q_V → q_H → q_Gr → Prop) : q_wp d 172 20 [.inr (.inr (.inl a)), z1, z2, z3, z4] st v G Q = q_wp d 172 21 [.inr (.inr (.inl a)), z1, z2, z3, z4] (.inr (.inr (.inl a)) :: st) v G Q := q_w_aload_n c_172_20 rfl
theorem c_172_21 : q_code 172 21 = (.getfield 197, 3, 11, 23, 0, 978, 0) := by decide +kernel
theorem e_172_21 (d : Nat) (a : Nat) (z0 z1 z2 z3 z4 : q_V) (st : List q_V) (v : q_H) (G : q_Gr) (Q : q_V → q_H → q_Gr → Prop) : q_wp d 172 21 [z0, z1, z2, z3, z4] (.inr (.inr (.inl (some a))) :: st) v G Q = (((G.2.1 a).1 = 11) ∧ q_wp d 172 24 [z0, z1, z2, z3, z4] (.inl (v a 23) :: st) v G Q) := q_w_getI c_172_21
theorem c_172_24 : q_code 172 24 = (.iload_n 3, 1, 0, 0, 0, 0, 0) := by decide +kernel
theorem e_172_24 (d : Nat) (a : Int) (z0 z1 z2 z4 : q_V) (st : List q_V) (v : q_H) (G : q_Gr) (Q : q_V → q_H → q_Gr → Prop) : q_wp d 172 24 [z0, z1, z2, .inl a, z4] st v G Q = q_wp d 172 25 [z0, z1, z2, .inl a, z4] (.inl a :: st) v G Q := q_w_iload_n c_172_24 rfl
theorem c_172_25 : q_code 172 25 = (.iadd, 1, 0, 0, 0, 0, 0) := by decide +kernel
theorem e_172_25 (d : Nat) (a b : Int) (z0 z1 z2 z3 z4 : q_V) (st : List q_V) (v : q_H) (G : q_Gr) (Q : q_V → q_H → q_Gr → Prop) : q_wp d 172 25 [z0, z1, z2, z3, z4] (.inl b :: .inl a :: st) v G Q = q_wp d 172 26 [z0, z1, z2, z3, z4] (.inl (a + b) :: st) v G Q := q_w_iadd c_172_25
theorem c_172_26 : q_code 172 26 = (.sipush 200, 3, 0, 0, 0, 0, 0) := by decide +kernel
theorem e_172_26 (d : Nat)  (z0 z1 z2 z3 z4 : q_V) (st : List q_V) (v : q_H) (G : q_Gr) (Q : q_V → q_H → q_Gr → Prop) : q_wp d 172 26 [z0, z1, z2, z3, z4] st v G Q = q_wp d 172 29 [z0, z1, z2, z3, z4] (.inl 200 :: st) v G Q := (q_w_sipush c_172_26).trans (by simp only [show ((-32768 : Int) ≤ 200 ∧ (200 : Int) ≤ 32767) = True by decide, true_and])
theorem c_172_29 : q_code 172 29 = (.if_icmp .le 6, 3, 0, 0, 0, 0, 0) := by decide +kernel
theorem e_172_29 (d : Nat) (a b : Int) (z0 z1 z2 z3 z4 : q_V) (st : List q_V) (v : q_H) (G : q_Gr) (Q : q_V → q_H → q_Gr → Prop) : q_wp d 172 29 [z0, z1, z2, z3, z4] (.inl b :: .inl a :: st) v G Q = ((q_inR a ∧ q_inR b) ∧ if a ≤ b then q_wp d 172 35 [z0, z1, z2, z3, z4] st v G Q else q_wp d 172 32 [z0, z1, z2, z3, z4] st v G Q) := q_w_icmp_le c_172_29 (by decide)
theorem c_172_32 : q_code 172 32 = (.ldc 168, 2, 0, 0, 0, 1133, (-1000003)) := by decide +kernel
theorem e_172_32 (d : Nat)  (z0 z1 z2 z3 z4 : q_V) (st : List q_V) (v : q_H) (G : q_Gr) (Q : q_V → q_H → q_Gr → Prop) : q_wp d 172 32 [z0, z1, z2, z3, z4] st v G Q = q_wp d 172 34 [z0, z1, z2, z3, z4] (.inl (-1000003) :: st) v G Q := q_w_ldc c_172_32
theorem c_172_34 : q_code 172 34 = (.ireturn, 1, 0, 0, 0, 0, 0) := by decide +kernel
theorem e_172_34 (d : Nat) (a : Int) (z0 z1 z2 z3 z4 : q_V) (v : q_H) (G : q_Gr) (Q : q_V → q_H → q_Gr → Prop) : q_wp d 172 34 [z0, z1, z2, z3, z4] [.inl a] v G Q = Q (.inl a) v G := q_w_ireturn c_172_34 rfl
theorem c_172_35 : q_code 172 35 = (.iload_n 3, 1, 0, 0, 0, 0, 0) := by decide +kernel
theorem e_172_35 (d : Nat) (a : Int) (z0 z1 z2 z4 : q_V) (st : List q_V) (v : q_H) (G : q_Gr) (Q : q_V → q_H → q_Gr → Prop) : q_wp d 172 35 [z0, z1, z2, .inl a, z4] st v G Q = q_wp d 172 36 [z0, z1, z2, .inl a, z4] (.inl a :: st) v G Q := q_w_iload_n c_172_35 rfl
theorem c_172_36 : q_code 172 36 = (.iconst 1, 1, 0, 0, 0, 0, 0) := by decide +kernel
theorem e_172_36 (d : Nat)  (z0 z1 z2 z3 z4 : q_V) (st : List q_V) (v : q_H) (G : q_Gr) (Q : q_V → q_H → q_Gr → Prop) : q_wp d 172 36 [z0, z1, z2, z3, z4] st v G Q = q_wp d 172 37 [z0, z1, z2, z3, z4] (.inl 1 :: st) v G Q := q_w_iconst c_172_36
theorem c_172_37 : q_code 172 37 = (.isub, 1, 0, 0, 0, 0, 0) := by decide +kernel
theorem e_172_37 (d : Nat) (a b : Int) (z0 z1 z2 z3 z4 : q_V) (st : List q_V) (v : q_H) (G : q_Gr) (Q : q_V → q_H → q_Gr → Prop) : q_wp d 172 37 [z0, z1, z2, z3, z4] (.inl b :: .inl a :: st) v G Q = q_wp d 172 38 [z0, z1, z2, z3, z4] (.inl (a - b) :: st) v G Q := q_w_isub c_172_37
theorem c_172_38 : q_code 172 38 = (.istore 4, 2, 0, 0, 0, 0, 0) := by decide +kernel
theorem e_172_38 (d : Nat) (a : Int) (z0 z1 z2 z3 z4 : q_V) (st : List q_V) (v : q_H) (G : q_Gr) (Q : q_V → q_H → q_Gr → Prop) : q_wp d 172 38 [z0, z1, z2, z3, z4] (.inl a :: st) v G Q = q_wp d 172 40 [z0, z1, z2, z3, .inl a] st v G Q := q_w_istore c_172_38
theorem c_172_40 : q_code 172 40 = (.iload 4, 2, 0, 0, 0, 0, 0) := by decide +kernel
theorem e_172_40 (d : Nat) (a : Int) (z0 z1 z2 z3 : q_V) (st : List q_V) (v : q_H) (G : q_Gr) (Q : q_V → q_H → q_Gr → Prop) : q_wp d 172 40 [z0, z1, z2, z3, .inl a] st v G Q = q_wp d 172 42 [z0, z1, z2, z3, .inl a] (.inl a :: st) v G Q := q_w_iload c_172_40 rfl
theorem c_172_42 : q_code 172 42 = (.ifCond .lt 40, 3, 0, 0, 0, 0, 0) := by decide +kernel
theorem e_172_42 (d : Nat) (a : Int) (z0 z1 z2 z3 z4 : q_V) (st : List q_V) (v : q_H) (G : q_Gr) (Q : q_V → q_H → q_Gr → Prop) : q_wp d 172 42 [z0, z1, z2, z3, z4] (.inl a :: st) v G Q = ((q_inR a) ∧ if a < 0 then q_wp d 172 82 [z0, z1, z2, z3, z4] st v G Q else q_wp d 172 45 [z0, z1, z2, z3, z4] st v G Q) := q_w_if_lt c_172_42 (by decide)
theorem c_172_45 : q_code 172 45 = (.aload_n 0, 1, 0, 0, 0, 0, 0) := by decide +kernel
theorem e_172_45 (d : Nat) (a : Option Nat) (z1 z2 z3 z4 : q_V) (st : List q_V) (v : q_H) (G : q_Gr) (Q : q_V → q_H → q_Gr → Prop) : q_wp d 172 45 [.inr (.inr (.inl a)), z1, z2, z3, z4] st v G Q = q_wp d 172 46 [.inr (.inr (.inl a)), z1, z2, z3, z4] (.inr (.inr (.inl a)) :: st) v G Q := q_w_aload_n c_172_45 rfl
theorem c_172_46 : q_code 172 46 = (.getfield 58, 3, 11, 22, 1, 977, 0) := by decide +kernel
theorem e_172_46 (d : Nat) (a : Nat) (z0 z1 z2 z3 z4 : q_V) (st : List q_V) (v : q_H) (G : q_Gr) (Q : q_V → q_H → q_Gr → Prop) : q_wp d 172 46 [z0, z1, z2, z3, z4] (.inr (.inr (.inl (some a))) :: st) v G Q = (((G.2.1 a).1 = 11) ∧ q_wp d 172 49 [z0, z1, z2, z3, z4] (.inr (.inr (.inl (G.1 a 22))) :: st) v G Q) := q_w_getP c_172_46
theorem c_172_49 : q_code 172 49 = (.aload_n 0, 1, 0, 0, 0, 0, 0) := by decide +kernel
theorem e_172_49 (d : Nat) (a : Option Nat) (z1 z2 z3 z4 : q_V) (st : List q_V) (v : q_H) (G : q_Gr) (Q : q_V → q_H → q_Gr → Prop) : q_wp d 172 49 [.inr (.inr (.inl a)), z1, z2, z3, z4] st v G Q = q_wp d 172 50 [.inr (.inr (.inl a)), z1, z2, z3, z4] (.inr (.inr (.inl a)) :: st) v G Q := q_w_aload_n c_172_49 rfl
theorem c_172_50 : q_code 172 50 = (.getfield 197, 3, 11, 23, 0, 978, 0) := by decide +kernel
theorem e_172_50 (d : Nat) (a : Nat) (z0 z1 z2 z3 z4 : q_V) (st : List q_V) (v : q_H) (G : q_Gr) (Q : q_V → q_H → q_Gr → Prop) : q_wp d 172 50 [z0, z1, z2, z3, z4] (.inr (.inr (.inl (some a))) :: st) v G Q = (((G.2.1 a).1 = 11) ∧ q_wp d 172 53 [z0, z1, z2, z3, z4] (.inl (v a 23) :: st) v G Q) := q_w_getI c_172_50
theorem c_172_53 : q_code 172 53 = (.lload_n 1, 1, 0, 0, 0, 0, 0) := by decide +kernel
theorem e_172_53 (d : Nat) (a : Int) (z0 z2 z3 z4 : q_V) (st : List q_V) (v : q_H) (G : q_Gr) (Q : q_V → q_H → q_Gr → Prop) : q_wp d 172 53 [z0, .inr (.inl a), z2, z3, z4] st v G Q = q_wp d 172 54 [z0, .inr (.inl a), z2, z3, z4] (.inr (.inl a) :: st) v G Q := q_w_lload_n c_172_53 rfl
theorem c_172_54 : q_code 172 54 = (.bipush 8, 2, 0, 0, 0, 0, 0) := by decide +kernel
theorem e_172_54 (d : Nat)  (z0 z1 z2 z3 z4 : q_V) (st : List q_V) (v : q_H) (G : q_Gr) (Q : q_V → q_H → q_Gr → Prop) : q_wp d 172 54 [z0, z1, z2, z3, z4] st v G Q = q_wp d 172 56 [z0, z1, z2, z3, z4] (.inl 8 :: st) v G Q := (q_w_bipush c_172_54).trans (by simp only [show ((-128 : Int) ≤ 8 ∧ (8 : Int) ≤ 127) = True by decide, true_and])
theorem c_172_56 : q_code 172 56 = (.iload 4, 2, 0, 0, 0, 0, 0) := by decide +kernel
theorem e_172_56 (d : Nat) (a : Int) (z0 z1 z2 z3 : q_V) (st : List q_V) (v : q_H) (G : q_Gr) (Q : q_V → q_H → q_Gr → Prop) : q_wp d 172 56 [z0, z1, z2, z3, .inl a] st v G Q = q_wp d 172 58 [z0, z1, z2, z3, .inl a] (.inl a :: st) v G Q := q_w_iload c_172_56 rfl
theorem c_172_58 : q_code 172 58 = (.imul, 1, 0, 0, 0, 0, 0) := by decide +kernel
theorem e_172_58 (d : Nat) (a b : Int) (z0 z1 z2 z3 z4 : q_V) (st : List q_V) (v : q_H) (G : q_Gr) (Q : q_V → q_H → q_Gr → Prop) : q_wp d 172 58 [z0, z1, z2, z3, z4] (.inl b :: .inl a :: st) v G Q = q_wp d 172 59 [z0, z1, z2, z3, z4] (.inl (a * b) :: st) v G Q := q_w_imul c_172_58
theorem c_172_59 : q_code 172 59 = (.lshr, 1, 0, 0, 0, 0, 0) := by decide +kernel
theorem e_172_59 (d : Nat) (a b : Int) (z0 z1 z2 z3 z4 : q_V) (st : List q_V) (v : q_H) (G : q_Gr) (Q : q_V → q_H → q_Gr → Prop) : q_wp d 172 59 [z0, z1, z2, z3, z4] (.inl b :: .inr (.inl a) :: st) v G Q = q_wp d 172 60 [z0, z1, z2, z3, z4] (.inr (.inl (Int64.ofInt a >>> ((Int32.ofInt b).toInt64 &&& 63)).toInt) :: st) v G Q := q_w_lshr c_172_59
theorem c_172_60 : q_code 172 60 = (.ldc2_w 200, 3, 0, 0, 0, 1176, 255) := by decide +kernel
theorem e_172_60 (d : Nat)  (z0 z1 z2 z3 z4 : q_V) (st : List q_V) (v : q_H) (G : q_Gr) (Q : q_V → q_H → q_Gr → Prop) : q_wp d 172 60 [z0, z1, z2, z3, z4] st v G Q = q_wp d 172 63 [z0, z1, z2, z3, z4] (.inr (.inl 255) :: st) v G Q := q_w_ldc2 c_172_60
theorem c_172_63 : q_code 172 63 = (.land, 1, 0, 0, 0, 0, 0) := by decide +kernel
theorem e_172_63 (d : Nat) (a b : Int) (z0 z1 z2 z3 z4 : q_V) (st : List q_V) (v : q_H) (G : q_Gr) (Q : q_V → q_H → q_Gr → Prop) : q_wp d 172 63 [z0, z1, z2, z3, z4] (.inr (.inl b) :: .inr (.inl a) :: st) v G Q = q_wp d 172 64 [z0, z1, z2, z3, z4] (.inr (.inl (Int64.ofInt a &&& Int64.ofInt b).toInt) :: st) v G Q := q_w_land c_172_63
theorem c_172_64 : q_code 172 64 = (.l2i, 1, 0, 0, 0, 0, 0) := by decide +kernel
theorem e_172_64 (d : Nat) (a : Int) (z0 z1 z2 z3 z4 : q_V) (st : List q_V) (v : q_H) (G : q_Gr) (Q : q_V → q_H → q_Gr → Prop) : q_wp d 172 64 [z0, z1, z2, z3, z4] (.inr (.inl a) :: st) v G Q = q_wp d 172 65 [z0, z1, z2, z3, z4] (.inl a :: st) v G Q := q_w_l2i c_172_64
theorem c_172_65 : q_code 172 65 = (.iastore, 1, 0, 0, 0, 0, 0) := by decide +kernel
theorem e_172_65 (d : Nat) (a : Nat) (i b : Int) (z0 z1 z2 z3 z4 : q_V) (st : List q_V) (v : q_H) (G : q_Gr) (Q : q_V → q_H → q_Gr → Prop) : q_wp d 172 65 [z0, z1, z2, z3, z4] (.inl b :: .inl i :: .inr (.inr (.inl (some a))) :: st) v G Q = (((G.2.1 a).1 = 20 ∧ 32 ≤ a ∧ 0 ≤ i ∧ i < (G.2.1 a).2) ∧ q_wp d 172 66 [z0, z1, z2, z3, z4] st (q_up v a i.toNat b) G Q) := q_w_iast c_172_65
theorem c_172_66 : q_code 172 66 = (.aload_n 0, 1, 0, 0, 0, 0, 0) := by decide +kernel
theorem e_172_66 (d : Nat) (a : Option Nat) (z1 z2 z3 z4 : q_V) (st : List q_V) (v : q_H) (G : q_Gr) (Q : q_V → q_H → q_Gr → Prop) : q_wp d 172 66 [.inr (.inr (.inl a)), z1, z2, z3, z4] st v G Q = q_wp d 172 67 [.inr (.inr (.inl a)), z1, z2, z3, z4] (.inr (.inr (.inl a)) :: st) v G Q := q_w_aload_n c_172_66 rfl
theorem c_172_67 : q_code 172 67 = (.dup, 1, 0, 0, 0, 0, 0) := by decide +kernel
theorem e_172_67 (d : Nat) (a : Option Nat) (z0 z1 z2 z3 z4 : q_V) (st : List q_V) (v : q_H) (G : q_Gr) (Q : q_V → q_H → q_Gr → Prop) : q_wp d 172 67 [z0, z1, z2, z3, z4] (.inr (.inr (.inl a)) :: st) v G Q = q_wp d 172 68 [z0, z1, z2, z3, z4] (.inr (.inr (.inl a)) :: .inr (.inr (.inl a)) :: st) v G Q := q_w_dupP c_172_67
theorem c_172_68 : q_code 172 68 = (.getfield 197, 3, 11, 23, 0, 978, 0) := by decide +kernel
theorem e_172_68 (d : Nat) (a : Nat) (z0 z1 z2 z3 z4 : q_V) (st : List q_V) (v : q_H) (G : q_Gr) (Q : q_V → q_H → q_Gr → Prop) : q_wp d 172 68 [z0, z1, z2, z3, z4] (.inr (.inr (.inl (some a))) :: st) v G Q = (((G.2.1 a).1 = 11) ∧ q_wp d 172 71 [z0, z1, z2, z3, z4] (.inl (v a 23) :: st) v G Q) := q_w_getI c_172_68
theorem c_172_71 : q_code 172 71 = (.iconst 1, 1, 0, 0, 0, 0, 0) := by decide +kernel
theorem e_172_71 (d : Nat)  (z0 z1 z2 z3 z4 : q_V) (st : List q_V) (v : q_H) (G : q_Gr) (Q : q_V → q_H → q_Gr → Prop) : q_wp d 172 71 [z0, z1, z2, z3, z4] st v G Q = q_wp d 172 72 [z0, z1, z2, z3, z4] (.inl 1 :: st) v G Q := q_w_iconst c_172_71
theorem c_172_72 : q_code 172 72 = (.iadd, 1, 0, 0, 0, 0, 0) := by decide +kernel
theorem e_172_72 (d : Nat) (a b : Int) (z0 z1 z2 z3 z4 : q_V) (st : List q_V) (v : q_H) (G : q_Gr) (Q : q_V → q_H → q_Gr → Prop) : q_wp d 172 72 [z0, z1, z2, z3, z4] (.inl b :: .inl a :: st) v G Q = q_wp d 172 73 [z0, z1, z2, z3, z4] (.inl (a + b) :: st) v G Q := q_w_iadd c_172_72
theorem c_172_73 : q_code 172 73 = (.putfield 197, 3, 11, 23, 0, 978, 0) := by decide +kernel
theorem e_172_73 (d : Nat) (a : Nat) (b : Int) (z0 z1 z2 z3 z4 : q_V) (st : List q_V) (v : q_H) (G : q_Gr) (Q : q_V → q_H → q_Gr → Prop) : q_wp d 172 73 [z0, z1, z2, z3, z4] (.inl b :: .inr (.inr (.inl (some a))) :: st) v G Q = (((G.2.1 a).1 = 11) ∧ q_wp d 172 76 [z0, z1, z2, z3, z4] st (q_up v a 23 b) G Q) := q_w_putI c_172_73
theorem c_172_76 : q_code 172 76 = (.iinc 4 (-1), 3, 0, 0, 0, 0, 0) := by decide +kernel
theorem e_172_76 (d : Nat) (a : Int) (z0 z1 z2 z3 : q_V) (st : List q_V) (v : q_H) (G : q_Gr) (Q : q_V → q_H → q_Gr → Prop) : q_wp d 172 76 [z0, z1, z2, z3, .inl a] st v G Q = q_wp d 172 79 [z0, z1, z2, z3, .inl (a + (-1))] st v G Q := q_w_iinc c_172_76 rfl
theorem c_172_79 : q_code 172 79 = (.goto (-39), 3, 0, 0, 0, 0, 0) := by decide +kernel
theorem e_172_79 (d : Nat)  (z0 z1 z2 z3 z4 : q_V) (st : List q_V) (v : q_H) (G : q_Gr) (Q : q_V → q_H → q_Gr → Prop) : q_wp d 172 79 [z0, z1, z2, z3, z4] st v G Q = q_wp d 172 40 [z0, z1, z2, z3, z4] st v G Q := q_w_goto c_172_79 (by decide)
theorem c_172_82 : q_code 172 82 = (.aload_n 0, 1, 0, 0, 0, 0, 0) := by decide +kernel
theorem e_172_82 (d : Nat) (a : Option Nat) (z1 z2 z3 z4 : q_V) (st : List q_V) (v : q_H) (G : q_Gr) (Q : q_V → q_H → q_Gr → Prop) : q_wp d 172 82 [.inr (.inr (.inl a)), z1, z2, z3, z4] st v G Q = q_wp d 172 83 [.inr (.inr (.inl a)), z1, z2, z3, z4] (.inr (.inr (.inl a)) :: st) v G Q := q_w_aload_n c_172_82 rfl
theorem c_172_83 : q_code 172 83 = (.getfield 197, 3, 11, 23, 0, 978, 0) := by decide +kernel
theorem e_172_83 (d : Nat) (a : Nat) (z0 z1 z2 z3 z4 : q_V) (st : List q_V) (v : q_H) (G : q_Gr) (Q : q_V → q_H → q_Gr → Prop) : q_wp d 172 83 [z0, z1, z2, z3, z4] (.inr (.inr (.inl (some a))) :: st) v G Q = (((G.2.1 a).1 = 11) ∧ q_wp d 172 86 [z0, z1, z2, z3, z4] (.inl (v a 23) :: st) v G Q) := q_w_getI c_172_83
theorem c_172_86 : q_code 172 86 = (.ireturn, 1, 0, 0, 0, 0, 0) := by decide +kernel
theorem e_172_86 (d : Nat) (a : Int) (z0 z1 z2 z3 z4 : q_V) (v : q_H) (G : q_Gr) (Q : q_V → q_H → q_Gr → Prop) : q_wp d 172 86 [z0, z1, z2, z3, z4] [.inl a] v G Q = Q (.inl a) v G := q_w_ireturn c_172_86 rfl
theorem e_172 (d : Nat) (a0 : Nat) (a1 : Int) (a2 : Int) (v : q_H) (G : q_Gr) (Q : q_V → q_H → q_Gr → Prop) : q_call (d + 1) 172 [.inr (.inr (.inl (some a0))), .inr (.inl a1), .inl a2] v G Q = ((G.2.1 a0).1 = 11 ∧ q_wp d 172 0 [.inr (.inr (.inl (some a0))), .inr (.inl a1), .inr (.inr (.inr ())), .inl a2, .inr (.inr (.inr ()))] [] v G Q) := by
  rw [q_call_in (by decide) (Nat.le_of_ble_eq_true rfl) rfl]
  exact congrArg (· ∧ _) (propext beq_iff_eq)
/-- all but the heads of loops: [40] -/
def E172 := And.intro @e_172 (And.intro @e_172_0 (And.intro @e_172_1 (And.intro @e_172_2 (And.intro @e_172_5 (And.intro @e_172_6 (And.intro @e_172_7 (And.intro @e_172_8 (And.intro @e_172_11 (And.intro @e_172_14 (And.intro @e_172_17 (And.intro @e_172_19 (And.intro @e_172_20 (And.intro @e_172_21 (And.intro @e_172_24 (And.intro @e_172_25 (And.intro @e_172_26 (And.intro @e_172_29 (And.intro @e_172_32 (And.intro @e_172_34 (And.intro @e_172_35 (And.intro @e_172_36 (And.intro @e_172_37 (And.intro @e_172_38 (And.intro @e_172_42 (And.intro @e_172_45 (And.intro @e_172_46 (And.intro @e_172_49 (And.intro @e_172_50 (And.intro @e_172_53 (And.intro @e_172_54 (And.intro @e_172_56 (And.intro @e_172_58 (And.intro @e_172_59 (And.intro @e_172_60 (And.intro @e_172_63 (And.intro @e_172_64 (And.intro @e_172_65 (And.intro @e_172_66 (And.intro @e_172_67 (And.intro @e_172_68 (And.intro @e_172_71 (And.intro @e_172_72 (And.intro @e_172_73 (And.intro @e_172_76 (And.intro @e_172_79 (And.intro @e_172_82 (And.intro @e_172_83 (@e_172_86))))))))))))))))))))))))))))))))))))))))))))))))
/-! ProvenRowsModel.byteAt(I)I -/
theorem c_173_0 : q_code 173 0 = (.iload_n 1, 1, 0, 0, 0, 0, 0) := by decide +kernel
theorem e_173_0 (d : Nat) (a : Int) (z0 : q_V) (st : List q_V) (v : q_H) (G : q_Gr) (Q : q_V → q_H → q_Gr → Prop) : q_wp d 173 0 [z0, .inl a] st v G Q = q_wp d 173 1 [z0, .inl a] (.inl a :: st) v G Q := q_w_iload_n c_173_0 rfl
theorem c_173_1 : q_code 173 1 = (.aload_n 0, 1, 0, 0, 0, 0, 0) := by decide +kernel
theorem e_173_1 (d : Nat) (a : Option Nat) (z1 : q_V) (st : List q_V) (v : q_H) (G : q_Gr) (Q : q_V → q_H → q_Gr → Prop) : q_wp d 173 1 [.inr (.inr (.inl a)), z1] st v G Q = q_wp d 173 2 [.inr (.inr (.inl a)), z1] (.inr (.inr (.inl a)) :: st) v G Q := q_w_aload_n c_173_1 rfl
theorem c_173_2 : q_code 173 2 = (.getfield 202, 3, 11, 25, 0, 980, 0) := by decide +kernel
theorem e_173_2 (d : Nat) (a : Nat) (z0 z1 : q_V) (st : List q_V) (v : q_H) (G : q_Gr) (Q : q_V → q_H → q_Gr → Prop) : q_wp d 173 2 [z0, z1] (.inr (.inr (.inl (some a))) :: st) v G Q = (((G.2.1 a).1 = 11) ∧ q_wp d 173 5 [z0, z1] (.inl (v a 25) :: st) v G Q) := q_w_getI c_173_2
theorem c_173_5 : q_code 173 5 = (.if_icmp .ge 12, 3, 0, 0, 0, 0, 0) := by decide +kernel
theorem e_173_5 (d : Nat) (a b : Int) (z0 z1 : q_V) (st : List q_V) (v : q_H) (G : q_Gr) (Q : q_V → q_H → q_Gr → Prop) : q_wp d 173 5 [z0, z1] (.inl b :: .inl a :: st) v G Q = ((q_inR a ∧ q_inR b) ∧ if b ≤ a then q_wp d 173 17 [z0, z1] st v G Q else q_wp d 173 8 [z0, z1] st v G Q) := q_w_icmp_ge c_173_5 (by decide)
theorem c_173_8 : q_code 173 8 = (.aload_n 0, 1, 0, 0, 0, 0, 0) := by decide +kernel
theorem e_173_8 (d : Nat) (a : Option Nat) (z1 : q_V) (st : List q_V) (v : q_H) (G : q_Gr) (Q : q_V → q_H → q_Gr → Prop) : q_wp d 173 8 [.inr (.inr (.inl a)), z1] st v G Q = q_wp d 173 9 [.inr (.inr (.inl a)), z1] (.inr (.inr (.inl a)) :: st) v G Q := q_w_aload_n c_173_8 rfl
theorem c_173_9 : q_code 173 9 = (.getfield 58, 3, 11, 22, 1, 977, 0) := by decide +kernel
theorem e_173_9 (d : Nat) (a : Nat) (z0 z1 : q_V) (st : List q_V) (v : q_H) (G : q_Gr) (Q : q_V → q_H → q_Gr → Prop) : q_wp d 173 9 [z0, z1] (.inr (.inr (.inl (some a))) :: st) v G Q = (((G.2.1 a).1 = 11) ∧ q_wp d 173 12 [z0, z1] (.inr (.inr (.inl (G.1 a 22))) :: st) v G Q) := q_w_getP c_173_9
theorem c_173_12 : q_code 173 12 = (.iload_n 1, 1, 0, 0, 0, 0, 0) := by decide +kernel
theorem e_173_12 (d : Nat) (a : Int) (z0 : q_V) (st : List q_V) (v : q_H) (G : q_Gr) (Q : q_V → q_H → q_Gr → Prop) : q_wp d 173 12 [z0, .inl a] st v G Q = q_wp d 173 13 [z0, .inl a] (.inl a :: st) v G Q := q_w_iload_n c_173_12 rfl
theorem c_173_13 : q_code 173 13 = (.iaload, 1, 0, 0, 0, 0, 0) := by decide +kernel
theorem e_173_13 (d : Nat) (a : Nat) (i : Int) (z0 z1 : q_V) (st : List q_V) (v : q_H) (G : q_Gr) (Q : q_V → q_H → q_Gr → Prop) : q_wp d 173 13 [z0, z1] (.inl i :: .inr (.inr (.inl (some a))) :: st) v G Q = (((G.2.1 a).1 = 20 ∧ 0 ≤ i ∧ i < (G.2.1 a).2) ∧ q_wp d 173 14 [z0, z1] (.inl (v a i.toNat) :: st) v G Q) := q_w_iald c_173_13
theorem c_173_14 : q_code 173 14 = (.goto 5, 3, 0, 0, 0, 0, 0) := by decide +kernel
theorem e_173_14 (d : Nat)  (z0 z1 : q_V) (st : List q_V) (v : q_H) (G : q_Gr) (Q : q_V → q_H → q_Gr → Prop) : q_wp d 173 14 [z0, z1] st v G Q = q_wp d 173 19 [z0, z1] st v G Q := q_w_goto c_173_14 (by decide)
theorem c_173_17 : q_code 173 17 = (.ldc 205, 2, 0, 0, 0, 1187, (-1000000)) := by decide +kernel
theorem e_173_17 (d : Nat)  (z0 z1 : q_V) (st : List q_V) (v : q_H) (G : q_Gr) (Q : q_V → q_H → q_Gr → Prop) : q_wp d 173 17 [z0, z1] st v G Q = q_wp d 173 19 [z0, z1] (.inl (-1000000) :: st) v G Q := q_w_ldc c_173_17
theorem c_173_19 : q_code 173 19 = (.ireturn, 1, 0, 0, 0, 0, 0) := by decide +kernel
theorem e_173_19 (d : Nat) (a : Int) (z0 z1 : q_V) (v : q_H) (G : q_Gr) (Q : q_V → q_H → q_Gr → Prop) : q_wp d 173 19 [z0, z1] [.inl a] v G Q = Q (.inl a) v G := q_w_ireturn c_173_19 rfl
theorem e_173 (d : Nat) (a0 : Nat) (a1 : Int) (v : q_H) (G : q_Gr) (Q : q_V → q_H → q_Gr → Prop) : q_call (d + 1) 173 [.inr (.inr (.inl (some a0))), .inl a1] v G Q = ((G.2.1 a0).1 = 11 ∧ q_wp d 173 0 [.inr (.inr (.inl (some a0))), .inl a1] [] v G Q) := by
  rw [q_call_in (by decide) (Nat.le_of_ble_eq_true rfl) rfl]
  exact congrArg (· ∧ _) (propext beq_iff_eq)
/-- all but the heads of loops: [] -/
def E173 := And.intro @e_173 (And.intro @e_173_0 (And.intro @e_173_1 (And.intro @e_173_2 (And.intro @e_173_5 (And.intro @e_173_8 (And.intro @e_173_9 (And.intro @e_173_12 (And.intro @e_173_13 (And.intro @e_173_14 (And.intro @e_173_17 (@e_173_19)))))))))))
/-! ProvenRowsModel.isLetter(I)Z -/
theorem c_174_0 : q_code 174 0 = (.iload_n 0, 1, 0, 0, 0, 0, 0) := by decide +kernel
theorem e_174_0 (d : Nat) (a : Int) (st : List q_V) (v : q_H) (G : q_Gr) (Q : q_V → q_H → q_Gr → Prop) : q_wp d 174 0 [.inl a] st v G Q = q_wp d 174 1 [.inl a] (.inl a :: st) v G Q := q_w_iload_n c_174_0 rfl
theorem c_174_1 : q_code 174 1 = (.bipush 97, 2, 0, 0, 0, 0, 0) := by decide +kernel
theorem e_174_1 (d : Nat)  (z0 : q_V) (st : List q_V) (v : q_H) (G : q_Gr) (Q : q_V → q_H → q_Gr → Prop) : q_wp d 174 1 [z0] st v G Q = q_wp d 174 3 [z0] (.inl 97 :: st) v G Q := (q_w_bipush c_174_1).trans (by simp only [show ((-128 : Int) ≤ 97 ∧ (97 : Int) ≤ 127) = True by decide, true_and])
theorem c_174_3 : q_code 174 3 = (.if_icmp .lt 13, 3, 0, 0, 0, 0, 0) := by decide +kernel
theorem e_174_3 (d : Nat) (a b : Int) (z0 : q_V) (st : List q_V) (v : q_H) (G : q_Gr) (Q : q_V → q_H → q_Gr → Prop) : q_wp d 174 3 [z0] (.inl b :: .inl a :: st) v G Q = ((q_inR a ∧ q_inR b) ∧ if a < b then q_wp d 174 16 [z0] st v G Q else q_wp d 174 6 [z0] st v G Q) := q_w_icmp_lt c_174_3 (by decide)
theorem c_174_6 : q_code 174 6 = (.iload_n 0, 1, 0, 0, 0, 0, 0) := by decide +kernel
theorem e_174_6 (d : Nat) (a : Int) (st : List q_V) (v : q_H) (G : q_Gr) (Q : q_V → q_H → q_Gr → Prop) : q_wp d 174 6 [.inl a] st v G Q = q_wp d 174 7 [.inl a] (.inl a :: st) v G Q := q_w_iload_n c_174_6 rfl
theorem c_174_7 : q_code 174 7 = (.bipush 122, 2, 0, 0, 0, 0, 0) := by decide +kernel
theorem e_174_7 (d : Nat)  (z0 : q_V) (st : List q_V) (v : q_H) (G : q_Gr) (Q : q_V → q_H → q_Gr → Prop) : q_wp d 174 7 [z0] st v G Q = q_wp d 174 9 [z0] (.inl 122 :: st) v G Q := (q_w_bipush c_174_7).trans (by simp only [show ((-128 : Int) ≤ 122 ∧ (122 : Int) ≤ 127) = True by decide, true_and])
theorem c_174_9 : q_code 174 9 = (.if_icmp .gt 7, 3, 0, 0, 0, 0, 0) := by decide +kernel
theorem e_174_9 (d : Nat) (a b : Int) (z0 : q_V) (st : List q_V) (v : q_H) (G : q_Gr) (Q : q_V → q_H → q_Gr → Prop) : q_wp d 174 9 [z0] (.inl b :: .inl a :: st) v G Q = ((q_inR a ∧ q_inR b) ∧ if b < a then q_wp d 174 16 [z0] st v G Q else q_wp d 174 12 [z0] st v G Q) := q_w_icmp_gt c_174_9 (by decide)
theorem c_174_12 : q_code 174 12 = (.iconst 1, 1, 0, 0, 0, 0, 0) := by decide +kernel
theorem e_174_12 (d : Nat)  (z0 : q_V) (st : List q_V) (v : q_H) (G : q_Gr) (Q : q_V → q_H → q_Gr → Prop) : q_wp d 174 12 [z0] st v G Q = q_wp d 174 13 [z0] (.inl 1 :: st) v G Q := q_w_iconst c_174_12
theorem c_174_13 : q_code 174 13 = (.goto 4, 3, 0, 0, 0, 0, 0) := by decide +kernel
theorem e_174_13 (d : Nat)  (z0 : q_V) (st : List q_V) (v : q_H) (G : q_Gr) (Q : q_V → q_H → q_Gr → Prop) : q_wp d 174 13 [z0] st v G Q = q_wp d 174 17 [z0] st v G Q := q_w_goto c_174_13 (by decide)
theorem c_174_16 : q_code 174 16 = (.iconst 0, 1, 0, 0, 0, 0, 0) := by decide +kernel
theorem e_174_16 (d : Nat)  (z0 : q_V) (st : List q_V) (v : q_H) (G : q_Gr) (Q : q_V → q_H → q_Gr → Prop) : q_wp d 174 16 [z0] st v G Q = q_wp d 174 17 [z0] (.inl 0 :: st) v G Q := q_w_iconst c_174_16
theorem c_174_17 : q_code 174 17 = (.ireturn, 1, 0, 0, 0, 0, 0) := by decide +kernel
theorem e_174_17 (d : Nat) (a : Int) (z0 : q_V) (v : q_H) (G : q_Gr) (Q : q_V → q_H → q_Gr → Prop) : q_wp d 174 17 [z0] [.inl a] v G Q = ((0 ≤ a ∧ a ≤ 1) ∧ Q (.inl a) v G) := q_w_zreturn c_174_17 rfl
theorem e_174 (d : Nat) (a0 : Int) (v : q_H) (G : q_Gr) (Q : q_V → q_H → q_Gr → Prop) : q_call (d + 1) 174 [.inl a0] v G Q = q_wp d 174 0 [.inl a0] [] v G Q := by
  rw [q_call_in (by decide) (Nat.le_of_ble_eq_true rfl) rfl]
  show (true = true ∧ _) = _
  simp only [true_and]
  rfl
/-- all but the heads of loops: [] -/
def E174 := And.intro @e_174 (And.intro @e_174_0 (And.intro @e_174_1 (And.intro @e_174_3 (And.intro @e_174_6 (And.intro @e_174_7 (And.intro @e_174_9 (And.intro @e_174_12 (And.intro @e_174_13 (And.intro @e_174_16 (@e_174_17))))))))))
/-! ProvenRowsModel.isFigure(I)Z -/
theorem c_175_0 : q_code 175 0 = (.iload_n 0, 1, 0, 0, 0, 0, 0) := by decide +kernel
theorem e_175_0 (d : Nat) (a : Int) (st : List q_V) (v : q_H) (G : q_Gr) (Q : q_V → q_H → q_Gr → Prop) : q_wp d 175 0 [.inl a] st v G Q = q_wp d 175 1 [.inl a] (.inl a :: st) v G Q := q_w_iload_n c_175_0 rfl
theorem c_175_1 : q_code 175 1 = (.bipush 48, 2, 0, 0, 0, 0, 0) := by decide +kernel
theorem e_175_1 (d : Nat)  (z0 : q_V) (st : List q_V) (v : q_H) (G : q_Gr) (Q : q_V → q_H → q_Gr → Prop) : q_wp d 175 1 [z0] st v G Q = q_wp d 175 3 [z0] (.inl 48 :: st) v G Q := (q_w_bipush c_175_1).trans (by simp only [show ((-128 : Int) ≤ 48 ∧ (48 : Int) ≤ 127) = True by decide, true_and])
theorem c_175_3 : q_code 175 3 = (.if_icmp .lt 13, 3, 0, 0, 0, 0, 0) := by decide +kernel
theorem e_175_3 (d : Nat) (a b : Int) (z0 : q_V) (st : List q_V) (v : q_H) (G : q_Gr) (Q : q_V → q_H → q_Gr → Prop) : q_wp d 175 3 [z0] (.inl b :: .inl a :: st) v G Q = ((q_inR a ∧ q_inR b) ∧ if a < b then q_wp d 175 16 [z0] st v G Q else q_wp d 175 6 [z0] st v G Q) := q_w_icmp_lt c_175_3 (by decide)
theorem c_175_6 : q_code 175 6 = (.iload_n 0, 1, 0, 0, 0, 0, 0) := by decide +kernel
theorem e_175_6 (d : Nat) (a : Int) (st : List q_V) (v : q_H) (G : q_Gr) (Q : q_V → q_H → q_Gr → Prop) : q_wp d 175 6 [.inl a] st v G Q = q_wp d 175 7 [.inl a] (.inl a :: st) v G Q := q_w_iload_n c_175_6 rfl
theorem c_175_7 : q_code 175 7 = (.bipush 57, 2, 0, 0, 0, 0, 0) := by decide +kernel
theorem e_175_7 (d : Nat)  (z0 : q_V) (st : List q_V) (v : q_H) (G : q_Gr) (Q : q_V → q_H → q_Gr → Prop) : q_wp d 175 7 [z0] st v G Q = q_wp d 175 9 [z0] (.inl 57 :: st) v G Q := (q_w_bipush c_175_7).trans (by simp only [show ((-128 : Int) ≤ 57 ∧ (57 : Int) ≤ 127) = True by decide, true_and])
theorem c_175_9 : q_code 175 9 = (.if_icmp .gt 7, 3, 0, 0, 0, 0, 0) := by decide +kernel
theorem e_175_9 (d : Nat) (a b : Int) (z0 : q_V) (st : List q_V) (v : q_H) (G : q_Gr) (Q : q_V → q_H → q_Gr → Prop) : q_wp d 175 9 [z0] (.inl b :: .inl a :: st) v G Q = ((q_inR a ∧ q_inR b) ∧ if b < a then q_wp d 175 16 [z0] st v G Q else q_wp d 175 12 [z0] st v G Q) := q_w_icmp_gt c_175_9 (by decide)
theorem c_175_12 : q_code 175 12 = (.iconst 1, 1, 0, 0, 0, 0, 0) := by decide +kernel
theorem e_175_12 (d : Nat)  (z0 : q_V) (st : List q_V) (v : q_H) (G : q_Gr) (Q : q_V → q_H → q_Gr → Prop) : q_wp d 175 12 [z0] st v G Q = q_wp d 175 13 [z0] (.inl 1 :: st) v G Q := q_w_iconst c_175_12
theorem c_175_13 : q_code 175 13 = (.goto 4, 3, 0, 0, 0, 0, 0) := by decide +kernel
theorem e_175_13 (d : Nat)  (z0 : q_V) (st : List q_V) (v : q_H) (G : q_Gr) (Q : q_V → q_H → q_Gr → Prop) : q_wp d 175 13 [z0] st v G Q = q_wp d 175 17 [z0] st v G Q := q_w_goto c_175_13 (by decide)
theorem c_175_16 : q_code 175 16 = (.iconst 0, 1, 0, 0, 0, 0, 0) := by decide +kernel
theorem e_175_16 (d : Nat)  (z0 : q_V) (st : List q_V) (v : q_H) (G : q_Gr) (Q : q_V → q_H → q_Gr → Prop) : q_wp d 175 16 [z0] st v G Q = q_wp d 175 17 [z0] (.inl 0 :: st) v G Q := q_w_iconst c_175_16
theorem c_175_17 : q_code 175 17 = (.ireturn, 1, 0, 0, 0, 0, 0) := by decide +kernel
theorem e_175_17 (d : Nat) (a : Int) (z0 : q_V) (v : q_H) (G : q_Gr) (Q : q_V → q_H → q_Gr → Prop) : q_wp d 175 17 [z0] [.inl a] v G Q = ((0 ≤ a ∧ a ≤ 1) ∧ Q (.inl a) v G) := q_w_zreturn c_175_17 rfl
theorem e_175 (d : Nat) (a0 : Int) (v : q_H) (G : q_Gr) (Q : q_V → q_H → q_Gr → Prop) : q_call (d + 1) 175 [.inl a0] v G Q = q_wp d 175 0 [.inl a0] [] v G Q := by
  rw [q_call_in (by decide) (Nat.le_of_ble_eq_true rfl) rfl]
  show (true = true ∧ _) = _
  simp only [true_and]
  rfl
/-- all but the heads of loops: [] -/
def E175 := And.intro @e_175 (And.intro @e_175_0 (And.intro @e_175_1 (And.intro @e_175_3 (And.intro @e_175_6 (And.intro @e_175_7 (And.intro @e_175_9 (And.intro @e_175_12 (And.intro @e_175_13 (And.intro @e_175_16 (@e_175_17))))))))))
/-! ProvenRowsModel.step()V -/
theorem c_176_0 : q_code 176 0 = (.aload_n 0, 1, 0, 0, 0, 0, 0) := by decide +kernel
theorem e_176_0 (d : Nat) (a : Option Nat) (z1 : q_V) (st : List q_V) (v : q_H) (G : q_Gr) (Q : q_V → q_H → q_Gr → Prop) : q_wp d 176 0 [.inr (.inr (.inl a)), z1] st v G Q = q_wp d 176 1 [.inr (.inr (.inl a)), z1] (.inr (.inr (.inl a)) :: st) v G Q := q_w_aload_n c_176_0 rfl
theorem c_176_1 : q_code 176 1 = (.aload_n 0, 1, 0, 0, 0, 0, 0) := by decide +kernel
theorem e_176_1 (d : Nat) (a : Option Nat) (z1 : q_V) (st : List q_V) (v : q_H) (G : q_Gr) (Q : q_V → q_H → q_Gr → Prop) : q_wp d 176 1 [.inr (.inr (.inl a)), z1] st v G Q = q_wp d 176 2 [.inr (.inr (.inl a)), z1] (.inr (.inr (.inl a)) :: st) v G Q := q_w_aload_n c_176_1 rfl
theorem c_176_2 : q_code 176 2 = (.getfield 206, 3, 11, 26, 0, 981, 0) := by decide +kernel
theorem e_176_2 (d : Nat) (a : Nat) (z0 z1 : q_V) (st : List q_V) (v : q_H) (G : q_Gr) (Q : q_V → q_H → q_Gr → Prop) : q_wp d 176 2 [z0, z1] (.inr (.inr (.inl (some a))) :: st) v G Q = (((G.2.1 a).1 = 11) ∧ q_wp d 176 5 [z0, z1] (.inl (v a 26) :: st) v G Q) := q_w_getI c_176_2
theorem c_176_5 : q_code 176 5 = (.invokevirtual 209, 3, 173, 2, 0, 1184, 1) := by decide +kernel
theorem e_176_5 (d : Nat) (x0 x1 : q_V) (z0 z1 : q_V) (v : q_H) (G : q_Gr) (Q : q_V → q_H → q_Gr → Prop) : q_wp d 176 5 [z0, z1] [x1, x0] v G Q = q_call d 173 [x0, x1] v G (fun r v G => q_wp d 176 8 [z0, z1] (q_push r []) v G Q) := q_wp_ca (m2 := 173) (k := 2) (as := [x0, x1]) (rest := []) (congrArg q_kind c_176_5) (congrArg (fun w => w.2.2.1) c_176_5) (congrArg (fun w => w.2.2.2.1) c_176_5) rfl (Nat.le_of_ble_eq_true rfl) rfl
theorem c_176_8 : q_code 176 8 = (.bipush 32, 2, 0, 0, 0, 0, 0) := by decide +kernel
theorem e_176_8 (d : Nat)  (z0 z1 : q_V) (st : List q_V) (v : q_H) (G : q_Gr) (Q : q_V → q_H → q_Gr → Prop) : q_wp d 176 8 [z0, z1] st v G Q = q_wp d 176 10 [z0, z1] (.inl 32 :: st) v G Q := (q_w_bipush c_176_8).trans (by simp only [show ((-128 : Int) ≤ 32 ∧ (32 : Int) ≤ 127) = True by decide, true_and])
theorem c_176_10 : q_code 176 10 = (.if_icmp .eq 16, 3, 0, 0, 0, 0, 0) := by decide +kernel
theorem e_176_10 (d : Nat) (a b : Int) (z0 z1 : q_V) (st : List q_V) (v : q_H) (G : q_Gr) (Q : q_V → q_H → q_Gr → Prop) : q_wp d 176 10 [z0, z1] (.inl b :: .inl a :: st) v G Q = ((q_inR a ∧ q_inR b) ∧ if a = b then q_wp d 176 26 [z0, z1] st v G Q else q_wp d 176 13 [z0, z1] st v G Q) := q_w_icmp_eq c_176_10 (by decide)
theorem c_176_13 : q_code 176 13 = (.aload_n 0, 1, 0, 0, 0, 0, 0) := by decide +kernel
theorem e_176_13 (d : Nat) (a : Option Nat) (z1 : q_V) (st : List q_V) (v : q_H) (G : q_Gr) (Q : q_V → q_H → q_Gr → Prop) : q_wp d 176 13 [.inr (.inr (.inl a)), z1] st v G Q = q_wp d 176 14 [.inr (.inr (.inl a)), z1] (.inr (.inr (.inl a)) :: st) v G Q := q_w_aload_n c_176_13 rfl
theorem c_176_14 : q_code 176 14 = (.aload_n 0, 1, 0, 0, 0, 0, 0) := by decide +kernel
theorem e_176_14 (d : Nat) (a : Option Nat) (z1 : q_V) (st : List q_V) (v : q_H) (G : q_Gr) (Q : q_V → q_H → q_Gr → Prop) : q_wp d 176 14 [.inr (.inr (.inl a)), z1] st v G Q = q_wp d 176 15 [.inr (.inr (.inl a)), z1] (.inr (.inr (.inl a)) :: st) v G Q := q_w_aload_n c_176_14 rfl
theorem c_176_15 : q_code 176 15 = (.getfield 206, 3, 11, 26, 0, 981, 0) := by decide +kernel
theorem e_176_15 (d : Nat) (a : Nat) (z0 z1 : q_V) (st : List q_V) (v : q_H) (G : q_Gr) (Q : q_V → q_H → q_Gr → Prop) : q_wp d 176 15 [z0, z1] (.inr (.inr (.inl (some a))) :: st) v G Q = (((G.2.1 a).1 = 11) ∧ q_wp d 176 18 [z0, z1] (.inl (v a 26) :: st) v G Q) := q_w_getI c_176_15
theorem c_176_18 : q_code 176 18 = (.invokevirtual 209, 3, 173, 2, 0, 1184, 1) := by decide +kernel
theorem e_176_18 (d : Nat) (x0 x1 : q_V) (z0 z1 : q_V) (v : q_H) (G : q_Gr) (Q : q_V → q_H → q_Gr → Prop) : q_wp d 176 18 [z0, z1] [x1, x0] v G Q = q_call d 173 [x0, x1] v G (fun r v G => q_wp d 176 21 [z0, z1] (q_push r []) v G Q) := q_wp_ca (m2 := 173) (k := 2) (as := [x0, x1]) (rest := []) (congrArg q_kind c_176_18) (congrArg (fun w => w.2.2.1) c_176_18) (congrArg (fun w => w.2.2.2.1) c_176_18) rfl (Nat.le_of_ble_eq_true rfl) rfl
theorem c_176_21 : q_code 176 21 = (.bipush 10, 2, 0, 0, 0, 0, 0) := by decide +kernel
theorem e_176_21 (d : Nat)  (z0 z1 : q_V) (st : List q_V) (v : q_H) (G : q_Gr) (Q : q_V → q_H → q_Gr → Prop) : q_wp d 176 21 [z0, z1] st v G Q = q_wp d 176 23 [z0, z1] (.inl 10 :: st) v G Q := (q_w_bipush c_176_21).trans (by simp only [show ((-128 : Int) ≤ 10 ∧ (10 : Int) ≤ 127) = True by decide, true_and])
theorem c_176_23 : q_code 176 23 = (.if_icmp .ne 16, 3, 0, 0, 0, 0, 0) := by decide +kernel
theorem e_176_23 (d : Nat) (a b : Int) (z0 z1 : q_V) (st : List q_V) (v : q_H) (G : q_Gr) (Q : q_V → q_H → q_Gr → Prop) : q_wp d 176 23 [z0, z1] (.inl b :: .inl a :: st) v G Q = ((q_inR a ∧ q_inR b) ∧ if ¬ a = b then q_wp d 176 39 [z0, z1] st v G Q else q_wp d 176 26 [z0, z1] st v G Q) := q_w_icmp_ne c_176_23 (by decide)
theorem c_176_26 : q_code 176 26 = (.aload_n 0, 1, 0, 0, 0, 0, 0) := by decide +kernel
theorem e_176_26 (d : Nat) (a : Option Nat) (z1 : q_V) (st : List q_V) (v : q_H) (G : q_Gr) (Q : q_V → q_H → q_Gr → Prop) : q_wp d 176 26 [.inr (.inr (.inl a)), z1] st v G Q = q_wp d 176 27 [.inr (.inr (.inl a)), z1] (.inr (.inr (.inl a)) :: st) v G Q := q_w_aload_n c_176_26 rfl
theorem c_176_27 : q_code 176 27 = (.dup, 1, 0, 0, 0, 0, 0) := by decide +kernel
theorem e_176_27 (d : Nat) (a : Option Nat) (z0 z1 : q_V) (st : List q_V) (v : q_H) (G : q_Gr) (Q : q_V → q_H → q_Gr → Prop) : q_wp d 176 27 [z0, z1] (.inr (.inr (.inl a)) :: st) v G Q = q_wp d 176 28 [z0, z1] (.inr (.inr (.inl a)) :: .inr (.inr (.inl a)) :: st) v G Q := q_w_dupP c_176_27
theorem c_176_28 : q_code 176 28 = (.getfield 206, 3, 11, 26, 0, 981, 0) := by decide +kernel
theorem e_176_28 (d : Nat) (a : Nat) (z0 z1 : q_V) (st : List q_V) (v : q_H) (G : q_Gr) (Q : q_V → q_H → q_Gr → Prop) : q_wp d 176 28 [z0, z1] (.inr (.inr (.inl (some a))) :: st) v G Q = (((G.2.1 a).1 = 11) ∧ q_wp d 176 31 [z0, z1] (.inl (v a 26) :: st) v G Q) := q_w_getI c_176_28
theorem c_176_31 : q_code 176 31 = (.iconst 1, 1, 0, 0, 0, 0, 0) := by decide +kernel
theorem e_176_31 (d : Nat)  (z0 z1 : q_V) (st : List q_V) (v : q_H) (G : q_Gr) (Q : q_V → q_H → q_Gr → Prop) : q_wp d 176 31 [z0, z1] st v G Q = q_wp d 176 32 [z0, z1] (.inl 1 :: st) v G Q := q_w_iconst c_176_31
theorem c_176_32 : q_code 176 32 = (.iadd, 1, 0, 0, 0, 0, 0) := by decide +kernel
theorem e_176_32 (d : Nat) (a b : Int) (z0 z1 : q_V) (st : List q_V) (v : q_H) (G : q_Gr) (Q : q_V → q_H → q_Gr → Prop) : q_wp d 176 32 [z0, z1] (.inl b :: .inl a :: st) v G Q = q_wp d 176 33 [z0, z1] (.inl (a + b) :: st) v G Q := q_w_iadd c_176_32
theorem c_176_33 : q_code 176 33 = (.putfield 206, 3, 11, 26, 0, 981, 0) := by decide +kernel
theorem e_176_33 (d : Nat) (a : Nat) (b : Int) (z0 z1 : q_V) (st : List q_V) (v : q_H) (G : q_Gr) (Q : q_V → q_H → q_Gr → Prop) : q_wp d 176 33 [z0, z1] (.inl b :: .inr (.inr (.inl (some a))) :: st) v G Q = (((G.2.1 a).1 = 11) ∧ q_wp d 176 36 [z0, z1] st (q_up v a 26 b) G Q) := q_w_putI c_176_33
theorem c_176_36 : q_code 176 36 = (.goto (-36), 3, 0, 0, 0, 0, 0) := by decide +kernel
theorem e_176_36 (d : Nat)  (z0 z1 : q_V) (st : List q_V) (v : q_H) (G : q_Gr) (Q : q_V → q_H → q_Gr → Prop) : q_wp d 176 36 [z0, z1] st v G Q = q_wp d 176 0 [z0, z1] st v G Q := q_w_goto c_176_36 (by decide)
theorem c_176_39 : q_code 176 39 = (.aload_n 0, 1, 0, 0, 0, 0, 0) := by decide +kernel
theorem e_176_39 (d : Nat) (a : Option Nat) (z1 : q_V) (st : List q_V) (v : q_H) (G : q_Gr) (Q : q_V → q_H → q_Gr → Prop) : q_wp d 176 39 [.inr (.inr (.inl a)), z1] st v G Q = q_wp d 176 40 [.inr (.inr (.inl a)), z1] (.inr (.inr (.inl a)) :: st) v G Q := q_w_aload_n c_176_39 rfl
theorem c_176_40 : q_code 176 40 = (.aload_n 0, 1, 0, 0, 0, 0, 0) := by decide +kernel
theorem e_176_40 (d : Nat) (a : Option Nat) (z1 : q_V) (st : List q_V) (v : q_H) (G : q_Gr) (Q : q_V → q_H → q_Gr → Prop) : q_wp d 176 40 [.inr (.inr (.inl a)), z1] st v G Q = q_wp d 176 41 [.inr (.inr (.inl a)), z1] (.inr (.inr (.inl a)) :: st) v G Q := q_w_aload_n c_176_40 rfl
theorem c_176_41 : q_code 176 41 = (.getfield 206, 3, 11, 26, 0, 981, 0) := by decide +kernel
theorem e_176_41 (d : Nat) (a : Nat) (z0 z1 : q_V) (st : List q_V) (v : q_H) (G : q_Gr) (Q : q_V → q_H → q_Gr → Prop) : q_wp d 176 41 [z0, z1] (.inr (.inr (.inl (some a))) :: st) v G Q = (((G.2.1 a).1 = 11) ∧ q_wp d 176 44 [z0, z1] (.inl (v a 26) :: st) v G Q) := q_w_getI c_176_41
theorem c_176_44 : q_code 176 44 = (.putfield 212, 3, 11, 28, 0, 983, 0) := by decide +kernel
theorem e_176_44 (d : Nat) (a : Nat) (b : Int) (z0 z1 : q_V) (st : List q_V) (v : q_H) (G : q_Gr) (Q : q_V → q_H → q_Gr → Prop) : q_wp d 176 44 [z0, z1] (.inl b :: .inr (.inr (.inl (some a))) :: st) v G Q = (((G.2.1 a).1 = 11) ∧ q_wp d 176 47 [z0, z1] st (q_up v a 28 b) G Q) := q_w_putI c_176_44
theorem c_176_47 : q_code 176 47 = (.aload_n 0, 1, 0, 0, 0, 0, 0) := by decide +kernel
theorem e_176_47 (d : Nat) (a : Option Nat) (z1 : q_V) (st : List q_V) (v : q_H) (G : q_Gr) (Q : q_V → q_H → q_Gr → Prop) : q_wp d 176 47 [.inr (.inr (.inl a)), z1] st v G Q = q_wp d 176 48 [.inr (.inr (.inl a)), z1] (.inr (.inr (.inl a)) :: st) v G Q := q_w_aload_n c_176_47 rfl
theorem c_176_48 : q_code 176 48 = (.aload_n 0, 1, 0, 0, 0, 0, 0) := by decide +kernel
theorem e_176_48 (d : Nat) (a : Option Nat) (z1 : q_V) (st : List q_V) (v : q_H) (G : q_Gr) (Q : q_V → q_H → q_Gr → Prop) : q_wp d 176 48 [.inr (.inr (.inl a)), z1] st v G Q = q_wp d 176 49 [.inr (.inr (.inl a)), z1] (.inr (.inr (.inl a)) :: st) v G Q := q_w_aload_n c_176_48 rfl
theorem c_176_49 : q_code 176 49 = (.getfield 206, 3, 11, 26, 0, 981, 0) := by decide +kernel
theorem e_176_49 (d : Nat) (a : Nat) (z0 z1 : q_V) (st : List q_V) (v : q_H) (G : q_Gr) (Q : q_V → q_H → q_Gr → Prop) : q_wp d 176 49 [z0, z1] (.inr (.inr (.inl (some a))) :: st) v G Q = (((G.2.1 a).1 = 11) ∧ q_wp d 176 52 [z0, z1] (.inl (v a 26) :: st) v G Q) := q_w_getI c_176_49
theorem c_176_52 : q_code 176 52 = (.invokevirtual 209, 3, 173, 2, 0, 1184, 1) := by decide +kernel
theorem e_176_52 (d : Nat) (x0 x1 : q_V) (z0 z1 : q_V) (v : q_H) (G : q_Gr) (Q : q_V → q_H → q_Gr → Prop) : q_wp d 176 52 [z0, z1] [x1, x0] v G Q = q_call d 173 [x0, x1] v G (fun r v G => q_wp d 176 55 [z0, z1] (q_push r []) v G Q) := q_wp_ca (m2 := 173) (k := 2) (as := [x0, x1]) (rest := []) (congrArg q_kind c_176_52) (congrArg (fun w => w.2.2.1) c_176_52) (congrArg (fun w => w.2.2.2.1) c_176_52) rfl (Nat.le_of_ble_eq_true rfl) rfl
theorem c_176_55 : q_code 176 55 = (.istore_n 1, 1, 0, 0, 0, 0, 0) := by decide +kernel
theorem e_176_55 (d : Nat) (a : Int) (z0 z1 : q_V) (st : List q_V) (v : q_H) (G : q_Gr) (Q : q_V → q_H → q_Gr → Prop) : q_wp d 176 55 [z0, z1] (.inl a :: st) v G Q = q_wp d 176 56 [z0, .inl a] st v G Q := q_w_istore_n c_176_55
theorem c_176_56 : q_code 176 56 = (.iload_n 1, 1, 0, 0, 0, 0, 0) := by decide +kernel
theorem e_176_56 (d : Nat) (a : Int) (z0 : q_V) (st : List q_V) (v : q_H) (G : q_Gr) (Q : q_V → q_H → q_Gr → Prop) : q_wp d 176 56 [z0, .inl a] st v G Q = q_wp d 176 57 [z0, .inl a] (.inl a :: st) v G Q := q_w_iload_n c_176_56 rfl
theorem c_176_57 : q_code 176 57 = (.ldc 205, 2, 0, 0, 0, 1187, (-1000000)) := by decide +kernel
theorem e_176_57 (d : Nat)  (z0 z1 : q_V) (st : List q_V) (v : q_H) (G : q_Gr) (Q : q_V → q_H → q_Gr → Prop) : q_wp d 176 57 [z0, z1] st v G Q = q_wp d 176 59 [z0, z1] (.inl (-1000000) :: st) v G Q := q_w_ldc c_176_57
theorem c_176_59 : q_code 176 59 = (.if_icmp .ne 11, 3, 0, 0, 0, 0, 0) := by decide +kernel
theorem e_176_59 (d : Nat) (a b : Int) (z0 z1 : q_V) (st : List q_V) (v : q_H) (G : q_Gr) (Q : q_V → q_H → q_Gr → Prop) : q_wp d 176 59 [z0, z1] (.inl b :: .inl a :: st) v G Q = ((q_inR a ∧ q_inR b) ∧ if ¬ a = b then q_wp d 176 70 [z0, z1] st v G Q else q_wp d 176 62 [z0, z1] st v G Q) := q_w_icmp_ne c_176_59 (by decide)
theorem c_176_62 : q_code 176 62 = (.aload_n 0, 1, 0, 0, 0, 0, 0) := by decide +kernel
theorem e_176_62 (d : Nat) (a : Option Nat) (z1 : q_V) (st : List q_V) (v : q_H) (G : q_Gr) (Q : q_V → q_H → q_Gr → Prop) : q_wp d 176 62 [.inr (.inr (.inl a)), z1] st v G Q = q_wp d 176 63 [.inr (.inr (.inl a)), z1] (.inr (.inr (.inl a)) :: st) v G Q := q_w_aload_n c_176_62 rfl
theorem c_176_63 : q_code 176 63 = (.iconst 1, 1, 0, 0, 0, 0, 0) := by decide +kernel
theorem e_176_63 (d : Nat)  (z0 z1 : q_V) (st : List q_V) (v : q_H) (G : q_Gr) (Q : q_V → q_H → q_Gr → Prop) : q_wp d 176 63 [z0, z1] st v G Q = q_wp d 176 64 [z0, z1] (.inl 1 :: st) v G Q := q_w_iconst c_176_63
theorem c_176_64 : q_code 176 64 = (.putfield 215, 3, 11, 27, 0, 982, 0) := by decide +kernel
theorem e_176_64 (d : Nat) (a : Nat) (b : Int) (z0 z1 : q_V) (st : List q_V) (v : q_H) (G : q_Gr) (Q : q_V → q_H → q_Gr → Prop) : q_wp d 176 64 [z0, z1] (.inl b :: .inr (.inr (.inl (some a))) :: st) v G Q = (((G.2.1 a).1 = 11) ∧ q_wp d 176 67 [z0, z1] st (q_up v a 27 b) G Q) := q_w_putI c_176_64
theorem c_176_67 : q_code 176 67 = (.goto 129, 3, 0, 0, 0, 0, 0) := by decide +kernel
theorem e_176_67 (d : Nat)  (z0 z1 : q_V) (st : List q_V) (v : q_H) (G : q_Gr) (Q : q_V → q_H → q_Gr → Prop) : q_wp d 176 67 [z0, z1] st v G Q = q_wp d 176 196 [z0, z1] st v G Q := q_w_goto c_176_67 (by decide)
theorem c_176_70 : q_code 176 70 = (.iload_n 1, 1, 0, 0, 0, 0, 0) := by decide +kernel
theorem e_176_70 (d : Nat) (a : Int) (z0 : q_V) (st : List q_V) (v : q_H) (G : q_Gr) (Q : q_V → q_H → q_Gr → Prop) : q_wp d 176 70 [z0, .inl a] st v G Q = q_wp d 176 71 [z0, .inl a] (.inl a :: st) v G Q := q_w_iload_n c_176_70 rfl
theorem c_176_71 : q_code 176 71 = (.invokestatic 218, 3, 174, 1, 0, 1188, 1) := by decide +kernel
theorem e_176_71 (d : Nat) (x0 : q_V) (z0 z1 : q_V) (v : q_H) (G : q_Gr) (Q : q_V → q_H → q_Gr → Prop) : q_wp d 176 71 [z0, z1] [x0] v G Q = q_call d 174 [x0] v G (fun r v G => q_wp d 176 74 [z0, z1] (q_push r []) v G Q) := q_wp_ca (m2 := 174) (k := 1) (as := [x0]) (rest := []) (congrArg q_kind c_176_71) (congrArg (fun w => w.2.2.1) c_176_71) (congrArg (fun w => w.2.2.2.1) c_176_71) rfl (Nat.le_of_ble_eq_true rfl) rfl
theorem c_176_74 : q_code 176 74 = (.ifCond .eq 38, 3, 0, 0, 0, 0, 0) := by decide +kernel
theorem e_176_74 (d : Nat) (a : Int) (z0 z1 : q_V) (st : List q_V) (v : q_H) (G : q_Gr) (Q : q_V → q_H → q_Gr → Prop) : q_wp d 176 74 [z0, z1] (.inl a :: st) v G Q = ((q_inR a) ∧ if a = 0 then q_wp d 176 112 [z0, z1] st v G Q else q_wp d 176 77 [z0, z1] st v G Q) := q_w_if_eq c_176_74 (by decide)
theorem c_176_77 : q_code 176 77 = (.aload_n 0, 1, 0, 0, 0, 0, 0) := by decide +kernel
theorem e_176_77 (d : Nat) (a : Option Nat) (z1 : q_V) (st : List q_V) (v : q_H) (G : q_Gr) (Q : q_V → q_H → q_Gr → Prop) : q_wp d 176 77 [.inr (.inr (.inl a)), z1] st v G Q = q_wp d 176 78 [.inr (.inr (.inl a)), z1] (.inr (.inr (.inl a)) :: st) v G Q := q_w_aload_n c_176_77 rfl
theorem c_176_78 : q_code 176 78 = (.aload_n 0, 1, 0, 0, 0, 0, 0) := by decide +kernel
theorem e_176_78 (d : Nat) (a : Option Nat) (z1 : q_V) (st : List q_V) (v : q_H) (G : q_Gr) (Q : q_V → q_H → q_Gr → Prop) : q_wp d 176 78 [.inr (.inr (.inl a)), z1] st v G Q = q_wp d 176 79 [.inr (.inr (.inl a)), z1] (.inr (.inr (.inl a)) :: st) v G Q := q_w_aload_n c_176_78 rfl
theorem c_176_79 : q_code 176 79 = (.getfield 206, 3, 11, 26, 0, 981, 0) := by decide +kernel
theorem e_176_79 (d : Nat) (a : Nat) (z0 z1 : q_V) (st : List q_V) (v : q_H) (G : q_Gr) (Q : q_V → q_H → q_Gr → Prop) : q_wp d 176 79 [z0, z1] (.inr (.inr (.inl (some a))) :: st) v G Q = (((G.2.1 a).1 = 11) ∧ q_wp d 176 82 [z0, z1] (.inl (v a 26) :: st) v G Q) := q_w_getI c_176_79
theorem c_176_82 : q_code 176 82 = (.invokevirtual 209, 3, 173, 2, 0, 1184, 1) := by decide +kernel
theorem e_176_82 (d : Nat) (x0 x1 : q_V) (z0 z1 : q_V) (v : q_H) (G : q_Gr) (Q : q_V → q_H → q_Gr → Prop) : q_wp d 176 82 [z0, z1] [x1, x0] v G Q = q_call d 173 [x0, x1] v G (fun r v G => q_wp d 176 85 [z0, z1] (q_push r []) v G Q) := q_wp_ca (m2 := 173) (k := 2) (as := [x0, x1]) (rest := []) (congrArg q_kind c_176_82) (congrArg (fun w => w.2.2.1) c_176_82) (congrArg (fun w => w.2.2.2.1) c_176_82) rfl (Nat.le_of_ble_eq_true rfl) rfl
theorem c_176_85 : q_code 176 85 = (.invokestatic 218, 3, 174, 1, 0, 1188, 1) := by decide +kernel
theorem e_176_85 (d : Nat) (x0 : q_V) (z0 z1 : q_V) (v : q_H) (G : q_Gr) (Q : q_V → q_H → q_Gr → Prop) : q_wp d 176 85 [z0, z1] [x0] v G Q = q_call d 174 [x0] v G (fun r v G => q_wp d 176 88 [z0, z1] (q_push r []) v G Q) := q_wp_ca (m2 := 174) (k := 1) (as := [x0]) (rest := []) (congrArg q_kind c_176_85) (congrArg (fun w => w.2.2.1) c_176_85) (congrArg (fun w => w.2.2.2.1) c_176_85) rfl (Nat.le_of_ble_eq_true rfl) rfl
theorem c_176_88 : q_code 176 88 = (.ifCond .eq 16, 3, 0, 0, 0, 0, 0) := by decide +kernel
theorem e_176_88 (d : Nat) (a : Int) (z0 z1 : q_V) (st : List q_V) (v : q_H) (G : q_Gr) (Q : q_V → q_H → q_Gr → Prop) : q_wp d 176 88 [z0, z1] (.inl a :: st) v G Q = ((q_inR a) ∧ if a = 0 then q_wp d 176 104 [z0, z1] st v G Q else q_wp d 176 91 [z0, z1] st v G Q) := q_w_if_eq c_176_88 (by decide)
theorem c_176_91 : q_code 176 91 = (.aload_n 0, 1, 0, 0, 0, 0, 0) := by decide +kernel
theorem e_176_91 (d : Nat) (a : Option Nat) (z1 : q_V) (st : List q_V) (v : q_H) (G : q_Gr) (Q : q_V → q_H → q_Gr → Prop) : q_wp d 176 91 [.inr (.inr (.inl a)), z1] st v G Q = q_wp d 176 92 [.inr (.inr (.inl a)), z1] (.inr (.inr (.inl a)) :: st) v G Q := q_w_aload_n c_176_91 rfl
theorem c_176_92 : q_code 176 92 = (.dup, 1, 0, 0, 0, 0, 0) := by decide +kernel
theorem e_176_92 (d : Nat) (a : Option Nat) (z0 z1 : q_V) (st : List q_V) (v : q_H) (G : q_Gr) (Q : q_V → q_H → q_Gr → Prop) : q_wp d 176 92 [z0, z1] (.inr (.inr (.inl a)) :: st) v G Q = q_wp d 176 93 [z0, z1] (.inr (.inr (.inl a)) :: .inr (.inr (.inl a)) :: st) v G Q := q_w_dupP c_176_92
theorem c_176_93 : q_code 176 93 = (.getfield 206, 3, 11, 26, 0, 981, 0) := by decide +kernel
theorem e_176_93 (d : Nat) (a : Nat) (z0 z1 : q_V) (st : List q_V) (v : q_H) (G : q_Gr) (Q : q_V → q_H → q_Gr → Prop) : q_wp d 176 93 [z0, z1] (.inr (.inr (.inl (some a))) :: st) v G Q = (((G.2.1 a).1 = 11) ∧ q_wp d 176 96 [z0, z1] (.inl (v a 26) :: st) v G Q) := q_w_getI c_176_93
theorem c_176_96 : q_code 176 96 = (.iconst 1, 1, 0, 0, 0, 0, 0) := by decide +kernel
theorem e_176_96 (d : Nat)  (z0 z1 : q_V) (st : List q_V) (v : q_H) (G : q_Gr) (Q : q_V → q_H → q_Gr → Prop) : q_wp d 176 96 [z0, z1] st v G Q = q_wp d 176 97 [z0, z1] (.inl 1 :: st) v G Q := q_w_iconst c_176_96
theorem c_176_97 : q_code 176 97 = (.iadd, 1, 0, 0, 0, 0, 0) := by decide +kernel
theorem e_176_97 (d : Nat) (a b : Int) (z0 z1 : q_V) (st : List q_V) (v : q_H) (G : q_Gr) (Q : q_V → q_H → q_Gr → Prop) : q_wp d 176 97 [z0, z1] (.inl b :: .inl a :: st) v G Q = q_wp d 176 98 [z0, z1] (.inl (a + b) :: st) v G Q := q_w_iadd c_176_97
theorem c_176_98 : q_code 176 98 = (.putfield 206, 3, 11, 26, 0, 981, 0) := by decide +kernel
theorem e_176_98 (d : Nat) (a : Nat) (b : Int) (z0 z1 : q_V) (st : List q_V) (v : q_H) (G : q_Gr) (Q : q_V → q_H → q_Gr → Prop) : q_wp d 176 98 [z0, z1] (.inl b :: .inr (.inr (.inl (some a))) :: st) v G Q = (((G.2.1 a).1 = 11) ∧ q_wp d 176 101 [z0, z1] st (q_up v a 26 b) G Q) := q_w_putI c_176_98
theorem c_176_101 : q_code 176 101 = (.goto (-24), 3, 0, 0, 0, 0, 0) := by decide +kernel
theorem e_176_101 (d : Nat)  (z0 z1 : q_V) (st : List q_V) (v : q_H) (G : q_Gr) (Q : q_V → q_H → q_Gr → Prop) : q_wp d 176 101 [z0, z1] st v G Q = q_wp d 176 77 [z0, z1] st v G Q := q_w_goto c_176_101 (by decide)
theorem c_176_104 : q_code 176 104 = (.aload_n 0, 1, 0, 0, 0, 0, 0) := by decide +kernel
theorem e_176_104 (d : Nat) (a : Option Nat) (z1 : q_V) (st : List q_V) (v : q_H) (G : q_Gr) (Q : q_V → q_H → q_Gr → Prop) : q_wp d 176 104 [.inr (.inr (.inl a)), z1] st v G Q = q_wp d 176 105 [.inr (.inr (.inl a)), z1] (.inr (.inr (.inl a)) :: st) v G Q := q_w_aload_n c_176_104 rfl
theorem c_176_105 : q_code 176 105 = (.iconst 2, 1, 0, 0, 0, 0, 0) := by decide +kernel
theorem e_176_105 (d : Nat)  (z0 z1 : q_V) (st : List q_V) (v : q_H) (G : q_Gr) (Q : q_V → q_H → q_Gr → Prop) : q_wp d 176 105 [z0, z1] st v G Q = q_wp d 176 106 [z0, z1] (.inl 2 :: st) v G Q := q_w_iconst c_176_105
theorem c_176_106 : q_code 176 106 = (.putfield 215, 3, 11, 27, 0, 982, 0) := by decide +kernel
theorem e_176_106 (d : Nat) (a : Nat) (b : Int) (z0 z1 : q_V) (st : List q_V) (v : q_H) (G : q_Gr) (Q : q_V → q_H → q_Gr → Prop) : q_wp d 176 106 [z0, z1] (.inl b :: .inr (.inr (.inl (some a))) :: st) v G Q = (((G.2.1 a).1 = 11) ∧ q_wp d 176 109 [z0, z1] st (q_up v a 27 b) G Q) := q_w_putI c_176_106
theorem c_176_109 : q_code 176 109 = (.goto 87, 3, 0, 0, 0, 0, 0) := by decide +kernel
theorem e_176_109 (d : Nat)  (z0 z1 : q_V) (st : List q_V) (v : q_H) (G : q_Gr) (Q : q_V → q_H → q_Gr → Prop) : q_wp d 176 109 [z0, z1] st v G Q = q_wp d 176 196 [z0, z1] st v G Q := q_w_goto c_176_109 (by decide)
theorem c_176_112 : q_code 176 112 = (.iload_n 1, 1, 0, 0, 0, 0, 0) := by decide +kernel
theorem e_176_112 (d : Nat) (a : Int) (z0 : q_V) (st : List q_V) (v : q_H) (G : q_Gr) (Q : q_V → q_H → q_Gr → Prop) : q_wp d 176 112 [z0, .inl a] st v G Q = q_wp d 176 113 [z0, .inl a] (.inl a :: st) v G Q := q_w_iload_n c_176_112 rfl
theorem c_176_113 : q_code 176 113 = (.invokestatic 221, 3, 175, 1, 0, 1191, 1) := by decide +kernel
theorem e_176_113 (d : Nat) (x0 : q_V) (z0 z1 : q_V) (v : q_H) (G : q_Gr) (Q : q_V → q_H → q_Gr → Prop) : q_wp d 176 113 [z0, z1] [x0] v G Q = q_call d 175 [x0] v G (fun r v G => q_wp d 176 116 [z0, z1] (q_push r []) v G Q) := q_wp_ca (m2 := 175) (k := 1) (as := [x0]) (rest := []) (congrArg q_kind c_176_113) (congrArg (fun w => w.2.2.1) c_176_113) (congrArg (fun w => w.2.2.2.1) c_176_113) rfl (Nat.le_of_ble_eq_true rfl) rfl
theorem c_176_116 : q_code 176 116 = (.ifCond .eq 55, 3, 0, 0, 0, 0, 0) := by decide +kernel
theorem e_176_116 (d : Nat) (a : Int) (z0 z1 : q_V) (st : List q_V) (v : q_H) (G : q_Gr) (Q : q_V → q_H → q_Gr → Prop) : q_wp d 176 116 [z0, z1] (.inl a :: st) v G Q = ((q_inR a) ∧ if a = 0 then q_wp d 176 171 [z0, z1] st v G Q else q_wp d 176 119 [z0, z1] st v G Q) := q_w_if_eq c_176_116 (by decide)
theorem c_176_119 : q_code 176 119 = (.aload_n 0, 1, 0, 0, 0, 0, 0) := by decide +kernel
theorem e_176_119 (d : Nat) (a : Option Nat) (z1 : q_V) (st : List q_V) (v : q_H) (G : q_Gr) (Q : q_V → q_H → q_Gr → Prop) : q_wp d 176 119 [.inr (.inr (.inl a)), z1] st v G Q = q_wp d 176 120 [.inr (.inr (.inl a)), z1] (.inr (.inr (.inl a)) :: st) v G Q := q_w_aload_n c_176_119 rfl
theorem c_176_120 : q_code 176 120 = (.aload_n 0, 1, 0, 0, 0, 0, 0) := by decide +kernel
theorem e_176_120 (d : Nat) (a : Option Nat) (z1 : q_V) (st : List q_V) (v : q_H) (G : q_Gr) (Q : q_V → q_H → q_Gr → Prop) : q_wp d 176 120 [.inr (.inr (.inl a)), z1] st v G Q = q_wp d 176 121 [.inr (.inr (.inl a)), z1] (.inr (.inr (.inl a)) :: st) v G Q := q_w_aload_n c_176_120 rfl
theorem c_176_121 : q_code 176 121 = (.getfield 206, 3, 11, 26, 0, 981, 0) := by decide +kernel
theorem e_176_121 (d : Nat) (a : Nat) (z0 z1 : q_V) (st : List q_V) (v : q_H) (G : q_Gr) (Q : q_V → q_H → q_Gr → Prop) : q_wp d 176 121 [z0, z1] (.inr (.inr (.inl (some a))) :: st) v G Q = (((G.2.1 a).1 = 11) ∧ q_wp d 176 124 [z0, z1] (.inl (v a 26) :: st) v G Q) := q_w_getI c_176_121
theorem c_176_124 : q_code 176 124 = (.invokevirtual 209, 3, 173, 2, 0, 1184, 1) := by decide +kernel
theorem e_176_124 (d : Nat) (x0 x1 : q_V) (z0 z1 : q_V) (v : q_H) (G : q_Gr) (Q : q_V → q_H → q_Gr → Prop) : q_wp d 176 124 [z0, z1] [x1, x0] v G Q = q_call d 173 [x0, x1] v G (fun r v G => q_wp d 176 127 [z0, z1] (q_push r []) v G Q) := q_wp_ca (m2 := 173) (k := 2) (as := [x0, x1]) (rest := []) (congrArg q_kind c_176_124) (congrArg (fun w => w.2.2.1) c_176_124) (congrArg (fun w => w.2.2.2.1) c_176_124) rfl (Nat.le_of_ble_eq_true rfl) rfl
theorem c_176_127 : q_code 176 127 = (.invokestatic 221, 3, 175, 1, 0, 1191, 1) := by decide +kernel
theorem e_176_127 (d : Nat) (x0 : q_V) (z0 z1 : q_V) (v : q_H) (G : q_Gr) (Q : q_V → q_H → q_Gr → Prop) : q_wp d 176 127 [z0, z1] [x0] v G Q = q_call d 175 [x0] v G (fun r v G => q_wp d 176 130 [z0, z1] (q_push r []) v G Q) := q_wp_ca (m2 := 175) (k := 1) (as := [x0]) (rest := []) (congrArg q_kind c_176_127) (congrArg (fun w => w.2.2.1) c_176_127) (congrArg (fun w => w.2.2.2.1) c_176_127) rfl (Nat.le_of_ble_eq_true rfl) rfl
theorem c_176_130 : q_code 176 130 = (.ifCond .eq 16, 3, 0, 0, 0, 0, 0) := by decide +kernel
theorem e_176_130 (d : Nat) (a : Int) (z0 z1 : q_V) (st : List q_V) (v : q_H) (G : q_Gr) (Q : q_V → q_H → q_Gr → Prop) : q_wp d 176 130 [z0, z1] (.inl a :: st) v G Q = ((q_inR a) ∧ if a = 0 then q_wp d 176 146 [z0, z1] st v G Q else q_wp d 176 133 [z0, z1] st v G Q) := q_w_if_eq c_176_130 (by decide)
theorem c_176_133 : q_code 176 133 = (.aload_n 0, 1, 0, 0, 0, 0, 0) := by decide +kernel
theorem e_176_133 (d : Nat) (a : Option Nat) (z1 : q_V) (st : List q_V) (v : q_H) (G : q_Gr) (Q : q_V → q_H → q_Gr → Prop) : q_wp d 176 133 [.inr (.inr (.inl a)), z1] st v G Q = q_wp d 176 134 [.inr (.inr (.inl a)), z1] (.inr (.inr (.inl a)) :: st) v G Q := q_w_aload_n c_176_133 rfl
theorem c_176_134 : q_code 176 134 = (.dup, 1, 0, 0, 0, 0, 0) := by decide +kernel
theorem e_176_134 (d : Nat) (a : Option Nat) (z0 z1 : q_V) (st : List q_V) (v : q_H) (G : q_Gr) (Q : q_V → q_H → q_Gr → Prop) : q_wp d 176 134 [z0, z1] (.inr (.inr (.inl a)) :: st) v G Q = q_wp d 176 135 [z0, z1] (.inr (.inr (.inl a)) :: .inr (.inr (.inl a)) :: st) v G Q := q_w_dupP c_176_134
theorem c_176_135 : q_code 176 135 = (.getfield 206, 3, 11, 26, 0, 981, 0) := by decide +kernel
theorem e_176_135 (d : Nat) (a : Nat) (z0 z1 : q_V) (st : List q_V) (v : q_H) (G : q_Gr) (Q : q_V → q_H → q_Gr → Prop) : q_wp d 176 135 [z0, z1] (.inr (.inr (.inl (some a))) :: st) v G Q = (((G.2.1 a).1 = 11) ∧ q_wp d 176 138 [z0, z1] (.inl (v a 26) :: st) v G Q) := q_w_getI c_176_135
theorem c_176_138 : q_code 176 138 = (.iconst 1, 1, 0, 0, 0, 0, 0) := by decide +kernel
theorem e_176_138 (d : Nat)  (z0 z1 : q_V) (st : List q_V) (v : q_H) (G : q_Gr) (Q : q_V → q_H → q_Gr → Prop) : q_wp d 176 138 [z0, z1] st v G Q = q_wp d 176 139 [z0, z1] (.inl 1 :: st) v G Q := q_w_iconst c_176_138
theorem c_176_139 : q_code 176 139 = (.iadd, 1, 0, 0, 0, 0, 0) := by decide +kernel
theorem e_176_139 (d : Nat) (a b : Int) (z0 z1 : q_V) (st : List q_V) (v : q_H) (G : q_Gr) (Q : q_V → q_H → q_Gr → Prop) : q_wp d 176 139 [z0, z1] (.inl b :: .inl a :: st) v G Q = q_wp d 176 140 [z0, z1] (.inl (a + b) :: st) v G Q := q_w_iadd c_176_139
theorem c_176_140 : q_code 176 140 = (.putfield 206, 3, 11, 26, 0, 981, 0) := by decide +kernel
theorem e_176_140 (d : Nat) (a : Nat) (b : Int) (z0 z1 : q_V) (st : List q_V) (v : q_H) (G : q_Gr) (Q : q_V → q_H → q_Gr → Prop) : q_wp d 176 140 [z0, z1] (.inl b :: .inr (.inr (.inl (some a))) :: st) v G Q = (((G.2.1 a).1 = 11) ∧ q_wp d 176 143 [z0, z1] st (q_up v a 26 b) G Q) := q_w_putI c_176_140
theorem c_176_143 : q_code 176 143 = (.goto (-24), 3, 0, 0, 0, 0, 0) := by decide +kernel
theorem e_176_143 (d : Nat)  (z0 z1 : q_V) (st : List q_V) (v : q_H) (G : q_Gr) (Q : q_V → q_H → q_Gr → Prop) : q_wp d 176 143 [z0, z1] st v G Q = q_wp d 176 119 [z0, z1] st v G Q := q_w_goto c_176_143 (by decide)
theorem c_176_146 : q_code 176 146 = (.aload_n 0, 1, 0, 0, 0, 0, 0) := by decide +kernel
theorem e_176_146 (d : Nat) (a : Option Nat) (z1 : q_V) (st : List q_V) (v : q_H) (G : q_Gr) (Q : q_V → q_H → q_Gr → Prop) : q_wp d 176 146 [.inr (.inr (.inl a)), z1] st v G Q = q_wp d 176 147 [.inr (.inr (.inl a)), z1] (.inr (.inr (.inl a)) :: st) v G Q := q_w_aload_n c_176_146 rfl
theorem c_176_147 : q_code 176 147 = (.aload_n 0, 1, 0, 0, 0, 0, 0) := by decide +kernel
theorem e_176_147 (d : Nat) (a : Option Nat) (z1 : q_V) (st : List q_V) (v : q_H) (G : q_Gr) (Q : q_V → q_H → q_Gr → Prop) : q_wp d 176 147 [.inr (.inr (.inl a)), z1] st v G Q = q_wp d 176 148 [.inr (.inr (.inl a)), z1] (.inr (.inr (.inl a)) :: st) v G Q := q_w_aload_n c_176_147 rfl
theorem c_176_148 : q_code 176 148 = (.getfield 206, 3, 11, 26, 0, 981, 0) := by decide +kernel
theorem e_176_148 (d : Nat) (a : Nat) (z0 z1 : q_V) (st : List q_V) (v : q_H) (G : q_Gr) (Q : q_V → q_H → q_Gr → Prop) : q_wp d 176 148 [z0, z1] (.inr (.inr (.inl (some a))) :: st) v G Q = (((G.2.1 a).1 = 11) ∧ q_wp d 176 151 [z0, z1] (.inl (v a 26) :: st) v G Q) := q_w_getI c_176_148
theorem c_176_151 : q_code 176 151 = (.aload_n 0, 1, 0, 0, 0, 0, 0) := by decide +kernel
theorem e_176_151 (d : Nat) (a : Option Nat) (z1 : q_V) (st : List q_V) (v : q_H) (G : q_Gr) (Q : q_V → q_H → q_Gr → Prop) : q_wp d 176 151 [.inr (.inr (.inl a)), z1] st v G Q = q_wp d 176 152 [.inr (.inr (.inl a)), z1] (.inr (.inr (.inl a)) :: st) v G Q := q_w_aload_n c_176_151 rfl
theorem c_176_152 : q_code 176 152 = (.getfield 212, 3, 11, 28, 0, 983, 0) := by decide +kernel
theorem e_176_152 (d : Nat) (a : Nat) (z0 z1 : q_V) (st : List q_V) (v : q_H) (G : q_Gr) (Q : q_V → q_H → q_Gr → Prop) : q_wp d 176 152 [z0, z1] (.inr (.inr (.inl (some a))) :: st) v G Q = (((G.2.1 a).1 = 11) ∧ q_wp d 176 155 [z0, z1] (.inl (v a 28) :: st) v G Q) := q_w_getI c_176_152
theorem c_176_155 : q_code 176 155 = (.isub, 1, 0, 0, 0, 0, 0) := by decide +kernel
theorem e_176_155 (d : Nat) (a b : Int) (z0 z1 : q_V) (st : List q_V) (v : q_H) (G : q_Gr) (Q : q_V → q_H → q_Gr → Prop) : q_wp d 176 155 [z0, z1] (.inl b :: .inl a :: st) v G Q = q_wp d 176 156 [z0, z1] (.inl (a - b) :: st) v G Q := q_w_isub c_176_155
theorem c_176_156 : q_code 176 156 = (.iconst 3, 1, 0, 0, 0, 0, 0) := by decide +kernel
theorem e_176_156 (d : Nat)  (z0 z1 : q_V) (st : List q_V) (v : q_H) (G : q_Gr) (Q : q_V → q_H → q_Gr → Prop) : q_wp d 176 156 [z0, z1] st v G Q = q_wp d 176 157 [z0, z1] (.inl 3 :: st) v G Q := q_w_iconst c_176_156
theorem c_176_157 : q_code 176 157 = (.if_icmp .le 7, 3, 0, 0, 0, 0, 0) := by decide +kernel
theorem e_176_157 (d : Nat) (a b : Int) (z0 z1 : q_V) (st : List q_V) (v : q_H) (G : q_Gr) (Q : q_V → q_H → q_Gr → Prop) : q_wp d 176 157 [z0, z1] (.inl b :: .inl a :: st) v G Q = ((q_inR a ∧ q_inR b) ∧ if a ≤ b then q_wp d 176 164 [z0, z1] st v G Q else q_wp d 176 160 [z0, z1] st v G Q) := q_w_icmp_le c_176_157 (by decide)
theorem c_176_160 : q_code 176 160 = (.iconst 0, 1, 0, 0, 0, 0, 0) := by decide +kernel
theorem e_176_160 (d : Nat)  (z0 z1 : q_V) (st : List q_V) (v : q_H) (G : q_Gr) (Q : q_V → q_H → q_Gr → Prop) : q_wp d 176 160 [z0, z1] st v G Q = q_wp d 176 161 [z0, z1] (.inl 0 :: st) v G Q := q_w_iconst c_176_160
theorem c_176_161 : q_code 176 161 = (.goto 4, 3, 0, 0, 0, 0, 0) := by decide +kernel
theorem e_176_161 (d : Nat)  (z0 z1 : q_V) (st : List q_V) (v : q_H) (G : q_Gr) (Q : q_V → q_H → q_Gr → Prop) : q_wp d 176 161 [z0, z1] st v G Q = q_wp d 176 165 [z0, z1] st v G Q := q_w_goto c_176_161 (by decide)
theorem c_176_164 : q_code 176 164 = (.iconst 3, 1, 0, 0, 0, 0, 0) := by decide +kernel
theorem e_176_164 (d : Nat)  (z0 z1 : q_V) (st : List q_V) (v : q_H) (G : q_Gr) (Q : q_V → q_H → q_Gr → Prop) : q_wp d 176 164 [z0, z1] st v G Q = q_wp d 176 165 [z0, z1] (.inl 3 :: st) v G Q := q_w_iconst c_176_164
theorem c_176_165 : q_code 176 165 = (.putfield 215, 3, 11, 27, 0, 982, 0) := by decide +kernel
theorem e_176_165 (d : Nat) (a : Nat) (b : Int) (z0 z1 : q_V) (st : List q_V) (v : q_H) (G : q_Gr) (Q : q_V → q_H → q_Gr → Prop) : q_wp d 176 165 [z0, z1] (.inl b :: .inr (.inr (.inl (some a))) :: st) v G Q = (((G.2.1 a).1 = 11) ∧ q_wp d 176 168 [z0, z1] st (q_up v a 27 b) G Q) := q_w_putI c_176_165
theorem c_176_168 : q_code 176 168 = (.goto 28, 3, 0, 0, 0, 0, 0) := by decide +kernel
theorem e_176_168 (d : Nat)  (z0 z1 : q_V) (st : List q_V) (v : q_H) (G : q_Gr) (Q : q_V → q_H → q_Gr → Prop) : q_wp d 176 168 [z0, z1] st v G Q = q_wp d 176 196 [z0, z1] st v G Q := q_w_goto c_176_168 (by decide)
theorem c_176_171 : q_code 176 171 = (.aload_n 0, 1, 0, 0, 0, 0, 0) := by decide +kernel
theorem e_176_171 (d : Nat) (a : Option Nat) (z1 : q_V) (st : List q_V) (v : q_H) (G : q_Gr) (Q : q_V → q_H → q_Gr → Prop) : q_wp d 176 171 [.inr (.inr (.inl a)), z1] st v G Q = q_wp d 176 172 [.inr (.inr (.inl a)), z1] (.inr (.inr (.inl a)) :: st) v G Q := q_w_aload_n c_176_171 rfl
theorem c_176_172 : q_code 176 172 = (.dup, 1, 0, 0, 0, 0, 0) := by decide +kernel
theorem e_176_172 (d : Nat) (a : Option Nat) (z0 z1 : q_V) (st : List q_V) (v : q_H) (G : q_Gr) (Q : q_V → q_H → q_Gr → Prop) : q_wp d 176 172 [z0, z1] (.inr (.inr (.inl a)) :: st) v G Q = q_wp d 176 173 [z0, z1] (.inr (.inr (.inl a)) :: .inr (.inr (.inl a)) :: st) v G Q := q_w_dupP c_176_172
theorem c_176_173 : q_code 176 173 = (.getfield 206, 3, 11, 26, 0, 981, 0) := by decide +kernel
theorem e_176_173 (d : Nat) (a : Nat) (z0 z1 : q_V) (st : List q_V) (v : q_H) (G : q_Gr) (Q : q_V → q_H → q_Gr → Prop) : q_wp d 176 173 [z0, z1] (.inr (.inr (.inl (some a))) :: st) v G Q = (((G.2.1 a).1 = 11) ∧ q_wp d 176 176 [z0, z1] (.inl (v a 26) :: st) v G Q) := q_w_getI c_176_173
theorem c_176_176 : q_code 176 176 = (.iconst 1, 1, 0, 0, 0, 0, 0) := by decide +kernel
theorem e_176_176 (d : Nat)  (z0 z1 : q_V) (st : List q_V) (v : q_H) (G : q_Gr) (Q : q_V → q_H → q_Gr → Prop) : q_wp d 176 176 [z0, z1] st v G Q = q_wp d 176 177 [z0, z1] (.inl 1 :: st) v G Q := q_w_iconst c_176_176
theorem c_176_177 : q_code 176 177 = (.iadd, 1, 0, 0, 0, 0, 0) := by decide +kernel
theorem e_176_177 (d : Nat) (a b : Int) (z0 z1 : q_V) (st : List q_V) (v : q_H) (G : q_Gr) (Q : q_V → q_H → q_Gr → Prop) : q_wp d 176 177 [z0, z1] (.inl b :: .inl a :: st) v G Q = q_wp d 176 178 [z0, z1] (.inl (a + b) :: st) v G Q := q_w_iadd c_176_177
theorem c_176_178 : q_code 176 178 = (.putfield 206, 3, 11, 26, 0, 981, 0) := by decide +kernel
theorem e_176_178 (d : Nat) (a : Nat) (b : Int) (z0 z1 : q_V) (st : List q_V) (v : q_H) (G : q_Gr) (Q : q_V → q_H → q_Gr → Prop) : q_wp d 176 178 [z0, z1] (.inl b :: .inr (.inr (.inl (some a))) :: st) v G Q = (((G.2.1 a).1 = 11) ∧ q_wp d 176 181 [z0, z1] st (q_up v a 26 b) G Q) := q_w_putI c_176_178
theorem c_176_181 : q_code 176 181 = (.aload_n 0, 1, 0, 0, 0, 0, 0) := by decide +kernel
theorem e_176_181 (d : Nat) (a : Option Nat) (z1 : q_V) (st : List q_V) (v : q_H) (G : q_Gr) (Q : q_V → q_H → q_Gr → Prop) : q_wp d 176 181 [.inr (.inr (.inl a)), z1] st v G Q = q_wp d 176 182 [.inr (.inr (.inl a)), z1] (.inr (.inr (.inl a)) :: st) v G Q := q_w_aload_n c_176_181 rfl
theorem c_176_182 : q_code 176 182 = (.iload_n 1, 1, 0, 0, 0, 0, 0) := by decide +kernel
theorem e_176_182 (d : Nat) (a : Int) (z0 : q_V) (st : List q_V) (v : q_H) (G : q_Gr) (Q : q_V → q_H → q_Gr → Prop) : q_wp d 176 182 [z0, .inl a] st v G Q = q_wp d 176 183 [z0, .inl a] (.inl a :: st) v G Q := q_w_iload_n c_176_182 rfl
theorem c_176_183 : q_code 176 183 = (.bipush 59, 2, 0, 0, 0, 0, 0) := by decide +kernel
theorem e_176_183 (d : Nat)  (z0 z1 : q_V) (st : List q_V) (v : q_H) (G : q_Gr) (Q : q_V → q_H → q_Gr → Prop) : q_wp d 176 183 [z0, z1] st v G Q = q_wp d 176 185 [z0, z1] (.inl 59 :: st) v G Q := (q_w_bipush c_176_183).trans (by simp only [show ((-128 : Int) ≤ 59 ∧ (59 : Int) ≤ 127) = True by decide, true_and])
theorem c_176_185 : q_code 176 185 = (.if_icmp .ne 7, 3, 0, 0, 0, 0, 0) := by decide +kernel
theorem e_176_185 (d : Nat) (a b : Int) (z0 z1 : q_V) (st : List q_V) (v : q_H) (G : q_Gr) (Q : q_V → q_H → q_Gr → Prop) : q_wp d 176 185 [z0, z1] (.inl b :: .inl a :: st) v G Q = ((q_inR a ∧ q_inR b) ∧ if ¬ a = b then q_wp d 176 192 [z0, z1] st v G Q else q_wp d 176 188 [z0, z1] st v G Q) := q_w_icmp_ne c_176_185 (by decide)
theorem c_176_188 : q_code 176 188 = (.iconst 4, 1, 0, 0, 0, 0, 0) := by decide +kernel
theorem e_176_188 (d : Nat)  (z0 z1 : q_V) (st : List q_V) (v : q_H) (G : q_Gr) (Q : q_V → q_H → q_Gr → Prop) : q_wp d 176 188 [z0, z1] st v G Q = q_wp d 176 189 [z0, z1] (.inl 4 :: st) v G Q := q_w_iconst c_176_188
theorem c_176_189 : q_code 176 189 = (.goto 4, 3, 0, 0, 0, 0, 0) := by decide +kernel
theorem e_176_189 (d : Nat)  (z0 z1 : q_V) (st : List q_V) (v : q_H) (G : q_Gr) (Q : q_V → q_H → q_Gr → Prop) : q_wp d 176 189 [z0, z1] st v G Q = q_wp d 176 193 [z0, z1] st v G Q := q_w_goto c_176_189 (by decide)
theorem c_176_192 : q_code 176 192 = (.iconst 0, 1, 0, 0, 0, 0, 0) := by decide +kernel
theorem e_176_192 (d : Nat)  (z0 z1 : q_V) (st : List q_V) (v : q_H) (G : q_Gr) (Q : q_V → q_H → q_Gr → Prop) : q_wp d 176 192 [z0, z1] st v G Q = q_wp d 176 193 [z0, z1] (.inl 0 :: st) v G Q := q_w_iconst c_176_192
theorem c_176_193 : q_code 176 193 = (.putfield 215, 3, 11, 27, 0, 982, 0) := by decide +kernel
theorem e_176_193 (d : Nat) (a : Nat) (b : Int) (z0 z1 : q_V) (st : List q_V) (v : q_H) (G : q_Gr) (Q : q_V → q_H → q_Gr → Prop) : q_wp d 176 193 [z0, z1] (.inl b :: .inr (.inr (.inl (some a))) :: st) v G Q = (((G.2.1 a).1 = 11) ∧ q_wp d 176 196 [z0, z1] st (q_up v a 27 b) G Q) := q_w_putI c_176_193
theorem c_176_196 : q_code 176 196 = (.aload_n 0, 1, 0, 0, 0, 0, 0) := by decide +kernel
theorem e_176_196 (d : Nat) (a : Option Nat) (z1 : q_V) (st : List q_V) (v : q_H) (G : q_Gr) (Q : q_V → q_H → q_Gr → Prop) : q_wp d 176 196 [.inr (.inr (.inl a)), z1] st v G Q = q_wp d 176 197 [.inr (.inr (.inl a)), z1] (.inr (.inr (.inl a)) :: st) v G Q := q_w_aload_n c_176_196 rfl
theorem c_176_197 : q_code 176 197 = (.aload_n 0, 1, 0, 0, 0, 0, 0) := by decide +kernel
theorem e_176_197 (d : Nat) (a : Option Nat) (z1 : q_V) (st : List q_V) (v : q_H) (G : q_Gr) (Q : q_V → q_H → q_Gr → Prop) : q_wp d 176 197 [.inr (.inr (.inl a)), z1] st v G Q = q_wp d 176 198 [.inr (.inr (.inl a)), z1] (.inr (.inr (.inl a)) :: st) v G Q := q_w_aload_n c_176_197 rfl
theorem c_176_198 : q_code 176 198 = (.getfield 206, 3, 11, 26, 0, 981, 0) := by decide +kernel
theorem e_176_198 (d : Nat) (a : Nat) (z0 z1 : q_V) (st : List q_V) (v : q_H) (G : q_Gr) (Q : q_V → q_H → q_Gr → Prop) : q_wp d 176 198 [z0, z1] (.inr (.inr (.inl (some a))) :: st) v G Q = (((G.2.1 a).1 = 11) ∧ q_wp d 176 201 [z0, z1] (.inl (v a 26) :: st) v G Q) := q_w_getI c_176_198
theorem c_176_201 : q_code 176 201 = (.putfield 224, 3, 11, 29, 0, 984, 0) := by decide +kernel
theorem e_176_201 (d : Nat) (a : Nat) (b : Int) (z0 z1 : q_V) (st : List q_V) (v : q_H) (G : q_Gr) (Q : q_V → q_H → q_Gr → Prop) : q_wp d 176 201 [z0, z1] (.inl b :: .inr (.inr (.inl (some a))) :: st) v G Q = (((G.2.1 a).1 = 11) ∧ q_wp d 176 204 [z0, z1] st (q_up v a 29 b) G Q) := q_w_putI c_176_201
theorem c_176_204 : q_code 176 204 = (.return_, 1, 0, 0, 0, 0, 0) := by decide +kernel
theorem e_176_204 (d : Nat)  (z0 z1 : q_V) (v : q_H) (G : q_Gr) (Q : q_V → q_H → q_Gr → Prop) : q_wp d 176 204 [z0, z1] [] v G Q = Q (.inr (.inr (.inr ()))) v G := q_w_return c_176_204 rfl
theorem e_176 (d : Nat) (a0 : Nat) (v : q_H) (G : q_Gr) (Q : q_V → q_H → q_Gr → Prop) : q_call (d + 1) 176 [.inr (.inr (.inl (some a0)))] v G Q = ((G.2.1 a0).1 = 11 ∧ q_wp d 176 0 [.inr (.inr (.inl (some a0))), .inr (.inr (.inr ()))] [] v G Q) := by
  rw [q_call_in (by decide) (Nat.le_of_ble_eq_true rfl) rfl]
  exact congrArg (· ∧ _) (propext beq_iff_eq)
/-- all but the heads of loops: [0, 77, 119] -/
def E176 := And.intro @e_176 (And.intro @e_176_1 (And.intro @e_176_2 (And.intro @e_176_5 (And.intro @e_176_8 (And.intro @e_176_10 (And.intro @e_176_13 (And.intro @e_176_14 (And.intro @e_176_15 (And.intro @e_176_18 (And.intro @e_176_21 (And.intro @e_176_23 (And.intro @e_176_26 (And.intro @e_176_27 (And.intro @e_176_28 (And.intro @e_176_31 (And.intro @e_176_32 (And.intro @e_176_33 (And.intro @e_176_36 (And.intro @e_176_39 (And.intro @e_176_40 (And.intro @e_176_41 (And.intro @e_176_44 (And.intro @e_176_47 (And.intro @e_176_48 (And.intro @e_176_49 (And.intro @e_176_52 (And.intro @e_176_55 (And.intro @e_176_56 (And.intro @e_176_57 (And.intro @e_176_59 (And.intro @e_176_62 (And.intro @e_176_63 (And.intro @e_176_64 (And.intro @e_176_67 (And.intro @e_176_70 (And.intro @e_176_71 (And.intro @e_176_74 (And.intro @e_176_78 (And.intro @e_176_79 (And.intro @e_176_82 (And.intro @e_176_85 (And.intro @e_176_88 (And.intro @e_176_91 (And.intro @e_176_92 (And.intro @e_176_93 (And.intro @e_176_96 (And.intro @e_176_97 (And.intro @e_176_98 (And.intro @e_176_101 (And.intro @e_176_104 (And.intro @e_176_105 (And.intro @e_176_106 (And.intro @e_176_109 (And.intro @e_176_112 (And.intro @e_176_113 (And.intro @e_176_116 (And.intro @e_176_120 (And.intro @e_176_121 (And.intro @e_176_124 (And.intro @e_176_127 (And.intro @e_176_130 (And.intro @e_176_133 (And.intro @e_176_134 (And.intro @e_176_135 (And.intro @e_176_138 (And.intro @e_176_139 (And.intro @e_176_140 (And.intro @e_176_143 (And.intro @e_176_146 (And.intro @e_176_147 (And.intro @e_176_148 (And.intro @e_176_151 (And.intro @e_176_152 (And.intro @e_176_155 (And.intro @e_176_156 (And.intro @e_176_157 (And.intro @e_176_160 (And.intro @e_176_161 (And.intro @e_176_164 (And.intro @e_176_165 (And.intro @e_176_168 (And.intro @e_176_171 (And.intro @e_176_172 (And.intro @e_176_173 (And.intro @e_176_176 (And.intro @e_176_177 (And.intro @e_176_178 (And.intro @e_176_181 (And.intro @e_176_182 (And.intro @e_176_183 (And.intro @e_176_185 (And.intro @e_176_188 (And.intro @e_176_189 (And.intro @e_176_192 (And.intro @e_176_193 (And.intro @e_176_196 (And.intro @e_176_197 (And.intro @e_176_198 (And.intro @e_176_201 (@e_176_204))))))))))))))))))))))))))))))))))))))))))))))))))))))))))))))))))))))))))))))))))))))))))))))))))))
/-! ProvenRowsModel.bad(I)V -/
theorem c_177_0 : q_code 177 0 = (.aload_n 0, 1, 0, 0, 0, 0, 0) := by decide +kernel
theorem e_177_0 (d : Nat) (a : Option Nat) (z1 : q_V) (st : List q_V) (v : q_H) (G : q_Gr) (Q : q_V → q_H → q_Gr → Prop) : q_wp d 177 0 [.inr (.inr (.inl a)), z1] st v G Q = q_wp d 177 1 [.inr (.inr (.inl a)), z1] (.inr (.inr (.inl a)) :: st) v G Q := q_w_aload_n c_177_0 rfl
theorem c_177_1 : q_code 177 1 = (.getfield 227, 3, 11, 30, 0, 985, 0) := by decide +kernel
theorem e_177_1 (d : Nat) (a : Nat) (z0 z1 : q_V) (st : List q_V) (v : q_H) (G : q_Gr) (Q : q_V → q_H → q_Gr → Prop) : q_wp d 177 1 [z0, z1] (.inr (.inr (.inl (some a))) :: st) v G Q = (((G.2.1 a).1 = 11) ∧ q_wp d 177 4 [z0, z1] (.inl (v a 30) :: st) v G Q) := q_w_getI c_177_1
theorem c_177_4 : q_code 177 4 = (.ifCond .ne 16, 3, 0, 0, 0, 0, 0) := by decide +kernel
theorem e_177_4 (d : Nat) (a : Int) (z0 z1 : q_V) (st : List q_V) (v : q_H) (G : q_Gr) (Q : q_V → q_H → q_Gr → Prop) : q_wp d 177 4 [z0, z1] (.inl a :: st) v G Q = ((q_inR a) ∧ if ¬ a = 0 then q_wp d 177 20 [z0, z1] st v G Q else q_wp d 177 7 [z0, z1] st v G Q) := q_w_if_ne c_177_4 (by decide)
theorem c_177_7 : q_code 177 7 = (.aload_n 0, 1, 0, 0, 0, 0, 0) := by decide +kernel
theorem e_177_7 (d : Nat) (a : Option Nat) (z1 : q_V) (st : List q_V) (v : q_H) (G : q_Gr) (Q : q_V → q_H → q_Gr → Prop) : q_wp d 177 7 [.inr (.inr (.inl a)), z1] st v G Q = q_wp d 177 8 [.inr (.inr (.inl a)), z1] (.inr (.inr (.inl a)) :: st) v G Q := q_w_aload_n c_177_7 rfl
theorem c_177_8 : q_code 177 8 = (.iload_n 1, 1, 0, 0, 0, 0, 0) := by decide +kernel
theorem e_177_8 (d : Nat) (a : Int) (z0 : q_V) (st : List q_V) (v : q_H) (G : q_Gr) (Q : q_V → q_H → q_Gr → Prop) : q_wp d 177 8 [z0, .inl a] st v G Q = q_wp d 177 9 [z0, .inl a] (.inl a :: st) v G Q := q_w_iload_n c_177_8 rfl
theorem c_177_9 : q_code 177 9 = (.putfield 227, 3, 11, 30, 0, 985, 0) := by decide +kernel
theorem e_177_9 (d : Nat) (a : Nat) (b : Int) (z0 z1 : q_V) (st : List q_V) (v : q_H) (G : q_Gr) (Q : q_V → q_H → q_Gr → Prop) : q_wp d 177 9 [z0, z1] (.inl b :: .inr (.inr (.inl (some a))) :: st) v G Q = (((G.2.1 a).1 = 11) ∧ q_wp d 177 12 [z0, z1] st (q_up v a 30 b) G Q) := q_w_putI c_177_9
theorem c_177_12 : q_code 177 12 = (.aload_n 0, 1, 0, 0, 0, 0, 0) := by decide +kernel
theorem e_177_12 (d : Nat) (a : Option Nat) (z1 : q_V) (st : List q_V) (v : q_H) (G : q_Gr) (Q : q_V → q_H → q_Gr → Prop) : q_wp d 177 12 [.inr (.inr (.inl a)), z1] st v G Q = q_wp d 177 13 [.inr (.inr (.inl a)), z1] (.inr (.inr (.inl a)) :: st) v G Q := q_w_aload_n c_177_12 rfl
theorem c_177_13 : q_code 177 13 = (.aload_n 0, 1, 0, 0, 0, 0, 0) := by decide +kernel
theorem e_177_13 (d : Nat) (a : Option Nat) (z1 : q_V) (st : List q_V) (v : q_H) (G : q_Gr) (Q : q_V → q_H → q_Gr → Prop) : q_wp d 177 13 [.inr (.inr (.inl a)), z1] st v G Q = q_wp d 177 14 [.inr (.inr (.inl a)), z1] (.inr (.inr (.inl a)) :: st) v G Q := q_w_aload_n c_177_13 rfl
theorem c_177_14 : q_code 177 14 = (.getfield 212, 3, 11, 28, 0, 983, 0) := by decide +kernel
theorem e_177_14 (d : Nat) (a : Nat) (z0 z1 : q_V) (st : List q_V) (v : q_H) (G : q_Gr) (Q : q_V → q_H → q_Gr → Prop) : q_wp d 177 14 [z0, z1] (.inr (.inr (.inl (some a))) :: st) v G Q = (((G.2.1 a).1 = 11) ∧ q_wp d 177 17 [z0, z1] (.inl (v a 28) :: st) v G Q) := q_w_getI c_177_14
theorem c_177_17 : q_code 177 17 = (.putfield 230, 3, 11, 31, 0, 986, 0) := by decide +kernel
theorem e_177_17 (d : Nat) (a : Nat) (b : Int) (z0 z1 : q_V) (st : List q_V) (v : q_H) (G : q_Gr) (Q : q_V → q_H → q_Gr → Prop) : q_wp d 177 17 [z0, z1] (.inl b :: .inr (.inr (.inl (some a))) :: st) v G Q = (((G.2.1 a).1 = 11) ∧ q_wp d 177 20 [z0, z1] st (q_up v a 31 b) G Q) := q_w_putI c_177_17
theorem c_177_20 : q_code 177 20 = (.return_, 1, 0, 0, 0, 0, 0) := by decide +kernel
theorem e_177_20 (d : Nat)  (z0 z1 : q_V) (v : q_H) (G : q_Gr) (Q : q_V → q_H → q_Gr → Prop) : q_wp d 177 20 [z0, z1] [] v G Q = Q (.inr (.inr (.inr ()))) v G := q_w_return c_177_20 rfl
theorem e_177 (d : Nat) (a0 : Nat) (a1 : Int) (v : q_H) (G : q_Gr) (Q : q_V → q_H → q_Gr → Prop) : q_call (d + 1) 177 [.inr (.inr (.inl (some a0))), .inl a1] v G Q = ((G.2.1 a0).1 = 11 ∧ q_wp d 177 0 [.inr (.inr (.inl (some a0))), .inl a1] [] v G Q) := by
  rw [q_call_in (by decide) (Nat.le_of_ble_eq_true rfl) rfl]
  exact congrArg (· ∧ _) (propext beq_iff_eq)
/-- all but the heads of loops: [] -/
def E177 := And.intro @e_177 (And.intro @e_177_0 (And.intro @e_177_1 (And.intro @e_177_4 (And.intro @e_177_7 (And.intro @e_177_8 (And.intro @e_177_9 (And.intro @e_177_12 (And.intro @e_177_13 (And.intro @e_177_14 (And.intro @e_177_17 (@e_177_20)))))))))))
/-! ProvenRowsModel.must(Z)V -/
theorem c_178_0 : q_code 178 0 = (.iload_n 1, 1, 0, 0, 0, 0, 0) := by decide +kernel
theorem e_178_0 (d : Nat) (a : Int) (z0 : q_V) (st : List q_V) (v : q_H) (G : q_Gr) (Q : q_V → q_H → q_Gr → Prop) : q_wp d 178 0 [z0, .inl a] st v G Q = q_wp d 178 1 [z0, .inl a] (.inl a :: st) v G Q := q_w_iload_n c_178_0 rfl
theorem c_178_1 : q_code 178 1 = (.ifCond .ne 8, 3, 0, 0, 0, 0, 0) := by decide +kernel
theorem e_178_1 (d : Nat) (a : Int) (z0 z1 : q_V) (st : List q_V) (v : q_H) (G : q_Gr) (Q : q_V → q_H → q_Gr → Prop) : q_wp d 178 1 [z0, z1] (.inl a :: st) v G Q = ((q_inR a) ∧ if ¬ a = 0 then q_wp d 178 9 [z0, z1] st v G Q else q_wp d 178 4 [z0, z1] st v G Q) := q_w_if_ne c_178_1 (by decide)
theorem c_178_4 : q_code 178 4 = (.aload_n 0, 1, 0, 0, 0, 0, 0) := by decide +kernel
theorem e_178_4 (d : Nat) (a : Option Nat) (z1 : q_V) (st : List q_V) (v : q_H) (G : q_Gr) (Q : q_V → q_H → q_Gr → Prop) : q_wp d 178 4 [.inr (.inr (.inl a)), z1] st v G Q = q_wp d 178 5 [.inr (.inr (.inl a)), z1] (.inr (.inr (.inl a)) :: st) v G Q := q_w_aload_n c_178_4 rfl
theorem c_178_5 : q_code 178 5 = (.iconst 1, 1, 0, 0, 0, 0, 0) := by decide +kernel
theorem e_178_5 (d : Nat)  (z0 z1 : q_V) (st : List q_V) (v : q_H) (G : q_Gr) (Q : q_V → q_H → q_Gr → Prop) : q_wp d 178 5 [z0, z1] st v G Q = q_wp d 178 6 [z0, z1] (.inl 1 :: st) v G Q := q_w_iconst c_178_5
theorem c_178_6 : q_code 178 6 = (.invokevirtual 233, 3, 177, 2, 0, 1210, 0) := by decide +kernel
theorem e_178_6 (d : Nat) (x0 x1 : q_V) (z0 z1 : q_V) (v : q_H) (G : q_Gr) (Q : q_V → q_H → q_Gr → Prop) : q_wp d 178 6 [z0, z1] [x1, x0] v G Q = q_call d 177 [x0, x1] v G (fun r v G => q_wp d 178 9 [z0, z1] (q_push r []) v G Q) := q_wp_ca (m2 := 177) (k := 2) (as := [x0, x1]) (rest := []) (congrArg q_kind c_178_6) (congrArg (fun w => w.2.2.1) c_178_6) (congrArg (fun w => w.2.2.2.1) c_178_6) rfl (Nat.le_of_ble_eq_true rfl) rfl
theorem c_178_9 : q_code 178 9 = (.aload_n 0, 1, 0, 0, 0, 0, 0) := by decide +kernel
theorem e_178_9 (d : Nat) (a : Option Nat) (z1 : q_V) (st : List q_V) (v : q_H) (G : q_Gr) (Q : q_V → q_H → q_Gr → Prop) : q_wp d 178 9 [.inr (.inr (.inl a)), z1] st v G Q = q_wp d 178 10 [.inr (.inr (.inl a)), z1] (.inr (.inr (.inl a)) :: st) v G Q := q_w_aload_n c_178_9 rfl
theorem c_178_10 : q_code 178 10 = (.getfield 227, 3, 11, 30, 0, 985, 0) := by decide +kernel
theorem e_178_10 (d : Nat) (a : Nat) (z0 z1 : q_V) (st : List q_V) (v : q_H) (G : q_Gr) (Q : q_V → q_H → q_Gr → Prop) : q_wp d 178 10 [z0, z1] (.inr (.inr (.inl (some a))) :: st) v G Q = (((G.2.1 a).1 = 11) ∧ q_wp d 178 13 [z0, z1] (.inl (v a 30) :: st) v G Q) := q_w_getI c_178_10
theorem c_178_13 : q_code 178 13 = (.ifCond .ne 7, 3, 0, 0, 0, 0, 0) := by decide +kernel
theorem e_178_13 (d : Nat) (a : Int) (z0 z1 : q_V) (st : List q_V) (v : q_H) (G : q_Gr) (Q : q_V → q_H → q_Gr → Prop) : q_wp d 178 13 [z0, z1] (.inl a :: st) v G Q = ((q_inR a) ∧ if ¬ a = 0 then q_wp d 178 20 [z0, z1] st v G Q else q_wp d 178 16 [z0, z1] st v G Q) := q_w_if_ne c_178_13 (by decide)
theorem c_178_16 : q_code 178 16 = (.aload_n 0, 1, 0, 0, 0, 0, 0) := by decide +kernel
theorem e_178_16 (d : Nat) (a : Option Nat) (z1 : q_V) (st : List q_V) (v : q_H) (G : q_Gr) (Q : q_V → q_H → q_Gr → Prop) : q_wp d 178 16 [.inr (.inr (.inl a)), z1] st v G Q = q_wp d 178 17 [.inr (.inr (.inl a)), z1] (.inr (.inr (.inl a)) :: st) v G Q := q_w_aload_n c_178_16 rfl
theorem c_178_17 : q_code 178 17 = (.invokevirtual 236, 3, 176, 1, 0, 1181, 0) := by decide +kernel
theorem e_178_17 (d : Nat) (x0 : q_V) (z0 z1 : q_V) (v : q_H) (G : q_Gr) (Q : q_V → q_H → q_Gr → Prop) : q_wp d 178 17 [z0, z1] [x0] v G Q = q_call d 176 [x0] v G (fun r v G => q_wp d 178 20 [z0, z1] (q_push r []) v G Q) := q_wp_ca (m2 := 176) (k := 1) (as := [x0]) (rest := []) (congrArg q_kind c_178_17) (congrArg (fun w => w.2.2.1) c_178_17) (congrArg (fun w => w.2.2.2.1) c_178_17) rfl (Nat.le_of_ble_eq_true rfl) rfl
theorem c_178_20 : q_code 178 20 = (.return_, 1, 0, 0, 0, 0, 0) := by decide +kernel
theorem e_178_20 (d : Nat)  (z0 z1 : q_V) (v : q_H) (G : q_Gr) (Q : q_V → q_H → q_Gr → Prop) : q_wp d 178 20 [z0, z1] [] v G Q = Q (.inr (.inr (.inr ()))) v G := q_w_return c_178_20 rfl
theorem e_178 (d : Nat) (a0 : Nat) (a1 : Int) (v : q_H) (G : q_Gr) (Q : q_V → q_H → q_Gr → Prop) : q_call (d + 1) 178 [.inr (.inr (.inl (some a0))), .inl a1] v G Q = ((G.2.1 a0).1 = 11 ∧ q_wp d 178 0 [.inr (.inr (.inl (some a0))), .inl a1] [] v G Q) := by
  rw [q_call_in (by decide) (Nat.le_of_ble_eq_true rfl) rfl]
  exact congrArg (· ∧ _) (propext beq_iff_eq)
/-- all but the heads of loops: [] -/
def E178 := And.intro @e_178 (And.intro @e_178_0 (And.intro @e_178_1 (And.intro @e_178_4 (And.intro @e_178_5 (And.intro @e_178_6 (And.intro @e_178_9 (And.intro @e_178_10 (And.intro @e_178_13 (And.intro @e_178_16 (And.intro @e_178_17 (@e_178_20)))))))))))
/-! ProvenRowsModel.word()J -/
theorem c_179_0 : q_code 179 0 = (.lconst 0, 1, 0, 0, 0, 0, 0) := by decide +kernel
theorem e_179_0 (d : Nat)  (z0 z1 z2 z3 : q_V) (st : List q_V) (v : q_H) (G : q_Gr) (Q : q_V → q_H → q_Gr → Prop) : q_wp d 179 0 [z0, z1, z2, z3] st v G Q = q_wp d 179 1 [z0, z1, z2, z3] (.inr (.inl 0) :: st) v G Q := q_w_lconst c_179_0
theorem c_179_1 : q_code 179 1 = (.lstore_n 1, 1, 0, 0, 0, 0, 0) := by decide +kernel
theorem e_179_1 (d : Nat) (a : Int) (z0 z1 z2 z3 : q_V) (st : List q_V) (v : q_H) (G : q_Gr) (Q : q_V → q_H → q_Gr → Prop) : q_wp d 179 1 [z0, z1, z2, z3] (.inr (.inl a) :: st) v G Q = q_wp d 179 2 [z0, .inr (.inl a), .inr (.inr (.inr ())), z3] st v G Q := q_w_lstore_n c_179_1
theorem c_179_2 : q_code 179 2 = (.aload_n 0, 1, 0, 0, 0, 0, 0) := by decide +kernel
theorem e_179_2 (d : Nat) (a : Option Nat) (z1 z2 z3 : q_V) (st : List q_V) (v : q_H) (G : q_Gr) (Q : q_V → q_H → q_Gr → Prop) : q_wp d 179 2 [.inr (.inr (.inl a)), z1, z2, z3] st v G Q = q_wp d 179 3 [.inr (.inr (.inl a)), z1, z2, z3] (.inr (.inr (.inl a)) :: st) v G Q := q_w_aload_n c_179_2 rfl
theorem c_179_3 : q_code 179 3 = (.getfield 212, 3, 11, 28, 0, 983, 0) := by decide +kernel
theorem e_179_3 (d : Nat) (a : Nat) (z0 z1 z2 z3 : q_V) (st : List q_V) (v : q_H) (G : q_Gr) (Q : q_V → q_H → q_Gr → Prop) : q_wp d 179 3 [z0, z1, z2, z3] (.inr (.inr (.inl (some a))) :: st) v G Q = (((G.2.1 a).1 = 11) ∧ q_wp d 179 6 [z0, z1, z2, z3] (.inl (v a 28) :: st) v G Q) := q_w_getI c_179_3
theorem c_179_6 : q_code 179 6 = (.istore_n 3, 1, 0, 0, 0, 0, 0) := by decide +kernel
theorem e_179_6 (d : Nat) (a : Int) (z0 z1 z2 z3 : q_V) (st : List q_V) (v : q_H) (G : q_Gr) (Q : q_V → q_H → q_Gr → Prop) : q_wp d 179 6 [z0, z1, z2, z3] (.inl a :: st) v G Q = q_wp d 179 7 [z0, z1, z2, .inl a] st v G Q := q_w_istore_n c_179_6
theorem c_179_7 : q_code 179 7 = (.iload_n 3, 1, 0, 0, 0, 0, 0) := by decide +kernel
theorem e_179_7 (d : Nat) (a : Int) (z0 z1 z2 : q_V) (st : List q_V) (v : q_H) (G : q_Gr) (Q : q_V → q_H → q_Gr → Prop) : q_wp d 179 7 [z0, z1, z2, .inl a] st v G Q = q_wp d 179 8 [z0, z1, z2, .inl a] (.inl a :: st) v G Q := q_w_iload_n c_179_7 rfl
theorem c_179_8 : q_code 179 8 = (.aload_n 0, 1, 0, 0, 0, 0, 0) := by decide +kernel
theorem e_179_8 (d : Nat) (a : Option Nat) (z1 z2 z3 : q_V) (st : List q_V) (v : q_H) (G : q_Gr) (Q : q_V → q_H → q_Gr → Prop) : q_wp d 179 8 [.inr (.inr (.inl a)), z1, z2, z3] st v G Q = q_wp d 179 9 [.inr (.inr (.inl a)), z1, z2, z3] (.inr (.inr (.inl a)) :: st) v G Q := q_w_aload_n c_179_8 rfl
theorem c_179_9 : q_code 179 9 = (.getfield 224, 3, 11, 29, 0, 984, 0) := by decide +kernel
theorem e_179_9 (d : Nat) (a : Nat) (z0 z1 z2 z3 : q_V) (st : List q_V) (v : q_H) (G : q_Gr) (Q : q_V → q_H → q_Gr → Prop) : q_wp d 179 9 [z0, z1, z2, z3] (.inr (.inr (.inl (some a))) :: st) v G Q = (((G.2.1 a).1 = 11) ∧ q_wp d 179 12 [z0, z1, z2, z3] (.inl (v a 29) :: st) v G Q) := q_w_getI c_179_9
theorem c_179_12 : q_code 179 12 = (.if_icmp .ge 44, 3, 0, 0, 0, 0, 0) := by decide +kernel
theorem e_179_12 (d : Nat) (a b : Int) (z0 z1 z2 z3 : q_V) (st : List q_V) (v : q_H) (G : q_Gr) (Q : q_V → q_H → q_Gr → Prop) : q_wp d 179 12 [z0, z1, z2, z3] (.inl b :: .inl a :: st) v G Q = ((q_inR a ∧ q_inR b) ∧ if b ≤ a then q_wp d 179 56 [z0, z1, z2, z3] st v G Q else q_wp d 179 15 [z0, z1, z2, z3] st v G Q) := q_w_icmp_ge c_179_12 (by decide)
theorem c_179_15 : q_code 179 15 = (.aload_n 0, 1, 0, 0, 0, 0, 0) := by decide +kernel
theorem e_179_15 (d : Nat) (a : Option Nat) (z1 z2 z3 : q_V) (st : List q_V) (v : q_H) (G : q_Gr) (Q : q_V → q_H → q_Gr → Prop) : q_wp d 179 15 [.inr (.inr (.inl a)), z1, z2, z3] st v G Q = q_wp d 179 16 [.inr (.inr (.inl a)), z1, z2, z3] (.inr (.inr (.inl a)) :: st) v G Q := q_w_aload_n c_179_15 rfl
theorem c_179_16 : q_code 179 16 = (.getfield 215, 3, 11, 27, 0, 982, 0) := by decide +kernel
theorem e_179_16 (d : Nat) (a : Nat) (z0 z1 z2 z3 : q_V) (st : List q_V) (v : q_H) (G : q_Gr) (Q : q_V → q_H → q_Gr → Prop) : q_wp d 179 16 [z0, z1, z2, z3] (.inr (.inr (.inl (some a))) :: st) v G Q = (((G.2.1 a).1 = 11) ∧ q_wp d 179 19 [z0, z1, z2, z3] (.inl (v a 27) :: st) v G Q) := q_w_getI c_179_16
theorem c_179_19 : q_code 179 19 = (.iconst 2, 1, 0, 0, 0, 0, 0) := by decide +kernel
theorem e_179_19 (d : Nat)  (z0 z1 z2 z3 : q_V) (st : List q_V) (v : q_H) (G : q_Gr) (Q : q_V → q_H → q_Gr → Prop) : q_wp d 179 19 [z0, z1, z2, z3] st v G Q = q_wp d 179 20 [z0, z1, z2, z3] (.inl 2 :: st) v G Q := q_w_iconst c_179_19
theorem c_179_20 : q_code 179 20 = (.if_icmp .ne 36, 3, 0, 0, 0, 0, 0) := by decide +kernel
theorem e_179_20 (d : Nat) (a b : Int) (z0 z1 z2 z3 : q_V) (st : List q_V) (v : q_H) (G : q_Gr) (Q : q_V → q_H → q_Gr → Prop) : q_wp d 179 20 [z0, z1, z2, z3] (.inl b :: .inl a :: st) v G Q = ((q_inR a ∧ q_inR b) ∧ if ¬ a = b then q_wp d 179 56 [z0, z1, z2, z3] st v G Q else q_wp d 179 23 [z0, z1, z2, z3] st v G Q) := q_w_icmp_ne c_179_20 (by decide)
theorem c_179_23 : q_code 179 23 = (.aload_n 0, 1, 0, 0, 0, 0, 0) := by decide +kernel
theorem e_179_23 (d : Nat) (a : Option Nat) (z1 z2 z3 : q_V) (st : List q_V) (v : q_H) (G : q_Gr) (Q : q_V → q_H → q_Gr → Prop) : q_wp d 179 23 [.inr (.inr (.inl a)), z1, z2, z3] st v G Q = q_wp d 179 24 [.inr (.inr (.inl a)), z1, z2, z3] (.inr (.inr (.inl a)) :: st) v G Q := q_w_aload_n c_179_23 rfl
theorem c_179_24 : q_code 179 24 = (.getfield 224, 3, 11, 29, 0, 984, 0) := by decide +kernel
theorem e_179_24 (d : Nat) (a : Nat) (z0 z1 z2 z3 : q_V) (st : List q_V) (v : q_H) (G : q_Gr) (Q : q_V → q_H → q_Gr → Prop) : q_wp d 179 24 [z0, z1, z2, z3] (.inr (.inr (.inl (some a))) :: st) v G Q = (((G.2.1 a).1 = 11) ∧ q_wp d 179 27 [z0, z1, z2, z3] (.inl (v a 29) :: st) v G Q) := q_w_getI c_179_24
theorem c_179_27 : q_code 179 27 = (.aload_n 0, 1, 0, 0, 0, 0, 0) := by decide +kernel
theorem e_179_27 (d : Nat) (a : Option Nat) (z1 z2 z3 : q_V) (st : List q_V) (v : q_H) (G : q_Gr) (Q : q_V → q_H → q_Gr → Prop) : q_wp d 179 27 [.inr (.inr (.inl a)), z1, z2, z3] st v G Q = q_wp d 179 28 [.inr (.inr (.inl a)), z1, z2, z3] (.inr (.inr (.inl a)) :: st) v G Q := q_w_aload_n c_179_27 rfl
theorem c_179_28 : q_code 179 28 = (.getfield 212, 3, 11, 28, 0, 983, 0) := by decide +kernel
theorem e_179_28 (d : Nat) (a : Nat) (z0 z1 z2 z3 : q_V) (st : List q_V) (v : q_H) (G : q_Gr) (Q : q_V → q_H → q_Gr → Prop) : q_wp d 179 28 [z0, z1, z2, z3] (.inr (.inr (.inl (some a))) :: st) v G Q = (((G.2.1 a).1 = 11) ∧ q_wp d 179 31 [z0, z1, z2, z3] (.inl (v a 28) :: st) v G Q) := q_w_getI c_179_28
theorem c_179_31 : q_code 179 31 = (.isub, 1, 0, 0, 0, 0, 0) := by decide +kernel
theorem e_179_31 (d : Nat) (a b : Int) (z0 z1 z2 z3 : q_V) (st : List q_V) (v : q_H) (G : q_Gr) (Q : q_V → q_H → q_Gr → Prop) : q_wp d 179 31 [z0, z1, z2, z3] (.inl b :: .inl a :: st) v G Q = q_wp d 179 32 [z0, z1, z2, z3] (.inl (a - b) :: st) v G Q := q_w_isub c_179_31
theorem c_179_32 : q_code 179 32 = (.bipush 8, 2, 0, 0, 0, 0, 0) := by decide +kernel
theorem e_179_32 (d : Nat)  (z0 z1 z2 z3 : q_V) (st : List q_V) (v : q_H) (G : q_Gr) (Q : q_V → q_H → q_Gr → Prop) : q_wp d 179 32 [z0, z1, z2, z3] st v G Q = q_wp d 179 34 [z0, z1, z2, z3] (.inl 8 :: st) v G Q := (q_w_bipush c_179_32).trans (by simp only [show ((-128 : Int) ≤ 8 ∧ (8 : Int) ≤ 127) = True by decide, true_and])
theorem c_179_34 : q_code 179 34 = (.if_icmp .ge 22, 3, 0, 0, 0, 0, 0) := by decide +kernel
theorem e_179_34 (d : Nat) (a b : Int) (z0 z1 z2 z3 : q_V) (st : List q_V) (v : q_H) (G : q_Gr) (Q : q_V → q_H → q_Gr → Prop) : q_wp d 179 34 [z0, z1, z2, z3] (.inl b :: .inl a :: st) v G Q = ((q_inR a ∧ q_inR b) ∧ if b ≤ a then q_wp d 179 56 [z0, z1, z2, z3] st v G Q else q_wp d 179 37 [z0, z1, z2, z3] st v G Q) := q_w_icmp_ge c_179_34 (by decide)
theorem c_179_37 : q_code 179 37 = (.lload_n 1, 1, 0, 0, 0, 0, 0) := by decide +kernel
theorem e_179_37 (d : Nat) (a : Int) (z0 z2 z3 : q_V) (st : List q_V) (v : q_H) (G : q_Gr) (Q : q_V → q_H → q_Gr → Prop) : q_wp d 179 37 [z0, .inr (.inl a), z2, z3] st v G Q = q_wp d 179 38 [z0, .inr (.inl a), z2, z3] (.inr (.inl a) :: st) v G Q := q_w_lload_n c_179_37 rfl
theorem c_179_38 : q_code 179 38 = (.bipush 8, 2, 0, 0, 0, 0, 0) := by decide +kernel
theorem e_179_38 (d : Nat)  (z0 z1 z2 z3 : q_V) (st : List q_V) (v : q_H) (G : q_Gr) (Q : q_V → q_H → q_Gr → Prop) : q_wp d 179 38 [z0, z1, z2, z3] st v G Q = q_wp d 179 40 [z0, z1, z2, z3] (.inl 8 :: st) v G Q := (q_w_bipush c_179_38).trans (by simp only [show ((-128 : Int) ≤ 8 ∧ (8 : Int) ≤ 127) = True by decide, true_and])
theorem c_179_40 : q_code 179 40 = (.lshl, 1, 0, 0, 0, 0, 0) := by decide +kernel
theorem e_179_40 (d : Nat) (a b : Int) (z0 z1 z2 z3 : q_V) (st : List q_V) (v : q_H) (G : q_Gr) (Q : q_V → q_H → q_Gr → Prop) : q_wp d 179 40 [z0, z1, z2, z3] (.inl b :: .inr (.inl a) :: st) v G Q = q_wp d 179 41 [z0, z1, z2, z3] (.inr (.inl (Int64.ofInt a <<< ((Int32.ofInt b).toInt64 &&& 63)).toInt) :: st) v G Q := q_w_lshl c_179_40
theorem c_179_41 : q_code 179 41 = (.aload_n 0, 1, 0, 0, 0, 0, 0) := by decide +kernel
theorem e_179_41 (d : Nat) (a : Option Nat) (z1 z2 z3 : q_V) (st : List q_V) (v : q_H) (G : q_Gr) (Q : q_V → q_H → q_Gr → Prop) : q_wp d 179 41 [.inr (.inr (.inl a)), z1, z2, z3] st v G Q = q_wp d 179 42 [.inr (.inr (.inl a)), z1, z2, z3] (.inr (.inr (.inl a)) :: st) v G Q := q_w_aload_n c_179_41 rfl
theorem c_179_42 : q_code 179 42 = (.getfield 58, 3, 11, 22, 1, 977, 0) := by decide +kernel
theorem e_179_42 (d : Nat) (a : Nat) (z0 z1 z2 z3 : q_V) (st : List q_V) (v : q_H) (G : q_Gr) (Q : q_V → q_H → q_Gr → Prop) : q_wp d 179 42 [z0, z1, z2, z3] (.inr (.inr (.inl (some a))) :: st) v G Q = (((G.2.1 a).1 = 11) ∧ q_wp d 179 45 [z0, z1, z2, z3] (.inr (.inr (.inl (G.1 a 22))) :: st) v G Q) := q_w_getP c_179_42
theorem c_179_45 : q_code 179 45 = (.iload_n 3, 1, 0, 0, 0, 0, 0) := by decide +kernel
theorem e_179_45 (d : Nat) (a : Int) (z0 z1 z2 : q_V) (st : List q_V) (v : q_H) (G : q_Gr) (Q : q_V → q_H → q_Gr → Prop) : q_wp d 179 45 [z0, z1, z2, .inl a] st v G Q = q_wp d 179 46 [z0, z1, z2, .inl a] (.inl a :: st) v G Q := q_w_iload_n c_179_45 rfl
theorem c_179_46 : q_code 179 46 = (.iaload, 1, 0, 0, 0, 0, 0) := by decide +kernel
theorem e_179_46 (d : Nat) (a : Nat) (i : Int) (z0 z1 z2 z3 : q_V) (st : List q_V) (v : q_H) (G : q_Gr) (Q : q_V → q_H → q_Gr → Prop) : q_wp d 179 46 [z0, z1, z2, z3] (.inl i :: .inr (.inr (.inl (some a))) :: st) v G Q = (((G.2.1 a).1 = 20 ∧ 0 ≤ i ∧ i < (G.2.1 a).2) ∧ q_wp d 179 47 [z0, z1, z2, z3] (.inl (v a i.toNat) :: st) v G Q) := q_w_iald c_179_46
theorem c_179_47 : q_code 179 47 = (.i2l, 1, 0, 0, 0, 0, 0) := by decide +kernel
theorem e_179_47 (d : Nat) (a : Int) (z0 z1 z2 z3 : q_V) (st : List q_V) (v : q_H) (G : q_Gr) (Q : q_V → q_H → q_Gr → Prop) : q_wp d 179 47 [z0, z1, z2, z3] (.inl a :: st) v G Q = ((q_inR a) ∧ q_wp d 179 48 [z0, z1, z2, z3] (.inr (.inl a) :: st) v G Q) := q_w_i2l c_179_47
theorem c_179_48 : q_code 179 48 = (.lor, 1, 0, 0, 0, 0, 0) := by decide +kernel
theorem e_179_48 (d : Nat) (a b : Int) (z0 z1 z2 z3 : q_V) (st : List q_V) (v : q_H) (G : q_Gr) (Q : q_V → q_H → q_Gr → Prop) : q_wp d 179 48 [z0, z1, z2, z3] (.inr (.inl b) :: .inr (.inl a) :: st) v G Q = q_wp d 179 49 [z0, z1, z2, z3] (.inr (.inl (Int64.ofInt a ||| Int64.ofInt b).toInt) :: st) v G Q := q_w_lor c_179_48
theorem c_179_49 : q_code 179 49 = (.lstore_n 1, 1, 0, 0, 0, 0, 0) := by decide +kernel
theorem e_179_49 (d : Nat) (a : Int) (z0 z1 z2 z3 : q_V) (st : List q_V) (v : q_H) (G : q_Gr) (Q : q_V → q_H → q_Gr → Prop) : q_wp d 179 49 [z0, z1, z2, z3] (.inr (.inl a) :: st) v G Q = q_wp d 179 50 [z0, .inr (.inl a), .inr (.inr (.inr ())), z3] st v G Q := q_w_lstore_n c_179_49
theorem c_179_50 : q_code 179 50 = (.iinc 3 1, 3, 0, 0, 0, 0, 0) := by decide +kernel
theorem e_179_50 (d : Nat) (a : Int) (z0 z1 z2 : q_V) (st : List q_V) (v : q_H) (G : q_Gr) (Q : q_V → q_H → q_Gr → Prop) : q_wp d 179 50 [z0, z1, z2, .inl a] st v G Q = q_wp d 179 53 [z0, z1, z2, .inl (a + 1)] st v G Q := q_w_iinc c_179_50 rfl
theorem c_179_53 : q_code 179 53 = (.goto (-46), 3, 0, 0, 0, 0, 0) := by decide +kernel
theorem e_179_53 (d : Nat)  (z0 z1 z2 z3 : q_V) (st : List q_V) (v : q_H) (G : q_Gr) (Q : q_V → q_H → q_Gr → Prop) : q_wp d 179 53 [z0, z1, z2, z3] st v G Q = q_wp d 179 7 [z0, z1, z2, z3] st v G Q := q_w_goto c_179_53 (by decide)
theorem c_179_56 : q_code 179 56 = (.lload_n 1, 1, 0, 0, 0, 0, 0) := by decide +kernel
theorem e_179_56 (d : Nat) (a : Int) (z0 z2 z3 : q_V) (st : List q_V) (v : q_H) (G : q_Gr) (Q : q_V → q_H → q_Gr → Prop) : q_wp d 179 56 [z0, .inr (.inl a), z2, z3] st v G Q = q_wp d 179 57 [z0, .inr (.inl a), z2, z3] (.inr (.inl a) :: st) v G Q := q_w_lload_n c_179_56 rfl
theorem c_179_57 : q_code 179 57 = (.lreturn, 1, 0, 0, 0, 0, 0) := by decide +kernel
theorem e_179_57 (d : Nat) (a : Int) (z0 z1 z2 z3 : q_V) (v : q_H) (G : q_Gr) (Q : q_V → q_H → q_Gr → Prop) : q_wp d 179 57 [z0, z1, z2, z3] [.inr (.inl a)] v G Q = Q (.inr (.inl a)) v G := q_w_lreturn c_179_57 rfl
theorem e_179 (d : Nat) (a0 : Nat) (v : q_H) (G : q_Gr) (Q : q_V → q_H → q_Gr → Prop) : q_call (d + 1) 179 [.inr (.inr (.inl (some a0)))] v G Q = ((G.2.1 a0).1 = 11 ∧ q_wp d 179 0 [.inr (.inr (.inl (some a0))), .inr (.inr (.inr ())), .inr (.inr (.inr ())), .inr (.inr (.inr ()))] [] v G Q) := by
  rw [q_call_in (by decide) (Nat.le_of_ble_eq_true rfl) rfl]
  exact congrArg (· ∧ _) (propext beq_iff_eq)
/-- all but the heads of loops: [7] -/
def E179 := And.intro @e_179 (And.intro @e_179_0 (And.intro @e_179_1 (And.intro @e_179_2 (And.intro @e_179_3 (And.intro @e_179_6 (And.intro @e_179_8 (And.intro @e_179_9 (And.intro @e_179_12 (And.intro @e_179_15 (And.intro @e_179_16 (And.intro @e_179_19 (And.intro @e_179_20 (And.intro @e_179_23 (And.intro @e_179_24 (And.intro @e_179_27 (And.intro @e_179_28 (And.intro @e_179_31 (And.intro @e_179_32 (And.intro @e_179_34 (And.intro @e_179_37 (And.intro @e_179_38 (And.intro @e_179_40 (And.intro @e_179_41 (And.intro @e_179_42 (And.intro @e_179_45 (And.intro @e_179_46 (And.intro @e_179_47 (And.intro @e_179_48 (And.intro @e_179_49 (And.intro @e_179_50 (And.intro @e_179_53 (And.intro @e_179_56 (@e_179_57)))))))))))))))))))))))))))))))))
/-! ProvenRowsModel.numberIn(II)I -/
theorem c_180_0 : q_code 180 0 = (.aload_n 0, 1, 0, 0, 0, 0, 0) := by decide +kernel
theorem e_180_0 (d : Nat) (a : Option Nat) (z1 z2 z3 z4 : q_V) (st : List q_V) (v : q_H) (G : q_Gr) (Q : q_V → q_H → q_Gr → Prop) : q_wp d 180 0 [.inr (.inr (.inl a)), z1, z2, z3, z4] st v G Q = q_wp d 180 1 [.inr (.inr (.inl a)), z1, z2, z3, z4] (.inr (.inr (.inl a)) :: st) v G Q := q_w_aload_n c_180_0 rfl
theorem c_180_1 : q_code 180 1 = (.getfield 227, 3, 11, 30, 0, 985, 0) := by decide +kernel
theorem e_180_1 (d : Nat) (a : Nat) (z0 z1 z2 z3 z4 : q_V) (st : List q_V) (v : q_H) (G : q_Gr) (Q : q_V → q_H → q_Gr → Prop) : q_wp d 180 1 [z0, z1, z2, z3, z4] (.inr (.inr (.inl (some a))) :: st) v G Q = (((G.2.1 a).1 = 11) ∧ q_wp d 180 4 [z0, z1, z2, z3, z4] (.inl (v a 30) :: st) v G Q) := q_w_getI c_180_1
theorem c_180_4 : q_code 180 4 = (.ifCond .le 5, 3, 0, 0, 0, 0, 0) := by decide +kernel
theorem e_180_4 (d : Nat) (a : Int) (z0 z1 z2 z3 z4 : q_V) (st : List q_V) (v : q_H) (G : q_Gr) (Q : q_V → q_H → q_Gr → Prop) : q_wp d 180 4 [z0, z1, z2, z3, z4] (.inl a :: st) v G Q = ((q_inR a) ∧ if a ≤ 0 then q_wp d 180 9 [z0, z1, z2, z3, z4] st v G Q else q_wp d 180 7 [z0, z1, z2, z3, z4] st v G Q) := q_w_if_le c_180_4 (by decide)
theorem c_180_7 : q_code 180 7 = (.iconst 0, 1, 0, 0, 0, 0, 0) := by decide +kernel
theorem e_180_7 (d : Nat)  (z0 z1 z2 z3 z4 : q_V) (st : List q_V) (v : q_H) (G : q_Gr) (Q : q_V → q_H → q_Gr → Prop) : q_wp d 180 7 [z0, z1, z2, z3, z4] st v G Q = q_wp d 180 8 [z0, z1, z2, z3, z4] (.inl 0 :: st) v G Q := q_w_iconst c_180_7
theorem c_180_8 : q_code 180 8 = (.ireturn, 1, 0, 0, 0, 0, 0) := by decide +kernel
theorem e_180_8 (d : Nat) (a : Int) (z0 z1 z2 z3 z4 : q_V) (v : q_H) (G : q_Gr) (Q : q_V → q_H → q_Gr → Prop) : q_wp d 180 8 [z0, z1, z2, z3, z4] [.inl a] v G Q = Q (.inl a) v G := q_w_ireturn c_180_8 rfl
theorem c_180_9 : q_code 180 9 = (.iconst 0, 1, 0, 0, 0, 0, 0) := by decide +kernel
theorem e_180_9 (d : Nat)  (z0 z1 z2 z3 z4 : q_V) (st : List q_V) (v : q_H) (G : q_Gr) (Q : q_V → q_H → q_Gr → Prop) : q_wp d 180 9 [z0, z1, z2, z3, z4] st v G Q = q_wp d 180 10 [z0, z1, z2, z3, z4] (.inl 0 :: st) v G Q := q_w_iconst c_180_9
theorem c_180_10 : q_code 180 10 = (.istore_n 3, 1, 0, 0, 0, 0, 0) := by decide +kernel
theorem e_180_10 (d : Nat) (a : Int) (z0 z1 z2 z3 z4 : q_V) (st : List q_V) (v : q_H) (G : q_Gr) (Q : q_V → q_H → q_Gr → Prop) : q_wp d 180 10 [z0, z1, z2, z3, z4] (.inl a :: st) v G Q = q_wp d 180 11 [z0, z1, z2, .inl a, z4] st v G Q := q_w_istore_n c_180_10
theorem c_180_11 : q_code 180 11 = (.aload_n 0, 1, 0, 0, 0, 0, 0) := by decide +kernel
theorem e_180_11 (d : Nat) (a : Option Nat) (z1 z2 z3 z4 : q_V) (st : List q_V) (v : q_H) (G : q_Gr) (Q : q_V → q_H → q_Gr → Prop) : q_wp d 180 11 [.inr (.inr (.inl a)), z1, z2, z3, z4] st v G Q = q_wp d 180 12 [.inr (.inr (.inl a)), z1, z2, z3, z4] (.inr (.inr (.inl a)) :: st) v G Q := q_w_aload_n c_180_11 rfl
theorem c_180_12 : q_code 180 12 = (.getfield 212, 3, 11, 28, 0, 983, 0) := by decide +kernel
theorem e_180_12 (d : Nat) (a : Nat) (z0 z1 z2 z3 z4 : q_V) (st : List q_V) (v : q_H) (G : q_Gr) (Q : q_V → q_H → q_Gr → Prop) : q_wp d 180 12 [z0, z1, z2, z3, z4] (.inr (.inr (.inl (some a))) :: st) v G Q = (((G.2.1 a).1 = 11) ∧ q_wp d 180 15 [z0, z1, z2, z3, z4] (.inl (v a 28) :: st) v G Q) := q_w_getI c_180_12
theorem c_180_15 : q_code 180 15 = (.istore 4, 2, 0, 0, 0, 0, 0) := by decide +kernel
theorem e_180_15 (d : Nat) (a : Int) (z0 z1 z2 z3 z4 : q_V) (st : List q_V) (v : q_H) (G : q_Gr) (Q : q_V → q_H → q_Gr → Prop) : q_wp d 180 15 [z0, z1, z2, z3, z4] (.inl a :: st) v G Q = q_wp d 180 17 [z0, z1, z2, z3, .inl a] st v G Q := q_w_istore c_180_15
theorem c_180_17 : q_code 180 17 = (.iload 4, 2, 0, 0, 0, 0, 0) := by decide +kernel
theorem e_180_17 (d : Nat) (a : Int) (z0 z1 z2 z3 : q_V) (st : List q_V) (v : q_H) (G : q_Gr) (Q : q_V → q_H → q_Gr → Prop) : q_wp d 180 17 [z0, z1, z2, z3, .inl a] st v G Q = q_wp d 180 19 [z0, z1, z2, z3, .inl a] (.inl a :: st) v G Q := q_w_iload c_180_17 rfl
theorem c_180_19 : q_code 180 19 = (.aload_n 0, 1, 0, 0, 0, 0, 0) := by decide +kernel
theorem e_180_19 (d : Nat) (a : Option Nat) (z1 z2 z3 z4 : q_V) (st : List q_V) (v : q_H) (G : q_Gr) (Q : q_V → q_H → q_Gr → Prop) : q_wp d 180 19 [.inr (.inr (.inl a)), z1, z2, z3, z4] st v G Q = q_wp d 180 20 [.inr (.inr (.inl a)), z1, z2, z3, z4] (.inr (.inr (.inl a)) :: st) v G Q := q_w_aload_n c_180_19 rfl
theorem c_180_20 : q_code 180 20 = (.getfield 224, 3, 11, 29, 0, 984, 0) := by decide +kernel
theorem e_180_20 (d : Nat) (a : Nat) (z0 z1 z2 z3 z4 : q_V) (st : List q_V) (v : q_H) (G : q_Gr) (Q : q_V → q_H → q_Gr → Prop) : q_wp d 180 20 [z0, z1, z2, z3, z4] (.inr (.inr (.inl (some a))) :: st) v G Q = (((G.2.1 a).1 = 11) ∧ q_wp d 180 23 [z0, z1, z2, z3, z4] (.inl (v a 29) :: st) v G Q) := q_w_getI c_180_20
theorem c_180_23 : q_code 180 23 = (.if_icmp .ge 33, 3, 0, 0, 0, 0, 0) := by decide +kernel
theorem e_180_23 (d : Nat) (a b : Int) (z0 z1 z2 z3 z4 : q_V) (st : List q_V) (v : q_H) (G : q_Gr) (Q : q_V → q_H → q_Gr → Prop) : q_wp d 180 23 [z0, z1, z2, z3, z4] (.inl b :: .inl a :: st) v G Q = ((q_inR a ∧ q_inR b) ∧ if b ≤ a then q_wp d 180 56 [z0, z1, z2, z3, z4] st v G Q else q_wp d 180 26 [z0, z1, z2, z3, z4] st v G Q) := q_w_icmp_ge c_180_23 (by decide)
theorem c_180_26 : q_code 180 26 = (.aload_n 0, 1, 0, 0, 0, 0, 0) := by decide +kernel
theorem e_180_26 (d : Nat) (a : Option Nat) (z1 z2 z3 z4 : q_V) (st : List q_V) (v : q_H) (G : q_Gr) (Q : q_V → q_H → q_Gr → Prop) : q_wp d 180 26 [.inr (.inr (.inl a)), z1, z2, z3, z4] st v G Q = q_wp d 180 27 [.inr (.inr (.inl a)), z1, z2, z3, z4] (.inr (.inr (.inl a)) :: st) v G Q := q_w_aload_n c_180_26 rfl
theorem c_180_27 : q_code 180 27 = (.getfield 215, 3, 11, 27, 0, 982, 0) := by decide +kernel
theorem e_180_27 (d : Nat) (a : Nat) (z0 z1 z2 z3 z4 : q_V) (st : List q_V) (v : q_H) (G : q_Gr) (Q : q_V → q_H → q_Gr → Prop) : q_wp d 180 27 [z0, z1, z2, z3, z4] (.inr (.inr (.inl (some a))) :: st) v G Q = (((G.2.1 a).1 = 11) ∧ q_wp d 180 30 [z0, z1, z2, z3, z4] (.inl (v a 27) :: st) v G Q) := q_w_getI c_180_27
theorem c_180_30 : q_code 180 30 = (.iconst 3, 1, 0, 0, 0, 0, 0) := by decide +kernel
theorem e_180_30 (d : Nat)  (z0 z1 z2 z3 z4 : q_V) (st : List q_V) (v : q_H) (G : q_Gr) (Q : q_V → q_H → q_Gr → Prop) : q_wp d 180 30 [z0, z1, z2, z3, z4] st v G Q = q_wp d 180 31 [z0, z1, z2, z3, z4] (.inl 3 :: st) v G Q := q_w_iconst c_180_30
theorem c_180_31 : q_code 180 31 = (.if_icmp .ne 25, 3, 0, 0, 0, 0, 0) := by decide +kernel
theorem e_180_31 (d : Nat) (a b : Int) (z0 z1 z2 z3 z4 : q_V) (st : List q_V) (v : q_H) (G : q_Gr) (Q : q_V → q_H → q_Gr → Prop) : q_wp d 180 31 [z0, z1, z2, z3, z4] (.inl b :: .inl a :: st) v G Q = ((q_inR a ∧ q_inR b) ∧ if ¬ a = b then q_wp d 180 56 [z0, z1, z2, z3, z4] st v G Q else q_wp d 180 34 [z0, z1, z2, z3, z4] st v G Q) := q_w_icmp_ne c_180_31 (by decide)
theorem c_180_34 : q_code 180 34 = (.bipush 10, 2, 0, 0, 0, 0, 0) := by decide +kernel
theorem e_180_34 (d : Nat)  (z0 z1 z2 z3 z4 : q_V) (st : List q_V) (v : q_H) (G : q_Gr) (Q : q_V → q_H → q_Gr → Prop) : q_wp d 180 34 [z0, z1, z2, z3, z4] st v G Q = q_wp d 180 36 [z0, z1, z2, z3, z4] (.inl 10 :: st) v G Q := (q_w_bipush c_180_34).trans (by simp only [show ((-128 : Int) ≤ 10 ∧ (10 : Int) ≤ 127) = True by decide, true_and])
theorem c_180_36 : q_code 180 36 = (.iload_n 3, 1, 0, 0, 0, 0, 0) := by decide +kernel
theorem e_180_36 (d : Nat) (a : Int) (z0 z1 z2 z4 : q_V) (st : List q_V) (v : q_H) (G : q_Gr) (Q : q_V → q_H → q_Gr → Prop) : q_wp d 180 36 [z0, z1, z2, .inl a, z4] st v G Q = q_wp d 180 37 [z0, z1, z2, .inl a, z4] (.inl a :: st) v G Q := q_w_iload_n c_180_36 rfl
theorem c_180_37 : q_code 180 37 = (.imul, 1, 0, 0, 0, 0, 0) := by decide +kernel
theorem e_180_37 (d : Nat) (a b : Int) (z0 z1 z2 z3 z4 : q_V) (st : List q_V) (v : q_H) (G : q_Gr) (Q : q_V → q_H → q_Gr → Prop) : q_wp d 180 37 [z0, z1, z2, z3, z4] (.inl b :: .inl a :: st) v G Q = q_wp d 180 38 [z0, z1, z2, z3, z4] (.inl (a * b) :: st) v G Q := q_w_imul c_180_37
theorem c_180_38 : q_code 180 38 = (.aload_n 0, 1, 0, 0, 0, 0, 0) := by decide +kernel
theorem e_180_38 (d : Nat) (a : Option Nat) (z1 z2 z3 z4 : q_V) (st : List q_V) (v : q_H) (G : q_Gr) (Q : q_V → q_H → q_Gr → Prop) : q_wp d 180 38 [.inr (.inr (.inl a)), z1, z2, z3, z4] st v G Q = q_wp d 180 39 [.inr (.inr (.inl a)), z1, z2, z3, z4] (.inr (.inr (.inl a)) :: st) v G Q := q_w_aload_n c_180_38 rfl
theorem c_180_39 : q_code 180 39 = (.getfield 58, 3, 11, 22, 1, 977, 0) := by decide +kernel
theorem e_180_39 (d : Nat) (a : Nat) (z0 z1 z2 z3 z4 : q_V) (st : List q_V) (v : q_H) (G : q_Gr) (Q : q_V → q_H → q_Gr → Prop) : q_wp d 180 39 [z0, z1, z2, z3, z4] (.inr (.inr (.inl (some a))) :: st) v G Q = (((G.2.1 a).1 = 11) ∧ q_wp d 180 42 [z0, z1, z2, z3, z4] (.inr (.inr (.inl (G.1 a 22))) :: st) v G Q) := q_w_getP c_180_39
theorem c_180_42 : q_code 180 42 = (.iload 4, 2, 0, 0, 0, 0, 0) := by decide +kernel
theorem e_180_42 (d : Nat) (a : Int) (z0 z1 z2 z3 : q_V) (st : List q_V) (v : q_H) (G : q_Gr) (Q : q_V → q_H → q_Gr → Prop) : q_wp d 180 42 [z0, z1, z2, z3, .inl a] st v G Q = q_wp d 180 44 [z0, z1, z2, z3, .inl a] (.inl a :: st) v G Q := q_w_iload c_180_42 rfl
theorem c_180_44 : q_code 180 44 = (.iaload, 1, 0, 0, 0, 0, 0) := by decide +kernel
theorem e_180_44 (d : Nat) (a : Nat) (i : Int) (z0 z1 z2 z3 z4 : q_V) (st : List q_V) (v : q_H) (G : q_Gr) (Q : q_V → q_H → q_Gr → Prop) : q_wp d 180 44 [z0, z1, z2, z3, z4] (.inl i :: .inr (.inr (.inl (some a))) :: st) v G Q = (((G.2.1 a).1 = 20 ∧ 0 ≤ i ∧ i < (G.2.1 a).2) ∧ q_wp d 180 45 [z0, z1, z2, z3, z4] (.inl (v a i.toNat) :: st) v G Q) := q_w_iald c_180_44
theorem c_180_45 : q_code 180 45 = (.iadd, 1, 0, 0, 0, 0, 0) := by decide +kernel
theorem e_180_45 (d : Nat) (a b : Int) (z0 z1 z2 z3 z4 : q_V) (st : List q_V) (v : q_H) (G : q_Gr) (Q : q_V → q_H → q_Gr → Prop) : q_wp d 180 45 [z0, z1, z2, z3, z4] (.inl b :: .inl a :: st) v G Q = q_wp d 180 46 [z0, z1, z2, z3, z4] (.inl (a + b) :: st) v G Q := q_w_iadd c_180_45
theorem c_180_46 : q_code 180 46 = (.bipush 48, 2, 0, 0, 0, 0, 0) := by decide +kernel
theorem e_180_46 (d : Nat)  (z0 z1 z2 z3 z4 : q_V) (st : List q_V) (v : q_H) (G : q_Gr) (Q : q_V → q_H → q_Gr → Prop) : q_wp d 180 46 [z0, z1, z2, z3, z4] st v G Q = q_wp d 180 48 [z0, z1, z2, z3, z4] (.inl 48 :: st) v G Q := (q_w_bipush c_180_46).trans (by simp only [show ((-128 : Int) ≤ 48 ∧ (48 : Int) ≤ 127) = True by decide, true_and])
theorem c_180_48 : q_code 180 48 = (.isub, 1, 0, 0, 0, 0, 0) := by decide +kernel
theorem e_180_48 (d : Nat) (a b : Int) (z0 z1 z2 z3 z4 : q_V) (st : List q_V) (v : q_H) (G : q_Gr) (Q : q_V → q_H → q_Gr → Prop) : q_wp d 180 48 [z0, z1, z2, z3, z4] (.inl b :: .inl a :: st) v G Q = q_wp d 180 49 [z0, z1, z2, z3, z4] (.inl (a - b) :: st) v G Q := q_w_isub c_180_48
theorem c_180_49 : q_code 180 49 = (.istore_n 3, 1, 0, 0, 0, 0, 0) := by decide +kernel
theorem e_180_49 (d : Nat) (a : Int) (z0 z1 z2 z3 z4 : q_V) (st : List q_V) (v : q_H) (G : q_Gr) (Q : q_V → q_H → q_Gr → Prop) : q_wp d 180 49 [z0, z1, z2, z3, z4] (.inl a :: st) v G Q = q_wp d 180 50 [z0, z1, z2, .inl a, z4] st v G Q := q_w_istore_n c_180_49
theorem c_180_50 : q_code 180 50 = (.iinc 4 1, 3, 0, 0, 0, 0, 0) := by decide +kernel
theorem e_180_50 (d : Nat) (a : Int) (z0 z1 z2 z3 : q_V) (st : List q_V) (v : q_H) (G : q_Gr) (Q : q_V → q_H → q_Gr → Prop) : q_wp d 180 50 [z0, z1, z2, z3, .inl a] st v G Q = q_wp d 180 53 [z0, z1, z2, z3, .inl (a + 1)] st v G Q := q_w_iinc c_180_50 rfl
theorem c_180_53 : q_code 180 53 = (.goto (-36), 3, 0, 0, 0, 0, 0) := by decide +kernel
theorem e_180_53 (d : Nat)  (z0 z1 z2 z3 z4 : q_V) (st : List q_V) (v : q_H) (G : q_Gr) (Q : q_V → q_H → q_Gr → Prop) : q_wp d 180 53 [z0, z1, z2, z3, z4] st v G Q = q_wp d 180 17 [z0, z1, z2, z3, z4] st v G Q := q_w_goto c_180_53 (by decide)
theorem c_180_56 : q_code 180 56 = (.aload_n 0, 1, 0, 0, 0, 0, 0) := by decide +kernel
theorem e_180_56 (d : Nat) (a : Option Nat) (z1 z2 z3 z4 : q_V) (st : List q_V) (v : q_H) (G : q_Gr) (Q : q_V → q_H → q_Gr → Prop) : q_wp d 180 56 [.inr (.inr (.inl a)), z1, z2, z3, z4] st v G Q = q_wp d 180 57 [.inr (.inr (.inl a)), z1, z2, z3, z4] (.inr (.inr (.inl a)) :: st) v G Q := q_w_aload_n c_180_56 rfl
theorem c_180_57 : q_code 180 57 = (.getfield 215, 3, 11, 27, 0, 982, 0) := by decide +kernel
theorem e_180_57 (d : Nat) (a : Nat) (z0 z1 z2 z3 z4 : q_V) (st : List q_V) (v : q_H) (G : q_Gr) (Q : q_V → q_H → q_Gr → Prop) : q_wp d 180 57 [z0, z1, z2, z3, z4] (.inr (.inr (.inl (some a))) :: st) v G Q = (((G.2.1 a).1 = 11) ∧ q_wp d 180 60 [z0, z1, z2, z3, z4] (.inl (v a 27) :: st) v G Q) := q_w_getI c_180_57
theorem c_180_60 : q_code 180 60 = (.iconst 3, 1, 0, 0, 0, 0, 0) := by decide +kernel
theorem e_180_60 (d : Nat)  (z0 z1 z2 z3 z4 : q_V) (st : List q_V) (v : q_H) (G : q_Gr) (Q : q_V → q_H → q_Gr → Prop) : q_wp d 180 60 [z0, z1, z2, z3, z4] st v G Q = q_wp d 180 61 [z0, z1, z2, z3, z4] (.inl 3 :: st) v G Q := q_w_iconst c_180_60
theorem c_180_61 : q_code 180 61 = (.if_icmp .ne 20, 3, 0, 0, 0, 0, 0) := by decide +kernel
theorem e_180_61 (d : Nat) (a b : Int) (z0 z1 z2 z3 z4 : q_V) (st : List q_V) (v : q_H) (G : q_Gr) (Q : q_V → q_H → q_Gr → Prop) : q_wp d 180 61 [z0, z1, z2, z3, z4] (.inl b :: .inl a :: st) v G Q = ((q_inR a ∧ q_inR b) ∧ if ¬ a = b then q_wp d 180 81 [z0, z1, z2, z3, z4] st v G Q else q_wp d 180 64 [z0, z1, z2, z3, z4] st v G Q) := q_w_icmp_ne c_180_61 (by decide)
theorem c_180_64 : q_code 180 64 = (.iload_n 3, 1, 0, 0, 0, 0, 0) := by decide +kernel
theorem e_180_64 (d : Nat) (a : Int) (z0 z1 z2 z4 : q_V) (st : List q_V) (v : q_H) (G : q_Gr) (Q : q_V → q_H → q_Gr → Prop) : q_wp d 180 64 [z0, z1, z2, .inl a, z4] st v G Q = q_wp d 180 65 [z0, z1, z2, .inl a, z4] (.inl a :: st) v G Q := q_w_iload_n c_180_64 rfl
theorem c_180_65 : q_code 180 65 = (.i2l, 1, 0, 0, 0, 0, 0) := by decide +kernel
theorem e_180_65 (d : Nat) (a : Int) (z0 z1 z2 z3 z4 : q_V) (st : List q_V) (v : q_H) (G : q_Gr) (Q : q_V → q_H → q_Gr → Prop) : q_wp d 180 65 [z0, z1, z2, z3, z4] (.inl a :: st) v G Q = ((q_inR a) ∧ q_wp d 180 66 [z0, z1, z2, z3, z4] (.inr (.inl a) :: st) v G Q) := q_w_i2l c_180_65
theorem c_180_66 : q_code 180 66 = (.iload_n 1, 1, 0, 0, 0, 0, 0) := by decide +kernel
theorem e_180_66 (d : Nat) (a : Int) (z0 z2 z3 z4 : q_V) (st : List q_V) (v : q_H) (G : q_Gr) (Q : q_V → q_H → q_Gr → Prop) : q_wp d 180 66 [z0, .inl a, z2, z3, z4] st v G Q = q_wp d 180 67 [z0, .inl a, z2, z3, z4] (.inl a :: st) v G Q := q_w_iload_n c_180_66 rfl
theorem c_180_67 : q_code 180 67 = (.i2l, 1, 0, 0, 0, 0, 0) := by decide +kernel
theorem e_180_67 (d : Nat) (a : Int) (z0 z1 z2 z3 z4 : q_V) (st : List q_V) (v : q_H) (G : q_Gr) (Q : q_V → q_H → q_Gr → Prop) : q_wp d 180 67 [z0, z1, z2, z3, z4] (.inl a :: st) v G Q = ((q_inR a) ∧ q_wp d 180 68 [z0, z1, z2, z3, z4] (.inr (.inl a) :: st) v G Q) := q_w_i2l c_180_67
theorem c_180_68 : q_code 180 68 = (.iload_n 2, 1, 0, 0, 0, 0, 0) := by decide +kernel
theorem e_180_68 (d : Nat) (a : Int) (z0 z1 z3 z4 : q_V) (st : List q_V) (v : q_H) (G : q_Gr) (Q : q_V → q_H → q_Gr → Prop) : q_wp d 180 68 [z0, z1, .inl a, z3, z4] st v G Q = q_wp d 180 69 [z0, z1, .inl a, z3, z4] (.inl a :: st) v G Q := q_w_iload_n c_180_68 rfl
theorem c_180_69 : q_code 180 69 = (.i2l, 1, 0, 0, 0, 0, 0) := by decide +kernel
theorem e_180_69 (d : Nat) (a : Int) (z0 z1 z2 z3 z4 : q_V) (st : List q_V) (v : q_H) (G : q_Gr) (Q : q_V → q_H → q_Gr → Prop) : q_wp d 180 69 [z0, z1, z2, z3, z4] (.inl a :: st) v G Q = ((q_inR a) ∧ q_wp d 180 70 [z0, z1, z2, z3, z4] (.inr (.inl a) :: st) v G Q) := q_w_i2l c_180_69
theorem c_180_70 : q_code 180 70 = (.invokestatic 137, 3, 151, 3, 0, 1095, 1) := by decide +kernel
theorem e_180_70 (d : Nat) (x0 x1 x2 : q_V) (z0 z1 z2 z3 z4 : q_V) (v : q_H) (G : q_Gr) (Q : q_V → q_H → q_Gr → Prop) : q_wp d 180 70 [z0, z1, z2, z3, z4] [x2, x1, x0] v G Q = q_call d 151 [x0, x1, x2] v G (fun r v G => q_wp d 180 73 [z0, z1, z2, z3, z4] (q_push r []) v G Q) := q_wp_ca (m2 := 151) (k := 3) (as := [x0, x1, x2]) (rest := []) (congrArg q_kind c_180_70) (congrArg (fun w => w.2.2.1) c_180_70) (congrArg (fun w => w.2.2.2.1) c_180_70) rfl (Nat.le_of_ble_eq_true rfl) rfl
theorem c_180_73 : q_code 180 73 = (.ifCond .ne 8, 3, 0, 0, 0, 0, 0) := by decide +kernel
theorem e_180_73 (d : Nat) (a : Int) (z0 z1 z2 z3 z4 : q_V) (st : List q_V) (v : q_H) (G : q_Gr) (Q : q_V → q_H → q_Gr → Prop) : q_wp d 180 73 [z0, z1, z2, z3, z4] (.inl a :: st) v G Q = ((q_inR a) ∧ if ¬ a = 0 then q_wp d 180 81 [z0, z1, z2, z3, z4] st v G Q else q_wp d 180 76 [z0, z1, z2, z3, z4] st v G Q) := q_w_if_ne c_180_73 (by decide)
theorem c_180_76 : q_code 180 76 = (.aload_n 0, 1, 0, 0, 0, 0, 0) := by decide +kernel
theorem e_180_76 (d : Nat) (a : Option Nat) (z1 z2 z3 z4 : q_V) (st : List q_V) (v : q_H) (G : q_Gr) (Q : q_V → q_H → q_Gr → Prop) : q_wp d 180 76 [.inr (.inr (.inl a)), z1, z2, z3, z4] st v G Q = q_wp d 180 77 [.inr (.inr (.inl a)), z1, z2, z3, z4] (.inr (.inr (.inl a)) :: st) v G Q := q_w_aload_n c_180_76 rfl
theorem c_180_77 : q_code 180 77 = (.iconst 2, 1, 0, 0, 0, 0, 0) := by decide +kernel
theorem e_180_77 (d : Nat)  (z0 z1 z2 z3 z4 : q_V) (st : List q_V) (v : q_H) (G : q_Gr) (Q : q_V → q_H → q_Gr → Prop) : q_wp d 180 77 [z0, z1, z2, z3, z4] st v G Q = q_wp d 180 78 [z0, z1, z2, z3, z4] (.inl 2 :: st) v G Q := q_w_iconst c_180_77
theorem c_180_78 : q_code 180 78 = (.invokevirtual 233, 3, 177, 2, 0, 1210, 0) := by decide +kernel
theorem e_180_78 (d : Nat) (x0 x1 : q_V) (z0 z1 z2 z3 z4 : q_V) (v : q_H) (G : q_Gr) (Q : q_V → q_H → q_Gr → Prop) : q_wp d 180 78 [z0, z1, z2, z3, z4] [x1, x0] v G Q = q_call d 177 [x0, x1] v G (fun r v G => q_wp d 180 81 [z0, z1, z2, z3, z4] (q_push r []) v G Q) := q_wp_ca (m2 := 177) (k := 2) (as := [x0, x1]) (rest := []) (congrArg q_kind c_180_78) (congrArg (fun w => w.2.2.1) c_180_78) (congrArg (fun w => w.2.2.2.1) c_180_78) rfl (Nat.le_of_ble_eq_true rfl) rfl
theorem c_180_81 : q_code 180 81 = (.aload_n 0, 1, 0, 0, 0, 0, 0) := by decide +kernel
theorem e_180_81 (d : Nat) (a : Option Nat) (z1 z2 z3 z4 : q_V) (st : List q_V) (v : q_H) (G : q_Gr) (Q : q_V → q_H → q_Gr → Prop) : q_wp d 180 81 [.inr (.inr (.inl a)), z1, z2, z3, z4] st v G Q = q_wp d 180 82 [.inr (.inr (.inl a)), z1, z2, z3, z4] (.inr (.inr (.inl a)) :: st) v G Q := q_w_aload_n c_180_81 rfl
theorem c_180_82 : q_code 180 82 = (.aload_n 0, 1, 0, 0, 0, 0, 0) := by decide +kernel
theorem e_180_82 (d : Nat) (a : Option Nat) (z1 z2 z3 z4 : q_V) (st : List q_V) (v : q_H) (G : q_Gr) (Q : q_V → q_H → q_Gr → Prop) : q_wp d 180 82 [.inr (.inr (.inl a)), z1, z2, z3, z4] st v G Q = q_wp d 180 83 [.inr (.inr (.inl a)), z1, z2, z3, z4] (.inr (.inr (.inl a)) :: st) v G Q := q_w_aload_n c_180_82 rfl
theorem c_180_83 : q_code 180 83 = (.getfield 215, 3, 11, 27, 0, 982, 0) := by decide +kernel
theorem e_180_83 (d : Nat) (a : Nat) (z0 z1 z2 z3 z4 : q_V) (st : List q_V) (v : q_H) (G : q_Gr) (Q : q_V → q_H → q_Gr → Prop) : q_wp d 180 83 [z0, z1, z2, z3, z4] (.inr (.inr (.inl (some a))) :: st) v G Q = (((G.2.1 a).1 = 11) ∧ q_wp d 180 86 [z0, z1, z2, z3, z4] (.inl (v a 27) :: st) v G Q) := q_w_getI c_180_83
theorem c_180_86 : q_code 180 86 = (.iconst 3, 1, 0, 0, 0, 0, 0) := by decide +kernel
theorem e_180_86 (d : Nat)  (z0 z1 z2 z3 z4 : q_V) (st : List q_V) (v : q_H) (G : q_Gr) (Q : q_V → q_H → q_Gr → Prop) : q_wp d 180 86 [z0, z1, z2, z3, z4] st v G Q = q_wp d 180 87 [z0, z1, z2, z3, z4] (.inl 3 :: st) v G Q := q_w_iconst c_180_86
theorem c_180_87 : q_code 180 87 = (.if_icmp .ne 7, 3, 0, 0, 0, 0, 0) := by decide +kernel
theorem e_180_87 (d : Nat) (a b : Int) (z0 z1 z2 z3 z4 : q_V) (st : List q_V) (v : q_H) (G : q_Gr) (Q : q_V → q_H → q_Gr → Prop) : q_wp d 180 87 [z0, z1, z2, z3, z4] (.inl b :: .inl a :: st) v G Q = ((q_inR a ∧ q_inR b) ∧ if ¬ a = b then q_wp d 180 94 [z0, z1, z2, z3, z4] st v G Q else q_wp d 180 90 [z0, z1, z2, z3, z4] st v G Q) := q_w_icmp_ne c_180_87 (by decide)
theorem c_180_90 : q_code 180 90 = (.iconst 1, 1, 0, 0, 0, 0, 0) := by decide +kernel
theorem e_180_90 (d : Nat)  (z0 z1 z2 z3 z4 : q_V) (st : List q_V) (v : q_H) (G : q_Gr) (Q : q_V → q_H → q_Gr → Prop) : q_wp d 180 90 [z0, z1, z2, z3, z4] st v G Q = q_wp d 180 91 [z0, z1, z2, z3, z4] (.inl 1 :: st) v G Q := q_w_iconst c_180_90
theorem c_180_91 : q_code 180 91 = (.goto 4, 3, 0, 0, 0, 0, 0) := by decide +kernel
theorem e_180_91 (d : Nat)  (z0 z1 z2 z3 z4 : q_V) (st : List q_V) (v : q_H) (G : q_Gr) (Q : q_V → q_H → q_Gr → Prop) : q_wp d 180 91 [z0, z1, z2, z3, z4] st v G Q = q_wp d 180 95 [z0, z1, z2, z3, z4] st v G Q := q_w_goto c_180_91 (by decide)
theorem c_180_94 : q_code 180 94 = (.iconst 0, 1, 0, 0, 0, 0, 0) := by decide +kernel
theorem e_180_94 (d : Nat)  (z0 z1 z2 z3 z4 : q_V) (st : List q_V) (v : q_H) (G : q_Gr) (Q : q_V → q_H → q_Gr → Prop) : q_wp d 180 94 [z0, z1, z2, z3, z4] st v G Q = q_wp d 180 95 [z0, z1, z2, z3, z4] (.inl 0 :: st) v G Q := q_w_iconst c_180_94
theorem c_180_95 : q_code 180 95 = (.invokevirtual 239, 3, 178, 2, 0, 1213, 0) := by decide +kernel
theorem e_180_95 (d : Nat) (x0 x1 : q_V) (z0 z1 z2 z3 z4 : q_V) (v : q_H) (G : q_Gr) (Q : q_V → q_H → q_Gr → Prop) : q_wp d 180 95 [z0, z1, z2, z3, z4] [x1, x0] v G Q = q_call d 178 [x0, x1] v G (fun r v G => q_wp d 180 98 [z0, z1, z2, z3, z4] (q_push r []) v G Q) := q_wp_ca (m2 := 178) (k := 2) (as := [x0, x1]) (rest := []) (congrArg q_kind c_180_95) (congrArg (fun w => w.2.2.1) c_180_95) (congrArg (fun w => w.2.2.2.1) c_180_95) rfl (Nat.le_of_ble_eq_true rfl) rfl
theorem c_180_98 : q_code 180 98 = (.iload_n 3, 1, 0, 0, 0, 0, 0) := by decide +kernel
theorem e_180_98 (d : Nat) (a : Int) (z0 z1 z2 z4 : q_V) (st : List q_V) (v : q_H) (G : q_Gr) (Q : q_V → q_H → q_Gr → Prop) : q_wp d 180 98 [z0, z1, z2, .inl a, z4] st v G Q = q_wp d 180 99 [z0, z1, z2, .inl a, z4] (.inl a :: st) v G Q := q_w_iload_n c_180_98 rfl
theorem c_180_99 : q_code 180 99 = (.ireturn, 1, 0, 0, 0, 0, 0) := by decide +kernel
theorem e_180_99 (d : Nat) (a : Int) (z0 z1 z2 z3 z4 : q_V) (v : q_H) (G : q_Gr) (Q : q_V → q_H → q_Gr → Prop) : q_wp d 180 99 [z0, z1, z2, z3, z4] [.inl a] v G Q = Q (.inl a) v G := q_w_ireturn c_180_99 rfl
theorem e_180 (d : Nat) (a0 : Nat) (a1 : Int) (a2 : Int) (v : q_H) (G : q_Gr) (Q : q_V → q_H → q_Gr → Prop) : q_call (d + 1) 180 [.inr (.inr (.inl (some a0))), .inl a1, .inl a2] v G Q = ((G.2.1 a0).1 = 11 ∧ q_wp d 180 0 [.inr (.inr (.inl (some a0))), .inl a1, .inl a2, .inr (.inr (.inr ())), .inr (.inr (.inr ()))] [] v G Q) := by
  rw [q_call_in (by decide) (Nat.le_of_ble_eq_true rfl) rfl]
  exact congrArg (· ∧ _) (propext beq_iff_eq)
/-- all but the heads of loops: [17] -/
def E180 := And.intro @e_180 (And.intro @e_180_0 (And.intro @e_180_1 (And.intro @e_180_4 (And.intro @e_180_7 (And.intro @e_180_8 (And.intro @e_180_9 (And.intro @e_180_10 (And.intro @e_180_11 (And.intro @e_180_12 (And.intro @e_180_15 (And.intro @e_180_19 (And.intro @e_180_20 (And.intro @e_180_23 (And.intro @e_180_26 (And.intro @e_180_27 (And.intro @e_180_30 (And.intro @e_180_31 (And.intro @e_180_34 (And.intro @e_180_36 (And.intro @e_180_37 (And.intro @e_180_38 (And.intro @e_180_39 (And.intro @e_180_42 (And.intro @e_180_44 (And.intro @e_180_45 (And.intro @e_180_46 (And.intro @e_180_48 (And.intro @e_180_49 (And.intro @e_180_50 (And.intro @e_180_53 (And.intro @e_180_56 (And.intro @e_180_57 (And.intro @e_180_60 (And.intro @e_180_61 (And.intro @e_180_64 (And.intro @e_180_65 (And.intro @e_180_66 (And.intro @e_180_67 (And.intro @e_180_68 (And.intro @e_180_69 (And.intro @e_180_70 (And.intro @e_180_73 (And.intro @e_180_76 (And.intro @e_180_77 (And.intro @e_180_78 (And.intro @e_180_81 (And.intro @e_180_82 (And.intro @e_180_83 (And.intro @e_180_86 (And.intro @e_180_87 (And.intro @e_180_90 (And.intro @e_180_91 (And.intro @e_180_94 (And.intro @e_180_95 (And.intro @e_180_98 (@e_180_99))))))))))))))))))))))))))))))))))))))))))))))))))))))))
/-! ProvenRowsModel.actOfWord()I -/
theorem c_181_0 : q_code 181 0 = (.aload_n 0, 1, 0, 0, 0, 0, 0) := by decide +kernel
theorem e_181_0 (d : Nat) (a : Option Nat) (z1 z2 : q_V) (st : List q_V) (v : q_H) (G : q_Gr) (Q : q_V → q_H → q_Gr → Prop) : q_wp d 181 0 [.inr (.inr (.inl a)), z1, z2] st v G Q = q_wp d 181 1 [.inr (.inr (.inl a)), z1, z2] (.inr (.inr (.inl a)) :: st) v G Q := q_w_aload_n c_181_0 rfl
theorem c_181_1 : q_code 181 1 = (.invokevirtual 243, 3, 179, 1, 0, 1200, 2) := by decide +kernel
theorem e_181_1 (d : Nat) (x0 : q_V) (z0 z1 z2 : q_V) (v : q_H) (G : q_Gr) (Q : q_V → q_H → q_Gr → Prop) : q_wp d 181 1 [z0, z1, z2] [x0] v G Q = q_call d 179 [x0] v G (fun r v G => q_wp d 181 4 [z0, z1, z2] (q_push r []) v G Q) := q_wp_ca (m2 := 179) (k := 1) (as := [x0]) (rest := []) (congrArg q_kind c_181_1) (congrArg (fun w => w.2.2.1) c_181_1) (congrArg (fun w => w.2.2.2.1) c_181_1) rfl (Nat.le_of_ble_eq_true rfl) rfl
theorem c_181_4 : q_code 181 4 = (.lstore_n 1, 1, 0, 0, 0, 0, 0) := by decide +kernel
theorem e_181_4 (d : Nat) (a : Int) (z0 z1 z2 : q_V) (st : List q_V) (v : q_H) (G : q_Gr) (Q : q_V → q_H → q_Gr → Prop) : q_wp d 181 4 [z0, z1, z2] (.inr (.inl a) :: st) v G Q = q_wp d 181 5 [z0, .inr (.inl a), .inr (.inr (.inr ()))] st v G Q := q_w_lstore_n c_181_4
theorem c_181_5 : q_code 181 5 = (.lload_n 1, 1, 0, 0, 0, 0, 0) := by decide +kernel
theorem e_181_5 (d : Nat) (a : Int) (z0 z2 : q_V) (st : List q_V) (v : q_H) (G : q_Gr) (Q : q_V → q_H → q_Gr → Prop) : q_wp d 181 5 [z0, .inr (.inl a), z2] st v G Q = q_wp d 181 6 [z0, .inr (.inl a), z2] (.inr (.inl a) :: st) v G Q := q_w_lload_n c_181_5 rfl
theorem c_181_6 : q_code 181 6 = (.ldc2_w 247, 3, 0, 0, 0, 1203, 491260897125) := by decide +kernel
theorem e_181_6 (d : Nat)  (z0 z1 z2 : q_V) (st : List q_V) (v : q_H) (G : q_Gr) (Q : q_V → q_H → q_Gr → Prop) : q_wp d 181 6 [z0, z1, z2] st v G Q = q_wp d 181 9 [z0, z1, z2] (.inr (.inl 491260897125) :: st) v G Q := q_w_ldc2 c_181_6
theorem c_181_9 : q_code 181 9 = (.lcmp, 1, 0, 0, 0, 0, 0) := by decide +kernel
theorem e_181_9 (d : Nat) (a b : Int) (z0 z1 z2 : q_V) (st : List q_V) (v : q_H) (G : q_Gr) (Q : q_V → q_H → q_Gr → Prop) : q_wp d 181 9 [z0, z1, z2] (.inr (.inl b) :: .inr (.inl a) :: st) v G Q = ((q_inL a ∧ q_inL b) ∧ q_wp d 181 10 [z0, z1, z2] (.inl (if b < a then 1 else if a = b then 0 else -1) :: st) v G Q) := q_w_lcmp c_181_9
theorem c_181_10 : q_code 181 10 = (.ifCond .ne 7, 3, 0, 0, 0, 0, 0) := by decide +kernel
theorem e_181_10 (d : Nat) (a : Int) (z0 z1 z2 : q_V) (st : List q_V) (v : q_H) (G : q_Gr) (Q : q_V → q_H → q_Gr → Prop) : q_wp d 181 10 [z0, z1, z2] (.inl a :: st) v G Q = ((q_inR a) ∧ if ¬ a = 0 then q_wp d 181 17 [z0, z1, z2] st v G Q else q_wp d 181 13 [z0, z1, z2] st v G Q) := q_w_if_ne c_181_10 (by decide)
theorem c_181_13 : q_code 181 13 = (.iconst 0, 1, 0, 0, 0, 0, 0) := by decide +kernel
theorem e_181_13 (d : Nat)  (z0 z1 z2 : q_V) (st : List q_V) (v : q_H) (G : q_Gr) (Q : q_V → q_H → q_Gr → Prop) : q_wp d 181 13 [z0, z1, z2] st v G Q = q_wp d 181 14 [z0, z1, z2] (.inl 0 :: st) v G Q := q_w_iconst c_181_13
theorem c_181_14 : q_code 181 14 = (.goto 78, 3, 0, 0, 0, 0, 0) := by decide +kernel
theorem e_181_14 (d : Nat)  (z0 z1 z2 : q_V) (st : List q_V) (v : q_H) (G : q_Gr) (Q : q_V → q_H → q_Gr → Prop) : q_wp d 181 14 [z0, z1, z2] st v G Q = q_wp d 181 92 [z0, z1, z2] st v G Q := q_w_goto c_181_14 (by decide)
theorem c_181_17 : q_code 181 17 = (.lload_n 1, 1, 0, 0, 0, 0, 0) := by decide +kernel
theorem e_181_17 (d : Nat) (a : Int) (z0 z2 : q_V) (st : List q_V) (v : q_H) (G : q_Gr) (Q : q_V → q_H → q_Gr → Prop) : q_wp d 181 17 [z0, .inr (.inl a), z2] st v G Q = q_wp d 181 18 [z0, .inr (.inl a), z2] (.inr (.inl a) :: st) v G Q := q_w_lload_n c_181_17 rfl
theorem c_181_18 : q_code 181 18 = (.ldc2_w 249, 3, 0, 0, 0, 1204, 7566701) := by decide +kernel
theorem e_181_18 (d : Nat)  (z0 z1 z2 : q_V) (st : List q_V) (v : q_H) (G : q_Gr) (Q : q_V → q_H → q_Gr → Prop) : q_wp d 181 18 [z0, z1, z2] st v G Q = q_wp d 181 21 [z0, z1, z2] (.inr (.inl 7566701) :: st) v G Q := q_w_ldc2 c_181_18
theorem c_181_21 : q_code 181 21 = (.lcmp, 1, 0, 0, 0, 0, 0) := by decide +kernel
theorem e_181_21 (d : Nat) (a b : Int) (z0 z1 z2 : q_V) (st : List q_V) (v : q_H) (G : q_Gr) (Q : q_V → q_H → q_Gr → Prop) : q_wp d 181 21 [z0, z1, z2] (.inr (.inl b) :: .inr (.inl a) :: st) v G Q = ((q_inL a ∧ q_inL b) ∧ q_wp d 181 22 [z0, z1, z2] (.inl (if b < a then 1 else if a = b then 0 else -1) :: st) v G Q) := q_w_lcmp c_181_21
theorem c_181_22 : q_code 181 22 = (.ifCond .ne 7, 3, 0, 0, 0, 0, 0) := by decide +kernel
theorem e_181_22 (d : Nat) (a : Int) (z0 z1 z2 : q_V) (st : List q_V) (v : q_H) (G : q_Gr) (Q : q_V → q_H → q_Gr → Prop) : q_wp d 181 22 [z0, z1, z2] (.inl a :: st) v G Q = ((q_inR a) ∧ if ¬ a = 0 then q_wp d 181 29 [z0, z1, z2] st v G Q else q_wp d 181 25 [z0, z1, z2] st v G Q) := q_w_if_ne c_181_22 (by decide)
theorem c_181_25 : q_code 181 25 = (.iconst 1, 1, 0, 0, 0, 0, 0) := by decide +kernel
theorem e_181_25 (d : Nat)  (z0 z1 z2 : q_V) (st : List q_V) (v : q_H) (G : q_Gr) (Q : q_V → q_H → q_Gr → Prop) : q_wp d 181 25 [z0, z1, z2] st v G Q = q_wp d 181 26 [z0, z1, z2] (.inl 1 :: st) v G Q := q_w_iconst c_181_25
theorem c_181_26 : q_code 181 26 = (.goto 66, 3, 0, 0, 0, 0, 0) := by decide +kernel
theorem e_181_26 (d : Nat)  (z0 z1 z2 : q_V) (st : List q_V) (v : q_H) (G : q_Gr) (Q : q_V → q_H → q_Gr → Prop) : q_wp d 181 26 [z0, z1, z2] st v G Q = q_wp d 181 92 [z0, z1, z2] st v G Q := q_w_goto c_181_26 (by decide)
theorem c_181_29 : q_code 181 29 = (.lload_n 1, 1, 0, 0, 0, 0, 0) := by decide +kernel
theorem e_181_29 (d : Nat) (a : Int) (z0 z2 : q_V) (st : List q_V) (v : q_H) (G : q_Gr) (Q : q_V → q_H → q_Gr → Prop) : q_wp d 181 29 [z0, .inr (.inl a), z2] st v G Q = q_wp d 181 30 [z0, .inr (.inl a), z2] (.inr (.inl a) :: st) v G Q := q_w_lload_n c_181_29 rfl
theorem c_181_30 : q_code 181 30 = (.ldc2_w 251, 3, 0, 0, 0, 1205, 439855772532) := by decide +kernel
theorem e_181_30 (d : Nat)  (z0 z1 z2 : q_V) (st : List q_V) (v : q_H) (G : q_Gr) (Q : q_V → q_H → q_Gr → Prop) : q_wp d 181 30 [z0, z1, z2] st v G Q = q_wp d 181 33 [z0, z1, z2] (.inr (.inl 439855772532) :: st) v G Q := q_w_ldc2 c_181_30
theorem c_181_33 : q_code 181 33 = (.lcmp, 1, 0, 0, 0, 0, 0) := by decide +kernel
theorem e_181_33 (d : Nat) (a b : Int) (z0 z1 z2 : q_V) (st : List q_V) (v : q_H) (G : q_Gr) (Q : q_V → q_H → q_Gr → Prop) : q_wp d 181 33 [z0, z1, z2] (.inr (.inl b) :: .inr (.inl a) :: st) v G Q = ((q_inL a ∧ q_inL b) ∧ q_wp d 181 34 [z0, z1, z2] (.inl (if b < a then 1 else if a = b then 0 else -1) :: st) v G Q) := q_w_lcmp c_181_33
theorem c_181_34 : q_code 181 34 = (.ifCond .ne 7, 3, 0, 0, 0, 0, 0) := by decide +kernel
theorem e_181_34 (d : Nat) (a : Int) (z0 z1 z2 : q_V) (st : List q_V) (v : q_H) (G : q_Gr) (Q : q_V → q_H → q_Gr → Prop) : q_wp d 181 34 [z0, z1, z2] (.inl a :: st) v G Q = ((q_inR a) ∧ if ¬ a = 0 then q_wp d 181 41 [z0, z1, z2] st v G Q else q_wp d 181 37 [z0, z1, z2] st v G Q) := q_w_if_ne c_181_34 (by decide)
theorem c_181_37 : q_code 181 37 = (.iconst 2, 1, 0, 0, 0, 0, 0) := by decide +kernel
theorem e_181_37 (d : Nat)  (z0 z1 z2 : q_V) (st : List q_V) (v : q_H) (G : q_Gr) (Q : q_V → q_H → q_Gr → Prop) : q_wp d 181 37 [z0, z1, z2] st v G Q = q_wp d 181 38 [z0, z1, z2] (.inl 2 :: st) v G Q := q_w_iconst c_181_37
theorem c_181_38 : q_code 181 38 = (.goto 54, 3, 0, 0, 0, 0, 0) := by decide +kernel
theorem e_181_38 (d : Nat)  (z0 z1 z2 : q_V) (st : List q_V) (v : q_H) (G : q_Gr) (Q : q_V → q_H → q_Gr → Prop) : q_wp d 181 38 [z0, z1, z2] st v G Q = q_wp d 181 92 [z0, z1, z2] st v G Q := q_w_goto c_181_38 (by decide)
theorem c_181_41 : q_code 181 41 = (.lload_n 1, 1, 0, 0, 0, 0, 0) := by decide +kernel
theorem e_181_41 (d : Nat) (a : Int) (z0 z2 : q_V) (st : List q_V) (v : q_H) (G : q_Gr) (Q : q_V → q_H → q_Gr → Prop) : q_wp d 181 41 [z0, .inr (.inl a), z2] st v G Q = q_wp d 181 42 [z0, .inr (.inl a), z2] (.inr (.inl a) :: st) v G Q := q_w_lload_n c_181_41 rfl
theorem c_181_42 : q_code 181 42 = (.ldc2_w 253, 3, 0, 0, 0, 1206, 482956239461) := by decide +kernel
theorem e_181_42 (d : Nat)  (z0 z1 z2 : q_V) (st : List q_V) (v : q_H) (G : q_Gr) (Q : q_V → q_H → q_Gr → Prop) : q_wp d 181 42 [z0, z1, z2] st v G Q = q_wp d 181 45 [z0, z1, z2] (.inr (.inl 482956239461) :: st) v G Q := q_w_ldc2 c_181_42
theorem c_181_45 : q_code 181 45 = (.lcmp, 1, 0, 0, 0, 0, 0) := by decide +kernel
theorem e_181_45 (d : Nat) (a b : Int) (z0 z1 z2 : q_V) (st : List q_V) (v : q_H) (G : q_Gr) (Q : q_V → q_H → q_Gr → Prop) : q_wp d 181 45 [z0, z1, z2] (.inr (.inl b) :: .inr (.inl a) :: st) v G Q = ((q_inL a ∧ q_inL b) ∧ q_wp d 181 46 [z0, z1, z2] (.inl (if b < a then 1 else if a = b then 0 else -1) :: st) v G Q) := q_w_lcmp c_181_45
theorem c_181_46 : q_code 181 46 = (.ifCond .ne 7, 3, 0, 0, 0, 0, 0) := by decide +kernel
theorem e_181_46 (d : Nat) (a : Int) (z0 z1 z2 : q_V) (st : List q_V) (v : q_H) (G : q_Gr) (Q : q_V → q_H → q_Gr → Prop) : q_wp d 181 46 [z0, z1, z2] (.inl a :: st) v G Q = ((q_inR a) ∧ if ¬ a = 0 then q_wp d 181 53 [z0, z1, z2] st v G Q else q_wp d 181 49 [z0, z1, z2] st v G Q) := q_w_if_ne c_181_46 (by decide)
theorem c_181_49 : q_code 181 49 = (.iconst 3, 1, 0, 0, 0, 0, 0) := by decide +kernel
theorem e_181_49 (d : Nat)  (z0 z1 z2 : q_V) (st : List q_V) (v : q_H) (G : q_Gr) (Q : q_V → q_H → q_Gr → Prop) : q_wp d 181 49 [z0, z1, z2] st v G Q = q_wp d 181 50 [z0, z1, z2] (.inl 3 :: st) v G Q := q_w_iconst c_181_49
theorem c_181_50 : q_code 181 50 = (.goto 42, 3, 0, 0, 0, 0, 0) := by decide +kernel
theorem e_181_50 (d : Nat)  (z0 z1 z2 : q_V) (st : List q_V) (v : q_H) (G : q_Gr) (Q : q_V → q_H → q_Gr → Prop) : q_wp d 181 50 [z0, z1, z2] st v G Q = q_wp d 181 92 [z0, z1, z2] st v G Q := q_w_goto c_181_50 (by decide)
theorem c_181_53 : q_code 181 53 = (.lload_n 1, 1, 0, 0, 0, 0, 0) := by decide +kernel
theorem e_181_53 (d : Nat) (a : Int) (z0 z2 : q_V) (st : List q_V) (v : q_H) (G : q_Gr) (Q : q_V → q_H → q_Gr → Prop) : q_wp d 181 53 [z0, .inr (.inl a), z2] st v G Q = q_wp d 181 54 [z0, .inr (.inl a), z2] (.inr (.inl a) :: st) v G Q := q_w_lload_n c_181_53 rfl
theorem c_181_54 : q_code 181 54 = (.ldc2_w 255, 3, 0, 0, 0, 1207, 1785686382) := by decide +kernel
theorem e_181_54 (d : Nat)  (z0 z1 z2 : q_V) (st : List q_V) (v : q_H) (G : q_Gr) (Q : q_V → q_H → q_Gr → Prop) : q_wp d 181 54 [z0, z1, z2] st v G Q = q_wp d 181 57 [z0, z1, z2] (.inr (.inl 1785686382) :: st) v G Q := q_w_ldc2 c_181_54
theorem c_181_57 : q_code 181 57 = (.lcmp, 1, 0, 0, 0, 0, 0) := by decide +kernel
theorem e_181_57 (d : Nat) (a b : Int) (z0 z1 z2 : q_V) (st : List q_V) (v : q_H) (G : q_Gr) (Q : q_V → q_H → q_Gr → Prop) : q_wp d 181 57 [z0, z1, z2] (.inr (.inl b) :: .inr (.inl a) :: st) v G Q = ((q_inL a ∧ q_inL b) ∧ q_wp d 181 58 [z0, z1, z2] (.inl (if b < a then 1 else if a = b then 0 else -1) :: st) v G Q) := q_w_lcmp c_181_57
theorem c_181_58 : q_code 181 58 = (.ifCond .ne 7, 3, 0, 0, 0, 0, 0) := by decide +kernel
theorem e_181_58 (d : Nat) (a : Int) (z0 z1 z2 : q_V) (st : List q_V) (v : q_H) (G : q_Gr) (Q : q_V → q_H → q_Gr → Prop) : q_wp d 181 58 [z0, z1, z2] (.inl a :: st) v G Q = ((q_inR a) ∧ if ¬ a = 0 then q_wp d 181 65 [z0, z1, z2] st v G Q else q_wp d 181 61 [z0, z1, z2] st v G Q) := q_w_if_ne c_181_58 (by decide)
theorem c_181_61 : q_code 181 61 = (.iconst 4, 1, 0, 0, 0, 0, 0) := by decide +kernel
theorem e_181_61 (d : Nat)  (z0 z1 z2 : q_V) (st : List q_V) (v : q_H) (G : q_Gr) (Q : q_V → q_H → q_Gr → Prop) : q_wp d 181 61 [z0, z1, z2] st v G Q = q_wp d 181 62 [z0, z1, z2] (.inl 4 :: st) v G Q := q_w_iconst c_181_61
theorem c_181_62 : q_code 181 62 = (.goto 30, 3, 0, 0, 0, 0, 0) := by decide +kernel
theorem e_181_62 (d : Nat)  (z0 z1 z2 : q_V) (st : List q_V) (v : q_H) (G : q_Gr) (Q : q_V → q_H → q_Gr → Prop) : q_wp d 181 62 [z0, z1, z2] st v G Q = q_wp d 181 92 [z0, z1, z2] st v G Q := q_w_goto c_181_62 (by decide)
theorem c_181_65 : q_code 181 65 = (.lload_n 1, 1, 0, 0, 0, 0, 0) := by decide +kernel
theorem e_181_65 (d : Nat) (a : Int) (z0 z2 : q_V) (st : List q_V) (v : q_H) (G : q_Gr) (Q : q_V → q_H → q_Gr → Prop) : q_wp d 181 65 [z0, .inr (.inl a), z2] st v G Q = q_wp d 181 66 [z0, .inr (.inl a), z2] (.inr (.inl a) :: st) v G Q := q_w_lload_n c_181_65 rfl
theorem c_181_66 : q_code 181 66 = (.ldc2_w 257, 3, 0, 0, 0, 1208, 469853431653) := by decide +kernel
theorem e_181_66 (d : Nat)  (z0 z1 z2 : q_V) (st : List q_V) (v : q_H) (G : q_Gr) (Q : q_V → q_H → q_Gr → Prop) : q_wp d 181 66 [z0, z1, z2] st v G Q = q_wp d 181 69 [z0, z1, z2] (.inr (.inl 469853431653) :: st) v G Q := q_w_ldc2 c_181_66
theorem c_181_69 : q_code 181 69 = (.lcmp, 1, 0, 0, 0, 0, 0) := by decide +kernel
theorem e_181_69 (d : Nat) (a b : Int) (z0 z1 z2 : q_V) (st : List q_V) (v : q_H) (G : q_Gr) (Q : q_V → q_H → q_Gr → Prop) : q_wp d 181 69 [z0, z1, z2] (.inr (.inl b) :: .inr (.inl a) :: st) v G Q = ((q_inL a ∧ q_inL b) ∧ q_wp d 181 70 [z0, z1, z2] (.inl (if b < a then 1 else if a = b then 0 else -1) :: st) v G Q) := q_w_lcmp c_181_69
theorem c_181_70 : q_code 181 70 = (.ifCond .ne 7, 3, 0, 0, 0, 0, 0) := by decide +kernel
theorem e_181_70 (d : Nat) (a : Int) (z0 z1 z2 : q_V) (st : List q_V) (v : q_H) (G : q_Gr) (Q : q_V → q_H → q_Gr → Prop) : q_wp d 181 70 [z0, z1, z2] (.inl a :: st) v G Q = ((q_inR a) ∧ if ¬ a = 0 then q_wp d 181 77 [z0, z1, z2] st v G Q else q_wp d 181 73 [z0, z1, z2] st v G Q) := q_w_if_ne c_181_70 (by decide)
theorem c_181_73 : q_code 181 73 = (.iconst 5, 1, 0, 0, 0, 0, 0) := by decide +kernel
theorem e_181_73 (d : Nat)  (z0 z1 z2 : q_V) (st : List q_V) (v : q_H) (G : q_Gr) (Q : q_V → q_H → q_Gr → Prop) : q_wp d 181 73 [z0, z1, z2] st v G Q = q_wp d 181 74 [z0, z1, z2] (.inl 5 :: st) v G Q := q_w_iconst c_181_73
theorem c_181_74 : q_code 181 74 = (.goto 18, 3, 0, 0, 0, 0, 0) := by decide +kernel
theorem e_181_74 (d : Nat)  (z0 z1 z2 : q_V) (st : List q_V) (v : q_H) (G : q_Gr) (Q : q_V → q_H → q_Gr → Prop) : q_wp d 181 74 [z0, z1, z2] st v G Q = q_wp d 181 92 [z0, z1, z2] st v G Q := q_w_goto c_181_74 (by decide)
theorem c_181_77 : q_code 181 77 = (.lload_n 1, 1, 0, 0, 0, 0, 0) := by decide +kernel
theorem e_181_77 (d : Nat) (a : Int) (z0 z2 : q_V) (st : List q_V) (v : q_H) (G : q_Gr) (Q : q_V → q_H → q_Gr → Prop) : q_wp d 181 77 [z0, .inr (.inl a), z2] st v G Q = q_wp d 181 78 [z0, .inr (.inl a), z2] (.inr (.inl a) :: st) v G Q := q_w_lload_n c_181_77 rfl
theorem c_181_78 : q_code 181 78 = (.ldc2_w 259, 3, 0, 0, 0, 1209, 7237492) := by decide +kernel
theorem e_181_78 (d : Nat)  (z0 z1 z2 : q_V) (st : List q_V) (v : q_H) (G : q_Gr) (Q : q_V → q_H → q_Gr → Prop) : q_wp d 181 78 [z0, z1, z2] st v G Q = q_wp d 181 81 [z0, z1, z2] (.inr (.inl 7237492) :: st) v G Q := q_w_ldc2 c_181_78
theorem c_181_81 : q_code 181 81 = (.lcmp, 1, 0, 0, 0, 0, 0) := by decide +kernel
theorem e_181_81 (d : Nat) (a b : Int) (z0 z1 z2 : q_V) (st : List q_V) (v : q_H) (G : q_Gr) (Q : q_V → q_H → q_Gr → Prop) : q_wp d 181 81 [z0, z1, z2] (.inr (.inl b) :: .inr (.inl a) :: st) v G Q = ((q_inL a ∧ q_inL b) ∧ q_wp d 181 82 [z0, z1, z2] (.inl (if b < a then 1 else if a = b then 0 else -1) :: st) v G Q) := q_w_lcmp c_181_81
theorem c_181_82 : q_code 181 82 = (.ifCond .ne 8, 3, 0, 0, 0, 0, 0) := by decide +kernel
theorem e_181_82 (d : Nat) (a : Int) (z0 z1 z2 : q_V) (st : List q_V) (v : q_H) (G : q_Gr) (Q : q_V → q_H → q_Gr → Prop) : q_wp d 181 82 [z0, z1, z2] (.inl a :: st) v G Q = ((q_inR a) ∧ if ¬ a = 0 then q_wp d 181 90 [z0, z1, z2] st v G Q else q_wp d 181 85 [z0, z1, z2] st v G Q) := q_w_if_ne c_181_82 (by decide)
theorem c_181_85 : q_code 181 85 = (.bipush 6, 2, 0, 0, 0, 0, 0) := by decide +kernel
theorem e_181_85 (d : Nat)  (z0 z1 z2 : q_V) (st : List q_V) (v : q_H) (G : q_Gr) (Q : q_V → q_H → q_Gr → Prop) : q_wp d 181 85 [z0, z1, z2] st v G Q = q_wp d 181 87 [z0, z1, z2] (.inl 6 :: st) v G Q := (q_w_bipush c_181_85).trans (by simp only [show ((-128 : Int) ≤ 6 ∧ (6 : Int) ≤ 127) = True by decide, true_and])
theorem c_181_87 : q_code 181 87 = (.goto 5, 3, 0, 0, 0, 0, 0) := by decide +kernel
theorem e_181_87 (d : Nat)  (z0 z1 z2 : q_V) (st : List q_V) (v : q_H) (G : q_Gr) (Q : q_V → q_H → q_Gr → Prop) : q_wp d 181 87 [z0, z1, z2] st v G Q = q_wp d 181 92 [z0, z1, z2] st v G Q := q_w_goto c_181_87 (by decide)
theorem c_181_90 : q_code 181 90 = (.ldc 205, 2, 0, 0, 0, 1187, (-1000000)) := by decide +kernel
theorem e_181_90 (d : Nat)  (z0 z1 z2 : q_V) (st : List q_V) (v : q_H) (G : q_Gr) (Q : q_V → q_H → q_Gr → Prop) : q_wp d 181 90 [z0, z1, z2] st v G Q = q_wp d 181 92 [z0, z1, z2] (.inl (-1000000) :: st) v G Q := q_w_ldc c_181_90
theorem c_181_92 : q_code 181 92 = (.ireturn, 1, 0, 0, 0, 0, 0) := by decide +kernel
theorem e_181_92 (d : Nat) (a : Int) (z0 z1 z2 : q_V) (v : q_H) (G : q_Gr) (Q : q_V → q_H → q_Gr → Prop) : q_wp d 181 92 [z0, z1, z2] [.inl a] v G Q = Q (.inl a) v G := q_w_ireturn c_181_92 rfl
theorem e_181 (d : Nat) (a0 : Nat) (v : q_H) (G : q_Gr) (Q : q_V → q_H → q_Gr → Prop) : q_call (d + 1) 181 [.inr (.inr (.inl (some a0)))] v G Q = ((G.2.1 a0).1 = 11 ∧ q_wp d 181 0 [.inr (.inr (.inl (some a0))), .inr (.inr (.inr ())), .inr (.inr (.inr ()))] [] v G Q) := by
  rw [q_call_in (by decide) (Nat.le_of_ble_eq_true rfl) rfl]
  exact congrArg (· ∧ _) (propext beq_iff_eq)
/-- all but the heads of loops: [] -/
def E181 := And.intro @e_181 (And.intro @e_181_0 (And.intro @e_181_1 (And.intro @e_181_4 (And.intro @e_181_5 (And.intro @e_181_6 (And.intro @e_181_9 (And.intro @e_181_10 (And.intro @e_181_13 (And.intro @e_181_14 (And.intro @e_181_17 (And.intro @e_181_18 (And.intro @e_181_21 (And.intro @e_181_22 (And.intro @e_181_25 (And.intro @e_181_26 (And.intro @e_181_29 (And.intro @e_181_30 (And.intro @e_181_33 (And.intro @e_181_34 (And.intro @e_181_37 (And.intro @e_181_38 (And.intro @e_181_41 (And.intro @e_181_42 (And.intro @e_181_45 (And.intro @e_181_46 (And.intro @e_181_49 (And.intro @e_181_50 (And.intro @e_181_53 (And.intro @e_181_54 (And.intro @e_181_57 (And.intro @e_181_58 (And.intro @e_181_61 (And.intro @e_181_62 (And.intro @e_181_65 (And.intro @e_181_66 (And.intro @e_181_69 (And.intro @e_181_70 (And.intro @e_181_73 (And.intro @e_181_74 (And.intro @e_181_77 (And.intro @e_181_78 (And.intro @e_181_81 (And.intro @e_181_82 (And.intro @e_181_85 (And.intro @e_181_87 (And.intro @e_181_90 (@e_181_92)))))))))))))))))))))))))))))))))))))))))))))))
/-! ProvenRowsModel.readAct()V -/
theorem c_182_0 : q_code 182 0 = (.aload_n 0, 1, 0, 0, 0, 0, 0) := by decide +kernel
theorem e_182_0 (d : Nat) (a : Option Nat) (z1 z2 z3 z4 z5 : q_V) (st : List q_V) (v : q_H) (G : q_Gr) (Q : q_V → q_H → q_Gr → Prop) : q_wp d 182 0 [.inr (.inr (.inl a)), z1, z2, z3, z4, z5] st v G Q = q_wp d 182 1 [.inr (.inr (.inl a)), z1, z2, z3, z4, z5] (.inr (.inr (.inl a)) :: st) v G Q := q_w_aload_n c_182_0 rfl
theorem c_182_1 : q_code 182 1 = (.invokevirtual 261, 3, 181, 1, 0, 1197, 1) := by decide +kernel
theorem e_182_1 (d : Nat) (x0 : q_V) (z0 z1 z2 z3 z4 z5 : q_V) (v : q_H) (G : q_Gr) (Q : q_V → q_H → q_Gr → Prop) : q_wp d 182 1 [z0, z1, z2, z3, z4, z5] [x0] v G Q = q_call d 181 [x0] v G (fun r v G => q_wp d 182 4 [z0, z1, z2, z3, z4, z5] (q_push r []) v G Q) := q_wp_ca (m2 := 181) (k := 1) (as := [x0]) (rest := []) (congrArg q_kind c_182_1) (congrArg (fun w => w.2.2.1) c_182_1) (congrArg (fun w => w.2.2.2.1) c_182_1) rfl (Nat.le_of_ble_eq_true rfl) rfl
theorem c_182_4 : q_code 182 4 = (.istore_n 1, 1, 0, 0, 0, 0, 0) := by decide +kernel
theorem e_182_4 (d : Nat) (a : Int) (z0 z1 z2 z3 z4 z5 : q_V) (st : List q_V) (v : q_H) (G : q_Gr) (Q : q_V → q_H → q_Gr → Prop) : q_wp d 182 4 [z0, z1, z2, z3, z4, z5] (.inl a :: st) v G Q = q_wp d 182 5 [z0, .inl a, z2, z3, z4, z5] st v G Q := q_w_istore_n c_182_4
theorem c_182_5 : q_code 182 5 = (.iload_n 1, 1, 0, 0, 0, 0, 0) := by decide +kernel
theorem e_182_5 (d : Nat) (a : Int) (z0 z2 z3 z4 z5 : q_V) (st : List q_V) (v : q_H) (G : q_Gr) (Q : q_V → q_H → q_Gr → Prop) : q_wp d 182 5 [z0, .inl a, z2, z3, z4, z5] st v G Q = q_wp d 182 6 [z0, .inl a, z2, z3, z4, z5] (.inl a :: st) v G Q := q_w_iload_n c_182_5 rfl
theorem c_182_6 : q_code 182 6 = (.ldc 205, 2, 0, 0, 0, 1187, (-1000000)) := by decide +kernel
theorem e_182_6 (d : Nat)  (z0 z1 z2 z3 z4 z5 : q_V) (st : List q_V) (v : q_H) (G : q_Gr) (Q : q_V → q_H → q_Gr → Prop) : q_wp d 182 6 [z0, z1, z2, z3, z4, z5] st v G Q = q_wp d 182 8 [z0, z1, z2, z3, z4, z5] (.inl (-1000000) :: st) v G Q := q_w_ldc c_182_6
theorem c_182_8 : q_code 182 8 = (.if_icmp .eq 17, 3, 0, 0, 0, 0, 0) := by decide +kernel
theorem e_182_8 (d : Nat) (a b : Int) (z0 z1 z2 z3 z4 z5 : q_V) (st : List q_V) (v : q_H) (G : q_Gr) (Q : q_V → q_H → q_Gr → Prop) : q_wp d 182 8 [z0, z1, z2, z3, z4, z5] (.inl b :: .inl a :: st) v G Q = ((q_inR a ∧ q_inR b) ∧ if a = b then q_wp d 182 25 [z0, z1, z2, z3, z4, z5] st v G Q else q_wp d 182 11 [z0, z1, z2, z3, z4, z5] st v G Q) := q_w_icmp_eq c_182_8 (by decide)
theorem c_182_11 : q_code 182 11 = (.aload_n 0, 1, 0, 0, 0, 0, 0) := by decide +kernel
theorem e_182_11 (d : Nat) (a : Option Nat) (z1 z2 z3 z4 z5 : q_V) (st : List q_V) (v : q_H) (G : q_Gr) (Q : q_V → q_H → q_Gr → Prop) : q_wp d 182 11 [.inr (.inr (.inl a)), z1, z2, z3, z4, z5] st v G Q = q_wp d 182 12 [.inr (.inr (.inl a)), z1, z2, z3, z4, z5] (.inr (.inr (.inl a)) :: st) v G Q := q_w_aload_n c_182_11 rfl
theorem c_182_12 : q_code 182 12 = (.getfield 265, 3, 11, 21, 0, 976, 0) := by decide +kernel
theorem e_182_12 (d : Nat) (a : Nat) (z0 z1 z2 z3 z4 z5 : q_V) (st : List q_V) (v : q_H) (G : q_Gr) (Q : q_V → q_H → q_Gr → Prop) : q_wp d 182 12 [z0, z1, z2, z3, z4, z5] (.inr (.inr (.inl (some a))) :: st) v G Q = (((G.2.1 a).1 = 11) ∧ q_wp d 182 15 [z0, z1, z2, z3, z4, z5] (.inl (v a 21) :: st) v G Q) := q_w_getI c_182_12
theorem c_182_15 : q_code 182 15 = (.bipush 12, 2, 0, 0, 0, 0, 0) := by decide +kernel
theorem e_182_15 (d : Nat)  (z0 z1 z2 z3 z4 z5 : q_V) (st : List q_V) (v : q_H) (G : q_Gr) (Q : q_V → q_H → q_Gr → Prop) : q_wp d 182 15 [z0, z1, z2, z3, z4, z5] st v G Q = q_wp d 182 17 [z0, z1, z2, z3, z4, z5] (.inl 12 :: st) v G Q := (q_w_bipush c_182_15).trans (by simp only [show ((-128 : Int) ≤ 12 ∧ (12 : Int) ≤ 127) = True by decide, true_and])
theorem c_182_17 : q_code 182 17 = (.if_icmp .ne 8, 3, 0, 0, 0, 0, 0) := by decide +kernel
theorem e_182_17 (d : Nat) (a b : Int) (z0 z1 z2 z3 z4 z5 : q_V) (st : List q_V) (v : q_H) (G : q_Gr) (Q : q_V → q_H → q_Gr → Prop) : q_wp d 182 17 [z0, z1, z2, z3, z4, z5] (.inl b :: .inl a :: st) v G Q = ((q_inR a ∧ q_inR b) ∧ if ¬ a = b then q_wp d 182 25 [z0, z1, z2, z3, z4, z5] st v G Q else q_wp d 182 20 [z0, z1, z2, z3, z4, z5] st v G Q) := q_w_icmp_ne c_182_17 (by decide)
theorem c_182_20 : q_code 182 20 = (.aload_n 0, 1, 0, 0, 0, 0, 0) := by decide +kernel
theorem e_182_20 (d : Nat) (a : Option Nat) (z1 z2 z3 z4 z5 : q_V) (st : List q_V) (v : q_H) (G : q_Gr) (Q : q_V → q_H → q_Gr → Prop) : q_wp d 182 20 [.inr (.inr (.inl a)), z1, z2, z3, z4, z5] st v G Q = q_wp d 182 21 [.inr (.inr (.inl a)), z1, z2, z3, z4, z5] (.inr (.inr (.inl a)) :: st) v G Q := q_w_aload_n c_182_20 rfl
theorem c_182_21 : q_code 182 21 = (.iconst 3, 1, 0, 0, 0, 0, 0) := by decide +kernel
theorem e_182_21 (d : Nat)  (z0 z1 z2 z3 z4 z5 : q_V) (st : List q_V) (v : q_H) (G : q_Gr) (Q : q_V → q_H → q_Gr → Prop) : q_wp d 182 21 [z0, z1, z2, z3, z4, z5] st v G Q = q_wp d 182 22 [z0, z1, z2, z3, z4, z5] (.inl 3 :: st) v G Q := q_w_iconst c_182_21
theorem c_182_22 : q_code 182 22 = (.invokevirtual 233, 3, 177, 2, 0, 1210, 0) := by decide +kernel
theorem e_182_22 (d : Nat) (x0 x1 : q_V) (z0 z1 z2 z3 z4 z5 : q_V) (v : q_H) (G : q_Gr) (Q : q_V → q_H → q_Gr → Prop) : q_wp d 182 22 [z0, z1, z2, z3, z4, z5] [x1, x0] v G Q = q_call d 177 [x0, x1] v G (fun r v G => q_wp d 182 25 [z0, z1, z2, z3, z4, z5] (q_push r []) v G Q) := q_wp_ca (m2 := 177) (k := 2) (as := [x0, x1]) (rest := []) (congrArg q_kind c_182_22) (congrArg (fun w => w.2.2.1) c_182_22) (congrArg (fun w => w.2.2.2.1) c_182_22) rfl (Nat.le_of_ble_eq_true rfl) rfl
theorem c_182_25 : q_code 182 25 = (.aload_n 0, 1, 0, 0, 0, 0, 0) := by decide +kernel
theorem e_182_25 (d : Nat) (a : Option Nat) (z1 z2 z3 z4 z5 : q_V) (st : List q_V) (v : q_H) (G : q_Gr) (Q : q_V → q_H → q_Gr → Prop) : q_wp d 182 25 [.inr (.inr (.inl a)), z1, z2, z3, z4, z5] st v G Q = q_wp d 182 26 [.inr (.inr (.inl a)), z1, z2, z3, z4, z5] (.inr (.inr (.inl a)) :: st) v G Q := q_w_aload_n c_182_25 rfl
theorem c_182_26 : q_code 182 26 = (.iload_n 1, 1, 0, 0, 0, 0, 0) := by decide +kernel
theorem e_182_26 (d : Nat) (a : Int) (z0 z2 z3 z4 z5 : q_V) (st : List q_V) (v : q_H) (G : q_Gr) (Q : q_V → q_H → q_Gr → Prop) : q_wp d 182 26 [z0, .inl a, z2, z3, z4, z5] st v G Q = q_wp d 182 27 [z0, .inl a, z2, z3, z4, z5] (.inl a :: st) v G Q := q_w_iload_n c_182_26 rfl
theorem c_182_27 : q_code 182 27 = (.ldc 205, 2, 0, 0, 0, 1187, (-1000000)) := by decide +kernel
theorem e_182_27 (d : Nat)  (z0 z1 z2 z3 z4 z5 : q_V) (st : List q_V) (v : q_H) (G : q_Gr) (Q : q_V → q_H → q_Gr → Prop) : q_wp d 182 27 [z0, z1, z2, z3, z4, z5] st v G Q = q_wp d 182 29 [z0, z1, z2, z3, z4, z5] (.inl (-1000000) :: st) v G Q := q_w_ldc c_182_27
theorem c_182_29 : q_code 182 29 = (.if_icmp .eq 7, 3, 0, 0, 0, 0, 0) := by decide +kernel
theorem e_182_29 (d : Nat) (a b : Int) (z0 z1 z2 z3 z4 z5 : q_V) (st : List q_V) (v : q_H) (G : q_Gr) (Q : q_V → q_H → q_Gr → Prop) : q_wp d 182 29 [z0, z1, z2, z3, z4, z5] (.inl b :: .inl a :: st) v G Q = ((q_inR a ∧ q_inR b) ∧ if a = b then q_wp d 182 36 [z0, z1, z2, z3, z4, z5] st v G Q else q_wp d 182 32 [z0, z1, z2, z3, z4, z5] st v G Q) := q_w_icmp_eq c_182_29 (by decide)
theorem c_182_32 : q_code 182 32 = (.iconst 1, 1, 0, 0, 0, 0, 0) := by decide +kernel
theorem e_182_32 (d : Nat)  (z0 z1 z2 z3 z4 z5 : q_V) (st : List q_V) (v : q_H) (G : q_Gr) (Q : q_V → q_H → q_Gr → Prop) : q_wp d 182 32 [z0, z1, z2, z3, z4, z5] st v G Q = q_wp d 182 33 [z0, z1, z2, z3, z4, z5] (.inl 1 :: st) v G Q := q_w_iconst c_182_32
theorem c_182_33 : q_code 182 33 = (.goto 4, 3, 0, 0, 0, 0, 0) := by decide +kernel
theorem e_182_33 (d : Nat)  (z0 z1 z2 z3 z4 z5 : q_V) (st : List q_V) (v : q_H) (G : q_Gr) (Q : q_V → q_H → q_Gr → Prop) : q_wp d 182 33 [z0, z1, z2, z3, z4, z5] st v G Q = q_wp d 182 37 [z0, z1, z2, z3, z4, z5] st v G Q := q_w_goto c_182_33 (by decide)
theorem c_182_36 : q_code 182 36 = (.iconst 0, 1, 0, 0, 0, 0, 0) := by decide +kernel
theorem e_182_36 (d : Nat)  (z0 z1 z2 z3 z4 z5 : q_V) (st : List q_V) (v : q_H) (G : q_Gr) (Q : q_V → q_H → q_Gr → Prop) : q_wp d 182 36 [z0, z1, z2, z3, z4, z5] st v G Q = q_wp d 182 37 [z0, z1, z2, z3, z4, z5] (.inl 0 :: st) v G Q := q_w_iconst c_182_36
theorem c_182_37 : q_code 182 37 = (.invokevirtual 239, 3, 178, 2, 0, 1213, 0) := by decide +kernel
theorem e_182_37 (d : Nat) (x0 x1 : q_V) (z0 z1 z2 z3 z4 z5 : q_V) (v : q_H) (G : q_Gr) (Q : q_V → q_H → q_Gr → Prop) : q_wp d 182 37 [z0, z1, z2, z3, z4, z5] [x1, x0] v G Q = q_call d 178 [x0, x1] v G (fun r v G => q_wp d 182 40 [z0, z1, z2, z3, z4, z5] (q_push r []) v G Q) := q_wp_ca (m2 := 178) (k := 2) (as := [x0, x1]) (rest := []) (congrArg q_kind c_182_37) (congrArg (fun w => w.2.2.1) c_182_37) (congrArg (fun w => w.2.2.2.1) c_182_37) rfl (Nat.le_of_ble_eq_true rfl) rfl
theorem c_182_40 : q_code 182 40 = (.aload_n 0, 1, 0, 0, 0, 0, 0) := by decide +kernel
theorem e_182_40 (d : Nat) (a : Option Nat) (z1 z2 z3 z4 z5 : q_V) (st : List q_V) (v : q_H) (G : q_Gr) (Q : q_V → q_H → q_Gr → Prop) : q_wp d 182 40 [.inr (.inr (.inl a)), z1, z2, z3, z4, z5] st v G Q = q_wp d 182 41 [.inr (.inr (.inl a)), z1, z2, z3, z4, z5] (.inr (.inr (.inl a)) :: st) v G Q := q_w_aload_n c_182_40 rfl
theorem c_182_41 : q_code 182 41 = (.iconst 0, 1, 0, 0, 0, 0, 0) := by decide +kernel
theorem e_182_41 (d : Nat)  (z0 z1 z2 z3 z4 z5 : q_V) (st : List q_V) (v : q_H) (G : q_Gr) (Q : q_V → q_H → q_Gr → Prop) : q_wp d 182 41 [z0, z1, z2, z3, z4, z5] st v G Q = q_wp d 182 42 [z0, z1, z2, z3, z4, z5] (.inl 0 :: st) v G Q := q_w_iconst c_182_41
theorem c_182_42 : q_code 182 42 = (.iconst 2, 1, 0, 0, 0, 0, 0) := by decide +kernel
theorem e_182_42 (d : Nat)  (z0 z1 z2 z3 z4 z5 : q_V) (st : List q_V) (v : q_H) (G : q_Gr) (Q : q_V → q_H → q_Gr → Prop) : q_wp d 182 42 [z0, z1, z2, z3, z4, z5] st v G Q = q_wp d 182 43 [z0, z1, z2, z3, z4, z5] (.inl 2 :: st) v G Q := q_w_iconst c_182_42
theorem c_182_43 : q_code 182 43 = (.invokevirtual 268, 3, 180, 3, 0, 1216, 1) := by decide +kernel
theorem e_182_43 (d : Nat) (x0 x1 x2 : q_V) (z0 z1 z2 z3 z4 z5 : q_V) (v : q_H) (G : q_Gr) (Q : q_V → q_H → q_Gr → Prop) : q_wp d 182 43 [z0, z1, z2, z3, z4, z5] [x2, x1, x0] v G Q = q_call d 180 [x0, x1, x2] v G (fun r v G => q_wp d 182 46 [z0, z1, z2, z3, z4, z5] (q_push r []) v G Q) := q_wp_ca (m2 := 180) (k := 3) (as := [x0, x1, x2]) (rest := []) (congrArg q_kind c_182_43) (congrArg (fun w => w.2.2.1) c_182_43) (congrArg (fun w => w.2.2.2.1) c_182_43) rfl (Nat.le_of_ble_eq_true rfl) rfl
theorem c_182_46 : q_code 182 46 = (.istore_n 2, 1, 0, 0, 0, 0, 0) := by decide +kernel
theorem e_182_46 (d : Nat) (a : Int) (z0 z1 z2 z3 z4 z5 : q_V) (st : List q_V) (v : q_H) (G : q_Gr) (Q : q_V → q_H → q_Gr → Prop) : q_wp d 182 46 [z0, z1, z2, z3, z4, z5] (.inl a :: st) v G Q = q_wp d 182 47 [z0, z1, .inl a, z3, z4, z5] st v G Q := q_w_istore_n c_182_46
theorem c_182_47 : q_code 182 47 = (.iload_n 1, 1, 0, 0, 0, 0, 0) := by decide +kernel
theorem e_182_47 (d : Nat) (a : Int) (z0 z2 z3 z4 z5 : q_V) (st : List q_V) (v : q_H) (G : q_Gr) (Q : q_V → q_H → q_Gr → Prop) : q_wp d 182 47 [z0, .inl a, z2, z3, z4, z5] st v G Q = q_wp d 182 48 [z0, .inl a, z2, z3, z4, z5] (.inl a :: st) v G Q := q_w_iload_n c_182_47 rfl
theorem c_182_48 : q_code 182 48 = (.iconst 4, 1, 0, 0, 0, 0, 0) := by decide +kernel
theorem e_182_48 (d : Nat)  (z0 z1 z2 z3 z4 z5 : q_V) (st : List q_V) (v : q_H) (G : q_Gr) (Q : q_V → q_H → q_Gr → Prop) : q_wp d 182 48 [z0, z1, z2, z3, z4, z5] st v G Q = q_wp d 182 49 [z0, z1, z2, z3, z4, z5] (.inl 4 :: st) v G Q := q_w_iconst c_182_48
theorem c_182_49 : q_code 182 49 = (.if_icmp .ge 7, 3, 0, 0, 0, 0, 0) := by decide +kernel
theorem e_182_49 (d : Nat) (a b : Int) (z0 z1 z2 z3 z4 z5 : q_V) (st : List q_V) (v : q_H) (G : q_Gr) (Q : q_V → q_H → q_Gr → Prop) : q_wp d 182 49 [z0, z1, z2, z3, z4, z5] (.inl b :: .inl a :: st) v G Q = ((q_inR a ∧ q_inR b) ∧ if b ≤ a then q_wp d 182 56 [z0, z1, z2, z3, z4, z5] st v G Q else q_wp d 182 52 [z0, z1, z2, z3, z4, z5] st v G Q) := q_w_icmp_ge c_182_49 (by decide)
theorem c_182_52 : q_code 182 52 = (.iload_n 2, 1, 0, 0, 0, 0, 0) := by decide +kernel
theorem e_182_52 (d : Nat) (a : Int) (z0 z1 z3 z4 z5 : q_V) (st : List q_V) (v : q_H) (G : q_Gr) (Q : q_V → q_H → q_Gr → Prop) : q_wp d 182 52 [z0, z1, .inl a, z3, z4, z5] st v G Q = q_wp d 182 53 [z0, z1, .inl a, z3, z4, z5] (.inl a :: st) v G Q := q_w_iload_n c_182_52 rfl
theorem c_182_53 : q_code 182 53 = (.goto 9, 3, 0, 0, 0, 0, 0) := by decide +kernel
theorem e_182_53 (d : Nat)  (z0 z1 z2 z3 z4 z5 : q_V) (st : List q_V) (v : q_H) (G : q_Gr) (Q : q_V → q_H → q_Gr → Prop) : q_wp d 182 53 [z0, z1, z2, z3, z4, z5] st v G Q = q_wp d 182 62 [z0, z1, z2, z3, z4, z5] st v G Q := q_w_goto c_182_53 (by decide)
theorem c_182_56 : q_code 182 56 = (.aload_n 0, 1, 0, 0, 0, 0, 0) := by decide +kernel
theorem e_182_56 (d : Nat) (a : Option Nat) (z1 z2 z3 z4 z5 : q_V) (st : List q_V) (v : q_H) (G : q_Gr) (Q : q_V → q_H → q_Gr → Prop) : q_wp d 182 56 [.inr (.inr (.inl a)), z1, z2, z3, z4, z5] st v G Q = q_wp d 182 57 [.inr (.inr (.inl a)), z1, z2, z3, z4, z5] (.inr (.inr (.inl a)) :: st) v G Q := q_w_aload_n c_182_56 rfl
theorem c_182_57 : q_code 182 57 = (.iconst 0, 1, 0, 0, 0, 0, 0) := by decide +kernel
theorem e_182_57 (d : Nat)  (z0 z1 z2 z3 z4 z5 : q_V) (st : List q_V) (v : q_H) (G : q_Gr) (Q : q_V → q_H → q_Gr → Prop) : q_wp d 182 57 [z0, z1, z2, z3, z4, z5] st v G Q = q_wp d 182 58 [z0, z1, z2, z3, z4, z5] (.inl 0 :: st) v G Q := q_w_iconst c_182_57
theorem c_182_58 : q_code 182 58 = (.iconst 2, 1, 0, 0, 0, 0, 0) := by decide +kernel
theorem e_182_58 (d : Nat)  (z0 z1 z2 z3 z4 z5 : q_V) (st : List q_V) (v : q_H) (G : q_Gr) (Q : q_V → q_H → q_Gr → Prop) : q_wp d 182 58 [z0, z1, z2, z3, z4, z5] st v G Q = q_wp d 182 59 [z0, z1, z2, z3, z4, z5] (.inl 2 :: st) v G Q := q_w_iconst c_182_58
theorem c_182_59 : q_code 182 59 = (.invokevirtual 268, 3, 180, 3, 0, 1216, 1) := by decide +kernel
theorem e_182_59 (d : Nat) (x0 x1 x2 : q_V) (z0 z1 z2 z3 z4 z5 : q_V) (v : q_H) (G : q_Gr) (Q : q_V → q_H → q_Gr → Prop) : q_wp d 182 59 [z0, z1, z2, z3, z4, z5] [x2, x1, x0] v G Q = q_call d 180 [x0, x1, x2] v G (fun r v G => q_wp d 182 62 [z0, z1, z2, z3, z4, z5] (q_push r []) v G Q) := q_wp_ca (m2 := 180) (k := 3) (as := [x0, x1, x2]) (rest := []) (congrArg q_kind c_182_59) (congrArg (fun w => w.2.2.1) c_182_59) (congrArg (fun w => w.2.2.2.1) c_182_59) rfl (Nat.le_of_ble_eq_true rfl) rfl
theorem c_182_62 : q_code 182 62 = (.istore_n 3, 1, 0, 0, 0, 0, 0) := by decide +kernel
theorem e_182_62 (d : Nat) (a : Int) (z0 z1 z2 z3 z4 z5 : q_V) (st : List q_V) (v : q_H) (G : q_Gr) (Q : q_V → q_H → q_Gr → Prop) : q_wp d 182 62 [z0, z1, z2, z3, z4, z5] (.inl a :: st) v G Q = q_wp d 182 63 [z0, z1, z2, .inl a, z4, z5] st v G Q := q_w_istore_n c_182_62
theorem c_182_63 : q_code 182 63 = (.aload_n 0, 1, 0, 0, 0, 0, 0) := by decide +kernel
theorem e_182_63 (d : Nat) (a : Option Nat) (z1 z2 z3 z4 z5 : q_V) (st : List q_V) (v : q_H) (G : q_Gr) (Q : q_V → q_H → q_Gr → Prop) : q_wp d 182 63 [.inr (.inr (.inl a)), z1, z2, z3, z4, z5] st v G Q = q_wp d 182 64 [.inr (.inr (.inl a)), z1, z2, z3, z4, z5] (.inr (.inr (.inl a)) :: st) v G Q := q_w_aload_n c_182_63 rfl
theorem c_182_64 : q_code 182 64 = (.iconst 0, 1, 0, 0, 0, 0, 0) := by decide +kernel
theorem e_182_64 (d : Nat)  (z0 z1 z2 z3 z4 z5 : q_V) (st : List q_V) (v : q_H) (G : q_Gr) (Q : q_V → q_H → q_Gr → Prop) : q_wp d 182 64 [z0, z1, z2, z3, z4, z5] st v G Q = q_wp d 182 65 [z0, z1, z2, z3, z4, z5] (.inl 0 :: st) v G Q := q_w_iconst c_182_64
theorem c_182_65 : q_code 182 65 = (.sipush 999, 3, 0, 0, 0, 0, 0) := by decide +kernel
theorem e_182_65 (d : Nat)  (z0 z1 z2 z3 z4 z5 : q_V) (st : List q_V) (v : q_H) (G : q_Gr) (Q : q_V → q_H → q_Gr → Prop) : q_wp d 182 65 [z0, z1, z2, z3, z4, z5] st v G Q = q_wp d 182 68 [z0, z1, z2, z3, z4, z5] (.inl 999 :: st) v G Q := (q_w_sipush c_182_65).trans (by simp only [show ((-32768 : Int) ≤ 999 ∧ (999 : Int) ≤ 32767) = True by decide, true_and])
theorem c_182_68 : q_code 182 68 = (.invokevirtual 268, 3, 180, 3, 0, 1216, 1) := by decide +kernel
theorem e_182_68 (d : Nat) (x0 x1 x2 : q_V) (z0 z1 z2 z3 z4 z5 : q_V) (v : q_H) (G : q_Gr) (Q : q_V → q_H → q_Gr → Prop) : q_wp d 182 68 [z0, z1, z2, z3, z4, z5] [x2, x1, x0] v G Q = q_call d 180 [x0, x1, x2] v G (fun r v G => q_wp d 182 71 [z0, z1, z2, z3, z4, z5] (q_push r []) v G Q) := q_wp_ca (m2 := 180) (k := 3) (as := [x0, x1, x2]) (rest := []) (congrArg q_kind c_182_68) (congrArg (fun w => w.2.2.1) c_182_68) (congrArg (fun w => w.2.2.2.1) c_182_68) rfl (Nat.le_of_ble_eq_true rfl) rfl
theorem c_182_71 : q_code 182 71 = (.istore 4, 2, 0, 0, 0, 0, 0) := by decide +kernel
theorem e_182_71 (d : Nat) (a : Int) (z0 z1 z2 z3 z4 z5 : q_V) (st : List q_V) (v : q_H) (G : q_Gr) (Q : q_V → q_H → q_Gr → Prop) : q_wp d 182 71 [z0, z1, z2, z3, z4, z5] (.inl a :: st) v G Q = q_wp d 182 73 [z0, z1, z2, z3, .inl a, z5] st v G Q := q_w_istore c_182_71
theorem c_182_73 : q_code 182 73 = (.iload_n 1, 1, 0, 0, 0, 0, 0) := by decide +kernel
theorem e_182_73 (d : Nat) (a : Int) (z0 z2 z3 z4 z5 : q_V) (st : List q_V) (v : q_H) (G : q_Gr) (Q : q_V → q_H → q_Gr → Prop) : q_wp d 182 73 [z0, .inl a, z2, z3, z4, z5] st v G Q = q_wp d 182 74 [z0, .inl a, z2, z3, z4, z5] (.inl a :: st) v G Q := q_w_iload_n c_182_73 rfl
theorem c_182_74 : q_code 182 74 = (.iconst 3, 1, 0, 0, 0, 0, 0) := by decide +kernel
theorem e_182_74 (d : Nat)  (z0 z1 z2 z3 z4 z5 : q_V) (st : List q_V) (v : q_H) (G : q_Gr) (Q : q_V → q_H → q_Gr → Prop) : q_wp d 182 74 [z0, z1, z2, z3, z4, z5] st v G Q = q_wp d 182 75 [z0, z1, z2, z3, z4, z5] (.inl 3 :: st) v G Q := q_w_iconst c_182_74
theorem c_182_75 : q_code 182 75 = (.if_icmp .ne 8, 3, 0, 0, 0, 0, 0) := by decide +kernel
theorem e_182_75 (d : Nat) (a b : Int) (z0 z1 z2 z3 z4 z5 : q_V) (st : List q_V) (v : q_H) (G : q_Gr) (Q : q_V → q_H → q_Gr → Prop) : q_wp d 182 75 [z0, z1, z2, z3, z4, z5] (.inl b :: .inl a :: st) v G Q = ((q_inR a ∧ q_inR b) ∧ if ¬ a = b then q_wp d 182 83 [z0, z1, z2, z3, z4, z5] st v G Q else q_wp d 182 78 [z0, z1, z2, z3, z4, z5] st v G Q) := q_w_icmp_ne c_182_75 (by decide)
theorem c_182_78 : q_code 182 78 = (.iload 4, 2, 0, 0, 0, 0, 0) := by decide +kernel
theorem e_182_78 (d : Nat) (a : Int) (z0 z1 z2 z3 z5 : q_V) (st : List q_V) (v : q_H) (G : q_Gr) (Q : q_V → q_H → q_Gr → Prop) : q_wp d 182 78 [z0, z1, z2, z3, .inl a, z5] st v G Q = q_wp d 182 80 [z0, z1, z2, z3, .inl a, z5] (.inl a :: st) v G Q := q_w_iload c_182_78 rfl
theorem c_182_80 : q_code 182 80 = (.goto 27, 3, 0, 0, 0, 0, 0) := by decide +kernel
theorem e_182_80 (d : Nat)  (z0 z1 z2 z3 z4 z5 : q_V) (st : List q_V) (v : q_H) (G : q_Gr) (Q : q_V → q_H → q_Gr → Prop) : q_wp d 182 80 [z0, z1, z2, z3, z4, z5] st v G Q = q_wp d 182 107 [z0, z1, z2, z3, z4, z5] st v G Q := q_w_goto c_182_80 (by decide)
theorem c_182_83 : q_code 182 83 = (.iload_n 1, 1, 0, 0, 0, 0, 0) := by decide +kernel
theorem e_182_83 (d : Nat) (a : Int) (z0 z2 z3 z4 z5 : q_V) (st : List q_V) (v : q_H) (G : q_Gr) (Q : q_V → q_H → q_Gr → Prop) : q_wp d 182 83 [z0, .inl a, z2, z3, z4, z5] st v G Q = q_wp d 182 84 [z0, .inl a, z2, z3, z4, z5] (.inl a :: st) v G Q := q_w_iload_n c_182_83 rfl
theorem c_182_84 : q_code 182 84 = (.iconst 2, 1, 0, 0, 0, 0, 0) := by decide +kernel
theorem e_182_84 (d : Nat)  (z0 z1 z2 z3 z4 z5 : q_V) (st : List q_V) (v : q_H) (G : q_Gr) (Q : q_V → q_H → q_Gr → Prop) : q_wp d 182 84 [z0, z1, z2, z3, z4, z5] st v G Q = q_wp d 182 85 [z0, z1, z2, z3, z4, z5] (.inl 2 :: st) v G Q := q_w_iconst c_182_84
theorem c_182_85 : q_code 182 85 = (.if_icmp .ne 13, 3, 0, 0, 0, 0, 0) := by decide +kernel
theorem e_182_85 (d : Nat) (a b : Int) (z0 z1 z2 z3 z4 z5 : q_V) (st : List q_V) (v : q_H) (G : q_Gr) (Q : q_V → q_H → q_Gr → Prop) : q_wp d 182 85 [z0, z1, z2, z3, z4, z5] (.inl b :: .inl a :: st) v G Q = ((q_inR a ∧ q_inR b) ∧ if ¬ a = b then q_wp d 182 98 [z0, z1, z2, z3, z4, z5] st v G Q else q_wp d 182 88 [z0, z1, z2, z3, z4, z5] st v G Q) := q_w_icmp_ne c_182_85 (by decide)
theorem c_182_88 : q_code 182 88 = (.aload_n 0, 1, 0, 0, 0, 0, 0) := by decide +kernel
theorem e_182_88 (d : Nat) (a : Option Nat) (z1 z2 z3 z4 z5 : q_V) (st : List q_V) (v : q_H) (G : q_Gr) (Q : q_V → q_H → q_Gr → Prop) : q_wp d 182 88 [.inr (.inr (.inl a)), z1, z2, z3, z4, z5] st v G Q = q_wp d 182 89 [.inr (.inr (.inl a)), z1, z2, z3, z4, z5] (.inr (.inr (.inl a)) :: st) v G Q := q_w_aload_n c_182_88 rfl
theorem c_182_89 : q_code 182 89 = (.iconst 1, 1, 0, 0, 0, 0, 0) := by decide +kernel
theorem e_182_89 (d : Nat)  (z0 z1 z2 z3 z4 z5 : q_V) (st : List q_V) (v : q_H) (G : q_Gr) (Q : q_V → q_H → q_Gr → Prop) : q_wp d 182 89 [z0, z1, z2, z3, z4, z5] st v G Q = q_wp d 182 90 [z0, z1, z2, z3, z4, z5] (.inl 1 :: st) v G Q := q_w_iconst c_182_89
theorem c_182_90 : q_code 182 90 = (.bipush 14, 2, 0, 0, 0, 0, 0) := by decide +kernel
theorem e_182_90 (d : Nat)  (z0 z1 z2 z3 z4 z5 : q_V) (st : List q_V) (v : q_H) (G : q_Gr) (Q : q_V → q_H → q_Gr → Prop) : q_wp d 182 90 [z0, z1, z2, z3, z4, z5] st v G Q = q_wp d 182 92 [z0, z1, z2, z3, z4, z5] (.inl 14 :: st) v G Q := (q_w_bipush c_182_90).trans (by simp only [show ((-128 : Int) ≤ 14 ∧ (14 : Int) ≤ 127) = True by decide, true_and])
theorem c_182_92 : q_code 182 92 = (.invokevirtual 268, 3, 180, 3, 0, 1216, 1) := by decide +kernel
theorem e_182_92 (d : Nat) (x0 x1 x2 : q_V) (z0 z1 z2 z3 z4 z5 : q_V) (v : q_H) (G : q_Gr) (Q : q_V → q_H → q_Gr → Prop) : q_wp d 182 92 [z0, z1, z2, z3, z4, z5] [x2, x1, x0] v G Q = q_call d 180 [x0, x1, x2] v G (fun r v G => q_wp d 182 95 [z0, z1, z2, z3, z4, z5] (q_push r []) v G Q) := q_wp_ca (m2 := 180) (k := 3) (as := [x0, x1, x2]) (rest := []) (congrArg q_kind c_182_92) (congrArg (fun w => w.2.2.1) c_182_92) (congrArg (fun w => w.2.2.2.1) c_182_92) rfl (Nat.le_of_ble_eq_true rfl) rfl
theorem c_182_95 : q_code 182 95 = (.goto 12, 3, 0, 0, 0, 0, 0) := by decide +kernel
theorem e_182_95 (d : Nat)  (z0 z1 z2 z3 z4 z5 : q_V) (st : List q_V) (v : q_H) (G : q_Gr) (Q : q_V → q_H → q_Gr → Prop) : q_wp d 182 95 [z0, z1, z2, z3, z4, z5] st v G Q = q_wp d 182 107 [z0, z1, z2, z3, z4, z5] st v G Q := q_w_goto c_182_95 (by decide)
theorem c_182_98 : q_code 182 98 = (.aload_n 0, 1, 0, 0, 0, 0, 0) := by decide +kernel
theorem e_182_98 (d : Nat) (a : Option Nat) (z1 z2 z3 z4 z5 : q_V) (st : List q_V) (v : q_H) (G : q_Gr) (Q : q_V → q_H → q_Gr → Prop) : q_wp d 182 98 [.inr (.inr (.inl a)), z1, z2, z3, z4, z5] st v G Q = q_wp d 182 99 [.inr (.inr (.inl a)), z1, z2, z3, z4, z5] (.inr (.inr (.inl a)) :: st) v G Q := q_w_aload_n c_182_98 rfl
theorem c_182_99 : q_code 182 99 = (.iload 4, 2, 0, 0, 0, 0, 0) := by decide +kernel
theorem e_182_99 (d : Nat) (a : Int) (z0 z1 z2 z3 z5 : q_V) (st : List q_V) (v : q_H) (G : q_Gr) (Q : q_V → q_H → q_Gr → Prop) : q_wp d 182 99 [z0, z1, z2, z3, .inl a, z5] st v G Q = q_wp d 182 101 [z0, z1, z2, z3, .inl a, z5] (.inl a :: st) v G Q := q_w_iload c_182_99 rfl
theorem c_182_101 : q_code 182 101 = (.sipush 999, 3, 0, 0, 0, 0, 0) := by decide +kernel
theorem e_182_101 (d : Nat)  (z0 z1 z2 z3 z4 z5 : q_V) (st : List q_V) (v : q_H) (G : q_Gr) (Q : q_V → q_H → q_Gr → Prop) : q_wp d 182 101 [z0, z1, z2, z3, z4, z5] st v G Q = q_wp d 182 104 [z0, z1, z2, z3, z4, z5] (.inl 999 :: st) v G Q := (q_w_sipush c_182_101).trans (by simp only [show ((-32768 : Int) ≤ 999 ∧ (999 : Int) ≤ 32767) = True by decide, true_and])
theorem c_182_104 : q_code 182 104 = (.invokevirtual 268, 3, 180, 3, 0, 1216, 1) := by decide +kernel
theorem e_182_104 (d : Nat) (x0 x1 x2 : q_V) (z0 z1 z2 z3 z4 z5 : q_V) (v : q_H) (G : q_Gr) (Q : q_V → q_H → q_Gr → Prop) : q_wp d 182 104 [z0, z1, z2, z3, z4, z5] [x2, x1, x0] v G Q = q_call d 180 [x0, x1, x2] v G (fun r v G => q_wp d 182 107 [z0, z1, z2, z3, z4, z5] (q_push r []) v G Q) := q_wp_ca (m2 := 180) (k := 3) (as := [x0, x1, x2]) (rest := []) (congrArg q_kind c_182_104) (congrArg (fun w => w.2.2.1) c_182_104) (congrArg (fun w => w.2.2.2.1) c_182_104) rfl (Nat.le_of_ble_eq_true rfl) rfl
theorem c_182_107 : q_code 182 107 = (.istore 5, 2, 0, 0, 0, 0, 0) := by decide +kernel
theorem e_182_107 (d : Nat) (a : Int) (z0 z1 z2 z3 z4 z5 : q_V) (st : List q_V) (v : q_H) (G : q_Gr) (Q : q_V → q_H → q_Gr → Prop) : q_wp d 182 107 [z0, z1, z2, z3, z4, z5] (.inl a :: st) v G Q = q_wp d 182 109 [z0, z1, z2, z3, z4, .inl a] st v G Q := q_w_istore c_182_107
theorem c_182_109 : q_code 182 109 = (.aload_n 0, 1, 0, 0, 0, 0, 0) := by decide +kernel
theorem e_182_109 (d : Nat) (a : Option Nat) (z1 z2 z3 z4 z5 : q_V) (st : List q_V) (v : q_H) (G : q_Gr) (Q : q_V → q_H → q_Gr → Prop) : q_wp d 182 109 [.inr (.inr (.inl a)), z1, z2, z3, z4, z5] st v G Q = q_wp d 182 110 [.inr (.inr (.inl a)), z1, z2, z3, z4, z5] (.inr (.inr (.inl a)) :: st) v G Q := q_w_aload_n c_182_109 rfl
theorem c_182_110 : q_code 182 110 = (.getfield 227, 3, 11, 30, 0, 985, 0) := by decide +kernel
theorem e_182_110 (d : Nat) (a : Nat) (z0 z1 z2 z3 z4 z5 : q_V) (st : List q_V) (v : q_H) (G : q_Gr) (Q : q_V → q_H → q_Gr → Prop) : q_wp d 182 110 [z0, z1, z2, z3, z4, z5] (.inr (.inr (.inl (some a))) :: st) v G Q = (((G.2.1 a).1 = 11) ∧ q_wp d 182 113 [z0, z1, z2, z3, z4, z5] (.inl (v a 30) :: st) v G Q) := q_w_getI c_182_110
theorem c_182_113 : q_code 182 113 = (.ifCond .ne 20, 3, 0, 0, 0, 0, 0) := by decide +kernel
theorem e_182_113 (d : Nat) (a : Int) (z0 z1 z2 z3 z4 z5 : q_V) (st : List q_V) (v : q_H) (G : q_Gr) (Q : q_V → q_H → q_Gr → Prop) : q_wp d 182 113 [z0, z1, z2, z3, z4, z5] (.inl a :: st) v G Q = ((q_inR a) ∧ if ¬ a = 0 then q_wp d 182 133 [z0, z1, z2, z3, z4, z5] st v G Q else q_wp d 182 116 [z0, z1, z2, z3, z4, z5] st v G Q) := q_w_if_ne c_182_113 (by decide)
theorem c_182_116 : q_code 182 116 = (.aload_n 0, 1, 0, 0, 0, 0, 0) := by decide +kernel
theorem e_182_116 (d : Nat) (a : Option Nat) (z1 z2 z3 z4 z5 : q_V) (st : List q_V) (v : q_H) (G : q_Gr) (Q : q_V → q_H → q_Gr → Prop) : q_wp d 182 116 [.inr (.inr (.inl a)), z1, z2, z3, z4, z5] st v G Q = q_wp d 182 117 [.inr (.inr (.inl a)), z1, z2, z3, z4, z5] (.inr (.inr (.inl a)) :: st) v G Q := q_w_aload_n c_182_116 rfl
theorem c_182_117 : q_code 182 117 = (.aload_n 0, 1, 0, 0, 0, 0, 0) := by decide +kernel
theorem e_182_117 (d : Nat) (a : Option Nat) (z1 z2 z3 z4 z5 : q_V) (st : List q_V) (v : q_H) (G : q_Gr) (Q : q_V → q_H → q_Gr → Prop) : q_wp d 182 117 [.inr (.inr (.inl a)), z1, z2, z3, z4, z5] st v G Q = q_wp d 182 118 [.inr (.inr (.inl a)), z1, z2, z3, z4, z5] (.inr (.inr (.inl a)) :: st) v G Q := q_w_aload_n c_182_117 rfl
theorem c_182_118 : q_code 182 118 = (.getfield 215, 3, 11, 27, 0, 982, 0) := by decide +kernel
theorem e_182_118 (d : Nat) (a : Nat) (z0 z1 z2 z3 z4 z5 : q_V) (st : List q_V) (v : q_H) (G : q_Gr) (Q : q_V → q_H → q_Gr → Prop) : q_wp d 182 118 [z0, z1, z2, z3, z4, z5] (.inr (.inr (.inl (some a))) :: st) v G Q = (((G.2.1 a).1 = 11) ∧ q_wp d 182 121 [z0, z1, z2, z3, z4, z5] (.inl (v a 27) :: st) v G Q) := q_w_getI c_182_118
theorem c_182_121 : q_code 182 121 = (.iconst 4, 1, 0, 0, 0, 0, 0) := by decide +kernel
theorem e_182_121 (d : Nat)  (z0 z1 z2 z3 z4 z5 : q_V) (st : List q_V) (v : q_H) (G : q_Gr) (Q : q_V → q_H → q_Gr → Prop) : q_wp d 182 121 [z0, z1, z2, z3, z4, z5] st v G Q = q_wp d 182 122 [z0, z1, z2, z3, z4, z5] (.inl 4 :: st) v G Q := q_w_iconst c_182_121
theorem c_182_122 : q_code 182 122 = (.if_icmp .ne 7, 3, 0, 0, 0, 0, 0) := by decide +kernel
theorem e_182_122 (d : Nat) (a b : Int) (z0 z1 z2 z3 z4 z5 : q_V) (st : List q_V) (v : q_H) (G : q_Gr) (Q : q_V → q_H → q_Gr → Prop) : q_wp d 182 122 [z0, z1, z2, z3, z4, z5] (.inl b :: .inl a :: st) v G Q = ((q_inR a ∧ q_inR b) ∧ if ¬ a = b then q_wp d 182 129 [z0, z1, z2, z3, z4, z5] st v G Q else q_wp d 182 125 [z0, z1, z2, z3, z4, z5] st v G Q) := q_w_icmp_ne c_182_122 (by decide)
theorem c_182_125 : q_code 182 125 = (.iconst 1, 1, 0, 0, 0, 0, 0) := by decide +kernel
theorem e_182_125 (d : Nat)  (z0 z1 z2 z3 z4 z5 : q_V) (st : List q_V) (v : q_H) (G : q_Gr) (Q : q_V → q_H → q_Gr → Prop) : q_wp d 182 125 [z0, z1, z2, z3, z4, z5] st v G Q = q_wp d 182 126 [z0, z1, z2, z3, z4, z5] (.inl 1 :: st) v G Q := q_w_iconst c_182_125
theorem c_182_126 : q_code 182 126 = (.goto 4, 3, 0, 0, 0, 0, 0) := by decide +kernel
theorem e_182_126 (d : Nat)  (z0 z1 z2 z3 z4 z5 : q_V) (st : List q_V) (v : q_H) (G : q_Gr) (Q : q_V → q_H → q_Gr → Prop) : q_wp d 182 126 [z0, z1, z2, z3, z4, z5] st v G Q = q_wp d 182 130 [z0, z1, z2, z3, z4, z5] st v G Q := q_w_goto c_182_126 (by decide)
theorem c_182_129 : q_code 182 129 = (.iconst 0, 1, 0, 0, 0, 0, 0) := by decide +kernel
theorem e_182_129 (d : Nat)  (z0 z1 z2 z3 z4 z5 : q_V) (st : List q_V) (v : q_H) (G : q_Gr) (Q : q_V → q_H → q_Gr → Prop) : q_wp d 182 129 [z0, z1, z2, z3, z4, z5] st v G Q = q_wp d 182 130 [z0, z1, z2, z3, z4, z5] (.inl 0 :: st) v G Q := q_w_iconst c_182_129
theorem c_182_130 : q_code 182 130 = (.invokevirtual 239, 3, 178, 2, 0, 1213, 0) := by decide +kernel
theorem e_182_130 (d : Nat) (x0 x1 : q_V) (z0 z1 z2 z3 z4 z5 : q_V) (v : q_H) (G : q_Gr) (Q : q_V → q_H → q_Gr → Prop) : q_wp d 182 130 [z0, z1, z2, z3, z4, z5] [x1, x0] v G Q = q_call d 178 [x0, x1] v G (fun r v G => q_wp d 182 133 [z0, z1, z2, z3, z4, z5] (q_push r []) v G Q) := q_wp_ca (m2 := 178) (k := 2) (as := [x0, x1]) (rest := []) (congrArg q_kind c_182_130) (congrArg (fun w => w.2.2.1) c_182_130) (congrArg (fun w => w.2.2.2.1) c_182_130) rfl (Nat.le_of_ble_eq_true rfl) rfl
theorem c_182_133 : q_code 182 133 = (.aload_n 0, 1, 0, 0, 0, 0, 0) := by decide +kernel
theorem e_182_133 (d : Nat) (a : Option Nat) (z1 z2 z3 z4 z5 : q_V) (st : List q_V) (v : q_H) (G : q_Gr) (Q : q_V → q_H → q_Gr → Prop) : q_wp d 182 133 [.inr (.inr (.inl a)), z1, z2, z3, z4, z5] st v G Q = q_wp d 182 134 [.inr (.inr (.inl a)), z1, z2, z3, z4, z5] (.inr (.inr (.inl a)) :: st) v G Q := q_w_aload_n c_182_133 rfl
theorem c_182_134 : q_code 182 134 = (.getfield 227, 3, 11, 30, 0, 985, 0) := by decide +kernel
theorem e_182_134 (d : Nat) (a : Nat) (z0 z1 z2 z3 z4 z5 : q_V) (st : List q_V) (v : q_H) (G : q_Gr) (Q : q_V → q_H → q_Gr → Prop) : q_wp d 182 134 [z0, z1, z2, z3, z4, z5] (.inr (.inr (.inl (some a))) :: st) v G Q = (((G.2.1 a).1 = 11) ∧ q_wp d 182 137 [z0, z1, z2, z3, z4, z5] (.inl (v a 30) :: st) v G Q) := q_w_getI c_182_134
theorem c_182_137 : q_code 182 137 = (.ifCond .ne 65, 3, 0, 0, 0, 0, 0) := by decide +kernel
theorem e_182_137 (d : Nat) (a : Int) (z0 z1 z2 z3 z4 z5 : q_V) (st : List q_V) (v : q_H) (G : q_Gr) (Q : q_V → q_H → q_Gr → Prop) : q_wp d 182 137 [z0, z1, z2, z3, z4, z5] (.inl a :: st) v G Q = ((q_inR a) ∧ if ¬ a = 0 then q_wp d 182 202 [z0, z1, z2, z3, z4, z5] st v G Q else q_wp d 182 140 [z0, z1, z2, z3, z4, z5] st v G Q) := q_w_if_ne c_182_137 (by decide)
theorem c_182_140 : q_code 182 140 = (.aload_n 0, 1, 0, 0, 0, 0, 0) := by decide +kernel
theorem e_182_140 (d : Nat) (a : Option Nat) (z1 z2 z3 z4 z5 : q_V) (st : List q_V) (v : q_H) (G : q_Gr) (Q : q_V → q_H → q_Gr → Prop) : q_wp d 182 140 [.inr (.inr (.inl a)), z1, z2, z3, z4, z5] st v G Q = q_wp d 182 141 [.inr (.inr (.inl a)), z1, z2, z3, z4, z5] (.inr (.inr (.inl a)) :: st) v G Q := q_w_aload_n c_182_140 rfl
theorem c_182_141 : q_code 182 141 = (.getfield 43, 3, 11, 16, 1, 971, 0) := by decide +kernel
theorem e_182_141 (d : Nat) (a : Nat) (z0 z1 z2 z3 z4 z5 : q_V) (st : List q_V) (v : q_H) (G : q_Gr) (Q : q_V → q_H → q_Gr → Prop) : q_wp d 182 141 [z0, z1, z2, z3, z4, z5] (.inr (.inr (.inl (some a))) :: st) v G Q = (((G.2.1 a).1 = 11) ∧ q_wp d 182 144 [z0, z1, z2, z3, z4, z5] (.inr (.inr (.inl (G.1 a 16))) :: st) v G Q) := q_w_getP c_182_141
theorem c_182_144 : q_code 182 144 = (.aload_n 0, 1, 0, 0, 0, 0, 0) := by decide +kernel
theorem e_182_144 (d : Nat) (a : Option Nat) (z1 z2 z3 z4 z5 : q_V) (st : List q_V) (v : q_H) (G : q_Gr) (Q : q_V → q_H → q_Gr → Prop) : q_wp d 182 144 [.inr (.inr (.inl a)), z1, z2, z3, z4, z5] st v G Q = q_wp d 182 145 [.inr (.inr (.inl a)), z1, z2, z3, z4, z5] (.inr (.inr (.inl a)) :: st) v G Q := q_w_aload_n c_182_144 rfl
theorem c_182_145 : q_code 182 145 = (.getfield 265, 3, 11, 21, 0, 976, 0) := by decide +kernel
theorem e_182_145 (d : Nat) (a : Nat) (z0 z1 z2 z3 z4 z5 : q_V) (st : List q_V) (v : q_H) (G : q_Gr) (Q : q_V → q_H → q_Gr → Prop) : q_wp d 182 145 [z0, z1, z2, z3, z4, z5] (.inr (.inr (.inl (some a))) :: st) v G Q = (((G.2.1 a).1 = 11) ∧ q_wp d 182 148 [z0, z1, z2, z3, z4, z5] (.inl (v a 21) :: st) v G Q) := q_w_getI c_182_145
theorem c_182_148 : q_code 182 148 = (.iload_n 1, 1, 0, 0, 0, 0, 0) := by decide +kernel
theorem e_182_148 (d : Nat) (a : Int) (z0 z2 z3 z4 z5 : q_V) (st : List q_V) (v : q_H) (G : q_Gr) (Q : q_V → q_H → q_Gr → Prop) : q_wp d 182 148 [z0, .inl a, z2, z3, z4, z5] st v G Q = q_wp d 182 149 [z0, .inl a, z2, z3, z4, z5] (.inl a :: st) v G Q := q_w_iload_n c_182_148 rfl
theorem c_182_149 : q_code 182 149 = (.iastore, 1, 0, 0, 0, 0, 0) := by decide +kernel
theorem e_182_149 (d : Nat) (a : Nat) (i b : Int) (z0 z1 z2 z3 z4 z5 : q_V) (st : List q_V) (v : q_H) (G : q_Gr) (Q : q_V → q_H → q_Gr → Prop) : q_wp d 182 149 [z0, z1, z2, z3, z4, z5] (.inl b :: .inl i :: .inr (.inr (.inl (some a))) :: st) v G Q = (((G.2.1 a).1 = 20 ∧ 32 ≤ a ∧ 0 ≤ i ∧ i < (G.2.1 a).2) ∧ q_wp d 182 150 [z0, z1, z2, z3, z4, z5] st (q_up v a i.toNat b) G Q) := q_w_iast c_182_149
theorem c_182_150 : q_code 182 150 = (.aload_n 0, 1, 0, 0, 0, 0, 0) := by decide +kernel
theorem e_182_150 (d : Nat) (a : Option Nat) (z1 z2 z3 z4 z5 : q_V) (st : List q_V) (v : q_H) (G : q_Gr) (Q : q_V → q_H → q_Gr → Prop) : q_wp d 182 150 [.inr (.inr (.inl a)), z1, z2, z3, z4, z5] st v G Q = q_wp d 182 151 [.inr (.inr (.inl a)), z1, z2, z3, z4, z5] (.inr (.inr (.inl a)) :: st) v G Q := q_w_aload_n c_182_150 rfl
theorem c_182_151 : q_code 182 151 = (.getfield 46, 3, 11, 17, 1, 972, 0) := by decide +kernel
theorem e_182_151 (d : Nat) (a : Nat) (z0 z1 z2 z3 z4 z5 : q_V) (st : List q_V) (v : q_H) (G : q_Gr) (Q : q_V → q_H → q_Gr → Prop) : q_wp d 182 151 [z0, z1, z2, z3, z4, z5] (.inr (.inr (.inl (some a))) :: st) v G Q = (((G.2.1 a).1 = 11) ∧ q_wp d 182 154 [z0, z1, z2, z3, z4, z5] (.inr (.inr (.inl (G.1 a 17))) :: st) v G Q) := q_w_getP c_182_151
theorem c_182_154 : q_code 182 154 = (.aload_n 0, 1, 0, 0, 0, 0, 0) := by decide +kernel
theorem e_182_154 (d : Nat) (a : Option Nat) (z1 z2 z3 z4 z5 : q_V) (st : List q_V) (v : q_H) (G : q_Gr) (Q : q_V → q_H → q_Gr → Prop) : q_wp d 182 154 [.inr (.inr (.inl a)), z1, z2, z3, z4, z5] st v G Q = q_wp d 182 155 [.inr (.inr (.inl a)), z1, z2, z3, z4, z5] (.inr (.inr (.inl a)) :: st) v G Q := q_w_aload_n c_182_154 rfl
theorem c_182_155 : q_code 182 155 = (.getfield 265, 3, 11, 21, 0, 976, 0) := by decide +kernel
theorem e_182_155 (d : Nat) (a : Nat) (z0 z1 z2 z3 z4 z5 : q_V) (st : List q_V) (v : q_H) (G : q_Gr) (Q : q_V → q_H → q_Gr → Prop) : q_wp d 182 155 [z0, z1, z2, z3, z4, z5] (.inr (.inr (.inl (some a))) :: st) v G Q = (((G.2.1 a).1 = 11) ∧ q_wp d 182 158 [z0, z1, z2, z3, z4, z5] (.inl (v a 21) :: st) v G Q) := q_w_getI c_182_155
theorem c_182_158 : q_code 182 158 = (.iload_n 2, 1, 0, 0, 0, 0, 0) := by decide +kernel
theorem e_182_158 (d : Nat) (a : Int) (z0 z1 z3 z4 z5 : q_V) (st : List q_V) (v : q_H) (G : q_Gr) (Q : q_V → q_H → q_Gr → Prop) : q_wp d 182 158 [z0, z1, .inl a, z3, z4, z5] st v G Q = q_wp d 182 159 [z0, z1, .inl a, z3, z4, z5] (.inl a :: st) v G Q := q_w_iload_n c_182_158 rfl
theorem c_182_159 : q_code 182 159 = (.iastore, 1, 0, 0, 0, 0, 0) := by decide +kernel
theorem e_182_159 (d : Nat) (a : Nat) (i b : Int) (z0 z1 z2 z3 z4 z5 : q_V) (st : List q_V) (v : q_H) (G : q_Gr) (Q : q_V → q_H → q_Gr → Prop) : q_wp d 182 159 [z0, z1, z2, z3, z4, z5] (.inl b :: .inl i :: .inr (.inr (.inl (some a))) :: st) v G Q = (((G.2.1 a).1 = 20 ∧ 32 ≤ a ∧ 0 ≤ i ∧ i < (G.2.1 a).2) ∧ q_wp d 182 160 [z0, z1, z2, z3, z4, z5] st (q_up v a i.toNat b) G Q) := q_w_iast c_182_159
theorem c_182_160 : q_code 182 160 = (.aload_n 0, 1, 0, 0, 0, 0, 0) := by decide +kernel
theorem e_182_160 (d : Nat) (a : Option Nat) (z1 z2 z3 z4 z5 : q_V) (st : List q_V) (v : q_H) (G : q_Gr) (Q : q_V → q_H → q_Gr → Prop) : q_wp d 182 160 [.inr (.inr (.inl a)), z1, z2, z3, z4, z5] st v G Q = q_wp d 182 161 [.inr (.inr (.inl a)), z1, z2, z3, z4, z5] (.inr (.inr (.inl a)) :: st) v G Q := q_w_aload_n c_182_160 rfl
theorem c_182_161 : q_code 182 161 = (.getfield 49, 3, 11, 18, 1, 973, 0) := by decide +kernel
theorem e_182_161 (d : Nat) (a : Nat) (z0 z1 z2 z3 z4 z5 : q_V) (st : List q_V) (v : q_H) (G : q_Gr) (Q : q_V → q_H → q_Gr → Prop) : q_wp d 182 161 [z0, z1, z2, z3, z4, z5] (.inr (.inr (.inl (some a))) :: st) v G Q = (((G.2.1 a).1 = 11) ∧ q_wp d 182 164 [z0, z1, z2, z3, z4, z5] (.inr (.inr (.inl (G.1 a 18))) :: st) v G Q) := q_w_getP c_182_161
theorem c_182_164 : q_code 182 164 = (.aload_n 0, 1, 0, 0, 0, 0, 0) := by decide +kernel
theorem e_182_164 (d : Nat) (a : Option Nat) (z1 z2 z3 z4 z5 : q_V) (st : List q_V) (v : q_H) (G : q_Gr) (Q : q_V → q_H → q_Gr → Prop) : q_wp d 182 164 [.inr (.inr (.inl a)), z1, z2, z3, z4, z5] st v G Q = q_wp d 182 165 [.inr (.inr (.inl a)), z1, z2, z3, z4, z5] (.inr (.inr (.inl a)) :: st) v G Q := q_w_aload_n c_182_164 rfl
theorem c_182_165 : q_code 182 165 = (.getfield 265, 3, 11, 21, 0, 976, 0) := by decide +kernel
theorem e_182_165 (d : Nat) (a : Nat) (z0 z1 z2 z3 z4 z5 : q_V) (st : List q_V) (v : q_H) (G : q_Gr) (Q : q_V → q_H → q_Gr → Prop) : q_wp d 182 165 [z0, z1, z2, z3, z4, z5] (.inr (.inr (.inl (some a))) :: st) v G Q = (((G.2.1 a).1 = 11) ∧ q_wp d 182 168 [z0, z1, z2, z3, z4, z5] (.inl (v a 21) :: st) v G Q) := q_w_getI c_182_165
theorem c_182_168 : q_code 182 168 = (.iload_n 3, 1, 0, 0, 0, 0, 0) := by decide +kernel
theorem e_182_168 (d : Nat) (a : Int) (z0 z1 z2 z4 z5 : q_V) (st : List q_V) (v : q_H) (G : q_Gr) (Q : q_V → q_H → q_Gr → Prop) : q_wp d 182 168 [z0, z1, z2, .inl a, z4, z5] st v G Q = q_wp d 182 169 [z0, z1, z2, .inl a, z4, z5] (.inl a :: st) v G Q := q_w_iload_n c_182_168 rfl
theorem c_182_169 : q_code 182 169 = (.iastore, 1, 0, 0, 0, 0, 0) := by decide +kernel
theorem e_182_169 (d : Nat) (a : Nat) (i b : Int) (z0 z1 z2 z3 z4 z5 : q_V) (st : List q_V) (v : q_H) (G : q_Gr) (Q : q_V → q_H → q_Gr → Prop) : q_wp d 182 169 [z0, z1, z2, z3, z4, z5] (.inl b :: .inl i :: .inr (.inr (.inl (some a))) :: st) v G Q = (((G.2.1 a).1 = 20 ∧ 32 ≤ a ∧ 0 ≤ i ∧ i < (G.2.1 a).2) ∧ q_wp d 182 170 [z0, z1, z2, z3, z4, z5] st (q_up v a i.toNat b) G Q) := q_w_iast c_182_169
theorem c_182_170 : q_code 182 170 = (.aload_n 0, 1, 0, 0, 0, 0, 0) := by decide +kernel
theorem e_182_170 (d : Nat) (a : Option Nat) (z1 z2 z3 z4 z5 : q_V) (st : List q_V) (v : q_H) (G : q_Gr) (Q : q_V → q_H → q_Gr → Prop) : q_wp d 182 170 [.inr (.inr (.inl a)), z1, z2, z3, z4, z5] st v G Q = q_wp d 182 171 [.inr (.inr (.inl a)), z1, z2, z3, z4, z5] (.inr (.inr (.inl a)) :: st) v G Q := q_w_aload_n c_182_170 rfl
theorem c_182_171 : q_code 182 171 = (.getfield 52, 3, 11, 19, 1, 974, 0) := by decide +kernel
theorem e_182_171 (d : Nat) (a : Nat) (z0 z1 z2 z3 z4 z5 : q_V) (st : List q_V) (v : q_H) (G : q_Gr) (Q : q_V → q_H → q_Gr → Prop) : q_wp d 182 171 [z0, z1, z2, z3, z4, z5] (.inr (.inr (.inl (some a))) :: st) v G Q = (((G.2.1 a).1 = 11) ∧ q_wp d 182 174 [z0, z1, z2, z3, z4, z5] (.inr (.inr (.inl (G.1 a 19))) :: st) v G Q) := q_w_getP c_182_171
theorem c_182_174 : q_code 182 174 = (.aload_n 0, 1, 0, 0, 0, 0, 0) := by decide +kernel
theorem e_182_174 (d : Nat) (a : Option Nat) (z1 z2 z3 z4 z5 : q_V) (st : List q_V) (v : q_H) (G : q_Gr) (Q : q_V → q_H → q_Gr → Prop) : q_wp d 182 174 [.inr (.inr (.inl a)), z1, z2, z3, z4, z5] st v G Q = q_wp d 182 175 [.inr (.inr (.inl a)), z1, z2, z3, z4, z5] (.inr (.inr (.inl a)) :: st) v G Q := q_w_aload_n c_182_174 rfl
theorem c_182_175 : q_code 182 175 = (.getfield 265, 3, 11, 21, 0, 976, 0) := by decide +kernel
theorem e_182_175 (d : Nat) (a : Nat) (z0 z1 z2 z3 z4 z5 : q_V) (st : List q_V) (v : q_H) (G : q_Gr) (Q : q_V → q_H → q_Gr → Prop) : q_wp d 182 175 [z0, z1, z2, z3, z4, z5] (.inr (.inr (.inl (some a))) :: st) v G Q = (((G.2.1 a).1 = 11) ∧ q_wp d 182 178 [z0, z1, z2, z3, z4, z5] (.inl (v a 21) :: st) v G Q) := q_w_getI c_182_175
theorem c_182_178 : q_code 182 178 = (.iload 4, 2, 0, 0, 0, 0, 0) := by decide +kernel
theorem e_182_178 (d : Nat) (a : Int) (z0 z1 z2 z3 z5 : q_V) (st : List q_V) (v : q_H) (G : q_Gr) (Q : q_V → q_H → q_Gr → Prop) : q_wp d 182 178 [z0, z1, z2, z3, .inl a, z5] st v G Q = q_wp d 182 180 [z0, z1, z2, z3, .inl a, z5] (.inl a :: st) v G Q := q_w_iload c_182_178 rfl
theorem c_182_180 : q_code 182 180 = (.iastore, 1, 0, 0, 0, 0, 0) := by decide +kernel
theorem e_182_180 (d : Nat) (a : Nat) (i b : Int) (z0 z1 z2 z3 z4 z5 : q_V) (st : List q_V) (v : q_H) (G : q_Gr) (Q : q_V → q_H → q_Gr → Prop) : q_wp d 182 180 [z0, z1, z2, z3, z4, z5] (.inl b :: .inl i :: .inr (.inr (.inl (some a))) :: st) v G Q = (((G.2.1 a).1 = 20 ∧ 32 ≤ a ∧ 0 ≤ i ∧ i < (G.2.1 a).2) ∧ q_wp d 182 181 [z0, z1, z2, z3, z4, z5] st (q_up v a i.toNat b) G Q) := q_w_iast c_182_180
theorem c_182_181 : q_code 182 181 = (.aload_n 0, 1, 0, 0, 0, 0, 0) := by decide +kernel
theorem e_182_181 (d : Nat) (a : Option Nat) (z1 z2 z3 z4 z5 : q_V) (st : List q_V) (v : q_H) (G : q_Gr) (Q : q_V → q_H → q_Gr → Prop) : q_wp d 182 181 [.inr (.inr (.inl a)), z1, z2, z3, z4, z5] st v G Q = q_wp d 182 182 [.inr (.inr (.inl a)), z1, z2, z3, z4, z5] (.inr (.inr (.inl a)) :: st) v G Q := q_w_aload_n c_182_181 rfl
theorem c_182_182 : q_code 182 182 = (.getfield 55, 3, 11, 20, 1, 975, 0) := by decide +kernel
theorem e_182_182 (d : Nat) (a : Nat) (z0 z1 z2 z3 z4 z5 : q_V) (st : List q_V) (v : q_H) (G : q_Gr) (Q : q_V → q_H → q_Gr → Prop) : q_wp d 182 182 [z0, z1, z2, z3, z4, z5] (.inr (.inr (.inl (some a))) :: st) v G Q = (((G.2.1 a).1 = 11) ∧ q_wp d 182 185 [z0, z1, z2, z3, z4, z5] (.inr (.inr (.inl (G.1 a 20))) :: st) v G Q) := q_w_getP c_182_182
theorem c_182_185 : q_code 182 185 = (.aload_n 0, 1, 0, 0, 0, 0, 0) := by decide +kernel
theorem e_182_185 (d : Nat) (a : Option Nat) (z1 z2 z3 z4 z5 : q_V) (st : List q_V) (v : q_H) (G : q_Gr) (Q : q_V → q_H → q_Gr → Prop) : q_wp d 182 185 [.inr (.inr (.inl a)), z1, z2, z3, z4, z5] st v G Q = q_wp d 182 186 [.inr (.inr (.inl a)), z1, z2, z3, z4, z5] (.inr (.inr (.inl a)) :: st) v G Q := q_w_aload_n c_182_185 rfl
theorem c_182_186 : q_code 182 186 = (.getfield 265, 3, 11, 21, 0, 976, 0) := by decide +kernel
theorem e_182_186 (d : Nat) (a : Nat) (z0 z1 z2 z3 z4 z5 : q_V) (st : List q_V) (v : q_H) (G : q_Gr) (Q : q_V → q_H → q_Gr → Prop) : q_wp d 182 186 [z0, z1, z2, z3, z4, z5] (.inr (.inr (.inl (some a))) :: st) v G Q = (((G.2.1 a).1 = 11) ∧ q_wp d 182 189 [z0, z1, z2, z3, z4, z5] (.inl (v a 21) :: st) v G Q) := q_w_getI c_182_186
theorem c_182_189 : q_code 182 189 = (.iload 5, 2, 0, 0, 0, 0, 0) := by decide +kernel
theorem e_182_189 (d : Nat) (a : Int) (z0 z1 z2 z3 z4 : q_V) (st : List q_V) (v : q_H) (G : q_Gr) (Q : q_V → q_H → q_Gr → Prop) : q_wp d 182 189 [z0, z1, z2, z3, z4, .inl a] st v G Q = q_wp d 182 191 [z0, z1, z2, z3, z4, .inl a] (.inl a :: st) v G Q := q_w_iload c_182_189 rfl
theorem c_182_191 : q_code 182 191 = (.iastore, 1, 0, 0, 0, 0, 0) := by decide +kernel
theorem e_182_191 (d : Nat) (a : Nat) (i b : Int) (z0 z1 z2 z3 z4 z5 : q_V) (st : List q_V) (v : q_H) (G : q_Gr) (Q : q_V → q_H → q_Gr → Prop) : q_wp d 182 191 [z0, z1, z2, z3, z4, z5] (.inl b :: .inl i :: .inr (.inr (.inl (some a))) :: st) v G Q = (((G.2.1 a).1 = 20 ∧ 32 ≤ a ∧ 0 ≤ i ∧ i < (G.2.1 a).2) ∧ q_wp d 182 192 [z0, z1, z2, z3, z4, z5] st (q_up v a i.toNat b) G Q) := q_w_iast c_182_191
theorem c_182_192 : q_code 182 192 = (.aload_n 0, 1, 0, 0, 0, 0, 0) := by decide +kernel
theorem e_182_192 (d : Nat) (a : Option Nat) (z1 z2 z3 z4 z5 : q_V) (st : List q_V) (v : q_H) (G : q_Gr) (Q : q_V → q_H → q_Gr → Prop) : q_wp d 182 192 [.inr (.inr (.inl a)), z1, z2, z3, z4, z5] st v G Q = q_wp d 182 193 [.inr (.inr (.inl a)), z1, z2, z3, z4, z5] (.inr (.inr (.inl a)) :: st) v G Q := q_w_aload_n c_182_192 rfl
theorem c_182_193 : q_code 182 193 = (.dup, 1, 0, 0, 0, 0, 0) := by decide +kernel
theorem e_182_193 (d : Nat) (a : Option Nat) (z0 z1 z2 z3 z4 z5 : q_V) (st : List q_V) (v : q_H) (G : q_Gr) (Q : q_V → q_H → q_Gr → Prop) : q_wp d 182 193 [z0, z1, z2, z3, z4, z5] (.inr (.inr (.inl a)) :: st) v G Q = q_wp d 182 194 [z0, z1, z2, z3, z4, z5] (.inr (.inr (.inl a)) :: .inr (.inr (.inl a)) :: st) v G Q := q_w_dupP c_182_193
theorem c_182_194 : q_code 182 194 = (.getfield 265, 3, 11, 21, 0, 976, 0) := by decide +kernel
theorem e_182_194 (d : Nat) (a : Nat) (z0 z1 z2 z3 z4 z5 : q_V) (st : List q_V) (v : q_H) (G : q_Gr) (Q : q_V → q_H → q_Gr → Prop) : q_wp d 182 194 [z0, z1, z2, z3, z4, z5] (.inr (.inr (.inl (some a))) :: st) v G Q = (((G.2.1 a).1 = 11) ∧ q_wp d 182 197 [z0, z1, z2, z3, z4, z5] (.inl (v a 21) :: st) v G Q) := q_w_getI c_182_194
theorem c_182_197 : q_code 182 197 = (.iconst 1, 1, 0, 0, 0, 0, 0) := by decide +kernel
theorem e_182_197 (d : Nat)  (z0 z1 z2 z3 z4 z5 : q_V) (st : List q_V) (v : q_H) (G : q_Gr) (Q : q_V → q_H → q_Gr → Prop) : q_wp d 182 197 [z0, z1, z2, z3, z4, z5] st v G Q = q_wp d 182 198 [z0, z1, z2, z3, z4, z5] (.inl 1 :: st) v G Q := q_w_iconst c_182_197
theorem c_182_198 : q_code 182 198 = (.iadd, 1, 0, 0, 0, 0, 0) := by decide +kernel
theorem e_182_198 (d : Nat) (a b : Int) (z0 z1 z2 z3 z4 z5 : q_V) (st : List q_V) (v : q_H) (G : q_Gr) (Q : q_V → q_H → q_Gr → Prop) : q_wp d 182 198 [z0, z1, z2, z3, z4, z5] (.inl b :: .inl a :: st) v G Q = q_wp d 182 199 [z0, z1, z2, z3, z4, z5] (.inl (a + b) :: st) v G Q := q_w_iadd c_182_198
theorem c_182_199 : q_code 182 199 = (.putfield 265, 3, 11, 21, 0, 976, 0) := by decide +kernel
theorem e_182_199 (d : Nat) (a : Nat) (b : Int) (z0 z1 z2 z3 z4 z5 : q_V) (st : List q_V) (v : q_H) (G : q_Gr) (Q : q_V → q_H → q_Gr → Prop) : q_wp d 182 199 [z0, z1, z2, z3, z4, z5] (.inl b :: .inr (.inr (.inl (some a))) :: st) v G Q = (((G.2.1 a).1 = 11) ∧ q_wp d 182 202 [z0, z1, z2, z3, z4, z5] st (q_up v a 21 b) G Q) := q_w_putI c_182_199
theorem c_182_202 : q_code 182 202 = (.return_, 1, 0, 0, 0, 0, 0) := by decide +kernel
theorem e_182_202 (d : Nat)  (z0 z1 z2 z3 z4 z5 : q_V) (v : q_H) (G : q_Gr) (Q : q_V → q_H → q_Gr → Prop) : q_wp d 182 202 [z0, z1, z2, z3, z4, z5] [] v G Q = Q (.inr (.inr (.inr ()))) v G := q_w_return c_182_202 rfl
theorem e_182 (d : Nat) (a0 : Nat) (v : q_H) (G : q_Gr) (Q : q_V → q_H → q_Gr → Prop) : q_call (d + 1) 182 [.inr (.inr (.inl (some a0)))] v G Q = ((G.2.1 a0).1 = 11 ∧ q_wp d 182 0 [.inr (.inr (.inl (some a0))), .inr (.inr (.inr ())), .inr (.inr (.inr ())), .inr (.inr (.inr ())), .inr (.inr (.inr ())), .inr (.inr (.inr ()))] [] v G Q) := by
  rw [q_call_in (by decide) (Nat.le_of_ble_eq_true rfl) rfl]
  exact congrArg (· ∧ _) (propext beq_iff_eq)
/-- all but the heads of loops: [] -/
def E182 := And.intro @e_182 (And.intro @e_182_0 (And.intro @e_182_1 (And.intro @e_182_4 (And.intro @e_182_5 (And.intro @e_182_6 (And.intro @e_182_8 (And.intro @e_182_11 (And.intro @e_182_12 (And.intro @e_182_15 (And.intro @e_182_17 (And.intro @e_182_20 (And.intro @e_182_21 (And.intro @e_182_22 (And.intro @e_182_25 (And.intro @e_182_26 (And.intro @e_182_27 (And.intro @e_182_29 (And.intro @e_182_32 (And.intro @e_182_33 (And.intro @e_182_36 (And.intro @e_182_37 (And.intro @e_182_40 (And.intro @e_182_41 (And.intro @e_182_42 (And.intro @e_182_43 (And.intro @e_182_46 (And.intro @e_182_47 (And.intro @e_182_48 (And.intro @e_182_49 (And.intro @e_182_52 (And.intro @e_182_53 (And.intro @e_182_56 (And.intro @e_182_57 (And.intro @e_182_58 (And.intro @e_182_59 (And.intro @e_182_62 (And.intro @e_182_63 (And.intro @e_182_64 (And.intro @e_182_65 (And.intro @e_182_68 (And.intro @e_182_71 (And.intro @e_182_73 (And.intro @e_182_74 (And.intro @e_182_75 (And.intro @e_182_78 (And.intro @e_182_80 (And.intro @e_182_83 (And.intro @e_182_84 (And.intro @e_182_85 (And.intro @e_182_88 (And.intro @e_182_89 (And.intro @e_182_90 (And.intro @e_182_92 (And.intro @e_182_95 (And.intro @e_182_98 (And.intro @e_182_99 (And.intro @e_182_101 (And.intro @e_182_104 (And.intro @e_182_107 (And.intro @e_182_109 (And.intro @e_182_110 (And.intro @e_182_113 (And.intro @e_182_116 (And.intro @e_182_117 (And.intro @e_182_118 (And.intro @e_182_121 (And.intro @e_182_122 (And.intro @e_182_125 (And.intro @e_182_126 (And.intro @e_182_129 (And.intro @e_182_130 (And.intro @e_182_133 (And.intro @e_182_134 (And.intro @e_182_137 (And.intro @e_182_140 (And.intro @e_182_141 (And.intro @e_182_144 (And.intro @e_182_145 (And.intro @e_182_148 (And.intro @e_182_149 (And.intro @e_182_150 (And.intro @e_182_151 (And.intro @e_182_154 (And.intro @e_182_155 (And.intro @e_182_158 (And.intro @e_182_159 (And.intro @e_182_160 (And.intro @e_182_161 (And.intro @e_182_164 (And.intro @e_182_165 (And.intro @e_182_168 (And.intro @e_182_169 (And.intro @e_182_170 (And.intro @e_182_171 (And.intro @e_182_174 (And.intro @e_182_175 (And.intro @e_182_178 (And.intro @e_182_180 (And.intro @e_182_181 (And.intro @e_182_182 (And.intro @e_182_185 (And.intro @e_182_186 (And.intro @e_182_189 (And.intro @e_182_191 (And.intro @e_182_192 (And.intro @e_182_193 (And.intro @e_182_194 (And.intro @e_182_197 (And.intro @e_182_198 (And.intro @e_182_199 (@e_182_202)))))))))))))))))))))))))))))))))))))))))))))))))))))))))))))))))))))))))))))))))))))))))))))))))))))))))))))))
/-! ProvenRowsModel.plan()I -/
theorem c_183_0 : q_code 183 0 = (.aload_n 0, 1, 0, 0, 0, 0, 0) := by decide +kernel
theorem e_183_0 (d : Nat) (a : Option Nat) (st : List q_V) (v : q_H) (G : q_Gr) (Q : q_V → q_H → q_Gr → Prop) : q_wp d 183 0 [.inr (.inr (.inl a))] st v G Q = q_wp d 183 1 [.inr (.inr (.inl a))] (.inr (.inr (.inl a)) :: st) v G Q := q_w_aload_n c_183_0 rfl
theorem c_183_1 : q_code 183 1 = (.iconst 0, 1, 0, 0, 0, 0, 0) := by decide +kernel
theorem e_183_1 (d : Nat)  (z0 : q_V) (st : List q_V) (v : q_H) (G : q_Gr) (Q : q_V → q_H → q_Gr → Prop) : q_wp d 183 1 [z0] st v G Q = q_wp d 183 2 [z0] (.inl 0 :: st) v G Q := q_w_iconst c_183_1
theorem c_183_2 : q_code 183 2 = (.putfield 119, 3, 11, 0, 0, 955, 0) := by decide +kernel
theorem e_183_2 (d : Nat) (a : Nat) (b : Int) (z0 : q_V) (st : List q_V) (v : q_H) (G : q_Gr) (Q : q_V → q_H → q_Gr → Prop) : q_wp d 183 2 [z0] (.inl b :: .inr (.inr (.inl (some a))) :: st) v G Q = (((G.2.1 a).1 = 11) ∧ q_wp d 183 5 [z0] st (q_up v a 0 b) G Q) := q_w_putI c_183_2
theorem c_183_5 : q_code 183 5 = (.aload_n 0, 1, 0, 0, 0, 0, 0) := by decide +kernel
theorem e_183_5 (d : Nat) (a : Option Nat) (st : List q_V) (v : q_H) (G : q_Gr) (Q : q_V → q_H → q_Gr → Prop) : q_wp d 183 5 [.inr (.inr (.inl a))] st v G Q = q_wp d 183 6 [.inr (.inr (.inl a))] (.inr (.inr (.inl a)) :: st) v G Q := q_w_aload_n c_183_5 rfl
theorem c_183_6 : q_code 183 6 = (.aload_n 0, 1, 0, 0, 0, 0, 0) := by decide +kernel
theorem e_183_6 (d : Nat) (a : Option Nat) (st : List q_V) (v : q_H) (G : q_Gr) (Q : q_V → q_H → q_Gr → Prop) : q_wp d 183 6 [.inr (.inr (.inl a))] st v G Q = q_wp d 183 7 [.inr (.inr (.inl a))] (.inr (.inr (.inl a)) :: st) v G Q := q_w_aload_n c_183_6 rfl
theorem c_183_7 : q_code 183 7 = (.getfield 197, 3, 11, 23, 0, 978, 0) := by decide +kernel
theorem e_183_7 (d : Nat) (a : Nat) (z0 : q_V) (st : List q_V) (v : q_H) (G : q_Gr) (Q : q_V → q_H → q_Gr → Prop) : q_wp d 183 7 [z0] (.inr (.inr (.inl (some a))) :: st) v G Q = (((G.2.1 a).1 = 11) ∧ q_wp d 183 10 [z0] (.inl (v a 23) :: st) v G Q) := q_w_getI c_183_7
theorem c_183_10 : q_code 183 10 = (.putfield 202, 3, 11, 25, 0, 980, 0) := by decide +kernel
theorem e_183_10 (d : Nat) (a : Nat) (b : Int) (z0 : q_V) (st : List q_V) (v : q_H) (G : q_Gr) (Q : q_V → q_H → q_Gr → Prop) : q_wp d 183 10 [z0] (.inl b :: .inr (.inr (.inl (some a))) :: st) v G Q = (((G.2.1 a).1 = 11) ∧ q_wp d 183 13 [z0] st (q_up v a 25 b) G Q) := q_w_putI c_183_10
theorem c_183_13 : q_code 183 13 = (.aload_n 0, 1, 0, 0, 0, 0, 0) := by decide +kernel
theorem e_183_13 (d : Nat) (a : Option Nat) (st : List q_V) (v : q_H) (G : q_Gr) (Q : q_V → q_H → q_Gr → Prop) : q_wp d 183 13 [.inr (.inr (.inl a))] st v G Q = q_wp d 183 14 [.inr (.inr (.inl a))] (.inr (.inr (.inl a)) :: st) v G Q := q_w_aload_n c_183_13 rfl
theorem c_183_14 : q_code 183 14 = (.iconst 0, 1, 0, 0, 0, 0, 0) := by decide +kernel
theorem e_183_14 (d : Nat)  (z0 : q_V) (st : List q_V) (v : q_H) (G : q_Gr) (Q : q_V → q_H → q_Gr → Prop) : q_wp d 183 14 [z0] st v G Q = q_wp d 183 15 [z0] (.inl 0 :: st) v G Q := q_w_iconst c_183_14
theorem c_183_15 : q_code 183 15 = (.putfield 197, 3, 11, 23, 0, 978, 0) := by decide +kernel
theorem e_183_15 (d : Nat) (a : Nat) (b : Int) (z0 : q_V) (st : List q_V) (v : q_H) (G : q_Gr) (Q : q_V → q_H → q_Gr → Prop) : q_wp d 183 15 [z0] (.inl b :: .inr (.inr (.inl (some a))) :: st) v G Q = (((G.2.1 a).1 = 11) ∧ q_wp d 183 18 [z0] st (q_up v a 23 b) G Q) := q_w_putI c_183_15
theorem c_183_18 : q_code 183 18 = (.aload_n 0, 1, 0, 0, 0, 0, 0) := by decide +kernel
theorem e_183_18 (d : Nat) (a : Option Nat) (st : List q_V) (v : q_H) (G : q_Gr) (Q : q_V → q_H → q_Gr → Prop) : q_wp d 183 18 [.inr (.inr (.inl a))] st v G Q = q_wp d 183 19 [.inr (.inr (.inl a))] (.inr (.inr (.inl a)) :: st) v G Q := q_w_aload_n c_183_18 rfl
theorem c_183_19 : q_code 183 19 = (.iconst 0, 1, 0, 0, 0, 0, 0) := by decide +kernel
theorem e_183_19 (d : Nat)  (z0 : q_V) (st : List q_V) (v : q_H) (G : q_Gr) (Q : q_V → q_H → q_Gr → Prop) : q_wp d 183 19 [z0] st v G Q = q_wp d 183 20 [z0] (.inl 0 :: st) v G Q := q_w_iconst c_183_19
theorem c_183_20 : q_code 183 20 = (.putfield 206, 3, 11, 26, 0, 981, 0) := by decide +kernel
theorem e_183_20 (d : Nat) (a : Nat) (b : Int) (z0 : q_V) (st : List q_V) (v : q_H) (G : q_Gr) (Q : q_V → q_H → q_Gr → Prop) : q_wp d 183 20 [z0] (.inl b :: .inr (.inr (.inl (some a))) :: st) v G Q = (((G.2.1 a).1 = 11) ∧ q_wp d 183 23 [z0] st (q_up v a 26 b) G Q) := q_w_putI c_183_20
theorem c_183_23 : q_code 183 23 = (.aload_n 0, 1, 0, 0, 0, 0, 0) := by decide +kernel
theorem e_183_23 (d : Nat) (a : Option Nat) (st : List q_V) (v : q_H) (G : q_Gr) (Q : q_V → q_H → q_Gr → Prop) : q_wp d 183 23 [.inr (.inr (.inl a))] st v G Q = q_wp d 183 24 [.inr (.inr (.inl a))] (.inr (.inr (.inl a)) :: st) v G Q := q_w_aload_n c_183_23 rfl
theorem c_183_24 : q_code 183 24 = (.iconst 0, 1, 0, 0, 0, 0, 0) := by decide +kernel
theorem e_183_24 (d : Nat)  (z0 : q_V) (st : List q_V) (v : q_H) (G : q_Gr) (Q : q_V → q_H → q_Gr → Prop) : q_wp d 183 24 [z0] st v G Q = q_wp d 183 25 [z0] (.inl 0 :: st) v G Q := q_w_iconst c_183_24
theorem c_183_25 : q_code 183 25 = (.putfield 227, 3, 11, 30, 0, 985, 0) := by decide +kernel
theorem e_183_25 (d : Nat) (a : Nat) (b : Int) (z0 : q_V) (st : List q_V) (v : q_H) (G : q_Gr) (Q : q_V → q_H → q_Gr → Prop) : q_wp d 183 25 [z0] (.inl b :: .inr (.inr (.inl (some a))) :: st) v G Q = (((G.2.1 a).1 = 11) ∧ q_wp d 183 28 [z0] st (q_up v a 30 b) G Q) := q_w_putI c_183_25
theorem c_183_28 : q_code 183 28 = (.aload_n 0, 1, 0, 0, 0, 0, 0) := by decide +kernel
theorem e_183_28 (d : Nat) (a : Option Nat) (st : List q_V) (v : q_H) (G : q_Gr) (Q : q_V → q_H → q_Gr → Prop) : q_wp d 183 28 [.inr (.inr (.inl a))] st v G Q = q_wp d 183 29 [.inr (.inr (.inl a))] (.inr (.inr (.inl a)) :: st) v G Q := q_w_aload_n c_183_28 rfl
theorem c_183_29 : q_code 183 29 = (.aload_n 0, 1, 0, 0, 0, 0, 0) := by decide +kernel
theorem e_183_29 (d : Nat) (a : Option Nat) (st : List q_V) (v : q_H) (G : q_Gr) (Q : q_V → q_H → q_Gr → Prop) : q_wp d 183 29 [.inr (.inr (.inl a))] st v G Q = q_wp d 183 30 [.inr (.inr (.inl a))] (.inr (.inr (.inl a)) :: st) v G Q := q_w_aload_n c_183_29 rfl
theorem c_183_30 : q_code 183 30 = (.getfield 271, 3, 11, 15, 0, 970, 0) := by decide +kernel
theorem e_183_30 (d : Nat) (a : Nat) (z0 : q_V) (st : List q_V) (v : q_H) (G : q_Gr) (Q : q_V → q_H → q_Gr → Prop) : q_wp d 183 30 [z0] (.inr (.inr (.inl (some a))) :: st) v G Q = (((G.2.1 a).1 = 11) ∧ q_wp d 183 33 [z0] (.inl (v a 15) :: st) v G Q) := q_w_getI c_183_30
theorem c_183_33 : q_code 183 33 = (.putfield 265, 3, 11, 21, 0, 976, 0) := by decide +kernel
theorem e_183_33 (d : Nat) (a : Nat) (b : Int) (z0 : q_V) (st : List q_V) (v : q_H) (G : q_Gr) (Q : q_V → q_H → q_Gr → Prop) : q_wp d 183 33 [z0] (.inl b :: .inr (.inr (.inl (some a))) :: st) v G Q = (((G.2.1 a).1 = 11) ∧ q_wp d 183 36 [z0] st (q_up v a 21 b) G Q) := q_w_putI c_183_33
theorem c_183_36 : q_code 183 36 = (.aload_n 0, 1, 0, 0, 0, 0, 0) := by decide +kernel
theorem e_183_36 (d : Nat) (a : Option Nat) (st : List q_V) (v : q_H) (G : q_Gr) (Q : q_V → q_H → q_Gr → Prop) : q_wp d 183 36 [.inr (.inr (.inl a))] st v G Q = q_wp d 183 37 [.inr (.inr (.inl a))] (.inr (.inr (.inl a)) :: st) v G Q := q_w_aload_n c_183_36 rfl
theorem c_183_37 : q_code 183 37 = (.invokevirtual 236, 3, 176, 1, 0, 1181, 0) := by decide +kernel
theorem e_183_37 (d : Nat) (x0 : q_V) (z0 : q_V) (v : q_H) (G : q_Gr) (Q : q_V → q_H → q_Gr → Prop) : q_wp d 183 37 [z0] [x0] v G Q = q_call d 176 [x0] v G (fun r v G => q_wp d 183 40 [z0] (q_push r []) v G Q) := q_wp_ca (m2 := 176) (k := 1) (as := [x0]) (rest := []) (congrArg q_kind c_183_37) (congrArg (fun w => w.2.2.1) c_183_37) (congrArg (fun w => w.2.2.2.1) c_183_37) rfl (Nat.le_of_ble_eq_true rfl) rfl
theorem c_183_40 : q_code 183 40 = (.aload_n 0, 1, 0, 0, 0, 0, 0) := by decide +kernel
theorem e_183_40 (d : Nat) (a : Option Nat) (st : List q_V) (v : q_H) (G : q_Gr) (Q : q_V → q_H → q_Gr → Prop) : q_wp d 183 40 [.inr (.inr (.inl a))] st v G Q = q_wp d 183 41 [.inr (.inr (.inl a))] (.inr (.inr (.inl a)) :: st) v G Q := q_w_aload_n c_183_40 rfl
theorem c_183_41 : q_code 183 41 = (.getfield 227, 3, 11, 30, 0, 985, 0) := by decide +kernel
theorem e_183_41 (d : Nat) (a : Nat) (z0 : q_V) (st : List q_V) (v : q_H) (G : q_Gr) (Q : q_V → q_H → q_Gr → Prop) : q_wp d 183 41 [z0] (.inr (.inr (.inl (some a))) :: st) v G Q = (((G.2.1 a).1 = 11) ∧ q_wp d 183 44 [z0] (.inl (v a 30) :: st) v G Q) := q_w_getI c_183_41
theorem c_183_44 : q_code 183 44 = (.ifCond .ne 18, 3, 0, 0, 0, 0, 0) := by decide +kernel
theorem e_183_44 (d : Nat) (a : Int) (z0 : q_V) (st : List q_V) (v : q_H) (G : q_Gr) (Q : q_V → q_H → q_Gr → Prop) : q_wp d 183 44 [z0] (.inl a :: st) v G Q = ((q_inR a) ∧ if ¬ a = 0 then q_wp d 183 62 [z0] st v G Q else q_wp d 183 47 [z0] st v G Q) := q_w_if_ne c_183_44 (by decide)
theorem c_183_47 : q_code 183 47 = (.aload_n 0, 1, 0, 0, 0, 0, 0) := by decide +kernel
theorem e_183_47 (d : Nat) (a : Option Nat) (st : List q_V) (v : q_H) (G : q_Gr) (Q : q_V → q_H → q_Gr → Prop) : q_wp d 183 47 [.inr (.inr (.inl a))] st v G Q = q_wp d 183 48 [.inr (.inr (.inl a))] (.inr (.inr (.inl a)) :: st) v G Q := q_w_aload_n c_183_47 rfl
theorem c_183_48 : q_code 183 48 = (.getfield 215, 3, 11, 27, 0, 982, 0) := by decide +kernel
theorem e_183_48 (d : Nat) (a : Nat) (z0 : q_V) (st : List q_V) (v : q_H) (G : q_Gr) (Q : q_V → q_H → q_Gr → Prop) : q_wp d 183 48 [z0] (.inr (.inr (.inl (some a))) :: st) v G Q = (((G.2.1 a).1 = 11) ∧ q_wp d 183 51 [z0] (.inl (v a 27) :: st) v G Q) := q_w_getI c_183_48
theorem c_183_51 : q_code 183 51 = (.iconst 1, 1, 0, 0, 0, 0, 0) := by decide +kernel
theorem e_183_51 (d : Nat)  (z0 : q_V) (st : List q_V) (v : q_H) (G : q_Gr) (Q : q_V → q_H → q_Gr → Prop) : q_wp d 183 51 [z0] st v G Q = q_wp d 183 52 [z0] (.inl 1 :: st) v G Q := q_w_iconst c_183_51
theorem c_183_52 : q_code 183 52 = (.if_icmp .eq 10, 3, 0, 0, 0, 0, 0) := by decide +kernel
theorem e_183_52 (d : Nat) (a b : Int) (z0 : q_V) (st : List q_V) (v : q_H) (G : q_Gr) (Q : q_V → q_H → q_Gr → Prop) : q_wp d 183 52 [z0] (.inl b :: .inl a :: st) v G Q = ((q_inR a ∧ q_inR b) ∧ if a = b then q_wp d 183 62 [z0] st v G Q else q_wp d 183 55 [z0] st v G Q) := q_w_icmp_eq c_183_52 (by decide)
theorem c_183_55 : q_code 183 55 = (.aload_n 0, 1, 0, 0, 0, 0, 0) := by decide +kernel
theorem e_183_55 (d : Nat) (a : Option Nat) (st : List q_V) (v : q_H) (G : q_Gr) (Q : q_V → q_H → q_Gr → Prop) : q_wp d 183 55 [.inr (.inr (.inl a))] st v G Q = q_wp d 183 56 [.inr (.inr (.inl a))] (.inr (.inr (.inl a)) :: st) v G Q := q_w_aload_n c_183_55 rfl
theorem c_183_56 : q_code 183 56 = (.invokevirtual 274, 3, 182, 1, 0, 1194, 0) := by decide +kernel
theorem e_183_56 (d : Nat) (x0 : q_V) (z0 : q_V) (v : q_H) (G : q_Gr) (Q : q_V → q_H → q_Gr → Prop) : q_wp d 183 56 [z0] [x0] v G Q = q_call d 182 [x0] v G (fun r v G => q_wp d 183 59 [z0] (q_push r []) v G Q) := q_wp_ca (m2 := 182) (k := 1) (as := [x0]) (rest := []) (congrArg q_kind c_183_56) (congrArg (fun w => w.2.2.1) c_183_56) (congrArg (fun w => w.2.2.2.1) c_183_56) rfl (Nat.le_of_ble_eq_true rfl) rfl
theorem c_183_59 : q_code 183 59 = (.goto (-19), 3, 0, 0, 0, 0, 0) := by decide +kernel
theorem e_183_59 (d : Nat)  (z0 : q_V) (st : List q_V) (v : q_H) (G : q_Gr) (Q : q_V → q_H → q_Gr → Prop) : q_wp d 183 59 [z0] st v G Q = q_wp d 183 40 [z0] st v G Q := q_w_goto c_183_59 (by decide)
theorem c_183_62 : q_code 183 62 = (.aload_n 0, 1, 0, 0, 0, 0, 0) := by decide +kernel
theorem e_183_62 (d : Nat) (a : Option Nat) (st : List q_V) (v : q_H) (G : q_Gr) (Q : q_V → q_H → q_Gr → Prop) : q_wp d 183 62 [.inr (.inr (.inl a))] st v G Q = q_wp d 183 63 [.inr (.inr (.inl a))] (.inr (.inr (.inl a)) :: st) v G Q := q_w_aload_n c_183_62 rfl
theorem c_183_63 : q_code 183 63 = (.getfield 227, 3, 11, 30, 0, 985, 0) := by decide +kernel
theorem e_183_63 (d : Nat) (a : Nat) (z0 : q_V) (st : List q_V) (v : q_H) (G : q_Gr) (Q : q_V → q_H → q_Gr → Prop) : q_wp d 183 63 [z0] (.inr (.inr (.inl (some a))) :: st) v G Q = (((G.2.1 a).1 = 11) ∧ q_wp d 183 66 [z0] (.inl (v a 30) :: st) v G Q) := q_w_getI c_183_63
theorem c_183_66 : q_code 183 66 = (.ifCond .le 20, 3, 0, 0, 0, 0, 0) := by decide +kernel
theorem e_183_66 (d : Nat) (a : Int) (z0 : q_V) (st : List q_V) (v : q_H) (G : q_Gr) (Q : q_V → q_H → q_Gr → Prop) : q_wp d 183 66 [z0] (.inl a :: st) v G Q = ((q_inR a) ∧ if a ≤ 0 then q_wp d 183 86 [z0] st v G Q else q_wp d 183 69 [z0] st v G Q) := q_w_if_le c_183_66 (by decide)
theorem c_183_69 : q_code 183 69 = (.aload_n 0, 1, 0, 0, 0, 0, 0) := by decide +kernel
theorem e_183_69 (d : Nat) (a : Option Nat) (st : List q_V) (v : q_H) (G : q_Gr) (Q : q_V → q_H → q_Gr → Prop) : q_wp d 183 69 [.inr (.inr (.inl a))] st v G Q = q_wp d 183 70 [.inr (.inr (.inl a))] (.inr (.inr (.inl a)) :: st) v G Q := q_w_aload_n c_183_69 rfl
theorem c_183_70 : q_code 183 70 = (.aload_n 0, 1, 0, 0, 0, 0, 0) := by decide +kernel
theorem e_183_70 (d : Nat) (a : Option Nat) (st : List q_V) (v : q_H) (G : q_Gr) (Q : q_V → q_H → q_Gr → Prop) : q_wp d 183 70 [.inr (.inr (.inl a))] st v G Q = q_wp d 183 71 [.inr (.inr (.inl a))] (.inr (.inr (.inl a)) :: st) v G Q := q_w_aload_n c_183_70 rfl
theorem c_183_71 : q_code 183 71 = (.getfield 227, 3, 11, 30, 0, 985, 0) := by decide +kernel
theorem e_183_71 (d : Nat) (a : Nat) (z0 : q_V) (st : List q_V) (v : q_H) (G : q_Gr) (Q : q_V → q_H → q_Gr → Prop) : q_wp d 183 71 [z0] (.inr (.inr (.inl (some a))) :: st) v G Q = (((G.2.1 a).1 = 11) ∧ q_wp d 183 74 [z0] (.inl (v a 30) :: st) v G Q) := q_w_getI c_183_71
theorem c_183_74 : q_code 183 74 = (.putfield 277, 3, 11, 24, 0, 979, 0) := by decide +kernel
theorem e_183_74 (d : Nat) (a : Nat) (b : Int) (z0 : q_V) (st : List q_V) (v : q_H) (G : q_Gr) (Q : q_V → q_H → q_Gr → Prop) : q_wp d 183 74 [z0] (.inl b :: .inr (.inr (.inl (some a))) :: st) v G Q = (((G.2.1 a).1 = 11) ∧ q_wp d 183 77 [z0] st (q_up v a 24 b) G Q) := q_w_putI c_183_74
theorem c_183_77 : q_code 183 77 = (.ldc_w 280, 3, 0, 0, 0, 1219, (-1000100)) := by decide +kernel
theorem e_183_77 (d : Nat)  (z0 : q_V) (st : List q_V) (v : q_H) (G : q_Gr) (Q : q_V → q_H → q_Gr → Prop) : q_wp d 183 77 [z0] st v G Q = q_wp d 183 80 [z0] (.inl (-1000100) :: st) v G Q := q_w_ldcw c_183_77
theorem c_183_80 : q_code 183 80 = (.aload_n 0, 1, 0, 0, 0, 0, 0) := by decide +kernel
theorem e_183_80 (d : Nat) (a : Option Nat) (st : List q_V) (v : q_H) (G : q_Gr) (Q : q_V → q_H → q_Gr → Prop) : q_wp d 183 80 [.inr (.inr (.inl a))] st v G Q = q_wp d 183 81 [.inr (.inr (.inl a))] (.inr (.inr (.inl a)) :: st) v G Q := q_w_aload_n c_183_80 rfl
theorem c_183_81 : q_code 183 81 = (.getfield 230, 3, 11, 31, 0, 986, 0) := by decide +kernel
theorem e_183_81 (d : Nat) (a : Nat) (z0 : q_V) (st : List q_V) (v : q_H) (G : q_Gr) (Q : q_V → q_H → q_Gr → Prop) : q_wp d 183 81 [z0] (.inr (.inr (.inl (some a))) :: st) v G Q = (((G.2.1 a).1 = 11) ∧ q_wp d 183 84 [z0] (.inl (v a 31) :: st) v G Q) := q_w_getI c_183_81
theorem c_183_84 : q_code 183 84 = (.isub, 1, 0, 0, 0, 0, 0) := by decide +kernel
theorem e_183_84 (d : Nat) (a b : Int) (z0 : q_V) (st : List q_V) (v : q_H) (G : q_Gr) (Q : q_V → q_H → q_Gr → Prop) : q_wp d 183 84 [z0] (.inl b :: .inl a :: st) v G Q = q_wp d 183 85 [z0] (.inl (a - b) :: st) v G Q := q_w_isub c_183_84
theorem c_183_85 : q_code 183 85 = (.ireturn, 1, 0, 0, 0, 0, 0) := by decide +kernel
theorem e_183_85 (d : Nat) (a : Int) (z0 : q_V) (v : q_H) (G : q_Gr) (Q : q_V → q_H → q_Gr → Prop) : q_wp d 183 85 [z0] [.inl a] v G Q = Q (.inl a) v G := q_w_ireturn c_183_85 rfl
theorem c_183_86 : q_code 183 86 = (.aload_n 0, 1, 0, 0, 0, 0, 0) := by decide +kernel
theorem e_183_86 (d : Nat) (a : Option Nat) (st : List q_V) (v : q_H) (G : q_Gr) (Q : q_V → q_H → q_Gr → Prop) : q_wp d 183 86 [.inr (.inr (.inl a))] st v G Q = q_wp d 183 87 [.inr (.inr (.inl a))] (.inr (.inr (.inl a)) :: st) v G Q := q_w_aload_n c_183_86 rfl
theorem c_183_87 : q_code 183 87 = (.aload_n 0, 1, 0, 0, 0, 0, 0) := by decide +kernel
theorem e_183_87 (d : Nat) (a : Option Nat) (st : List q_V) (v : q_H) (G : q_Gr) (Q : q_V → q_H → q_Gr → Prop) : q_wp d 183 87 [.inr (.inr (.inl a))] st v G Q = q_wp d 183 88 [.inr (.inr (.inl a))] (.inr (.inr (.inl a)) :: st) v G Q := q_w_aload_n c_183_87 rfl
theorem c_183_88 : q_code 183 88 = (.getfield 265, 3, 11, 21, 0, 976, 0) := by decide +kernel
theorem e_183_88 (d : Nat) (a : Nat) (z0 : q_V) (st : List q_V) (v : q_H) (G : q_Gr) (Q : q_V → q_H → q_Gr → Prop) : q_wp d 183 88 [z0] (.inr (.inr (.inl (some a))) :: st) v G Q = (((G.2.1 a).1 = 11) ∧ q_wp d 183 91 [z0] (.inl (v a 21) :: st) v G Q) := q_w_getI c_183_88
theorem c_183_91 : q_code 183 91 = (.putfield 271, 3, 11, 15, 0, 970, 0) := by decide +kernel
theorem e_183_91 (d : Nat) (a : Nat) (b : Int) (z0 : q_V) (st : List q_V) (v : q_H) (G : q_Gr) (Q : q_V → q_H → q_Gr → Prop) : q_wp d 183 91 [z0] (.inl b :: .inr (.inr (.inl (some a))) :: st) v G Q = (((G.2.1 a).1 = 11) ∧ q_wp d 183 94 [z0] st (q_up v a 15 b) G Q) := q_w_putI c_183_91
theorem c_183_94 : q_code 183 94 = (.aload_n 0, 1, 0, 0, 0, 0, 0) := by decide +kernel
theorem e_183_94 (d : Nat) (a : Option Nat) (st : List q_V) (v : q_H) (G : q_Gr) (Q : q_V → q_H → q_Gr → Prop) : q_wp d 183 94 [.inr (.inr (.inl a))] st v G Q = q_wp d 183 95 [.inr (.inr (.inl a))] (.inr (.inr (.inl a)) :: st) v G Q := q_w_aload_n c_183_94 rfl
theorem c_183_95 : q_code 183 95 = (.getfield 271, 3, 11, 15, 0, 970, 0) := by decide +kernel
theorem e_183_95 (d : Nat) (a : Nat) (z0 : q_V) (st : List q_V) (v : q_H) (G : q_Gr) (Q : q_V → q_H → q_Gr → Prop) : q_wp d 183 95 [z0] (.inr (.inr (.inl (some a))) :: st) v G Q = (((G.2.1 a).1 = 11) ∧ q_wp d 183 98 [z0] (.inl (v a 15) :: st) v G Q) := q_w_getI c_183_95
theorem c_183_98 : q_code 183 98 = (.ireturn, 1, 0, 0, 0, 0, 0) := by decide +kernel
theorem e_183_98 (d : Nat) (a : Int) (z0 : q_V) (v : q_H) (G : q_Gr) (Q : q_V → q_H → q_Gr → Prop) : q_wp d 183 98 [z0] [.inl a] v G Q = Q (.inl a) v G := q_w_ireturn c_183_98 rfl
theorem e_183 (d : Nat) (a0 : Nat) (v : q_H) (G : q_Gr) (Q : q_V → q_H → q_Gr → Prop) : q_call (d + 1) 183 [.inr (.inr (.inl (some a0)))] v G Q = ((G.2.1 a0).1 = 11 ∧ q_wp d 183 0 [.inr (.inr (.inl (some a0)))] [] v G Q) := by
  rw [q_call_in (by decide) (Nat.le_of_ble_eq_true rfl) rfl]
  exact congrArg (· ∧ _) (propext beq_iff_eq)
/-- all but the heads of loops: [40] -/
def E183 := And.intro @e_183 (And.intro @e_183_0 (And.intro @e_183_1 (And.intro @e_183_2 (And.intro @e_183_5 (And.intro @e_183_6 (And.intro @e_183_7 (And.intro @e_183_10 (And.intro @e_183_13 (And.intro @e_183_14 (And.intro @e_183_15 (And.intro @e_183_18 (And.intro @e_183_19 (And.intro @e_183_20 (And.intro @e_183_23 (And.intro @e_183_24 (And.intro @e_183_25 (And.intro @e_183_28 (And.intro @e_183_29 (And.intro @e_183_30 (And.intro @e_183_33 (And.intro @e_183_36 (And.intro @e_183_37 (And.intro @e_183_41 (And.intro @e_183_44 (And.intro @e_183_47 (And.intro @e_183_48 (And.intro @e_183_51 (And.intro @e_183_52 (And.intro @e_183_55 (And.intro @e_183_56 (And.intro @e_183_59 (And.intro @e_183_62 (And.intro @e_183_63 (And.intro @e_183_66 (And.intro @e_183_69 (And.intro @e_183_70 (And.intro @e_183_71 (And.intro @e_183_74 (And.intro @e_183_77 (And.intro @e_183_80 (And.intro @e_183_81 (And.intro @e_183_84 (And.intro @e_183_85 (And.intro @e_183_86 (And.intro @e_183_87 (And.intro @e_183_88 (And.intro @e_183_91 (And.intro @e_183_94 (And.intro @e_183_95 (@e_183_98))))))))))))))))))))))))))))))))))))))))))))))))))
/-! ProvenRowsModel.fault()I -/
theorem c_184_0 : q_code 184 0 = (.aload_n 0, 1, 0, 0, 0, 0, 0) := by decide +kernel
theorem e_184_0 (d : Nat) (a : Option Nat) (st : List q_V) (v : q_H) (G : q_Gr) (Q : q_V → q_H → q_Gr → Prop) : q_wp d 184 0 [.inr (.inr (.inl a))] st v G Q = q_wp d 184 1 [.inr (.inr (.inl a))] (.inr (.inr (.inl a)) :: st) v G Q := q_w_aload_n c_184_0 rfl
theorem c_184_1 : q_code 184 1 = (.iconst 0, 1, 0, 0, 0, 0, 0) := by decide +kernel
theorem e_184_1 (d : Nat)  (z0 : q_V) (st : List q_V) (v : q_H) (G : q_Gr) (Q : q_V → q_H → q_Gr → Prop) : q_wp d 184 1 [z0] st v G Q = q_wp d 184 2 [z0] (.inl 0 :: st) v G Q := q_w_iconst c_184_1
theorem c_184_2 : q_code 184 2 = (.putfield 119, 3, 11, 0, 0, 955, 0) := by decide +kernel
theorem e_184_2 (d : Nat) (a : Nat) (b : Int) (z0 : q_V) (st : List q_V) (v : q_H) (G : q_Gr) (Q : q_V → q_H → q_Gr → Prop) : q_wp d 184 2 [z0] (.inl b :: .inr (.inr (.inl (some a))) :: st) v G Q = (((G.2.1 a).1 = 11) ∧ q_wp d 184 5 [z0] st (q_up v a 0 b) G Q) := q_w_putI c_184_2
theorem c_184_5 : q_code 184 5 = (.aload_n 0, 1, 0, 0, 0, 0, 0) := by decide +kernel
theorem e_184_5 (d : Nat) (a : Option Nat) (st : List q_V) (v : q_H) (G : q_Gr) (Q : q_V → q_H → q_Gr → Prop) : q_wp d 184 5 [.inr (.inr (.inl a))] st v G Q = q_wp d 184 6 [.inr (.inr (.inl a))] (.inr (.inr (.inl a)) :: st) v G Q := q_w_aload_n c_184_5 rfl
theorem c_184_6 : q_code 184 6 = (.getfield 277, 3, 11, 24, 0, 979, 0) := by decide +kernel
theorem e_184_6 (d : Nat) (a : Nat) (z0 : q_V) (st : List q_V) (v : q_H) (G : q_Gr) (Q : q_V → q_H → q_Gr → Prop) : q_wp d 184 6 [z0] (.inr (.inr (.inl (some a))) :: st) v G Q = (((G.2.1 a).1 = 11) ∧ q_wp d 184 9 [z0] (.inl (v a 24) :: st) v G Q) := q_w_getI c_184_6
theorem c_184_9 : q_code 184 9 = (.ireturn, 1, 0, 0, 0, 0, 0) := by decide +kernel
theorem e_184_9 (d : Nat) (a : Int) (z0 : q_V) (v : q_H) (G : q_Gr) (Q : q_V → q_H → q_Gr → Prop) : q_wp d 184 9 [z0] [.inl a] v G Q = Q (.inl a) v G := q_w_ireturn c_184_9 rfl
theorem e_184 (d : Nat) (a0 : Nat) (v : q_H) (G : q_Gr) (Q : q_V → q_H → q_Gr → Prop) : q_call (d + 1) 184 [.inr (.inr (.inl (some a0)))] v G Q = ((G.2.1 a0).1 = 11 ∧ q_wp d 184 0 [.inr (.inr (.inl (some a0)))] [] v G Q) := by
  rw [q_call_in (by decide) (Nat.le_of_ble_eq_true rfl) rfl]
  exact congrArg (· ∧ _) (propext beq_iff_eq)
/-- all but the heads of loops: [] -/
def E184 := And.intro @e_184 (And.intro @e_184_0 (And.intro @e_184_1 (And.intro @e_184_2 (And.intro @e_184_5 (And.intro @e_184_6 (@e_184_9))))))
/-! ProvenRowsModel.isAct(I)Z -/
theorem c_185_0 : q_code 185 0 = (.iload_n 1, 1, 0, 0, 0, 0, 0) := by decide +kernel
theorem e_185_0 (d : Nat) (a : Int) (z0 : q_V) (st : List q_V) (v : q_H) (G : q_Gr) (Q : q_V → q_H → q_Gr → Prop) : q_wp d 185 0 [z0, .inl a] st v G Q = q_wp d 185 1 [z0, .inl a] (.inl a :: st) v G Q := q_w_iload_n c_185_0 rfl
theorem c_185_1 : q_code 185 1 = (.i2l, 1, 0, 0, 0, 0, 0) := by decide +kernel
theorem e_185_1 (d : Nat) (a : Int) (z0 z1 : q_V) (st : List q_V) (v : q_H) (G : q_Gr) (Q : q_V → q_H → q_Gr → Prop) : q_wp d 185 1 [z0, z1] (.inl a :: st) v G Q = ((q_inR a) ∧ q_wp d 185 2 [z0, z1] (.inr (.inl a) :: st) v G Q) := q_w_i2l c_185_1
theorem c_185_2 : q_code 185 2 = (.lconst 0, 1, 0, 0, 0, 0, 0) := by decide +kernel
theorem e_185_2 (d : Nat)  (z0 z1 : q_V) (st : List q_V) (v : q_H) (G : q_Gr) (Q : q_V → q_H → q_Gr → Prop) : q_wp d 185 2 [z0, z1] st v G Q = q_wp d 185 3 [z0, z1] (.inr (.inl 0) :: st) v G Q := q_w_lconst c_185_2
theorem c_185_3 : q_code 185 3 = (.aload_n 0, 1, 0, 0, 0, 0, 0) := by decide +kernel
theorem e_185_3 (d : Nat) (a : Option Nat) (z1 : q_V) (st : List q_V) (v : q_H) (G : q_Gr) (Q : q_V → q_H → q_Gr → Prop) : q_wp d 185 3 [.inr (.inr (.inl a)), z1] st v G Q = q_wp d 185 4 [.inr (.inr (.inl a)), z1] (.inr (.inr (.inl a)) :: st) v G Q := q_w_aload_n c_185_3 rfl
theorem c_185_4 : q_code 185 4 = (.getfield 271, 3, 11, 15, 0, 970, 0) := by decide +kernel
theorem e_185_4 (d : Nat) (a : Nat) (z0 z1 : q_V) (st : List q_V) (v : q_H) (G : q_Gr) (Q : q_V → q_H → q_Gr → Prop) : q_wp d 185 4 [z0, z1] (.inr (.inr (.inl (some a))) :: st) v G Q = (((G.2.1 a).1 = 11) ∧ q_wp d 185 7 [z0, z1] (.inl (v a 15) :: st) v G Q) := q_w_getI c_185_4
theorem c_185_7 : q_code 185 7 = (.iconst 1, 1, 0, 0, 0, 0, 0) := by decide +kernel
theorem e_185_7 (d : Nat)  (z0 z1 : q_V) (st : List q_V) (v : q_H) (G : q_Gr) (Q : q_V → q_H → q_Gr → Prop) : q_wp d 185 7 [z0, z1] st v G Q = q_wp d 185 8 [z0, z1] (.inl 1 :: st) v G Q := q_w_iconst c_185_7
theorem c_185_8 : q_code 185 8 = (.isub, 1, 0, 0, 0, 0, 0) := by decide +kernel
theorem e_185_8 (d : Nat) (a b : Int) (z0 z1 : q_V) (st : List q_V) (v : q_H) (G : q_Gr) (Q : q_V → q_H → q_Gr → Prop) : q_wp d 185 8 [z0, z1] (.inl b :: .inl a :: st) v G Q = q_wp d 185 9 [z0, z1] (.inl (a - b) :: st) v G Q := q_w_isub c_185_8
theorem c_185_9 : q_code 185 9 = (.i2l, 1, 0, 0, 0, 0, 0) := by decide +kernel
theorem e_185_9 (d : Nat) (a : Int) (z0 z1 : q_V) (st : List q_V) (v : q_H) (G : q_Gr) (Q : q_V → q_H → q_Gr → Prop) : q_wp d 185 9 [z0, z1] (.inl a :: st) v G Q = ((q_inR a) ∧ q_wp d 185 10 [z0, z1] (.inr (.inl a) :: st) v G Q) := q_w_i2l c_185_9
theorem c_185_10 : q_code 185 10 = (.invokestatic 137, 3, 151, 3, 0, 1095, 1) := by decide +kernel
theorem e_185_10 (d : Nat) (x0 x1 x2 : q_V) (z0 z1 : q_V) (v : q_H) (G : q_Gr) (Q : q_V → q_H → q_Gr → Prop) : q_wp d 185 10 [z0, z1] [x2, x1, x0] v G Q = q_call d 151 [x0, x1, x2] v G (fun r v G => q_wp d 185 13 [z0, z1] (q_push r []) v G Q) := q_wp_ca (m2 := 151) (k := 3) (as := [x0, x1, x2]) (rest := []) (congrArg q_kind c_185_10) (congrArg (fun w => w.2.2.1) c_185_10) (congrArg (fun w => w.2.2.2.1) c_185_10) rfl (Nat.le_of_ble_eq_true rfl) rfl
theorem c_185_13 : q_code 185 13 = (.ireturn, 1, 0, 0, 0, 0, 0) := by decide +kernel
theorem e_185_13 (d : Nat) (a : Int) (z0 z1 : q_V) (v : q_H) (G : q_Gr) (Q : q_V → q_H → q_Gr → Prop) : q_wp d 185 13 [z0, z1] [.inl a] v G Q = ((0 ≤ a ∧ a ≤ 1) ∧ Q (.inl a) v G) := q_w_zreturn c_185_13 rfl
theorem e_185 (d : Nat) (a0 : Nat) (a1 : Int) (v : q_H) (G : q_Gr) (Q : q_V → q_H → q_Gr → Prop) : q_call (d + 1) 185 [.inr (.inr (.inl (some a0))), .inl a1] v G Q = ((G.2.1 a0).1 = 11 ∧ q_wp d 185 0 [.inr (.inr (.inl (some a0))), .inl a1] [] v G Q) := by
  rw [q_call_in (by decide) (Nat.le_of_ble_eq_true rfl) rfl]
  exact congrArg (· ∧ _) (propext beq_iff_eq)
/-- all but the heads of loops: [] -/
def E185 := And.intro @e_185 (And.intro @e_185_0 (And.intro @e_185_1 (And.intro @e_185_2 (And.intro @e_185_3 (And.intro @e_185_4 (And.intro @e_185_7 (And.intro @e_185_8 (And.intro @e_185_9 (And.intro @e_185_10 (@e_185_13))))))))))
/-! ProvenRowsModel.tell(I)V -/
theorem c_186_0 : q_code 186 0 = (.aload_n 0, 1, 0, 0, 0, 0, 0) := by decide +kernel
theorem e_186_0 (d : Nat) (a : Option Nat) (z1 : q_V) (st : List q_V) (v : q_H) (G : q_Gr) (Q : q_V → q_H → q_Gr → Prop) : q_wp d 186 0 [.inr (.inr (.inl a)), z1] st v G Q = q_wp d 186 1 [.inr (.inr (.inl a)), z1] (.inr (.inr (.inl a)) :: st) v G Q := q_w_aload_n c_186_0 rfl
theorem c_186_1 : q_code 186 1 = (.getfield 61, 3, 11, 33, 1, 988, 0) := by decide +kernel
theorem e_186_1 (d : Nat) (a : Nat) (z0 z1 : q_V) (st : List q_V) (v : q_H) (G : q_Gr) (Q : q_V → q_H → q_Gr → Prop) : q_wp d 186 1 [z0, z1] (.inr (.inr (.inl (some a))) :: st) v G Q = (((G.2.1 a).1 = 11) ∧ q_wp d 186 4 [z0, z1] (.inr (.inr (.inl (G.1 a 33))) :: st) v G Q) := q_w_getP c_186_1
theorem c_186_4 : q_code 186 4 = (.aload_n 0, 1, 0, 0, 0, 0, 0) := by decide +kernel
theorem e_186_4 (d : Nat) (a : Option Nat) (z1 : q_V) (st : List q_V) (v : q_H) (G : q_Gr) (Q : q_V → q_H → q_Gr → Prop) : q_wp d 186 4 [.inr (.inr (.inl a)), z1] st v G Q = q_wp d 186 5 [.inr (.inr (.inl a)), z1] (.inr (.inr (.inl a)) :: st) v G Q := q_w_aload_n c_186_4 rfl
theorem c_186_5 : q_code 186 5 = (.getfield 281, 3, 11, 32, 0, 987, 0) := by decide +kernel
theorem e_186_5 (d : Nat) (a : Nat) (z0 z1 : q_V) (st : List q_V) (v : q_H) (G : q_Gr) (Q : q_V → q_H → q_Gr → Prop) : q_wp d 186 5 [z0, z1] (.inr (.inr (.inl (some a))) :: st) v G Q = (((G.2.1 a).1 = 11) ∧ q_wp d 186 8 [z0, z1] (.inl (v a 32) :: st) v G Q) := q_w_getI c_186_5
theorem c_186_8 : q_code 186 8 = (.iload_n 1, 1, 0, 0, 0, 0, 0) := by decide +kernel
theorem e_186_8 (d : Nat) (a : Int) (z0 : q_V) (st : List q_V) (v : q_H) (G : q_Gr) (Q : q_V → q_H → q_Gr → Prop) : q_wp d 186 8 [z0, .inl a] st v G Q = q_wp d 186 9 [z0, .inl a] (.inl a :: st) v G Q := q_w_iload_n c_186_8 rfl
theorem c_186_9 : q_code 186 9 = (.iastore, 1, 0, 0, 0, 0, 0) := by decide +kernel
theorem e_186_9 (d : Nat) (a : Nat) (i b : Int) (z0 z1 : q_V) (st : List q_V) (v : q_H) (G : q_Gr) (Q : q_V → q_H → q_Gr → Prop) : q_wp d 186 9 [z0, z1] (.inl b :: .inl i :: .inr (.inr (.inl (some a))) :: st) v G Q = (((G.2.1 a).1 = 20 ∧ 32 ≤ a ∧ 0 ≤ i ∧ i < (G.2.1 a).2) ∧ q_wp d 186 10 [z0, z1] st (q_up v a i.toNat b) G Q) := q_w_iast c_186_9
theorem c_186_10 : q_code 186 10 = (.aload_n 0, 1, 0, 0, 0, 0, 0) := by decide +kernel
theorem e_186_10 (d : Nat) (a : Option Nat) (z1 : q_V) (st : List q_V) (v : q_H) (G : q_Gr) (Q : q_V → q_H → q_Gr → Prop) : q_wp d 186 10 [.inr (.inr (.inl a)), z1] st v G Q = q_wp d 186 11 [.inr (.inr (.inl a)), z1] (.inr (.inr (.inl a)) :: st) v G Q := q_w_aload_n c_186_10 rfl
theorem c_186_11 : q_code 186 11 = (.dup, 1, 0, 0, 0, 0, 0) := by decide +kernel
theorem e_186_11 (d : Nat) (a : Option Nat) (z0 z1 : q_V) (st : List q_V) (v : q_H) (G : q_Gr) (Q : q_V → q_H → q_Gr → Prop) : q_wp d 186 11 [z0, z1] (.inr (.inr (.inl a)) :: st) v G Q = q_wp d 186 12 [z0, z1] (.inr (.inr (.inl a)) :: .inr (.inr (.inl a)) :: st) v G Q := q_w_dupP c_186_11
theorem c_186_12 : q_code 186 12 = (.getfield 281, 3, 11, 32, 0, 987, 0) := by decide +kernel
theorem e_186_12 (d : Nat) (a : Nat) (z0 z1 : q_V) (st : List q_V) (v : q_H) (G : q_Gr) (Q : q_V → q_H → q_Gr → Prop) : q_wp d 186 12 [z0, z1] (.inr (.inr (.inl (some a))) :: st) v G Q = (((G.2.1 a).1 = 11) ∧ q_wp d 186 15 [z0, z1] (.inl (v a 32) :: st) v G Q) := q_w_getI c_186_12
theorem c_186_15 : q_code 186 15 = (.iconst 1, 1, 0, 0, 0, 0, 0) := by decide +kernel
theorem e_186_15 (d : Nat)  (z0 z1 : q_V) (st : List q_V) (v : q_H) (G : q_Gr) (Q : q_V → q_H → q_Gr → Prop) : q_wp d 186 15 [z0, z1] st v G Q = q_wp d 186 16 [z0, z1] (.inl 1 :: st) v G Q := q_w_iconst c_186_15
theorem c_186_16 : q_code 186 16 = (.iadd, 1, 0, 0, 0, 0, 0) := by decide +kernel
theorem e_186_16 (d : Nat) (a b : Int) (z0 z1 : q_V) (st : List q_V) (v : q_H) (G : q_Gr) (Q : q_V → q_H → q_Gr → Prop) : q_wp d 186 16 [z0, z1] (.inl b :: .inl a :: st) v G Q = q_wp d 186 17 [z0, z1] (.inl (a + b) :: st) v G Q := q_w_iadd c_186_16
theorem c_186_17 : q_code 186 17 = (.putfield 281, 3, 11, 32, 0, 987, 0) := by decide +kernel
theorem e_186_17 (d : Nat) (a : Nat) (b : Int) (z0 z1 : q_V) (st : List q_V) (v : q_H) (G : q_Gr) (Q : q_V → q_H → q_Gr → Prop) : q_wp d 186 17 [z0, z1] (.inl b :: .inr (.inr (.inl (some a))) :: st) v G Q = (((G.2.1 a).1 = 11) ∧ q_wp d 186 20 [z0, z1] st (q_up v a 32 b) G Q) := q_w_putI c_186_17
theorem c_186_20 : q_code 186 20 = (.return_, 1, 0, 0, 0, 0, 0) := by decide +kernel
theorem e_186_20 (d : Nat)  (z0 z1 : q_V) (v : q_H) (G : q_Gr) (Q : q_V → q_H → q_Gr → Prop) : q_wp d 186 20 [z0, z1] [] v G Q = Q (.inr (.inr (.inr ()))) v G := q_w_return c_186_20 rfl
theorem e_186 (d : Nat) (a0 : Nat) (a1 : Int) (v : q_H) (G : q_Gr) (Q : q_V → q_H → q_Gr → Prop) : q_call (d + 1) 186 [.inr (.inr (.inl (some a0))), .inl a1] v G Q = ((G.2.1 a0).1 = 11 ∧ q_wp d 186 0 [.inr (.inr (.inl (some a0))), .inl a1] [] v G Q) := by
  rw [q_call_in (by decide) (Nat.le_of_ble_eq_true rfl) rfl]
  exact congrArg (· ∧ _) (propext beq_iff_eq)
/-- all but the heads of loops: [] -/
def E186 := And.intro @e_186 (And.intro @e_186_0 (And.intro @e_186_1 (And.intro @e_186_4 (And.intro @e_186_5 (And.intro @e_186_8 (And.intro @e_186_9 (And.intro @e_186_10 (And.intro @e_186_11 (And.intro @e_186_12 (And.intro @e_186_15 (And.intro @e_186_16 (And.intro @e_186_17 (@e_186_20)))))))))))))
