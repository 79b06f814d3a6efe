/-! ===== what holds between two calls: both objects stand for the same ===== -/
def shI (v : q_H) : Prop := ∀ s, s < 8 → v 138 s = v (94 + 2 * s) 1 ∧ (-1 ≤ v 138 s ∧ v 138 s ≤ 2) ∧ (0 ≤ v (94 + 2 * s) 2 ∧ v (94 + 2 * s) 2 ≤ 600) ∧ (0 ≤ v 138 s → v 139 s = v (94 + 2 * s) 2) ∧ ∀ k, k < 600 → v 140 (600 * s + k) = v (95 + 2 * s) k ∧ -2147483648 ≤ v (95 + 2 * s) k ∧ v (95 + 2 * s) k ≤ 2147483647
def stI (v : q_H) : Prop := v 32 9 = v 137 1 ∧ 0 ≤ v 32 9 ∧ v 32 9 ≤ 5
def rdI (v : q_H) : Prop := v 32 3 = v 137 13 ∧ 0 ≤ v 32 3 ∧ v 32 3 ≤ 20 ∧ ∀ j : Nat, (j : Int) < 4 * v 32 3 → v 35 j = v 148 j ∧ 0 ≤ v 35 j ∧ v 35 j ≤ 65520
def tpI (v : q_H) : Prop := v 36 1 = v 137 23 ∧ 0 ≤ v 36 1 ∧ v 36 1 ≤ 200 ∧ (∀ k : Nat, (k : Int) < v 36 1 → v 37 k = v 154 k ∧ 0 ≤ v 37 k ∧ v 37 k ≤ 255) ∧ v 36 10 = v 137 24 ∧ 0 ≤ v 36 10 ∧ v 36 10 ≤ 3
/-- one act: the class's cell p, the reference's place a -/
def actI (v : q_H) (p a : Nat) : Prop := v p 0 = v 149 a ∧ v p 1 = v 150 a ∧ v p 2 = v 151 a ∧ v p 3 = v 152 a ∧ (0 ≤ v p 0 ∧ v p 0 ≤ 6) ∧ (0 ≤ v p 1 ∧ v p 1 ≤ 2) ∧ (0 ≤ v p 2 ∧ v p 2 ≤ 2) ∧ (0 ≤ v p 3 ∧ v p 3 ≤ 999) ∧ (v p 0 = 2 → v p 5 = v 153 a ∧ v p 4 = v p 3 ∧ 1 ≤ v p 5 ∧ v p 5 ≤ 14) ∧ (v p 0 ≠ 2 → v p 4 = v 153 a ∧ v p 3 ≤ v p 4 ∧ v p 4 ≤ 999) ∧ (v p 0 < 4 → v p 2 = v p 1)
def acI (v : q_H) (G : q_Gr) : Prop := v 36 3 = v 137 15 ∧ 0 ≤ v 36 3 ∧ v 36 3 ≤ 12 ∧ ∀ a : Nat, (a : Int) < v 36 3 → ∃ p, G.1 38 a = some p ∧ 174 ≤ p ∧ p < 32 + G.2.2.1 ∧ G.2.1 p = (0, 6) ∧ actI v p a
def ckI (v : q_H) : Prop := v 52 2 = v 137 61 ∧ 0 ≤ v 52 2 ∧ v 52 2 ≤ 3 ∧ v 70 1 = v 137 62 ∧ 0 ≤ v 70 1 ∧ v 70 1 ≤ 48 ∧ (-1000000 ≤ v 137 56 ∧ v 137 56 ≤ 100) ∧ (-1000000 ≤ v 137 57 ∧ v 137 57 ≤ 100) ∧ ∀ k : Nat, (k : Int) < v 70 1 → v 71 k = v 172 k ∧ -2147483648 ≤ v 71 k ∧ v 71 k ≤ 2147483647
def asI (v : q_H) : Prop := v 92 1 = v 137 65 ∧ 0 ≤ v 92 1 ∧ v 92 1 ≤ 16 ∧ ∀ k : Nat, (k : Int) < v 92 1 → v 93 k = v 173 k ∧ 0 ≤ v 93 k ∧ v 93 k ≤ 100
/-- leaves of a tree, their keys and values: seals and sums -/
def sl (key val : Nat → Int) (k n : Nat) : Int × Int :=
  if h : n ≤ 1 then (J (J (key k + 1) (val k)) 7, val k)
  else (J (J (sl key val k ((n + 1) / 2)).1 (sl key val (k + (n + 1) / 2) (n - (n + 1) / 2)).1) (J (sl key val k ((n + 1) / 2)).2 (sl key val (k + (n + 1) / 2) (n - (n + 1) / 2)).2), (sl key val k ((n + 1) / 2)).2 + (sl key val (k + (n + 1) / 2) (n - (n + 1) / 2)).2)
termination_by n
decreasing_by all_goals omega
/-- where the tree number t begins and how many leaves it has, of n -/
def shF : Nat → Nat → Nat → Nat × Nat
  | 0, n, _ => (0, n)
  | f + 1, n, t => if t ≤ 1 then (0, n) else
    if t % 2 = 0 then ((shF f n (t / 2)).1, if 1 < (shF f n (t / 2)).2 then ((shF f n (t / 2)).2 + 1) / 2 else 0)
    else if 1 < (shF f n (t / 2)).2 then ((shF f n (t / 2)).1 + ((shF f n (t / 2)).2 + 1) / 2, (shF f n (t / 2)).2 - ((shF f n (t / 2)).2 + 1) / 2) else ((shF f n (t / 2)).1, 0)
def sh (n t : Nat) : Nat × Nat := shF 5 n t
/-- a tree of the class, at q, over n leaves -/
def treeI (v : q_H) (q n : Nat) (key val : Nat → Int) : Prop := (∀ t, 1 ≤ t → t < 32 → v (q + 1) t = ((sh n t).1 : Int) ∧ v (q + 2) t = ((sh n t).2 : Int)) ∧ ∀ t, 1 ≤ t → t < 32 → 1 ≤ (sh n t).2 → v (q + 3) t = (sl key val (sh n t).1 (sh n t).2).1 ∧ v (q + 4) t = (sl key val (sh n t).1 (sh n t).2).2
/-- a table of n rows: the class's cell q, the reference's place t -/
def tabI (v : q_H) (q t n : Nat) : Prop := n ≤ 14 ∧ v 141 t = (n : Int) ∧ v (q + 1) 2 = (n : Int) + 2 ∧ v (q + 2) 0 = -1 ∧ v (q + 2) (n + 1) = 1000 ∧ v (q + 3) 0 = 0 ∧ v (q + 3) (n + 1) = 0 ∧ (∀ k, k < n → v (q + 2) (k + 1) = v 142 (14 * t + k) ∧ v (q + 3) (k + 1) = v 143 (14 * t + k) ∧ 0 ≤ v (q + 2) (k + 1) ∧ v (q + 2) (k + 1) ≤ 999 ∧ 0 ≤ v (q + 3) (k + 1) ∧ v (q + 3) (k + 1) ≤ 999) ∧ (∀ k, k ≤ n → v (q + 2) k < v (q + 2) (k + 1)) ∧ treeI v (q + 4) (n + 2) (v (q + 2)) (v (q + 3))
def tbI (v : q_H) : Prop := ∀ t, t < 3 → ∃ n, tabI v (110 + 9 * t) t n
def Inv (v : q_H) (G : q_Gr) : Prop := gok G ∧ shI v ∧ stI v ∧ rdI v ∧ tpI v ∧ acI v G ∧ ckI v ∧ asI v ∧ tbI v
theorem shI_cg {v v' : q_H} (h : ∀ b, (94 ≤ b ∧ b < 110) ∨ b = 138 ∨ b = 139 ∨ b = 140 → v' b = v b) (hi : shI v) : shI v' := by
  intro s hs
  have := hi s hs
  rw [h 138 (by omega), h 139 (by omega), h 140 (by omega), h (94 + 2 * s) (by omega), h (95 + 2 * s) (by omega)]
  exact this
theorem stI_cg {v v' : q_H} (h1 : v' 32 9 = v 32 9) (h2 : v' 137 1 = v 137 1) (hi : stI v) : stI v' := by
  unfold stI
  rw [h1, h2]
  exact hi
theorem rdI_cg {v v' : q_H} (h1 : v' 32 3 = v 32 3) (h2 : v' 137 13 = v 137 13) (h3 : v' 35 = v 35) (h4 : v' 148 = v 148) (hi : rdI v) : rdI v' := by
  unfold rdI
  rw [h1, h2, h3, h4]
  exact hi
theorem tpI_cg {v v' : q_H} (h1 : v' 36 1 = v 36 1) (h2 : v' 36 10 = v 36 10) (h3 : v' 137 23 = v 137 23) (h4 : v' 137 24 = v 137 24) (h5 : v' 37 = v 37) (h6 : v' 154 = v 154) (hi : tpI v) : tpI v' := by
  unfold tpI
  rw [h1, h2, h3, h4, h5, h6]
  exact hi
theorem acI_cg {v v' : q_H} {G : q_Gr} (h1 : v' 36 3 = v 36 3) (h2 : v' 137 15 = v 137 15) (h3 : ∀ b, (149 ≤ b ∧ b < 154) ∨ 174 ≤ b → v' b = v b) (hi : acI v G) : acI v' G := by
  unfold acI actI
  rw [h1, h2, h3 149 (by omega), h3 150 (by omega), h3 151 (by omega), h3 152 (by omega), h3 153 (by omega)]
  refine ⟨hi.1, hi.2.1, hi.2.2.1, fun a ha => ?_⟩
  obtain ⟨p, g1, g2, g3, g4, g5⟩ := hi.2.2.2 a ha
  refine ⟨p, g1, g2, g3, g4, ?_⟩
  rw [h3 p (by omega)]
  exact g5
theorem ckI_cg {v v' : q_H} (h1 : v' 52 2 = v 52 2) (h2 : v' 70 1 = v 70 1) (h3 : v' 137 61 = v 137 61) (h4 : v' 137 62 = v 137 62) (h7 : v' 137 56 = v 137 56) (h8 : v' 137 57 = v 137 57) (h5 : v' 71 = v 71) (h6 : v' 172 = v 172) (hi : ckI v) : ckI v' := by
  unfold ckI
  rw [h1, h2, h3, h4, h5, h6, h7, h8]
  exact hi
theorem asI_cg {v v' : q_H} (h1 : v' 92 1 = v 92 1) (h3 : v' 137 65 = v 137 65) (h5 : v' 93 = v 93) (h6 : v' 173 = v 173) (hi : asI v) : asI v' := by
  unfold asI
  rw [h1, h3, h5, h6]
  exact hi
theorem tabI_cg {v v' : q_H} {q t n : Nat} (h : ∀ b, (q ≤ b ∧ b < q + 9) ∨ b = 141 ∨ b = 142 ∨ b = 143 → v' b = v b) (hi : tabI v q t n) : tabI v' q t n := by
  unfold tabI treeI
  rw [h 141 (by omega), h 142 (by omega), h 143 (by omega), h (q + 1) (by omega), h (q + 2) (by omega), h (q + 3) (by omega), show q + 4 + 1 = q + 5 from rfl, show q + 4 + 2 = q + 6 from rfl, show q + 4 + 3 = q + 7 from rfl, show q + 4 + 4 = q + 8 from rfl, h (q + 5) (by omega), h (q + 6) (by omega), h (q + 7) (by omega), h (q + 8) (by omega)]
  exact hi
theorem tbI_cg {v v' : q_H} (h : ∀ b, (110 ≤ b ∧ b < 137) ∨ b = 141 ∨ b = 142 ∨ b = 143 → v' b = v b) (hi : tbI v) : tbI v' := by
  intro t ht
  obtain ⟨n, hn⟩ := hi t ht
  exact ⟨n, tabI_cg (fun b hb => h b (by omega)) hn⟩
/-- the same call of both: the same answer, and what holds holds again -/
def twin (d mc mm : Nat) (as : List q_V) (v : q_H) (G : q_Gr) (P : q_H → q_Gr → Prop) : Prop := q_call d mc (.inr (.inr (.inl (some 32))) :: as) v G (fun r v1 G1 => q_call d mm (.inr (.inr (.inl (some 137))) :: as) v1 G1 (fun r2 v2 G2 => ∃ z : Int, r = .inl z ∧ r2 = .inl z ∧ -2147483648 ≤ z ∧ z ≤ 2147483647 ∧ P v2 G2 ∧ G2.2.2.1 ≤ G.2.2.1 + 12 ∧ G2.2.2.2 ≤ G.2.2.2 + 72 ∧ (∀ b, b < 32 → v2 b = v b) ∧ G2.2.1 0 = G.2.1 0))
