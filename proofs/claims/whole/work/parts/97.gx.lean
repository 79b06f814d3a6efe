/-! ===== cells as they are made ===== -/
abbrev q_Ce : Type := (Nat × Nat) × List (Option Nat)
def z0 : q_Ce := ((0, 0), [])
/-- G' is G with the cells l added from the m-th on, and the references of p are r -/
def gx (m : Nat) (G G' : q_Gr) (p : Nat) (l : List q_Ce) (r : List (Option Nat)) : Prop := G.2.2.1 = m ∧ G'.2.2.1 = m + l.length ∧ G'.2.2.2 = G.2.2.2 + (l.map fun x => x.1.2).sum ∧ (∀ a, a < 32 + m → G'.2.1 a = G.2.1 a ∧ (a ≠ p → G'.1 a = G.1 a)) ∧ (∀ j, j < l.length → G'.2.1 (32 + (m + j)) = (l.getD j z0).1 ∧ ∀ k, G'.1 (32 + (m + j)) k = (l.getD j z0).2.getD k none) ∧ ∀ k, G'.1 p k = r.getD k none
/-- n new cells, all 0 -/
def vz (v v' : q_H) (m n : Nat) : Prop := (∀ b, b < 32 + m → v' b = v b) ∧ ∀ b, 32 + m ≤ b → b < 32 + (m + n) → ∀ j, v' b j = 0
section
variable {d p m : Nat} {v : q_H} {G : q_Gr} {Q : q_V → q_H → q_Gr → Prop}
theorem upr_1 {f : Nat → Nat → Option Nat} {a b k : Nat} {x : Option Nat} (h : b ≠ a) : q_upr f a k x b = f b := by
  funext j
  show (if b = a ∧ j = k then x else f b j) = f b j
  rw [if_neg (fun e => h e.1)]
theorem mk_1n {kd n k : Nat} : (q_mk G kd n).1 (32 + G.2.2.1) k = none := by
  show (if 32 + G.2.2.1 = 32 + G.2.2.1 then none else G.1 (32 + G.2.2.1) k) = none
  rw [if_pos rfl]
theorem gx_0 {r : List (Option Nat)} (hm : G.2.2.1 = m) (h : ∀ k, G.1 p k = none) (hr : ∀ x, x ∈ r → x = none) : gx m G G p [] r := by
  refine ⟨hm, hm, rfl, fun a _ => ⟨rfl, fun _ => rfl⟩, fun j hj => absurd hj (Nat.not_lt_zero j), fun k => ?_⟩
  rw [h k, List.getD_eq_getElem?_getD]
  by_cases c : k < r.length
  · rw [List.getElem?_eq_getElem c, hr _ (List.getElem_mem c)]
    rfl
  · rw [List.getElem?_eq_none (by omega)]
    rfl
theorem getD_set' {r : List (Option Nat)} {k j : Nat} {x : Option Nat} (h : k < r.length) : (r.set k x).getD j none = if j = k then x else r.getD j none := by
  rw [List.getD_eq_getElem?_getD, List.getD_eq_getElem?_getD, List.getElem?_set]
  by_cases c : j = k
  · subst c
    rw [if_pos rfl, if_pos rfl, if_pos h]
    rfl
  · rw [if_neg (fun e => c e.symm), if_neg c]
/-- a part of p: a new cell, what its maker makes, the reference -/
theorem gx_sub {G1 G3 : q_Gr} {l l' : List q_Ce} {r r' : List (Option Nat)} {kd n k : Nat} (hp : p < 32 + m) (h : gx m G G1 p l r) (h3 : gx (m + l.length + 1) (q_mk G1 kd n) G3 (32 + (m + l.length)) l' r') (hk : k < r.length) : gx m G (q_upr G3.1 p k (some (32 + (m + l.length))), G3.2) p (l ++ ((kd, n), r') :: l') (r.set k (some (32 + (m + l.length)))) := by
  obtain ⟨a0, a1, a2, a3, a4, a5⟩ := h
  obtain ⟨b0, b1, b2, b3, b4, b5⟩ := h3
  rw [mk_4] at b2
  have en : (((kd, n), r') : q_Ce).1.2 = n := rfl
  refine ⟨a0, ?_, ?_, fun a ha => ⟨?_, fun hne => ?_⟩, fun j hj => ?_, fun j => ?_⟩
  · show G3.2.2.1 = _
    rw [b1, List.length_append, List.length_cons]
    omega
  · show G3.2.2.2 = _
    rw [b2, a2, List.map_append, List.map_cons, List.sum_append, List.sum_cons]
    omega
  · show G3.2.1 a = _
    rw [(b3 a (by omega)).1, mk_2 (by omega), (a3 a ha).1]
  · show q_upr G3.1 p k _ a = _
    rw [upr_1 hne, (b3 a (by omega)).2 (by omega), mk_1 (by omega), (a3 a ha).2 hne]
  · show G3.2.1 (32 + (m + j)) = _ ∧ ∀ k', q_upr G3.1 p k _ (32 + (m + j)) k' = _
    rw [upr_1 (by omega)]
    rw [List.length_append, List.length_cons] at hj
    rcases Nat.lt_trichotomy j l.length with c | c | c
    · have e : (l ++ ((kd, n), r') :: l').getD j z0 = l.getD j z0 := by
        rw [List.getD_eq_getElem?_getD, List.getD_eq_getElem?_getD, List.getElem?_append_left c]
      rw [e, (b3 _ (by omega)).1, (b3 _ (by omega)).2 (by omega), mk_2 (by omega), mk_1 (by omega)]
      exact a4 j c
    · have e : (l ++ ((kd, n), r') :: l').getD j z0 = ((kd, n), r') := by
        rw [List.getD_eq_getElem?_getD, List.getElem?_append_right (by omega), c, Nat.sub_self]
        rfl
      have e2 : 32 + (m + j) = 32 + G1.2.2.1 := by omega
      rw [e, show 32 + (m + j) = 32 + (m + l.length) by omega]
      refine ⟨?_, b5⟩
      rw [(b3 _ (by omega)).1, show 32 + (m + l.length) = 32 + G1.2.2.1 by omega, mk_2n]
    · have e : (l ++ ((kd, n), r') :: l').getD j z0 = l'.getD (j - l.length - 1) z0 := by
        rw [List.getD_eq_getElem?_getD, List.getD_eq_getElem?_getD, List.getElem?_append_right (by omega), show j - l.length = (j - l.length - 1) + 1 by omega]
        rfl
      have e2 : 32 + (m + j) = 32 + (m + l.length + 1 + (j - l.length - 1)) := by omega
      rw [e, e2]
      exact b4 _ (by omega)
  · show q_upr G3.1 p k _ p j = _
    rw [getD_set' hk]
    show (if p = p ∧ j = k then _ else G3.1 p j) = _
    by_cases c : j = k
    · rw [if_pos ⟨rfl, c⟩, if_pos c]
    · rw [if_neg (fun e => c e.2), if_neg c, (b3 p (by omega)).2 (by omega), mk_1 (by omega), a5]
theorem gx_new {G1 : q_Gr} {l : List q_Ce} {r : List (Option Nat)} {kd n : Nat} (h : gx m G G1 p l r) : (q_mk G1 kd n).2.2.1 = m + l.length + 1 ∧ (∀ k, (q_mk G1 kd n).1 (32 + (m + l.length)) k = none) ∧ (q_mk G1 kd n).2.1 (32 + (m + l.length)) = (kd, n) := by
  have e := h.2.1
  refine ⟨by rw [mk_3, e], fun k => ?_, ?_⟩
  · rw [← e]
    exact mk_1n
  · rw [← e]
    exact mk_2n
theorem gx_arr {G1 : q_Gr} {l : List q_Ce} {r : List (Option Nat)} {kd n k : Nat} (hp : p < 32 + m) (h : gx m G G1 p l r) (hk : k < r.length) : gx m G (q_upr (q_mk G1 kd n).1 p k (some (32 + (m + l.length))), (q_mk G1 kd n).2) p (l ++ [((kd, n), [])]) (r.set k (some (32 + (m + l.length)))) :=
  gx_sub (r' := []) hp h (gx_0 (gx_new h).1 (gx_new h).2.1 (fun x hx => absurd hx (by simp))) hk
theorem vz_0 : vz v v m 0 := ⟨fun _ _ => rfl, fun b h1 h2 => by omega⟩
theorem vz_sub {v1 v2 : q_H} {n n' : Nat} (h : vz v v1 m n) (h2 : vz (q_zr v1 (32 + (m + n))) v2 (m + n + 1) n') : vz v v2 m (n + 1 + n') := by
  obtain ⟨a1, a2⟩ := h
  obtain ⟨b1, b2⟩ := h2
  refine ⟨fun b hb => ?_, fun b c1 c2 j => ?_⟩
  · rw [b1 b (by omega), zr_r (by omega), a1 b hb]
  · by_cases c : b < 32 + (m + n)
    · rw [b1 b (by omega), zr_r (by omega), a2 b c1 c]
    · by_cases c' : b = 32 + (m + n)
      · rw [b1 b (by omega), c']
        show (if 32 + (m + n) = 32 + (m + n) then (0 : Int) else _) = 0
        rw [if_pos rfl]
      · exact b2 b (by omega) (by omega) j
/-- a new array for the field k of p -/
theorem w_arr {K : q_H → q_Gr → Prop} {G1 : q_Gr} {v1 : q_H} {l : List q_Ce} {r : List (Option Nat)} {kd n k : Nat} (hp : p < 32 + m) (g : gx m G G1 p l r) (z : vz v v1 m l.length) (hk : k < r.length) (h : ∀ v' G', gx m G G' p (l ++ [((kd, n), [])]) (r.set k (some (32 + (m + l.length)))) → vz v v' m (l.length + 1) → K v' G') : K (q_zr v1 (32 + (m + l.length))) (q_upr (q_mk G1 kd n).1 p k (some (32 + (m + l.length))), (q_mk G1 kd n).2) := h _ _ (gx_arr hp g hk) (vz_sub z vz_0)
/-- a new part for the field k of p -/
theorem w_sub {K : q_Gr → Prop} {G1 G3 : q_Gr} {l l' : List q_Ce} {r r' : List (Option Nat)} {kd n k : Nat} (hp : p < 32 + m) (g : gx m G G1 p l r) (h3 : gx (m + l.length + 1) (q_mk G1 kd n) G3 (32 + (m + l.length)) l' r') (hk : k < r.length) (h : ∀ G', gx m G G' p (l ++ ((kd, n), r') :: l') (r.set k (some (32 + (m + l.length)))) → K G') : K (q_upr G3.1 p k (some (32 + (m + l.length))), G3.2) := h _ (gx_sub hp g h3 hk)
end
