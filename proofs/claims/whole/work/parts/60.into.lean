/-! ===== answers out of rows: the pure list ===== -/
def idxR (x : Int) : List (Int × Int) → Nat
  | [] => 0
  | r :: rs => if r.1 = x then 0 else idxR x rs + 1
def fnd (x : Int) : List (Int × Int) → Option Int
  | [] => none
  | r :: rs => if r.1 = x then some r.2 else fnd x rs
theorem idx_le (x : Int) : ∀ xs, idxR x xs ≤ xs.length
  | [] => Nat.le_refl _
  | r :: rs => by
    have := idx_le x rs
    unfold idxR
    rw [List.length_cons]
    split <;> omega
theorem idx_lt (x : Int) : ∀ (xs : List (Int × Int)) (k : Nat) (hk : k < xs.length), k < idxR x xs → xs[k].1 ≠ x
  | [], k, hk, _ => absurd hk (Nat.not_lt_zero _)
  | r :: rs, 0, _, h => by
    unfold idxR at h
    split at h
    · omega
    · next c => exact c
  | r :: rs, k + 1, hk, h => by
    unfold idxR at h
    split at h
    · omega
    · exact idx_lt x rs k (by simpa using hk) (by omega)
theorem idx_at (x : Int) : ∀ (xs : List (Int × Int)) (h : idxR x xs < xs.length), xs[idxR x xs].1 = x ∧ fnd x xs = some xs[idxR x xs].2
  | [], h => absurd h (Nat.not_lt_zero _)
  | r :: rs, h => by
    by_cases c : r.1 = x
    · have e : idxR x (r :: rs) = 0 := by unfold idxR; rw [if_pos c]
      simp only [e]
      unfold fnd
      rw [if_pos c]
      exact ⟨c, rfl⟩
    · have e : idxR x (r :: rs) = idxR x rs + 1 := by rw [idxR, if_neg c]
      have h' : idxR x rs < rs.length := by rw [e, List.length_cons] at h; omega
      have := idx_at x rs h'
      simp only [e]
      unfold fnd
      rw [if_neg c]
      exact this
theorem idx_no (x : Int) : ∀ (xs : List (Int × Int)) (_ : ¬ idxR x xs < xs.length), fnd x xs = none
  | [], _ => rfl
  | r :: rs, h => by
    by_cases c : r.1 = x
    · exfalso
      apply h
      rw [idxR, if_pos c, List.length_cons]
      omega
    · rw [idxR, if_neg c, List.length_cons] at h
      rw [fnd, if_neg c]
      exact idx_no x rs (by omega)
theorem plc_hasR {v : q_H} {q : Nat} {xs : List (Int × Int)} {x : Int} (h : hasR v q xs) : plc (v (q + 1)) xs.length x = if idxR x xs < xs.length then (idxR x xs : Int) else -1 := by
  have hle := idx_le x xs
  unfold plc plcR
  rw [srch_eq (r := idxR x xs) (by omega) (by omega) (fun k _ hk => by
    have := idx_lt x xs k (by omega) hk
    rw [← (h.2 k (by omega)).1] at this
    simpa using this) (fun hlt => by
    have := (idx_at x xs (by omega)).1
    rw [← (h.2 _ (by omega)).1] at this
    simpa using this)]
def mat1 (RB : List (Int × Int)) (r : Int × Int) : List Int := match fnd r.1 RB with
  | some y => [r.1, r.2, y]
  | none => []
def mis1 (RB : List (Int × Int)) (r : Int × Int) : List Int := match fnd r.1 RB with
  | some _ => []
  | none => [r.1, r.2]
def mat (RB : List (Int × Int)) : List (Int × Int) → List Int
  | [] => []
  | r :: rs => mat1 RB r ++ mat RB rs
def mis (RB : List (Int × Int)) : List (Int × Int) → List Int
  | [] => []
  | r :: rs => mis1 RB r ++ mis RB rs
def ansL (w : Int) (RA RB : List (Int × Int)) (sum : Int) : List Int := if w = 1 then [(RA.length : Int), sum] else if w = 4 ∨ w = 5 then mat RB RA else mis RB RA
theorem app_r {v : q_H} {q f i b : Nat} {x : Int} (h : b ≠ q) (h2 : b ≠ i) : q_app v q f i x b = v b := by
  funext j
  exact app_n (Or.inl h) (Or.inl h2)
theorem hasR_fr {v v' : q_H} {q : Nat} {xs : List (Int × Int)} (h0 : v' q = v q) (h1 : v' (q + 1) = v (q + 1)) (h2 : v' (q + 2) = v (q + 2)) (h : hasR v q xs) : hasR v' q xs := by
  unfold hasR
  rw [h0, h1, h2]
  exact h
def rok (xs : List (Int × Int)) : Prop := ∀ (k : Nat) (hk : k < xs.length), -2147483648 ≤ xs[k].1 ∧ xs[k].1 ≤ 2147483647
section
variable {d q : Nat} {v : q_H} {G : q_Gr} {Q : q_V → q_H → q_Gr → Prop}
theorem c_hkey {xs : List (Int × Int)} {i : Nat} (g : gRow G q) (h : hasR v q xs) (h16 : xs.length ≤ 16) (hi : i < xs.length) : q_call (d + 2) 83 [.inr (.inr (.inl (some q))), .inl i] v G Q = Q (.inl (xs[i].1)) v G := by
  have h1 := h.1
  rw [c_rkey g (by omega) (by omega) (by omega) (by omega), if_pos (by omega), Int.toNat_natCast, (h.2 i hi).1]
theorem c_hval {xs : List (Int × Int)} {i : Nat} (g : gRow G q) (h : hasR v q xs) (h16 : xs.length ≤ 16) (hi : i < xs.length) : q_call (d + 2) 84 [.inr (.inr (.inl (some q))), .inl i] v G Q = Q (.inl (xs[i].2)) v G := by
  have h1 := h.1
  rw [c_rval g (by omega) (by omega) (by omega) (by omega), if_pos (by omega), Int.toNat_natCast, (h.2 i hi).2]
theorem c_hsize {xs : List (Int × Int)} (g : gRow G q) (h : hasR v q xs) : q_call (d + 1) 82 [.inr (.inr (.inl (some q)))] v G Q = Q (.inl xs.length) v G := by
  rw [c_rsize g, h.1]
theorem c_hplace {xs : List (Int × Int)} {x : Int} (g : gRow G q) (h : hasR v q xs) (h16 : xs.length ≤ 16) (ho : rok xs) (hx : -2147483648 ≤ x) (hx2 : x ≤ 2147483647) : q_call (d + 1) 85 [.inr (.inr (.inl (some q))), .inl x] v G Q = Q (.inl (if idxR x xs < xs.length then (idxR x xs : Int) else -1)) v G := by
  rw [c_rplace g h.1 h16 (fun k hk => by rw [(h.2 k hk).1]; exact ho k hk) hx hx2, plc_hasR h]
theorem s_mat_loop {out qa qb : Nat} {RA RB : List (Int × Int)} {v0 : q_H} (hN : gNum G out 48) (ga : gRow G qa) (gb : gRow G qb) (sa : out + 1 < qa ∨ qa + 2 < out) (sb : out + 1 < qb ∨ qb + 2 < out) (hA : hasR v0 qa RA) (hB : hasR v0 qb RB) (lA : RA.length ≤ 16) (lB : RB.length ≤ 16) (oA : rok RA) (oB : rok RB) : ∀ (r i : Nat) (v : q_H) (L : List Int) (z4 : q_V), i + r = RA.length → (∀ b, b ≠ out → b ≠ out + 1 → v b = v0 b) → hasL v out 1 (out + 1) L → L.length + 3 * r ≤ 48 → (∀ v', (∀ b, b ≠ out → b ≠ out + 1 → v' b = v0 b) → hasL v' out 1 (out + 1) (L ++ mat RB (RA.drop i)) → Q (.inr (.inr (.inr ()))) v' G) → q_wp (d + 2) 6 2 [.inr (.inr (.inl (some out))), .inr (.inr (.inl (some qa))), .inr (.inr (.inl (some qb))), .inl i, z4] [] v G Q := by
  intro r
  induction r with
  | zero =>
    intro i v L z4 h hf hL hl hC
    have hi : i = RA.length := by omega
    subst hi
    have es : ∀ (d' : Nat) (Q' : q_V → q_H → q_Gr → Prop), q_call (d' + 1) 82 [.inr (.inr (.inl (some qa)))] v G Q' = Q' (.inl RA.length) v G := fun d' Q' => c_hsize ga (hasR_fr (hf _ (by omega) (by omega)) (hf _ (by omega) (by omega)) (hf _ (by omega) (by omega)) hA)
    have fin := hC v hf (by rw [List.drop_length]; show hasL v out 1 (out + 1) (L ++ []); rw [List.append_nil]; exact hL)
    rw [e_6_2]
    simp (disch := omega) only [E6, es, q_push_I, q_push_L, q_push_P, q_push_U, ↓if_pos]
    repeat' first | exact fin | (refine And.intro ?_ ?_) | exact True.intro | omega | rfl
  | succ r ih =>
    intro i v L z4 h hf hL hl hC
    have hi : i < RA.length := by omega
    rw [List.drop_eq_getElem_cons hi] at hC
    generalize hk : RA[i].1 = k at *
    generalize hx : RA[i].2 = x at *
    have oK := oA i hi
    rw [hk] at oK
    have hL1 := hL.1
    have fr : ∀ u, u qa = v0 qa → u (qa + 1) = v0 (qa + 1) → u (qa + 2) = v0 (qa + 2) → hasR u qa RA := fun u h0 h1 h2 => hasR_fr h0 h1 h2 hA
    have frb : ∀ u, u qb = v0 qb → u (qb + 1) = v0 (qb + 1) → u (qb + 2) = v0 (qb + 2) → hasR u qb RB := fun u h0 h1 h2 => hasR_fr h0 h1 h2 hB
    have a0 := hf qa (by omega) (by omega)
    have a1 := hf (qa + 1) (by omega) (by omega)
    have a2 := hf (qa + 2) (by omega) (by omega)
    have b0 := hf qb (by omega) (by omega)
    have b1 := hf (qb + 1) (by omega) (by omega)
    have b2 := hf (qb + 2) (by omega) (by omega)
    have es : ∀ (d' : Nat) (Q' : q_V → q_H → q_Gr → Prop), q_call (d' + 1) 82 [.inr (.inr (.inl (some qa)))] v G Q' = Q' (.inl RA.length) v G := fun d' Q' => c_hsize ga (fr v a0 a1 a2)
    have ek : ∀ (u : q_H), u qa = v0 qa → u (qa + 1) = v0 (qa + 1) → u (qa + 2) = v0 (qa + 2) → ∀ (d' : Nat) (Q' : q_V → q_H → q_Gr → Prop), q_call (d' + 2) 83 [.inr (.inr (.inl (some qa))), .inl i] u G Q' = Q' (.inl k) u G := fun u h0 h1 h2 d' Q' => by rw [c_hkey ga (fr u h0 h1 h2) lA hi, hk]
    have ex : ∀ (u : q_H), u qa = v0 qa → u (qa + 1) = v0 (qa + 1) → u (qa + 2) = v0 (qa + 2) → ∀ (d' : Nat) (Q' : q_V → q_H → q_Gr → Prop), q_call (d' + 2) 84 [.inr (.inr (.inl (some qa))), .inl i] u G Q' = Q' (.inl x) u G := fun u h0 h1 h2 d' Q' => by rw [c_hval ga (fr u h0 h1 h2) lA hi, hx]
    have ep : ∀ (d' : Nat) (Q' : q_V → q_H → q_Gr → Prop), q_call (d' + 1) 85 [.inr (.inr (.inl (some qb))), .inl k] v G Q' = Q' (.inl (if idxR k RB < RB.length then (idxR k RB : Int) else -1)) v G := fun d' Q' => c_hplace gb (frb v b0 b1 b2) lB oB oK.1 oK.2
    rw [e_6_2]
    by_cases c : idxR k RB < RB.length
    · have hat := (idx_at k RB c).2
      rw [if_pos c] at ep
      generalize hy : RB[idxR k RB].2 = y at *
      generalize hj : idxR k RB = j at *
      have ey : ∀ (u : q_H), u qb = v0 qb → u (qb + 1) = v0 (qb + 1) → u (qb + 2) = v0 (qb + 2) → ∀ (d' : Nat) (Q' : q_V → q_H → q_Gr → Prop), q_call (d' + 2) 84 [.inr (.inr (.inl (some qb))), .inl j] u G Q' = Q' (.inl y) u G := fun u h0 h1 h2 d' Q' => by
        subst hj
        rw [c_hval gb (frb u h0 h1 h2) lB c, hy]
      have em : mat RB (RA[i] :: RA.drop (i + 1)) = [k, x, y] ++ mat RB (RA.drop (i + 1)) := by
        show mat1 RB RA[i] ++ _ = _
        unfold mat1
        rw [hk, hat, hx]
      rw [em] at hC
      have nx := ih (i + 1) (q_apl v out 1 (out + 1) [k, x, y]) (L ++ [k, x, y]) (.inl j) (by omega) (fun b h1 h2 => by rw [apl_r h1 h2, hf b h1 h2]) (hasL_apl (by omega) hL) (by rw [List.length_append]; show L.length + 3 + 3 * r ≤ 48; omega) (fun v' h1 h2 => hC v' h1 (by rw [← List.append_assoc]; exact h2))
      simp only [q_apl] at nx
      simp (disch := first | assumption | omega | ((try simp (disch := omega) only [app_r, app_c]); first | assumption | omega)) only [E6, es, ek, ex, ep, ey, c_nadd, q_push_I, q_push_L, q_push_P, q_push_U, ↓if_neg, ↓if_pos, show (i : Int) + 1 = ((i + 1 : Nat) : Int) by omega]
      repeat' first | (refine And.intro ?_ ?_) | exact True.intro | omega | assumption | rfl
    · have hat := idx_no k RB c
      rw [if_neg c] at ep
      have em : mat RB (RA[i] :: RA.drop (i + 1)) = mat RB (RA.drop (i + 1)) := by
        show mat1 RB RA[i] ++ _ = _
        unfold mat1
        rw [hk, hat, List.nil_append]
      rw [em] at hC
      have nx := ih (i + 1) v L (.inl (-1)) (by omega) hf hL (by omega) hC
      simp (disch := first | assumption | omega | ((try simp (disch := omega) only [app_r, app_c]); first | assumption | omega)) only [E6, es, ek, ep, q_push_I, q_push_L, q_push_P, q_push_U, ↓if_neg, ↓if_pos, show (i : Int) + 1 = ((i + 1 : Nat) : Int) by omega]
      repeat' first | (refine And.intro ?_ ?_) | exact True.intro | omega | assumption | rfl
theorem s_mis_loop {out qa qb : Nat} {RA RB : List (Int × Int)} {v0 : q_H} (hN : gNum G out 48) (ga : gRow G qa) (gb : gRow G qb) (sa : out + 1 < qa ∨ qa + 2 < out) (sb : out + 1 < qb ∨ qb + 2 < out) (hA : hasR v0 qa RA) (hB : hasR v0 qb RB) (lA : RA.length ≤ 16) (lB : RB.length ≤ 16) (oA : rok RA) (oB : rok RB) : ∀ (r i : Nat) (v : q_H) (L : List Int), i + r = RA.length → (∀ b, b ≠ out → b ≠ out + 1 → v b = v0 b) → hasL v out 1 (out + 1) L → L.length + 3 * r ≤ 48 → (∀ v', (∀ b, b ≠ out → b ≠ out + 1 → v' b = v0 b) → hasL v' out 1 (out + 1) (L ++ mis RB (RA.drop i)) → Q (.inr (.inr (.inr ()))) v' G) → q_wp (d + 2) 7 2 [.inr (.inr (.inl (some out))), .inr (.inr (.inl (some qa))), .inr (.inr (.inl (some qb))), .inl i] [] v G Q := by
  intro r
  induction r with
  | zero =>
    intro i v L h hf hL hl hC
    have hi : i = RA.length := by omega
    subst hi
    have es : ∀ (d' : Nat) (Q' : q_V → q_H → q_Gr → Prop), q_call (d' + 1) 82 [.inr (.inr (.inl (some qa)))] v G Q' = Q' (.inl RA.length) v G := fun d' Q' => c_hsize ga (hasR_fr (hf _ (by omega) (by omega)) (hf _ (by omega) (by omega)) (hf _ (by omega) (by omega)) hA)
    have fin := hC v hf (by rw [List.drop_length]; show hasL v out 1 (out + 1) (L ++ []); rw [List.append_nil]; exact hL)
    rw [e_7_2]
    simp (disch := omega) only [E7, es, q_push_I, q_push_L, q_push_P, q_push_U, ↓if_pos]
    repeat' first | exact fin | (refine And.intro ?_ ?_) | exact True.intro | omega | rfl
  | succ r ih =>
    intro i v L h hf hL hl hC
    have hi : i < RA.length := by omega
    rw [List.drop_eq_getElem_cons hi] at hC
    generalize hk : RA[i].1 = k at *
    generalize hx : RA[i].2 = x at *
    have oK := oA i hi
    rw [hk] at oK
    have hL1 := hL.1
    have fr : ∀ u, u qa = v0 qa → u (qa + 1) = v0 (qa + 1) → u (qa + 2) = v0 (qa + 2) → hasR u qa RA := fun u h0 h1 h2 => hasR_fr h0 h1 h2 hA
    have frb : ∀ u, u qb = v0 qb → u (qb + 1) = v0 (qb + 1) → u (qb + 2) = v0 (qb + 2) → hasR u qb RB := fun u h0 h1 h2 => hasR_fr h0 h1 h2 hB
    have a0 := hf qa (by omega) (by omega)
    have a1 := hf (qa + 1) (by omega) (by omega)
    have a2 := hf (qa + 2) (by omega) (by omega)
    have b0 := hf qb (by omega) (by omega)
    have b1 := hf (qb + 1) (by omega) (by omega)
    have b2 := hf (qb + 2) (by omega) (by omega)
    have es : ∀ (d' : Nat) (Q' : q_V → q_H → q_Gr → Prop), q_call (d' + 1) 82 [.inr (.inr (.inl (some qa)))] v G Q' = Q' (.inl RA.length) v G := fun d' Q' => c_hsize ga (fr v a0 a1 a2)
    have ek : ∀ (u : q_H), u qa = v0 qa → u (qa + 1) = v0 (qa + 1) → u (qa + 2) = v0 (qa + 2) → ∀ (d' : Nat) (Q' : q_V → q_H → q_Gr → Prop), q_call (d' + 2) 83 [.inr (.inr (.inl (some qa))), .inl i] u G Q' = Q' (.inl k) u G := fun u h0 h1 h2 d' Q' => by rw [c_hkey ga (fr u h0 h1 h2) lA hi, hk]
    have ex : ∀ (u : q_H), u qa = v0 qa → u (qa + 1) = v0 (qa + 1) → u (qa + 2) = v0 (qa + 2) → ∀ (d' : Nat) (Q' : q_V → q_H → q_Gr → Prop), q_call (d' + 2) 84 [.inr (.inr (.inl (some qa))), .inl i] u G Q' = Q' (.inl x) u G := fun u h0 h1 h2 d' Q' => by rw [c_hval ga (fr u h0 h1 h2) lA hi, hx]
    have ep : ∀ (d' : Nat) (Q' : q_V → q_H → q_Gr → Prop), q_call (d' + 1) 85 [.inr (.inr (.inl (some qb))), .inl k] v G Q' = Q' (.inl (if idxR k RB < RB.length then (idxR k RB : Int) else -1)) v G := fun d' Q' => c_hplace gb (frb v b0 b1 b2) lB oB oK.1 oK.2
    rw [e_7_2]
    by_cases c : idxR k RB < RB.length
    · have hat := (idx_at k RB c).2
      rw [if_pos c] at ep
      have em : mis RB (RA[i] :: RA.drop (i + 1)) = mis RB (RA.drop (i + 1)) := by
        show mis1 RB RA[i] ++ _ = _
        unfold mis1
        rw [hk, hat, List.nil_append]
      rw [em] at hC
      have nx := ih (i + 1) v L (by omega) hf hL (by omega) hC
      simp (disch := first | assumption | omega | ((try simp (disch := omega) only [app_r, app_c]); first | assumption | omega)) only [E7, es, ek, ep, q_push_I, q_push_L, q_push_P, q_push_U, ↓if_neg, ↓if_pos, show (i : Int) + 1 = ((i + 1 : Nat) : Int) by omega]
      repeat' first | (refine And.intro ?_ ?_) | exact True.intro | omega | assumption | rfl
    · have hat := idx_no k RB c
      rw [if_neg c] at ep
      have em : mis RB (RA[i] :: RA.drop (i + 1)) = [k, x] ++ mis RB (RA.drop (i + 1)) := by
        show mis1 RB RA[i] ++ _ = _
        unfold mis1
        rw [hk, hat, hx]
      rw [em] at hC
      have nx := ih (i + 1) (q_apl v out 1 (out + 1) [k, x]) (L ++ [k, x]) (by omega) (fun b h1 h2 => by rw [apl_r h1 h2, hf b h1 h2]) (hasL_apl (by omega) hL) (by rw [List.length_append]; show L.length + 2 + 3 * r ≤ 48; omega) (fun v' h1 h2 => hC v' h1 (by rw [← List.append_assoc]; exact h2))
      simp only [q_apl] at nx
      simp (disch := first | assumption | omega | ((try simp (disch := omega) only [app_r, app_c]); first | assumption | omega)) only [E7, es, ek, ex, ep, c_nadd, q_push_I, q_push_L, q_push_P, q_push_U, ↓if_neg, ↓if_pos, show (i : Int) + 1 = ((i + 1 : Nat) : Int) by omega]
      repeat' first | (refine And.intro ?_ ?_) | exact True.intro | omega | assumption | rfl
/-- answerInto -/
theorem c_into {p out qa qb : Nat} {RA RB : List (Int × Int)} {w sum : Int} (hp : G.2.1 p = (0, 6)) (hp2 : 174 ≤ p) (hw : v p 0 = w) (hw0 : 0 ≤ w) (hw6 : w ≤ 6) (hN : gNum G out 48) (ho : out < 173) (ga : gRow G qa) (gb : gRow G qb) (sa : out + 1 < qa ∨ qa + 2 < out) (sb : out + 1 < qb ∨ qb + 2 < out) (hA : hasR v qa RA) (hB : hasR v qb RB) (lA : RA.length ≤ 16) (lB : RB.length ≤ 16) (oA : rok RA) (oB : rok RB) (hQ : ∀ v', (∀ b, b ≠ out → b ≠ out + 1 → v' b = v b) → hasL v' out 1 (out + 1) (ansL w RA RB sum) → Q (.inr (.inr (.inr ()))) v' G) : q_call (d + 4) 5 [.inr (.inr (.inl (some p))), .inr (.inr (.inl (some out))), .inr (.inr (.inl (some qa))), .inr (.inr (.inl (some qb))), .inl sum] v G Q := by
  have hp' : (G.2.1 p).1 = 0 := by rw [hp]
  generalize hv0 : q_up v out 1 0 = v0
  have f0 : ∀ b, b ≠ out → b ≠ out + 1 → v0 b = v b := fun b b1 b2 => by rw [← hv0, u_r b1]
  have hL0 : hasL v0 out 1 (out + 1) [] := hasL_0 (by rw [← hv0, u_s rfl rfl])
  have wp : v0 p 0 = w := by rw [f0 p (by omega) (by omega), hw]
  have hA0 : hasR v0 qa RA := hasR_fr (f0 _ (by omega) (by omega)) (f0 _ (by omega) (by omega)) (f0 _ (by omega) (by omega)) hA
  have hB0 : hasR v0 qb RB := hasR_fr (f0 _ (by omega) (by omega)) (f0 _ (by omega) (by omega)) (f0 _ (by omega) (by omega)) hB
  have hL01 := hL0.1
  have hL01 : v0 out 1 = 0 := hL01
  have es : ∀ (d' : Nat) (Q' : q_V → q_H → q_Gr → Prop), q_call (d' + 1) 82 [.inr (.inr (.inl (some qa)))] v0 G Q' = Q' (.inl RA.length) v0 G := fun d' Q' => c_hsize ga hA0
  unfold ansL at hQ
  by_cases c1 : w = 1
  · rw [if_pos c1] at hQ
    have fin := hQ (q_apl v0 out 1 (out + 1) [(RA.length : Int), sum]) (fun b b1 b2 => by rw [apl_r b1 b2, f0 b b1 b2]) (hasL_apl (by omega) hL0)
    simp only [q_apl] at fin
    simp (disch := first | assumption | omega | ((try simp (disch := omega) only [app_r, app_c]); first | assumption | omega)) only [E5, hp', c_nclear hN, hv0, wp, es, c_nadd, c1, q_push_I, q_push_L, q_push_P, q_push_U, ↓if_neg, ↓if_pos]
    repeat' first | exact fin | (refine And.intro ?_ ?_) | exact True.intro | omega | rfl
  · rw [if_neg c1] at hQ
    by_cases c4 : w = 4 ∨ w = 5
    · rw [if_pos c4] at hQ
      have key : q_call (d + 3) 6 [.inr (.inr (.inl (some out))), .inr (.inr (.inl (some qa))), .inr (.inr (.inl (some qb)))] v0 G (fun r v' G' => q_wp (d + 3) 5 51 [.inr (.inr (.inl (some p))), .inr (.inr (.inl (some out))), .inr (.inr (.inl (some qa))), .inr (.inr (.inl (some qb))), .inl sum] (q_push r []) v' G' Q) := by
        have nx := s_mat_loop (d := d) (Q := fun r v' G' => q_wp (d + 3) 5 51 [.inr (.inr (.inl (some p))), .inr (.inr (.inl (some out))), .inr (.inr (.inl (some qa))), .inr (.inr (.inl (some qb))), .inl sum] (q_push r []) v' G' Q) hN ga gb sa sb hA0 hB0 lA lB oA oB RA.length 0 v0 [] (.inr (.inr (.inr ()))) (by omega) (fun _ _ _ => rfl) hL0 (by simp; omega) (fun v' h1 h2 => by
          have fin := hQ v' (fun b b1 b2 => by rw [h1 b b1 b2, f0 b b1 b2]) (by simpa using h2)
          simp only [E5, q_push_I, q_push_L, q_push_P, q_push_U]
          exact fin)
        simp only [E6]
        exact nx
      by_cases c5 : w = 4
      · simp (disch := first | assumption | omega | ((try simp (disch := omega) only [app_r, app_c]); first | assumption | omega)) only [e_5, e_5_0, e_5_1, e_5_4, e_5_5, e_5_8, e_5_9, e_5_12, e_5_13, e_5_14, e_5_17, e_5_20, e_5_21, e_5_23, e_5_26, e_5_29, e_5_30, e_5_33, e_5_34, e_5_37, e_5_38, e_5_41, e_5_42, e_5_45, e_5_46, e_5_47, e_5_48, hp', c_nclear hN, hv0, wp, q_push_I, q_push_L, q_push_P, q_push_U, ↓if_neg, ↓if_pos]
        repeat' first | (refine And.intro ?_ ?_) | exact True.intro | omega | assumption | rfl
      · simp (disch := first | assumption | omega | ((try simp (disch := omega) only [app_r, app_c]); first | assumption | omega)) only [e_5, e_5_0, e_5_1, e_5_4, e_5_5, e_5_8, e_5_9, e_5_12, e_5_13, e_5_14, e_5_17, e_5_20, e_5_21, e_5_23, e_5_26, e_5_29, e_5_30, e_5_33, e_5_34, e_5_37, e_5_38, e_5_41, e_5_42, e_5_45, e_5_46, e_5_47, e_5_48, hp', c_nclear hN, hv0, wp, q_push_I, q_push_L, q_push_P, q_push_U, ↓if_neg, ↓if_pos]
        repeat' first | (refine And.intro ?_ ?_) | exact True.intro | omega | assumption | rfl
    · rw [if_neg c4] at hQ
      have key : q_call (d + 3) 7 [.inr (.inr (.inl (some out))), .inr (.inr (.inl (some qa))), .inr (.inr (.inl (some qb)))] v0 G (fun r v' G' => q_wp (d + 3) 5 60 [.inr (.inr (.inl (some p))), .inr (.inr (.inl (some out))), .inr (.inr (.inl (some qa))), .inr (.inr (.inl (some qb))), .inl sum] (q_push r []) v' G' Q) := by
        have nx := s_mis_loop (d := d) (Q := fun r v' G' => q_wp (d + 3) 5 60 [.inr (.inr (.inl (some p))), .inr (.inr (.inl (some out))), .inr (.inr (.inl (some qa))), .inr (.inr (.inl (some qb))), .inl sum] (q_push r []) v' G' Q) hN ga gb sa sb hA0 hB0 lA lB oA oB RA.length 0 v0 [] (by omega) (fun _ _ _ => rfl) hL0 (by simp; omega) (fun v' h1 h2 => by
          have fin := hQ v' (fun b b1 b2 => by rw [h1 b b1 b2, f0 b b1 b2]) (by simpa using h2)
          simp only [E5, q_push_I, q_push_L, q_push_P, q_push_U]
          exact fin)
        simp only [E7]
        exact nx
      simp (disch := first | assumption | omega | ((try simp (disch := omega) only [app_r, app_c]); first | assumption | omega)) only [E5, hp', c_nclear hN, hv0, wp, q_push_I, q_push_L, q_push_P, q_push_U, ↓if_neg, ↓if_pos]
      repeat' first | (refine And.intro ?_ ?_) | exact True.intro | omega | assumption | rfl
end
