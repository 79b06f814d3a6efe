/-! ===== proofs told: the pure list ===== -/
def anyS (S : Nat → Bool) : Nat → Nat → Bool
  | 0, _ => false
  | n + 1, k => S k || anyS S n (k + 1)
theorem anyS_cg {S S' : Nat → Bool} : ∀ (n k : Nat), (∀ j, k ≤ j → j < k + n → S j = S' j) → anyS S n k = anyS S' n k
  | 0, k, _ => rfl
  | n + 1, k, h => by
    unfold anyS
    rw [h k (Nat.le_refl _) (by omega), anyS_cg n (k + 1) (fun j h1 h2 => h j (by omega) (by omega))]
def tl (key val : Nat → Int) (S : Nat → Bool) (k n : Nat) : List Int :=
  if anyS S n k = false then [0, (sl key val k n).1, (sl key val k n).2]
  else if h : n ≤ 1 then [1, key k, val k]
  else 1 :: (tl key val S k ((n + 1) / 2) ++ tl key val S (k + (n + 1) / 2) (n - (n + 1) / 2))
termination_by n
decreasing_by all_goals omega
section
variable {key val : Nat → Int} {S : Nat → Bool} {k n : Nat}
theorem tl_no (h : anyS S n k = false) : tl key val S k n = [0, (sl key val k n).1, (sl key val k n).2] := by rw [tl, if_pos h]
theorem tl_leaf (h : anyS S n k = true) (hn : n ≤ 1) : tl key val S k n = [1, key k, val k] := by rw [tl, if_neg (by rw [h]; decide), dif_pos hn]
theorem tl_fork (h : anyS S n k = true) (hn : 1 < n) : tl key val S k n = 1 :: (tl key val S k ((n + 1) / 2) ++ tl key val S (k + (n + 1) / 2) (n - (n + 1) / 2)) := by rw [tl, if_neg (by rw [h]; decide), dif_neg (by omega)]
end
/-- how many trees a walk meets -/
def nv (S : Nat → Bool) (k n : Nat) : Nat :=
  if anyS S n k = false then 1 else if h : n ≤ 1 then 1 else 1 + (nv S k ((n + 1) / 2) + nv S (k + (n + 1) / 2) (n - (n + 1) / 2))
termination_by n
decreasing_by all_goals omega
theorem nv_no {S : Nat → Bool} {k n : Nat} (h : anyS S n k = false) : nv S k n = 1 := by rw [nv, if_pos h]
theorem nv_leaf {S : Nat → Bool} {k n : Nat} (h : anyS S n k = true) (hn : n ≤ 1) : nv S k n = 1 := by rw [nv, if_neg (by rw [h]; decide), dif_pos hn]
theorem nv_fork {S : Nat → Bool} {k n : Nat} (h : anyS S n k = true) (hn : 1 < n) : nv S k n = 1 + (nv S k ((n + 1) / 2) + nv S (k + (n + 1) / 2) (n - (n + 1) / 2)) := by rw [nv, if_neg (by rw [h]; decide), dif_neg (by omega)]
theorem nv_le (S : Nat → Bool) : ∀ (m k n : Nat), n ≤ m → 1 ≤ n → nv S k n + 1 ≤ 2 * n := by
  intro m
  induction m with
  | zero => intro k n h1 h2; omega
  | succ m ih =>
    intro k n h1 h2
    by_cases h : anyS S n k = true
    · by_cases hn : n ≤ 1
      · rw [nv_leaf h hn]
        omega
      · rw [nv_fork h (by omega)]
        have a := ih k ((n + 1) / 2) (by omega) (by omega)
        have b := ih (k + (n + 1) / 2) (n - (n + 1) / 2) (by omega) (by omega)
        omega
    · rw [nv_no (by simpa using h)]
      omega
theorem tl_len (key val : Nat → Int) (S : Nat → Bool) : ∀ (m k n : Nat), n ≤ m → 1 ≤ n → (tl key val S k n).length + 1 ≤ 4 * n := by
  intro m
  induction m with
  | zero => intro k n h1 h2; omega
  | succ m ih =>
    intro k n h1 h2
    by_cases h : anyS S n k = true
    · by_cases hn : n ≤ 1
      · rw [tl_leaf h hn]
        show 3 + 1 ≤ 4 * n
        omega
      · rw [tl_fork h (by omega), List.length_cons, List.length_append]
        have a := ih k ((n + 1) / 2) (by omega) (by omega)
        have b := ih (k + (n + 1) / 2) (n - (n + 1) / 2) (by omega) (by omega)
        omega
    · rw [tl_no (by simpa using h)]
      show 3 + 1 ≤ 4 * n
      omega
theorem tl_cg {key val key' val' : Nat → Int} {S S' : Nat → Bool} : ∀ (m k n : Nat), n ≤ m → 1 ≤ n → (∀ j, k ≤ j → j < k + n → key j = key' j ∧ val j = val' j ∧ S j = S' j) → tl key val S k n = tl key' val' S' k n := by
  intro m
  induction m with
  | zero => intro k n h1 h2; omega
  | succ m ih =>
    intro k n h1 h2 h
    have ha := anyS_cg (S := S) (S' := S') n k (fun j g1 g2 => (h j g1 g2).2.2)
    by_cases hs : anyS S n k = true
    · by_cases hn : n ≤ 1
      · rw [tl_leaf hs hn, tl_leaf (by rw [← ha]; exact hs) hn, (h k (Nat.le_refl _) (by omega)).1, (h k (Nat.le_refl _) (by omega)).2.1]
      · rw [tl_fork hs (by omega), tl_fork (key := key') (val := val') (S := S') (k := k) (n := n) (by rw [← ha]; exact hs) (by omega), ih k ((n + 1) / 2) (by omega) (by omega) (fun j h3 h4 => h j h3 (by omega)), ih (k + (n + 1) / 2) (n - (n + 1) / 2) (by omega) (by omega) (fun j h3 h4 => h j (by omega) (by omega))]
    · rw [tl_no (by simpa using hs), tl_no (by rw [← ha]; simpa using hs), sl_cg n k n (Nat.le_refl _) h2 (fun j g1 g2 => ⟨(h j g1 g2).1, (h j g1 g2).2.1⟩)]
theorem bh_all : ∀ t, t < 16 → 1 ≤ t → bh (2 * t) = 2 * t + 1 ∧ bh (2 * t + 1) = bh t := by decide +kernel
theorem bh_lt : ∀ t, t < 32 → bh t < 32 := by decide +kernel
theorem bh_1 : bh 1 = 0 := by decide +kernel
section
variable {d q : Nat} {v : q_H} {G : q_Gr} {Q : q_V → q_H → q_Gr → Prop}
/-! ===== the class: what is shown ===== -/
theorem s_hide_loop (hG : gok G) : ∀ (r k : Nat) (v : q_H), k + r = 16 → Q (.inr (.inr (.inr ()))) (q_fl1 v 41 k 16 0) G → q_wp d 68 2 [.inr (.inr (.inl (some 40))), .inl k] [] v G Q := by
  intro r
  induction r with
  | zero =>
    intro k v h hQ
    have h : k = 16 := by omega
    subst h
    rw [q_fl1_nil] at hQ
    rw [e_68_2]
    simp (disch := omega) only [E68, ↓if_pos]
    repeat' first | (refine And.intro ?_ ?_) | rfl | exact True.intro | assumption | omega
  | succ r ih =>
    intro k v h hQ
    rw [e_68_2]
    have := ih (k + 1) (q_up v 41 k 0) (by omega) (by rw [q_fl1_cons _ _ _ _ _ (by omega)]; exact hQ)
    simp (disch := omega) only [E68, SHC hG, ↓if_neg, Int.toNat_natCast, show (k : Int) + 1 = ((k + 1 : Nat) : Int) by omega]
    repeat' first | (refine And.intro ?_ ?_) | rfl | exact True.intro | assumption | omega
theorem c_hide (hG : gok G) : q_call (d + 1) 68 [.inr (.inr (.inl (some 40)))] v G Q = Q (.inr (.inr (.inr ()))) (q_fl1 v 41 0 16 0) G := by
  refine q_call_eq ?_ Q
  simp only [E68, SHC hG]
  exact ⟨True.intro, s_hide_loop hG 16 0 v rfl ⟨rfl, rfl, rfl⟩⟩
theorem s_show_loop {x y : Nat} {z1 : q_V} (hG : gok G) (hy : y < 1000) : ∀ (r k : Nat) (v : q_H), k + r = min (y + 1) 16 → Q (.inr (.inr (.inr ()))) (q_fl1 v 41 k (min (y + 1) 16) 1) G → q_wp d 69 6 [.inr (.inr (.inl (some 40))), z1, .inl y, .inl k] [] v G Q := by
  intro r
  induction r with
  | zero =>
    intro k v h hQ
    have h : k = min (y + 1) 16 := by omega
    rw [← h, q_fl1_nil] at hQ
    rw [e_69_6]
    by_cases c : (y : Int) < (k : Int)
    · simp (disch := omega) only [E69, ↓if_pos]
      repeat' first | (refine And.intro ?_ ?_) | rfl | exact True.intro | assumption | omega
    · simp (disch := omega) only [E69, ↓if_pos, ↓if_neg]
      repeat' first | (refine And.intro ?_ ?_) | rfl | exact True.intro | assumption | omega
  | succ r ih =>
    intro k v h hQ
    rw [e_69_6]
    have := ih (k + 1) (q_up v 41 k 1) (by omega) (by rw [q_fl1_cons _ _ _ _ _ (by omega)]; exact hQ)
    simp (disch := omega) only [E69, SHC hG, ↓if_neg, Int.toNat_natCast, show (k : Int) + 1 = ((k + 1 : Nat) : Int) by omega]
    repeat' first | (refine And.intro ?_ ?_) | rfl | exact True.intro | assumption | omega
theorem c_show {x y : Nat} (hG : gok G) (hx : x ≤ y) (hx2 : x < 16) (hy : y < 1000) : q_call (d + 1) 69 [.inr (.inr (.inl (some 40))), .inl x, .inl y] v G Q = Q (.inr (.inr (.inr ()))) (q_fl1 v 41 x (min (y + 1) 16) 1) G := by
  refine q_call_eq ?_ Q
  have := s_show_loop (d := d) (x := x) (y := y) (z1 := .inl x) (Q := fun r v' G' => r = .inr (.inr (.inr ())) ∧ v' = q_fl1 v 41 x (min (y + 1) 16) 1 ∧ G' = G) hG hy (min (y + 1) 16 - x) x v (by omega) ⟨rfl, rfl, rfl⟩
  simp (disch := omega) only [E69, SHC hG, ↓if_neg, show ¬ (x : Int) < 0 by omega]
  repeat' first | (refine And.intro ?_ ?_) | rfl | exact True.intro | assumption | omega
theorem s_hasS_loop {S : Nat → Bool} {k n : Nat} (hG : gok G) (hS : ∀ j, j < 16 → v 41 j = if S j then 1 else 0) (hkn : k + n ≤ 16) : ∀ (r i : Nat), i + r = k + n → Q (.inl (if anyS S r i then 1 else 0)) v G → q_wp d 71 6 [.inr (.inr (.inl (some 40))), .inl k, .inl n, .inl i] [] v G Q := by
  intro r
  induction r with
  | zero =>
    intro i h hQ
    rw [e_71_6]
    simp (disch := omega) only [E71, ↓if_pos]
    have hQ : Q (.inl 0) v G := hQ
    repeat' first | (refine And.intro ?_ ?_) | rfl | exact True.intro | assumption | omega
  | succ r ih =>
    intro i h hQ
    have hs := hS i (by omega)
    rw [e_71_6]
    unfold anyS at hQ
    by_cases c : S i = true
    · rw [if_pos c] at hs
      rw [c, Bool.true_or, if_pos rfl] at hQ
      simp (disch := omega) only [E71, SHC hG, ↓if_neg, ↓if_pos, Int.toNat_natCast, hs]
      repeat' first | (refine And.intro ?_ ?_) | rfl | exact True.intro | assumption | omega
    · rw [if_neg c] at hs
      rw [show S i = false by simpa using c, Bool.false_or] at hQ
      have := ih (i + 1) (by omega) hQ
      simp (disch := omega) only [E71, SHC hG, ↓if_neg, ↓if_pos, Int.toNat_natCast, hs, show (i : Int) + 1 = ((i + 1 : Nat) : Int) by omega]
      repeat' first | (refine And.intro ?_ ?_) | rfl | exact True.intro | assumption | omega
theorem c_hasS {S : Nat → Bool} {k n : Nat} (hG : gok G) (hS : ∀ j, j < 16 → v 41 j = if S j then 1 else 0) (hkn : k + n ≤ 16) : q_call (d + 1) 71 [.inr (.inr (.inl (some 40))), .inl k, .inl n] v G Q = Q (.inl (if anyS S n k then 1 else 0)) v G := by
  refine q_call_eq ?_ Q
  have := s_hasS_loop (d := d) (k := k) (n := n) (Q := fun r v' G' => r = .inl (if anyS S n k then 1 else 0) ∧ v' = v ∧ G' = G) hG hS hkn n k rfl ⟨rfl, rfl, rfl⟩
  simp (disch := omega) only [E71, SHC hG, ↓if_neg, show ¬ (k : Int) < 0 by omega]
  repeat' first | (refine And.intro ?_ ?_) | rfl | exact True.intro | assumption | omega
/-- tellTree: hidden, a leaf, a fork -/
theorem c_tt0 {t : Nat} (hG : gok G) (g : gTab G q) (hq : 44 < q) (ht : t < 32) (h0 : 0 ≤ v 42 1) (h6 : v 42 1 + 3 ≤ 600) : q_call (d + 3) 72 [.inr (.inr (.inl (some 40))), .inr (.inr (.inl (some q))), .inl t, .inl 0] v G Q = Q (.inr (.inr (.inr ()))) (q_apl v 42 1 43 [0, v (q + 4 + 3) t, v (q + 4 + 4) t]) G := by
  refine q_call_eq ?_ Q
  have hN := g_num42 hG
  have gt := g.2.2.2.2
  simp (disch := first | assumption | omega | ((try simp (disch := omega) only [app_c, app_n, u_n, u_s]); omega)) only [E72, SHC hG, c_ttree, c_nadd, c_tseal, c_tsum, app_n, q_push_I, q_push_L, q_push_P, q_push_U, ↓if_neg, ↓if_pos, Nat.reduceAdd]
  repeat' first | (refine And.intro ?_ ?_) | rfl | exact True.intro | assumption | omega
theorem c_tt1 {t k : Nat} (hG : gok G) (g : gTab G q) (hq : 44 < q) (ht : t < 32) (h0 : 0 ≤ v 42 1) (h6 : v 42 1 + 3 ≤ 600) (hw : v (q + 4 + 2) t = 1) (hs : v (q + 4 + 1) t = (k : Int)) (hk : (k : Int) < v (q + 1) 2) (hk2 : v (q + 1) 2 ≤ 16) : q_call (d + 3) 72 [.inr (.inr (.inl (some 40))), .inr (.inr (.inl (some q))), .inl t, .inl 1] v G Q = Q (.inr (.inr (.inr ()))) (q_apl v 42 1 43 [1, v (q + 2) k, v (q + 3) k]) G := by
  refine q_call_eq ?_ Q
  have hN := g_num42 hG
  have gt := g.2.2.2.2
  have gr := g.2.2.2.1
  simp (disch := first | assumption | omega | ((try simp (disch := omega) only [app_c, app_n, u_n, u_s]); omega)) only [E72, SHC hG, c_ttree, c_tleaves, c_nadd, c_tleaf, c_tstart, c_rkey, c_rval, app_n, hw, hs, q_push_I, q_push_L, q_push_P, q_push_U, ↓if_neg, ↓if_pos, Nat.reduceAdd, Int.toNat_natCast]
  repeat' first | (refine And.intro ?_ ?_) | rfl | exact True.intro | assumption | omega
theorem c_tt2 {t : Nat} (hG : gok G) (g : gTab G q) (hq : 44 < q) (ht : t < 32) (h0 : 0 ≤ v 42 1) (h6 : v 42 1 + 1 ≤ 600) (hw : 1 < v (q + 4 + 2) t) (hw2 : v (q + 4 + 2) t ≤ 16) : q_call (d + 3) 72 [.inr (.inr (.inl (some 40))), .inr (.inr (.inl (some q))), .inl t, .inl 1] v G Q = Q (.inr (.inr (.inr ()))) (q_apl v 42 1 43 [1]) G := by
  refine q_call_eq ?_ Q
  have hN := g_num42 hG
  have gt := g.2.2.2.2
  simp (disch := first | assumption | omega | ((try simp (disch := omega) only [app_c, app_n, u_n, u_s]); omega)) only [E72, SHC hG, c_ttree, c_nadd, c_tleaf, app_n, q_push_I, q_push_L, q_push_P, q_push_U, ↓if_neg, ↓if_pos, Nat.reduceAdd]
  repeat' first | (refine And.intro ?_ ?_) | rfl | exact True.intro | assumption | omega
end
