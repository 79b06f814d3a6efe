section
variable {d : Nat} {v : q_H} {G : q_Gr} {Q : q_V → q_H → q_Gr → Prop}
/-! ===== the reference's leaves: laid, sealed ===== -/
theorem c_mleaf {k y : Int} (hk : -1 ≤ k) (hk2 : k ≤ 1000) (hy : 0 ≤ y) (hy2 : y ≤ 999) : q_call (d + 2) 165 [.inl k, .inl y] v G Q = Q (.inl (J (J (k + 1) y) 7)) v G := by
  refine q_call_eq ?_ Q
  have j1 := J_rng (k + 1) y
  simp (disch := omega) only [E165, c_join, q_push_I, q_push_L, q_push_P, q_push_U]
  repeat' first | (refine And.intro ?_ ?_) | split | rfl | exact True.intro | assumption | omega
theorem c_mfork {a b e f : Int} (ha : 0 ≤ a) (ha2 : a ≤ 65520) (hb : 0 ≤ b) (hb2 : b ≤ 65520) (he : 0 ≤ e) (he2 : e ≤ 300000) (hf : 0 ≤ f) (hf2 : f ≤ 300000) : q_call (d + 2) 166 [.inl a, .inl b, .inl e, .inl f] v G Q = Q (.inl (J (J a b) (J e f))) v G := by
  refine q_call_eq ?_ Q
  have j1 := J_rng a b
  have j2 := J_rng e f
  simp (disch := omega) only [E166, c_join, q_push_I, q_push_L, q_push_P, q_push_U]
  repeat' first | (refine And.intro ?_ ?_) | split | rfl | exact True.intro | assumption | omega
/-- the leaves lie there: N of them -/
def layI (v : q_H) (N : Nat) (key val : Nat → Int) : Prop := v 137 8 = (N : Int) ∧ (∀ k, k < N → v 144 k = key k ∧ v 145 k = val k) ∧ ∀ k m, 1 ≤ m → k + m ≤ N → v 146 (17 * k + m) = (sl key val k m).1 ∧ v 147 (17 * k + m) = (sl key val k m).2
def layP (v : q_H) (N m kk : Nat) (key val : Nat → Int) : Prop := ∀ k' m', 1 ≤ m' → k' + m' ≤ N → (m' < m ∨ (m' = m ∧ k' < kk)) → v 146 (17 * k' + m') = (sl key val k' m').1 ∧ v 147 (17 * k' + m') = (sl key val k' m').2
theorem s_lay_leaves {t n : Nat} {v0 : q_H} {key val : Nat → Int} (hG : gok G) (ht : t < 3) (h14 : n ≤ 14) (k0 : key 0 = -1) (v0z : val 0 = 0) (kn : key (n + 1) = 1000) (vn : val (n + 1) = 0) (hk : ∀ k, k < n → v0 142 (14 * t + k) = key (k + 1) ∧ v0 143 (14 * t + k) = val (k + 1)) (hC : ∀ v' (z3 : q_V), v' 137 8 = (n : Int) + 2 → (∀ k, k < n + 2 → v' 144 k = key k ∧ v' 145 k = val k) → (∀ b, b ≠ 137 → b ≠ 144 → b ≠ 145 → v' b = v0 b) → (∀ j, j ≠ 8 → v' 137 j = v0 137 j) → q_wp d 167 114 [.inr (.inr (.inl (some 137))), .inl t, .inl 1, z3, .inr (.inr (.inr ())), .inr (.inr (.inr ())), .inr (.inr (.inr ())), .inr (.inr (.inr ()))] [] v' G Q) : ∀ (r k : Nat) (v : q_H) (z3 : q_V), k + r = n + 2 → v 137 8 = (n : Int) + 2 → (∀ j, j < k → v 144 j = key j ∧ v 145 j = val j) → (∀ b, b ≠ 137 → b ≠ 144 → b ≠ 145 → v b = v0 b) → (∀ j, j ≠ 8 → v 137 j = v0 137 j) → q_wp d 167 14 [.inr (.inr (.inl (some 137))), .inl t, .inl k, z3, .inr (.inr (.inr ())), .inr (.inr (.inr ())), .inr (.inr (.inr ())), .inr (.inr (.inr ()))] [] v G Q := by
  intro r
  induction r with
  | zero =>
    intro k v z3 hkr h8 hl hf hf2
    have hkr : k = n + 2 := by omega
    subst hkr
    rw [e_167_14]
    simp (disch := omega) only [E167, SHM hG, h8, ↓if_pos]
    have := hC v z3 h8 hl hf hf2
    repeat' first | (refine And.intro ?_ ?_) | rfl | exact True.intro | assumption | omega
  | succ r ih =>
    intro k v z3 hkr h8 hl hf hf2
    rw [e_167_14]
    have e142 := hf 142 (by decide) (by decide) (by decide)
    have e143 := hf 143 (by decide) (by decide) (by decide)
    rcases (show k = 0 ∨ k = n + 1 ∨ (0 < k ∧ k < n + 1) by omega) with c | c | c
    · subst c
      have key := ih 1 (q_up (q_up v 144 0 (-1)) 145 0 0) (.inl 1) (by omega) (by rw [u_n (by omega), u_n (by omega), h8]) (fun j hj => by
        have : j = 0 := by omega
        subst this
        rw [u_n (by omega), u_s rfl rfl, u_s rfl rfl]
        omega) (fun b b1 b2 b3 => by rw [u_r b3, u_r b2, hf b b1 b2 b3]) (fun j hj => by rw [u_n (by omega), u_n (by omega), hf2 j hj])
      simp (disch := omega) only [E167, SHM hG, h8, u_n, ↓if_pos, ↓if_neg, Int.toNat_natCast, show ((0 : Nat) : Int) = 0 from rfl, show Int.toNat 0 = 0 from rfl, show (0 : Int) + 1 = ((1 : Nat) : Int) from rfl]
      repeat' first | (refine And.intro ?_ ?_) | rfl | exact True.intro | assumption | omega
    · subst c
      have key := ih (n + 2) (q_up (q_up v 144 (n + 1) 1000) 145 (n + 1) 0) (.inl 1) (by omega) (by rw [u_n (by omega), u_n (by omega), h8]) (fun j hj => by
        by_cases e : j = n + 1
        · subst e
          rw [u_n (by omega), u_s rfl rfl, u_s rfl rfl]
          omega
        · rw [u_n (by omega), u_n (by omega), u_n (by omega), u_n (by omega)]
          exact hl j (by omega)) (fun b b1 b2 b3 => by rw [u_r b3, u_r b2, hf b b1 b2 b3]) (fun j hj => by rw [u_n (by omega), u_n (by omega), hf2 j hj])
      simp (disch := omega) only [E167, SHM hG, h8, u_n, ↓if_pos, ↓if_neg, Int.toNat_natCast, show ((n + 1 : Nat) : Int) + 1 = ((n + 2 : Nat) : Int) by omega]
      repeat' first | (refine And.intro ?_ ?_) | rfl | exact True.intro | assumption | omega
    · have hkk := hk (k - 1) (by omega)
      rw [show k - 1 + 1 = k by omega] at hkk
      have key := ih (k + 1) (q_up (q_up v 144 k (key k)) 145 k (val k)) (.inl 0) (by omega) (by rw [u_n (by omega), u_n (by omega), h8]) (fun j hj => by
        by_cases e : j = k
        · subst e
          rw [u_n (by omega), u_s rfl rfl, u_s rfl rfl]
          exact ⟨rfl, rfl⟩
        · rw [u_n (by omega), u_n (by omega), u_n (by omega), u_n (by omega)]
          exact hl j (by omega)) (fun b b1 b2 b3 => by rw [u_r b3, u_r b2, hf b b1 b2 b3]) (fun j hj => by rw [u_n (by omega), u_n (by omega), hf2 j hj])
      simp (disch := omega) only [E167, SHM hG, h8, u_n, ↓if_pos, ↓if_neg, Int.toNat_natCast, e142, e143, show ((14 : Int) * (t : Int) + (k : Int) - 1).toNat = 14 * t + (k - 1) by omega, hkk.1, hkk.2, show (k : Int) + 1 = ((k + 1 : Nat) : Int) by omega]
      repeat' first | (refine And.intro ?_ ?_) | rfl | exact True.intro | assumption | omega
theorem s_lay_in {t N m : Nat} {v1 : q_H} {key val : Nat → Int} (hG : gok G) (hN : N ≤ 16) (hm : 1 ≤ m) (hmN : m ≤ N) (h8 : v1 137 8 = (N : Int)) (hl : ∀ k, k < N → v1 144 k = key k ∧ v1 145 k = val k) (hr : ∀ k, k < N → (-1 ≤ key k ∧ key k ≤ 1000) ∧ 0 ≤ val k ∧ val k ≤ 999) (hC : ∀ v' (z3 z4 z5 z6 z7 : q_V), layP v' N (m + 1) 0 key val → (∀ b, b ≠ 146 → b ≠ 147 → v' b = v1 b) → q_wp (d + 2) 167 114 [.inr (.inr (.inl (some 137))), .inl t, .inl ((m + 1 : Nat)), z3, z4, z5, z6, z7] [] v' G Q) : ∀ (r k : Nat) (v : q_H) (z4 z5 z6 z7 : q_V), k + m + r = N + 1 → layP v N m k key val → (∀ b, b ≠ 146 → b ≠ 147 → v b = v1 b) → q_wp (d + 2) 167 124 [.inr (.inr (.inl (some 137))), .inl t, .inl m, .inl k, z4, z5, z6, z7] [] v G Q := by
  intro r
  induction r with
  | zero =>
    intro k v z4 z5 z6 z7 hkr hp hf
    have e137 := hf 137 (by decide) (by decide)
    rw [e_167_124]
    simp (disch := omega) only [E167, SHM hG, e137, h8, ↓if_pos, show (m : Int) + 1 = ((m + 1 : Nat) : Int) by omega]
    have := hC v (.inl k) z4 z5 z6 z7 (fun k' m' h1 h2 h3 => hp k' m' h1 h2 (by omega)) hf
    repeat' first | (refine And.intro ?_ ?_) | rfl | exact True.intro | assumption | omega
  | succ r ih =>
    intro k v z4 z5 z6 z7 hkr hp hf
    have e137 := hf 137 (by decide) (by decide)
    have e144 := hf 144 (by decide) (by decide)
    have e145 := hf 145 (by decide) (by decide)
    rw [e_167_124]
    have key' := fun (x y : Int) (z4 z5 z6 z7 : q_V) (hx : x = (sl key val k m).1) (hy : y = (sl key val k m).2) => ih (k + 1) (q_up (q_up v 146 (17 * k + m) x) 147 (17 * k + m) y) z4 z5 z6 z7 (by omega) (fun k' m' h1 h2 h3 => by
      by_cases e : k' = k ∧ m' = m
      · obtain ⟨rfl, rfl⟩ := e
        rw [u_n (by omega), u_s rfl rfl, u_s rfl rfl]
        exact ⟨hx, hy⟩
      · rw [u_n (by omega), u_n (by omega), u_n (by omega), u_n (by omega)]
        exact hp k' m' h1 h2 (by omega)) (fun b b1 b2 => by rw [u_r b2, u_r b1, hf b b1 b2])
    have hlk := hl k (by omega)
    have hrk := hr k (by omega)
    by_cases h1 : m = 1
    · subst h1
      have fin := key' (J (J (key k + 1) (val k)) 7) (val k) (.inl ((17 * k + 1 : Nat))) z5 z6 z7 (by rw [sl_leaf _ _ _ _ (Nat.le_refl _)]) (by rw [sl_leaf _ _ _ _ (Nat.le_refl _)])
      simp (disch := omega) only [E167, SHM hG, e137, h8, e144, e145, u_n, u_r, ↓if_pos, ↓if_neg, Int.toNat_natCast, hlk.1, hlk.2, c_mleaf, q_push_I, q_push_L, q_push_P, q_push_U, show (17 : Int) * (k : Int) + ((1 : Nat) : Int) = ((17 * k + 1 : Nat) : Int) by omega, show (k : Int) + 1 = ((k + 1 : Nat) : Int) by omega]
      repeat' first | (refine And.intro ?_ ?_) | rfl | exact True.intro | assumption | omega
    · have e2 : ((m : Int) + 1).tdiv 2 = (((m + 1) / 2 : Nat) : Int) := by rw [Int.tdiv_eq_ediv_of_nonneg (by omega)]; omega
      have p1 := hp k ((m + 1) / 2) (by omega) (by omega) (Or.inl (by omega))
      have p2 := hp (k + (m + 1) / 2) (m - (m + 1) / 2) (by omega) (by omega) (Or.inl (by omega))
      have r1 := sl_rng (key := key) (val := val) (M := 999) ((m + 1) / 2) k ((m + 1) / 2) (Nat.le_refl _) (by omega) (fun j h1 h2 => (hr j (by omega)).2)
      have r2 := sl_rng (key := key) (val := val) (M := 999) (m - (m + 1) / 2) (k + (m + 1) / 2) (m - (m + 1) / 2) (Nat.le_refl _) (by omega) (fun j h1 h2 => (hr j (by omega)).2)
      have fin := key' _ _ (.inl ((17 * k + m : Nat))) (.inl (((m + 1) / 2 : Nat))) (.inl ((17 * k + (m + 1) / 2 : Nat))) (.inl ((17 * (k + (m + 1) / 2) + (m - (m + 1) / 2) : Nat))) (congrArg Prod.fst (sl_fork key val k m (by omega))).symm (congrArg Prod.snd (sl_fork key val k m (by omega))).symm
      simp (disch := omega) only [E167, SHM hG, e137, h8, e2, u_n, ↓if_pos, ↓if_neg, Int.toNat_natCast, show (17 : Int) * (k : Int) + (m : Int) = ((17 * k + m : Nat) : Int) by omega, show (17 : Int) * (k : Int) + (((m + 1) / 2 : Nat) : Int) = ((17 * k + (m + 1) / 2 : Nat) : Int) by omega, show (17 : Int) * ((k : Int) + (((m + 1) / 2 : Nat) : Int)) + (m : Int) - (((m + 1) / 2 : Nat) : Int) = ((17 * (k + (m + 1) / 2) + (m - (m + 1) / 2) : Nat) : Int) by omega, p1.1, p1.2, p2.1, p2.2, c_mfork, q_push_I, q_push_L, q_push_P, q_push_U, show (k : Int) + 1 = ((k + 1 : Nat) : Int) by omega]
      repeat' first | (refine And.intro ?_ ?_) | rfl | exact True.intro | assumption | omega
theorem s_lay_out {t N : Nat} {v1 : q_H} {key val : Nat → Int} (hG : gok G) (hN : N ≤ 16) (h8 : v1 137 8 = (N : Int)) (hl : ∀ k, k < N → v1 144 k = key k ∧ v1 145 k = val k) (hr : ∀ k, k < N → (-1 ≤ key k ∧ key k ≤ 1000) ∧ 0 ≤ val k ∧ val k ≤ 999) (hQ : ∀ v', layP v' N (N + 1) 0 key val → (∀ b, b ≠ 146 → b ≠ 147 → v' b = v1 b) → Q (.inr (.inr (.inr ()))) v' G) : ∀ (r m : Nat) (v : q_H) (z3 z4 z5 z6 z7 : q_V), m + r = N + 1 → 1 ≤ m → layP v N m 0 key val → (∀ b, b ≠ 146 → b ≠ 147 → v b = v1 b) → q_wp (d + 2) 167 114 [.inr (.inr (.inl (some 137))), .inl t, .inl m, z3, z4, z5, z6, z7] [] v G Q := by
  intro r
  induction r with
  | zero =>
    intro m v z3 z4 z5 z6 z7 hmr hm hp hf
    have hmr : m = N + 1 := by omega
    subst hmr
    have e137 := hf 137 (by decide) (by decide)
    rw [e_167_114]
    simp (disch := omega) only [E167, SHM hG, e137, h8, ↓if_pos]
    have := hQ v hp hf
    repeat' first | (refine And.intro ?_ ?_) | rfl | exact True.intro | assumption | omega
  | succ r ih =>
    intro m v z3 z4 z5 z6 z7 hmr hm hp hf
    have e137 := hf 137 (by decide) (by decide)
    rw [e_167_114]
    simp (disch := omega) only [E167, SHM hG, e137, h8, ↓if_neg]
    have := s_lay_in (t := t) (Q := Q) (d := d) hG hN hm (by omega) h8 hl hr (fun v' z3 z4 z5 z6 z7 g1 g2 => ih (m + 1) v' z3 z4 z5 z6 z7 (by omega) (by omega) g1 g2) (N + 1 - m) 0 v z4 z5 z6 z7 (by omega) hp hf
    repeat' first | (refine And.intro ?_ ?_) | rfl | exact True.intro | assumption | omega
/-- layLeaves -/
theorem c_lay {t n : Nat} (hG : gok G) (ht : t < 3) (hI : tabI v (110 + 9 * t) t n) (hQ : ∀ v', layI v' (n + 2) (v (110 + 9 * t + 2)) (v (110 + 9 * t + 3)) → (∀ b, b ≠ 137 → b ≠ 144 → b ≠ 145 → b ≠ 146 → b ≠ 147 → v' b = v b) → (∀ j, j ≠ 8 → v' 137 j = v 137 j) → Q (.inr (.inr (.inr ()))) v' G) : q_call (d + 3) 167 [.inr (.inr (.inl (some 137))), .inl t] v G Q := by
  have hr := tab_key hI
  obtain ⟨i1, i2, i3, i4, i5, i6, i7, i8, i9, i10⟩ := hI
  simp (disch := omega) only [E167, SHM hG, Int.toNat_natCast, i2]
  have key := s_lay_leaves (d := d + 2) (Q := Q) (t := t) (n := n) (v0 := q_up v 137 8 ((n : Int) + 2)) (key := v (110 + 9 * t + 2)) (val := v (110 + 9 * t + 3)) hG ht i1 i4 i6 i5 i7 (fun k hk => by rw [u_n (by omega), u_n (by omega)]; exact ⟨(i8 k hk).1.symm, (i8 k hk).2.1.symm⟩) (fun v' z3 h8 hl hf hf2 => by
    exact s_lay_out (t := t) (N := n + 2) (v1 := v') (key := v (110 + 9 * t + 2)) (val := v (110 + 9 * t + 3)) hG (by omega) (by omega) hl hr (fun v2 g1 g2 => hQ v2 ⟨by rw [g2 137 (by decide) (by decide)]; omega, fun k hk => by rw [g2 144 (by decide) (by decide), g2 145 (by decide) (by decide)]; exact hl k hk, fun k m h1 h2 => g1 k m h1 h2 (by omega)⟩ (fun b b1 b2 b3 b4 b5 => by rw [g2 b b4 b5, hf b b1 b2 b3, u_r b1]) (fun j hj => by rw [g2 137 (by decide) (by decide), hf2 j hj, u_n (by omega)])) (n + 2) 1 v' _ _ _ _ _ (by omega) (Nat.le_refl _) (fun k' m' h1 h2 h3 => by omega) (fun b _ _ => rfl)) (n + 2) 0 (q_up v 137 8 ((n : Int) + 2)) (.inr (.inr (.inr ()))) (by omega) (by rw [u_s rfl rfl]) (fun j hj => by omega) (fun b _ _ _ => rfl) (fun j hj => rfl)
  repeat' first | (refine And.intro ?_ ?_) | rfl | exact True.intro | assumption | omega
def tsl (key val : Nat → Int) (N : Nat) : Int := J (J (sl key val 0 N).1 (sl key val 0 N).2) N
theorem tsl_rng (key val : Nat → Int) (N : Nat) : 0 ≤ tsl key val N ∧ tsl key val N ≤ 65520 := J_rng _ _
/-- sealOfTable -/
theorem c_mtab {t n : Nat} (hG : gok G) (ht : t < 3) (hI : tabI v (110 + 9 * t) t n) (hQ : ∀ v', layI v' (n + 2) (v (110 + 9 * t + 2)) (v (110 + 9 * t + 3)) → (∀ b, b ≠ 137 → b ≠ 144 → b ≠ 145 → b ≠ 146 → b ≠ 147 → v' b = v b) → (∀ j, j ≠ 8 → v' 137 j = v 137 j) → Q (.inl (tsl (v (110 + 9 * t + 2)) (v (110 + 9 * t + 3)) (n + 2))) v' G) : q_call (d + 4) 168 [.inr (.inr (.inl (some 137))), .inl t] v G Q := by
  have h14 := hI.1
  have hr := tab_key hI
  have rr := sl_rng (key := v (110 + 9 * t + 2)) (val := v (110 + 9 * t + 3)) (M := 999) (n + 2) 0 (n + 2) (Nat.le_refl _) (by omega) (fun j h1 h2 => (hr j (by omega)).2)
  simp (disch := omega) only [E168, SHM hG]
  refine ⟨True.intro, c_lay hG ht hI (fun v' g1 g2 g3 => ?_)⟩
  have fin := hQ v' g1 g2 g3
  obtain ⟨l1, l2, l3⟩ := g1
  have s1 := l3 0 (n + 2) (by omega) (by omega)
  rw [show 17 * 0 + (n + 2) = n + 2 by omega] at s1
  have j1 := J_rng (sl (v (110 + 9 * t + 2)) (v (110 + 9 * t + 3)) 0 (n + 2)).1 (sl (v (110 + 9 * t + 2)) (v (110 + 9 * t + 3)) 0 (n + 2)).2
  simp (disch := omega) only [E168, SHM hG, q_push_I, q_push_L, q_push_P, q_push_U, l1, Int.toNat_natCast, s1.1, s1.2, c_join]
  unfold tsl at fin
  repeat' first | (refine And.intro ?_ ?_) | rfl | exact True.intro | assumption | omega
/-- a table's tree, told by the class -/
theorem tab_tree {q t n : Nat} (h : tabI v q t n) : v (q + 4 + 2) 1 = ((n + 2 : Nat) : Int) ∧ v (q + 4 + 3) 1 = (sl (v (q + 2)) (v (q + 3)) 0 (n + 2)).1 ∧ v (q + 4 + 4) 1 = (sl (v (q + 2)) (v (q + 3)) 0 (n + 2)).2 := by
  have hT := h.2.2.2.2.2.2.2.2.2
  have h1 := hT.1 1 (Nat.le_refl _) (by decide)
  have h2 := hT.2 1 (Nat.le_refl _) (by decide) (by rw [sh_1]; show 1 ≤ n + 2; omega)
  rw [sh_1] at h1 h2
  exact ⟨h1.2, h2.1, h2.2⟩
theorem c_ktab {t n : Nat} (hG : gok G) (ht : t < 3) (hI : tabI v (110 + 9 * t) t n) : q_call (d + 2) 115 [.inr (.inr (.inl (some (110 + 9 * t + 4))))] v G Q = Q (.inl (tsl (v (110 + 9 * t + 2)) (v (110 + 9 * t + 3)) (n + 2))) v G := by
  have h14 := hI.1
  have hr := tab_key hI
  have rr := sl_rng (key := v (110 + 9 * t + 2)) (val := v (110 + 9 * t + 3)) (M := 999) (n + 2) 0 (n + 2) (Nat.le_refl _) (by omega) (fun j h1 h2 => (hr j (by omega)).2)
  obtain ⟨e1, e2, e3⟩ := tab_tree hI
  rw [c_ttab (g_table hG t ht).2.2.2.2.2 (by omega) (by omega) (by omega) (by omega) (by omega) (by omega), e1, e2, e3]
  rfl
end
