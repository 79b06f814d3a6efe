def isR (x : (Nat × Int) ⊕ List Int) : Int := match x with | .inl _ => 0 | .inr _ => 1
def frg (L : List Int) (dd : Int) (k : Nat) : List Int := L.set k (L.getD k 0 + dd)
def fcnt (L : List Int) (dd w sa sb low high : Int) : Nat → Nat → Int
  | 0, _ => 0
  | r + 1, k => isR (tk (frg L dd k) w sa sb low high) + fcnt L dd w sa sb low high r (k + 1)
theorem fcnt_s {L : List Int} {dd w sa sb low high cnt t : Int} {r k : Nat} (ht : t = isR (tk (frg L dd k) w sa sb low high)) : cnt + t + fcnt L dd w sa sb low high r (k + 1) = cnt + fcnt L dd w sa sb low high (r + 1) k := by
  rw [ht]
  exact Int.add_assoc _ _ _
theorem isR_rng (x : (Nat × Int) ⊕ List Int) : 0 ≤ isR x ∧ isR x ≤ 1 := by
  unfold isR
  split <;> decide
theorem fcnt_rng (L : List Int) (dd w sa sb low high : Int) : ∀ r k, 0 ≤ fcnt L dd w sa sb low high r k ∧ fcnt L dd w sa sb low high r k ≤ r
  | 0, k => by unfold fcnt; decide
  | r + 1, k => by
    have h1 := fcnt_rng L dd w sa sb low high r (k + 1)
    have h2 := isR_rng (tk (frg L dd k) w sa sb low high)
    unfold fcnt
    omega
theorem frg_lok {L : List Int} {dd : Int} {k : Nat} (h6 : L.length ≤ 600) (hr : ∀ x, x ∈ L → -1 ≤ x ∧ x ≤ 65520) (hd : 1 ≤ dd ∧ dd ≤ 65520) (hk : k < L.length) : lok (frg L dd k) := by
  refine ⟨by unfold frg; rw [List.length_set]; exact h6, fun x hx => ?_⟩
  unfold frg at hx
  rcases List.mem_or_eq_of_mem_set hx with h | h
  · have := hr x h
    omega
  · have := hr _ (List.getElem_mem hk)
    rw [h, getD_lt hk]
    omega
theorem hasL_set {v : q_H} {q f i k : Nat} {L : List Int} {x : Int} (h : q ≠ i) (hL : hasL v q f i L) : hasL (q_up v i k x) q f i (L.set k x) := by
  refine ⟨by rw [u_n (by omega), List.length_set]; exact hL.1, fun j hj => ?_⟩
  rw [List.length_set] at hj
  rw [List.getElem_set]
  by_cases c : k = j
  · rw [if_pos c, u_s rfl c.symm]
  · rw [if_neg c, u_n (by omega)]
    exact hL.2 j hj
theorem hasL_back {v : q_H} {q f i k : Nat} {L : List Int} {x y : Int} (h : q ≠ i) (hL : hasL v q f i (L.set k x)) (hk : k < L.length) (hy : y = L.getD k 0) : hasL (q_up v i k y) q f i L := by
  refine ⟨by rw [u_n (by omega), hL.1, List.length_set], fun j hj => ?_⟩
  by_cases c : j = k
  · subst c
    rw [u_s rfl rfl, hy, getD_lt hj]
  · rw [u_n (by omega), hL.2 j (by rw [List.length_set]; exact hj), List.getElem_set, if_neg (by omega)]
section
variable {d q : Nat} {v : q_H} {G : q_Gr} {Q : q_V → q_H → q_Gr → Prop}
/-- become -/
theorem s_become {L : List Int} {v0 : q_H} (hG : gok G) (h0 : hasL v0 42 1 43 L) (h6 : L.length ≤ 600) (hC : ∀ v', (∀ b, b ≠ 73 → b ≠ 74 → v' b = v0 b) → hasL v' 73 1 74 L → Q (.inr (.inr (.inr ()))) v' G) : ∀ (r k : Nat) (v : q_H), k + r = L.length → (∀ b, b ≠ 73 → b ≠ 74 → v b = v0 b) → hasL v 73 1 74 (L.take k) → q_wp (d + 2) 39 6 [.inr (.inr (.inl (some 73))), .inr (.inr (.inl (some 42))), .inl k] [] v G Q := by
  have hN := g_num73 hG
  have hM := g_num42 hG
  intro r
  induction r with
  | zero =>
    intro k v h hf hL
    have e : k = L.length := by omega
    subst e
    rw [List.take_length] at hL
    have fin := hC v hf hL
    have w1 : v 42 1 = (L.length : Int) := by rw [hf 42 (by omega) (by omega), h0.1]
    rw [e_39_6]
    simp (disch := omega) only [e_39_7, e_39_8, e_39_11, e_39_29, SHC hG, w1, ↓if_pos]
    repeat' first | exact fin | (refine And.intro ?_ ?_) | exact True.intro | omega | rfl
  | succ r ih =>
    intro k v h hf hL
    have hk : k < L.length := by omega
    have w1 : v 42 1 = (L.length : Int) := by rw [hf 42 (by omega) (by omega), h0.1]
    have hL1 := hL.1
    rw [List.length_take] at hL1
    have ea : ∀ (d' : Nat) (Q' : q_V → q_H → q_Gr → Prop), q_call (d' + 2) 41 [.inr (.inr (.inl (some 42))), .inl k] v G Q' = Q' (.inl (L[k])) v G := fun d' Q' => by
      rw [c_nat hM (by omega) (by omega) (by omega) (by omega) (by decide), if_pos (by omega), Int.toNat_natCast, show 42 + 1 = 43 from rfl, hf 43 (by omega) (by omega), h0.2 k hk]
    have en : ∀ (x : Int) (d' : Nat) (Q' : q_V → q_H → q_Gr → Prop), q_call (d' + 1) 37 [.inr (.inr (.inl (some 73))), .inl x] v G Q' = Q' (.inr (.inr (.inr ()))) (q_app v 73 1 74 x) G := fun x d' Q' => c_nadd hN (by omega) (by omega) (by decide)
    have nx := ih (k + 1) (q_app v 73 1 74 L[k]) (by omega) (fun b b1 b2 => by rw [app_r b1 b2, hf b b1 b2]) (by
      have := hasL_apl (q := 73) (f := 1) (i := 74) (ys := [L[k]]) (by decide) hL
      rw [List.take_append_getElem hk] at this
      exact this)
    rw [e_39_6]
    simp (disch := omega) only [e_39_7, e_39_8, e_39_11, e_39_14, e_39_15, e_39_16, e_39_17, e_39_20, e_39_23, e_39_26, SHC hG, w1, ea, en, ↓if_neg, q_push_I, q_push_L, q_push_P, q_push_U, show (k : Int) + 1 = ((k + 1 : Nat) : Int) by omega]
    repeat' first | (refine And.intro ?_ ?_) | exact True.intro | omega | assumption | rfl
theorem s_forge {L : List Int} {p : Nat} {dd w low hi sa sb : Int} {v0 : q_H} {z1 : q_V} (hG : gok G) (h6 : L.length ≤ 600) (hr : ∀ x, x ∈ L → -1 ≤ x ∧ x ≤ 65520) (hd : 1 ≤ dd ∧ dd ≤ 65520) (hp : G.2.1 p = (0, 6)) (hp2 : 174 ≤ p) (ha : actQ v0 p w low hi) (hsa : 0 ≤ sa ∧ sa ≤ 100000) (hsb : 0 ≤ sb ∧ sb ≤ 100000) : ∀ (r k : Nat) (v : q_H) (cnt : Int) (z9 : q_V), k + r = L.length → (∀ b, b < 72 ∨ 91 < b → v b = v0 b) → hasL v 73 1 74 L → (∀ v', (∀ b, b < 72 ∨ 91 < b → v' b = v0 b) → Q (.inl (cnt + fcnt L dd w sa sb low hi r k)) v' G) → q_wp (d + 8) 137 119 [.inr (.inr (.inl (some 32))), z1, .inl dd, .inr (.inr (.inl (some p))), .inl sa, .inl sb, .inr (.inr (.inl (some 73))), .inl cnt, .inl k, z9] [] v G Q := by
  have hN := g_num73 hG
  intro r
  induction r with
  | zero =>
    intro k v cnt z9 h hf hL hC
    have fin := hC v hf
    unfold fcnt at fin
    rw [Int.add_zero] at fin
    have hL1 := hL.1
    rw [e_137_119]
    simp (disch := omega) only [e_137_121, e_137_123, e_137_126, e_137_189, e_137_191, c_nsize hN, hL1, q_push_I, q_push_L, q_push_P, q_push_U, ↓if_pos]
    repeat' first | exact fin | (refine And.intro ?_ ?_) | exact True.intro | omega | rfl
  | succ r ih =>
    intro k v cnt z9 h hf hL hC
    have hk : k < L.length := by omega
    have hL1 := hL.1
    have lk := hr _ (List.getElem_mem hk)
    rw [← getD_lt hk] at lk
    have ea : ∀ (d' : Nat) (Q' : q_V → q_H → q_Gr → Prop), q_call (d' + 2) 41 [.inr (.inr (.inl (some 73))), .inl k] v G Q' = Q' (.inl (L.getD k 0)) v G := fun d' Q' => by
      rw [c_nat hN (by omega) (by omega) (by omega) (by omega) (by decide), if_pos (by omega), Int.toNat_natCast, show 73 + 1 = 74 from rfl, hL.2 k hk, getD_lt hk]
    have er : ∀ (d' : Nat) (Q' : q_V → q_H → q_Gr → Prop), q_call (d' + 2) 38 [.inr (.inr (.inl (some 73))), .inl k, .inl (L.getD k 0 + dd)] v G Q' = Q' (.inr (.inr (.inr ()))) (q_up v 74 k (L.getD k 0 + dd)) G := fun d' Q' => by
      rw [c_nrep hN (by omega) (by omega) (by omega) (by decide), Int.toNat_natCast]
    have hL2 : hasL (q_up v 74 k (L.getD k 0 + dd)) 73 1 74 (frg L dd k) := hasL_set (by decide) hL
    have f2 : ∀ b, b < 72 ∨ 91 < b → q_up v 74 k (L.getD k 0 + dd) b = v0 b := fun b hb => by rw [u_r (by omega), hf b hb]
    generalize hv2 : q_up v 74 k (L.getD k 0 + dd) = v2 at *
    have aQ2 : actQ v2 p w low hi := by
      unfold actQ
      rw [f2 p (by omega)]
      exact ha
    -- behind the taking
    have back : ∀ (v3 : q_H) (t : Int), t = isR (tk (frg L dd k) w sa sb low hi) → (∀ b, b < 72 ∨ b = 72 + 1 ∨ b = 72 + 2 ∨ 72 + 19 < b → v3 b = v2 b) → q_wp (d + 8) 137 163 [.inr (.inr (.inl (some 32))), z1, .inl dd, .inr (.inr (.inl (some p))), .inl sa, .inl sb, .inr (.inr (.inl (some 73))), .inl cnt, .inl k, .inl (L.getD k 0)] [.inl t, .inl cnt] v3 G Q := fun v3 t ht f3 => by
      have hL3 : hasL v3 73 1 74 (frg L dd k) := hasL_fr (f3 73 (by omega)) (f3 74 (by omega)) hL2
      have hL31 := hL3.1
      unfold frg at hL31
      rw [List.length_set] at hL31
      have er2 : ∀ (d' : Nat) (Q' : q_V → q_H → q_Gr → Prop), q_call (d' + 2) 38 [.inr (.inr (.inl (some 73))), .inl k, .inl (L.getD k 0)] v3 G Q' = Q' (.inr (.inr (.inr ()))) (q_up v3 74 k (L.getD k 0)) G := fun d' Q' => by
        rw [c_nrep hN (by omega) (by omega) (by omega) (by decide), Int.toNat_natCast]
      have nx := ih (k + 1) (q_up v3 74 k (L.getD k 0)) (cnt + t) (.inl (L.getD k 0)) (by omega) (fun b hb => by rw [u_r (by omega), f3 b (by omega), f2 b hb]) (hasL_back (by decide) hL3 hk rfl) (fun v' h' => by
        have := hC v' h'
        rw [fcnt_s ht]
        exact this)
      have tr := isR_rng (tk (frg L dd k) w sa sb low hi)
      rw [← ht] at tr
      by_cases c : t = 0
      · subst c
        simp (disch := omega) only [e_137_163, e_137_166, e_137_167, e_137_170, e_137_171, e_137_172, e_137_174, e_137_176, e_137_178, e_137_180, e_137_183, e_137_186, er2, q_push_I, q_push_L, q_push_P, q_push_U, ↓if_neg, ↓if_pos, show (k : Int) + 1 = ((k + 1 : Nat) : Int) by omega]
        repeat' first | (refine And.intro ?_ ?_) | exact True.intro | omega | assumption | rfl
      · have e1 : t = 1 := by omega
        subst e1
        simp (disch := omega) only [e_137_163, e_137_166, e_137_167, e_137_170, e_137_171, e_137_172, e_137_174, e_137_176, e_137_178, e_137_180, e_137_183, e_137_186, er2, q_push_I, q_push_L, q_push_P, q_push_U, ↓if_neg, ↓if_pos, show (k : Int) + 1 = ((k + 1 : Nat) : Int) by omega]
        repeat' first | (refine And.intro ?_ ?_) | exact True.intro | omega | assumption | rfl
    have key : q_call (d + 8) 21 [.inr (.inr (.inl (some 72))), .inr (.inr (.inl (some p))), .inl sa, .inl sb] v2 G (fun r v' G' => q_wp (d + 8) 137 163 [.inr (.inr (.inl (some 32))), z1, .inl dd, .inr (.inr (.inl (some p))), .inl sa, .inl sb, .inr (.inr (.inl (some 73))), .inl cnt, .inl k, .inl (L.getD k 0)] (q_push r [.inl cnt]) v' G' Q) := by
      refine c_takes (d := d) (L := frg L dd k) (q := 72) (w := w) (low := low) (hi := hi) (g_chk72 hG) (frg_lok h6 hr hd hk) hp hp2 aQ2 hL2 hsa hsb (fun v3 e y ht f3 _ _ _ _ _ _ => ?_) (fun v3 T ht f3 _ _ _ _ => ?_)
      · exact back v3 0 (by rw [ht]; rfl) f3
      · exact back v3 1 (by rw [ht]; rfl) f3
    rw [e_137_119]
    simp (disch := omega) only [e_137_121, e_137_123, e_137_126, e_137_129, e_137_131, e_137_133, e_137_136, e_137_138, e_137_140, e_137_142, e_137_144, e_137_145, e_137_146, e_137_149, e_137_151, e_137_152, e_137_155, e_137_156, e_137_158, e_137_160, SHC hG, c_nsize hN, hL1, ea, er, q_push_I, q_push_L, q_push_P, q_push_U, ↓if_neg, ↓if_pos]
    repeat' first | (refine And.intro ?_ ?_) | exact True.intro | omega | assumption | rfl
theorem s_mfcopy {L : List Int} {v0 : q_H} {z1 z2 z4 : q_V} (hG : gok G) (h0 : hasL v0 137 32 155 L) (h6 : L.length ≤ 600) (hC : ∀ v' (z3 : q_V), (∀ b, b ≠ 160 → v' b = v0 b) → (∀ k (hk : k < L.length), v' 160 k = L[k]) → q_wp d 213 79 [.inr (.inr (.inl (some 137))), z1, z2, z3, z4] [] v' G Q) : ∀ (r k : Nat) (v : q_H), k + r = L.length → (∀ b, b ≠ 160 → v b = v0 b) → (∀ j (hj : j < L.length), j < k → v 160 j = L[j]) → q_wp d 213 53 [.inr (.inr (.inl (some 137))), z1, z2, .inl k, z4] [] v G Q := by
  intro r
  induction r with
  | zero =>
    intro k v h hf hv
    have e : k = L.length := by omega
    subst e
    have fin := hC v (.inl L.length) hf (fun k hk => hv k hk hk)
    have w32 : v 137 32 = (L.length : Int) := by rw [hf 137 (by omega), h0.1]
    rw [e_213_53]
    simp (disch := omega) only [e_213_54, e_213_55, e_213_58, SHM hG, w32, ↓if_pos]
    repeat' first | exact fin | (refine And.intro ?_ ?_) | exact True.intro | omega | rfl
  | succ r ih =>
    intro k v h hf hv
    have hk : k < L.length := by omega
    have w32 : v 137 32 = (L.length : Int) := by rw [hf 137 (by omega), h0.1]
    have w155 : v 155 k = L[k] := by rw [hf 155 (by omega), h0.2 k hk]
    have nx := ih (k + 1) (q_up v 160 k L[k]) (by omega) (fun b hb => by rw [u_r hb, hf b hb]) (fun j hj hlt => by
      by_cases e : j = k
      · subst e
        rw [u_s rfl rfl]
      · rw [u_n (by omega)]
        exact hv j hj (by omega))
    rw [e_213_53]
    simp (disch := omega) only [e_213_54, e_213_55, e_213_58, e_213_61, e_213_62, e_213_65, e_213_66, e_213_67, e_213_70, e_213_71, e_213_72, e_213_73, e_213_76, SHM hG, w32, w155, ↓if_neg, Int.toNat_natCast, show (k : Int) + 1 = ((k + 1 : Nat) : Int) by omega]
    repeat' first | (refine And.intro ?_ ?_) | exact True.intro | omega | assumption | rfl
/-- an act, as the reference takes it -/
def actM (v : q_H) (n rd a b : Nat) (w low high sa sb : Int) : Prop := v 149 n = w ∧ (0 ≤ w ∧ w ≤ 6) ∧ v 150 n = (a : Int) ∧ v 151 n = (b : Int) ∧ v 152 n = low ∧ v 153 n = high ∧ (0 ≤ low ∧ low ≤ 999) ∧ (w = 2 → 1 ≤ high ∧ high ≤ 14) ∧ (w ≠ 2 → low ≤ high ∧ high ≤ 999) ∧ v 148 (4 * rd + a) = sa ∧ v 148 (4 * rd + b) = sb ∧ (0 ≤ sa ∧ sa ≤ 65520) ∧ (0 ≤ sb ∧ sb ≤ 65520)
theorem actM_fr {v' : q_H} {n rd a b : Nat} {w low high sa sb : Int} (h : ∀ b, 148 ≤ b → b < 154 → v' b = v b) (hA : actM v n rd a b w low high sa sb) : actM v' n rd a b w low high sa sb := by
  unfold actM
  rw [h 148 (by omega) (by omega), h 149 (by omega) (by omega), h 150 (by omega) (by omega), h 151 (by omega) (by omega), h 152 (by omega) (by omega), h 153 (by omega) (by omega)]
  exact hA
theorem s_mforge {L : List Int} {n rd a b : Nat} {dd w low high sa sb : Int} {v0 : q_H} (hG : gok G) (h6 : L.length ≤ 600) (hr : ∀ x, x ∈ L → -1 ≤ x ∧ x ≤ 65520) (hd : 1 ≤ dd ∧ dd ≤ 65520) (hn : n < 12) (hrd : rd < 20) (ha : a < 3) (hb : b < 3) (h13 : v0 137 13 = (rd : Int) + 1) (h32 : v0 137 32 = (L.length : Int)) (hA : actM v0 n rd a b w low high sa sb) : ∀ (r k : Nat) (v : q_H) (cnt : Int), k + r = L.length → 0 ≤ cnt → cnt ≤ k → (∀ b, b ≠ 137 → ¬ (159 ≤ b ∧ b ≤ 171) → v b = v0 b) → (∀ j, j ≠ 37 → ¬ (41 ≤ j ∧ j ≤ 44) → ¬ (54 ≤ j ∧ j ≤ 58) → v 137 j = v0 137 j) → bl5 v → hasL v 137 39 160 L → (∀ v', (∀ b, b ≠ 137 → ¬ (159 ≤ b ∧ b ≤ 171) → v' b = v0 b) → (∀ j, j ≠ 37 → ¬ (41 ≤ j ∧ j ≤ 44) → ¬ (54 ≤ j ∧ j ≤ 58) → v' 137 j = v0 137 j) → bl5 v' → Q (.inl (cnt + fcnt L dd w sa sb low high r k)) v' G) → q_wp (d + 6) 213 101 [.inr (.inr (.inl (some 137))), .inl n, .inl dd, .inl cnt, .inl k] [] v G Q := by
  intro r
  induction r with
  | zero =>
    intro k v cnt h _ _ hf hj hb5 hL hC
    have fin := hC v hf hj hb5
    unfold fcnt at fin
    rw [Int.add_zero] at fin
    have w32 : v 137 32 = (L.length : Int) := by rw [hj 32 (by omega) (by omega) (by omega), h32]
    rw [e_213_101]
    simp (disch := omega) only [e_213_103, e_213_104, e_213_107, e_213_160, e_213_161, SHM hG, w32, ↓if_pos]
    repeat' first | exact fin | (refine And.intro ?_ ?_) | exact True.intro | omega | rfl
  | succ r ih =>
    intro k v cnt h hc0 hck hf hj hb5 hL hC
    have hk : k < L.length := by omega
    have lk := hr _ (List.getElem_mem hk)
    rw [← getD_lt hk] at lk
    have w32 : v 137 32 = (L.length : Int) := by rw [hj 32 (by omega) (by omega) (by omega), h32]
    have w13 : v 137 13 = (rd : Int) + 1 := by rw [hj 13 (by omega) (by omega) (by omega), h13]
    have w160 : v 160 k = L.getD k 0 := by rw [hL.2 k hk, getD_lt hk]
    have hL2 : hasL (q_up v 160 k (L.getD k 0 + dd)) 137 39 160 (frg L dd k) := hasL_set (by decide) hL
    have f2 : ∀ b, b ≠ 137 → ¬ (159 ≤ b ∧ b ≤ 171) → q_up v 160 k (L.getD k 0 + dd) b = v0 b := fun b b1 b2 => by rw [u_r (by omega), hf b b1 b2]
    have f2q : ∀ j, q_up v 160 k (L.getD k 0 + dd) 137 j = v 137 j := fun j => by rw [u_n (by omega)]
    generalize hv2 : q_up v 160 k (L.getD k 0 + dd) = v2 at *
    obtain ⟨y149, yw, y150, y151, y152, y153, ylo, yk, yh, ya, yb, yar, ybr⟩ := actM_fr (v' := v2) (fun b b1 b2 => f2 b (by omega) (by omega)) hA
    have back : ∀ (v3 : q_H) (t : Int), t = isR (tk (frg L dd k) w sa sb low high) → mtf v3 v2 → q_wp (d + 6) 213 133 [.inr (.inr (.inl (some 137))), .inl n, .inl dd, .inl cnt, .inl k] [.inl t, .inl cnt] v3 G Q := fun v3 t ht m3 => by
      have hL3 : hasL v3 137 39 160 (frg L dd k) := ⟨by rw [m3.2.1 39 (by omega) (by omega) (by omega)]; exact hL2.1, fun j hj' => by rw [m3.1 160 (by omega) (by omega) (by omega)]; exact hL2.2 j hj'⟩
      have w3 : v3 160 k = L.getD k 0 + dd := by rw [m3.1 160 (by omega) (by omega) (by omega), ← hv2, u_s rfl rfl]
      have tr := isR_rng (tk (frg L dd k) w sa sb low high)
      rw [← ht] at tr
      have nx := ih (k + 1) (q_up v3 160 k (L.getD k 0 + dd - dd)) (cnt + t) (by omega) (by omega) (by omega) (fun b b1 b2 => by rw [u_r (by omega), m3.1 b b1 (by omega) (by omega), f2 b b1 b2]) (fun j j1 j2 j3 => by rw [u_n (by omega), m3.2.1 j j1 j2 j3, f2q j, hj j j1 j2 j3]) (by
        unfold bl5
        rw [u_n (by omega), u_n (by omega)]
        exact m3.2.2) (hasL_back (by decide) hL3 hk (by omega)) (fun v' h1 h2 h3 => by
        have := hC v' h1 h2 h3
        rw [fcnt_s ht]
        exact this)
      by_cases c : t = 0
      · subst c
        simp (disch := omega) only [e_213_133, e_213_136, e_213_137, e_213_140, e_213_141, e_213_142, e_213_143, e_213_144, e_213_147, e_213_149, e_213_150, e_213_151, e_213_152, e_213_153, e_213_154, e_213_157, SHM hG, w3, Int.toNat_natCast, ↓if_neg, ↓if_pos, show (k : Int) + 1 = ((k + 1 : Nat) : Int) by omega]
        repeat' first | (refine And.intro ?_ ?_) | exact True.intro | omega | assumption | rfl
      · have e1 : t = 1 := by omega
        subst e1
        simp (disch := omega) only [e_213_133, e_213_136, e_213_137, e_213_140, e_213_141, e_213_142, e_213_143, e_213_144, e_213_147, e_213_149, e_213_150, e_213_151, e_213_152, e_213_153, e_213_154, e_213_157, SHM hG, w3, Int.toNat_natCast, ↓if_neg, ↓if_pos, show (k : Int) + 1 = ((k + 1 : Nat) : Int) by omega]
        repeat' first | (refine And.intro ?_ ?_) | exact True.intro | omega | assumption | rfl
    have key : q_call (d + 6) 209 [.inr (.inr (.inl (some 137))), .inl n, .inl rd] v2 G (fun r v' G' => q_wp (d + 6) 213 133 [.inr (.inr (.inl (some 137))), .inl n, .inl dd, .inl cnt, .inl k] (q_push r [.inl cnt]) v' G' Q) := by
      refine m_taken (L := frg L dd k) (w := w) (low := low) (high := high) (sa := sa) (sb := sb) (a := a) (b := b) hG (frg_lok h6 hr hd hk) hn hrd ha hb y149 yw y150 y151 y152 y153 ylo yk yh ya yb yar ybr hL2 (by
        unfold bl5
        rw [f2q 56, f2q 57]
        exact hb5) (fun x e y ht hm _ _ _ _ => ?_) (fun x T ht hm _ _ => ?_)
      · exact back x 0 (by rw [ht]; rfl) hm
      · exact back x 1 (by rw [ht]; rfl) hm
    have w13' : v2 137 13 = (rd : Int) + 1 := by rw [f2q 13, w13]
    rw [e_213_101]
    simp (disch := omega) only [e_213_103, e_213_104, e_213_107, e_213_110, e_213_111, e_213_114, e_213_116, e_213_117, e_213_118, e_213_119, e_213_120, e_213_121, e_213_122, e_213_123, e_213_124, e_213_125, e_213_128, e_213_129, e_213_130, SHM hG, w32, w13', w160, hv2, Int.toNat_natCast, ↓if_neg, ↓if_pos, show (rd : Int) + 1 - 1 = (rd : Int) by omega]
    repeat' first | (refine And.intro ?_ ?_) | exact True.intro | omega | assumption | rfl
theorem fg_inv {x : q_H} (hI : Inv v G) (cx : ∀ b, b ≠ 137 → ¬ (41 ≤ b ∧ b ≤ 43) → ¬ (72 ≤ b ∧ b ≤ 91) → ¬ (144 ≤ b ∧ b ≤ 147) → ¬ (155 ≤ b ∧ b ≤ 171) → x b = v b) (cq : ∀ j, j ≠ 0 → j ≠ 8 → j ≠ 32 → j ≠ 37 → j ≠ 39 → ¬ (41 ≤ j ∧ j ≤ 44) → ¬ (54 ≤ j ∧ j ≤ 58) → x 137 j = v 137 j) (hb : bl5 x) : (∀ b, b < 32 → x b = v b) ∧ Inv x G := by
  have hK := hI.2.2.2.2.2.2.1
  have hT := hI.2.2.1
  refine ⟨fun b hb => cx b (by omega) (by omega) (by omega) (by omega) (by omega), Inv_csk hI (fun b j h1 h2 h3 => ?_) (stI_cg (by rw [cx 32 (by decide) (by decide) (by decide) (by decide) (by decide)]) (cq 1 (by decide) (by decide) (by decide) (by decide) (by decide) (by decide) (by decide)) hT) ?_⟩
  · by_cases e : b = 137
    · subst e
      exact cq j (by omega) (by omega) (by omega) (by omega) (by omega) (by omega) (by omega)
    · rw [cx b e (by omega) (by omega) (by omega) (by omega)]
  · obtain ⟨k1, k2, k3, k4, k5, k6, k7, k8, k9⟩ := hK
    have x52 : x 52 = v 52 := cx 52 (by decide) (by decide) (by decide) (by decide) (by decide)
    have x70 : x 70 = v 70 := cx 70 (by decide) (by decide) (by decide) (by decide) (by decide)
    have x71 : x 71 = v 71 := cx 71 (by decide) (by decide) (by decide) (by decide) (by decide)
    have x172 : x 172 = v 172 := cx 172 (by decide) (by decide) (by decide) (by decide) (by decide)
    have x61 : x 137 61 = v 137 61 := cq 61 (by decide) (by decide) (by decide) (by decide) (by decide) (by decide) (by decide)
    have x62 : x 137 62 = v 137 62 := cq 62 (by decide) (by decide) (by decide) (by decide) (by decide) (by decide) (by decide)
    unfold ckI
    rw [x52, x70, x71, x172, x61, x62]
    exact ⟨k1, k2, k3, k4, k5, k6, hb.1, hb.2, k9⟩
end
