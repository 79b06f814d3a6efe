/-! ===== feed ===== -/
theorem and255_32 (z : Int) : (Int32.ofInt z &&& Int32.ofInt 255).toInt = z % 256 := by
  show (BitVec.ofInt 32 z &&& BitVec.ofInt 32 255).toInt = z % 256
  have e : (BitVec.ofInt 32 z &&& BitVec.ofInt 32 255).toNat = (z % 256).toNat := by
    rw [BitVec.toNat_and, BitVec.toNat_ofInt, show (BitVec.ofInt 32 255).toNat = 2 ^ 8 - 1 by decide, Nat.and_two_pow_sub_one_eq_mod]
    omega
  rw [BitVec.toInt_eq_toNat_of_lt (by rw [e]; omega), e]
  omega
theorem and255_64 (z : Int) : (Int64.ofInt z &&& Int64.ofInt 255).toInt = z % 256 := by
  show (BitVec.ofInt 64 z &&& BitVec.ofInt 64 255).toInt = z % 256
  have e : (BitVec.ofInt 64 z &&& BitVec.ofInt 64 255).toNat = (z % 256).toNat := by
    rw [BitVec.toNat_and, BitVec.toNat_ofInt, show (BitVec.ofInt 64 255).toNat = 2 ^ 8 - 1 by decide, Nat.and_two_pow_sub_one_eq_mod]
    omega
  rw [BitVec.toInt_eq_toNat_of_lt (by rw [e]; omega), e]
  omega
def fN (w : Int) : Nat := (Int64.ofInt w).toBitVec.toNat
/-- byte k of a long -/
def fb (w : Int) (k : Nat) : Int := ((fN w / 2 ^ (8 * k) % 256 : Nat) : Int)
theorem fb_rng (w : Int) (k : Nat) : 0 ≤ fb w k ∧ fb w k ≤ 255 := by
  unfold fb
  omega
theorem fb_k0 (w : Int) (c : UInt64) (s : Nat) (hs : c.toNat % 64 = s) : ((Int64.ofInt w).toUInt64 >>> c).toInt64.toInt % 256 = ((fN w / 2 ^ s % 256 : Nat) : Int) := by
  show (((Int64.ofInt w).toUInt64 >>> c).toBitVec).toInt % 256 = _
  have e : (((Int64.ofInt w).toUInt64 >>> c).toBitVec).toNat = fN w / 2 ^ s := by
    have := UInt64.toNat_shiftRight (Int64.ofInt w).toUInt64 c
    rw [hs, Nat.shiftRight_eq_div_pow] at this
    exact this
  rw [BitVec.toInt_eq_toNat_cond, e]
  generalize fN w / 2 ^ s = x
  split <;> omega
theorem fb_m0 (w : Int) (c : Int64) (s : Nat) (hs : (c.toBitVec.smod 64).toNat = s) (hd : s = 0 ∨ s = 8 ∨ s = 16 ∨ s = 24 ∨ s = 32 ∨ s = 40 ∨ s = 48 ∨ s = 56) : (Int64.ofInt w >>> c).toInt % 256 = ((fN w / 2 ^ s % 256 : Nat) : Int) := by
  have e : (Int64.ofInt w >>> c).toInt = (Int64.ofInt w).toBitVec.toInt / ((2 ^ s : Nat) : Int) := by
    show ((Int64.ofInt w).toBitVec.sshiftRight' (c.toBitVec.smod 64)).toInt = _
    rw [BitVec.toInt_sshiftRight', hs, Int.shiftRight_eq_div_pow]
  have hN : (Int64.ofInt w).toBitVec.toNat = fN w := rfl
  have hl : fN w < 18446744073709551616 := (Int64.ofInt w).toBitVec.isLt
  rw [e, BitVec.toInt_eq_toNat_cond, hN]
  clear e hN hs
  generalize fN w = x at *
  rcases hd with rfl | rfl | rfl | rfl | rfl | rfl | rfl | rfl <;> split <;> simp only [Nat.reducePow] at * <;> omega
theorem fb_k (w : Int) (k : Nat) (hk : k < 8) : (Int32.ofInt ((Int64.ofInt w).toUInt64 >>> ((Int32.ofInt (8 * (k : Int))).toInt64.toUInt64 &&& Int64.toUInt64 63)).toInt64.toInt &&& Int32.ofInt 255).toInt = fb w k := by
  rw [and255_32]
  unfold fb
  apply fb_k0
  match k, hk with
  | 0, _ => decide +kernel
  | 1, _ => decide +kernel
  | 2, _ => decide +kernel
  | 3, _ => decide +kernel
  | 4, _ => decide +kernel
  | 5, _ => decide +kernel
  | 6, _ => decide +kernel
  | 7, _ => decide +kernel
  | k + 8, h => omega
theorem fb_m (w : Int) (k : Nat) (hk : k < 8) : (Int64.ofInt (Int64.ofInt w >>> ((Int32.ofInt (8 * (k : Int))).toInt64 &&& 63)).toInt &&& Int64.ofInt 255).toInt = fb w k := by
  rw [and255_64]
  unfold fb
  apply fb_m0
  · match k, hk with
    | 0, _ => decide +kernel
    | 1, _ => decide +kernel
    | 2, _ => decide +kernel
    | 3, _ => decide +kernel
    | 4, _ => decide +kernel
    | 5, _ => decide +kernel
    | 6, _ => decide +kernel
    | 7, _ => decide +kernel
    | k + 8, h => omega
  · omega
def fbl (w : Int) : Nat → List Int
  | 0 => []
  | r + 1 => fb w r :: fbl w r
theorem fbl_len (w : Int) : ∀ r, (fbl w r).length = r
  | 0 => rfl
  | r + 1 => by
    unfold fbl
    rw [List.length_cons, fbl_len w r]
theorem fbl_rng (w : Int) : ∀ (r j : Nat) (h : j < (fbl w r).length), 0 ≤ (fbl w r)[j] ∧ (fbl w r)[j] ≤ 255
  | 0, j, h => absurd h (Nat.not_lt_zero _)
  | r + 1, 0, _ => fb_rng w r
  | r + 1, j + 1, h => fbl_rng w r j (by simpa [fbl] using h)
section
variable {d : Nat} {v : q_H} {G : q_Gr} {Q : q_V → q_H → q_Gr → Prop}
theorem s_app_loop {w n : Int} {z2 : q_V} (hG : gok G) : ∀ (r : Nat) (v : q_H), r ≤ 8 → 0 ≤ v 36 1 → v 36 1 + r ≤ 200 → Q (.inl 1) (q_apl v 36 1 37 (fbl w r)) G → q_wp d 44 19 [.inr (.inr (.inl (some 36))), .inr (.inl w), z2, .inl n, .inl ((r : Int) - 1)] [] v G Q := by
  intro r
  induction r with
  | zero =>
    intro v h8 h0 h1 hQ
    rw [e_44_19]
    simp (disch := omega) only [E44, ↓if_pos]
    have hQ : Q (.inl 1) v G := hQ
    repeat' first | (refine And.intro ?_ ?_) | rfl | exact True.intro | assumption | omega
  | succ r ih =>
    intro v h8 h0 h1 hQ
    rw [e_44_19, show ((r + 1 : Nat) : Int) - 1 = (r : Int) by omega]
    have := ih (q_app v 36 1 37 (fb w r)) (by omega) (by rw [app_c]; omega) (by rw [app_c]; omega) hQ
    unfold q_app at this
    simp (disch := omega) only [E44, SHC hG, u_n, ↓if_neg, fb_k w r (by omega), show (r : Int) + -1 = (r : Int) - 1 by omega]
    repeat' first | (refine And.intro ?_ ?_) | rfl | exact True.intro | assumption | omega
theorem c_append {w : Int} {n : Nat} (hG : gok G) (h0 : 0 ≤ v 36 1) (h1 : v 36 1 + n ≤ 200) (hn : 1 ≤ n) (hn8 : n ≤ 8) : q_call (d + 1) 44 [.inr (.inr (.inl (some 36))), .inr (.inl w), .inl n] v G Q = Q (.inl 1) (q_apl v 36 1 37 (fbl w n)) G := by
  refine q_call_eq ?_ Q
  simp (disch := omega) only [E44, SHC hG, ↓if_pos, ↓if_neg]
  have := s_app_loop (d := d) (w := w) (n := n) (z2 := .inr (.inr (.inr ()))) (Q := fun r v' G' => r = .inl 1 ∧ v' = q_apl v 36 1 37 (fbl w n) ∧ G' = G) hG n v hn8 h0 h1 ⟨rfl, rfl, rfl⟩
  repeat' first | (refine And.intro ?_ ?_) | rfl | exact True.intro | assumption | omega
theorem c_append_no {w : Int} {n : Nat} (hG : gok G) (h0 : 0 ≤ v 36 1) (h2 : v 36 1 ≤ 200) (h1 : ¬ v 36 1 + n ≤ 200) (hn8 : n ≤ 8) : q_call (d + 1) 44 [.inr (.inr (.inl (some 36))), .inr (.inl w), .inl n] v G Q = Q (.inl 0) v G := by
  refine q_call_eq ?_ Q
  simp (disch := omega) only [E44, SHC hG, ↓if_pos, ↓if_neg]
  repeat' first | (refine And.intro ?_ ?_) | rfl | exact True.intro | assumption | omega
theorem s_mfeed_loop {w n : Int} {z2 : q_V} (hG : gok G) : ∀ (r : Nat) (v : q_H), r ≤ 8 → 0 ≤ v 137 23 → v 137 23 + r ≤ 200 → Q (.inl (v 137 23 + r)) (q_apl v 137 23 154 (fbl w r)) G → q_wp d 172 40 [.inr (.inr (.inl (some 137))), .inr (.inl w), z2, .inl n, .inl ((r : Int) - 1)] [] v G Q := by
  intro r
  induction r with
  | zero =>
    intro v h8 h0 h1 hQ
    rw [e_172_40]
    simp (disch := omega) only [E172, SHM hG, ↓if_pos]
    have hQ : Q (.inl (v 137 23 + ((0 : Nat) : Int))) v G := hQ
    rw [show v 137 23 + ((0 : Nat) : Int) = v 137 23 by omega] at hQ
    repeat' first | (refine And.intro ?_ ?_) | rfl | exact True.intro | assumption | omega
  | succ r ih =>
    intro v h8 h0 h1 hQ
    rw [e_172_40, show ((r + 1 : Nat) : Int) - 1 = (r : Int) by omega]
    have := ih (q_app v 137 23 154 (fb w r)) (by omega) (by rw [app_c]; omega) (by rw [app_c]; omega) (by rw [app_c, show v 137 23 + 1 + (r : Int) = v 137 23 + ((r + 1 : Nat) : Int) by omega]; exact hQ)
    unfold q_app at this
    simp (disch := omega) only [E172, SHM hG, u_n, ↓if_neg, fb_m w r (by omega), show (r : Int) + -1 = (r : Int) - 1 by omega]
    repeat' first | (refine And.intro ?_ ?_) | rfl | exact True.intro | assumption | omega
theorem op_feed {w n : Int} (hI : Inv v G) (hn : -2147483648 ≤ n ∧ n ≤ 2147483647) : twin (d + 8) 127 172 [.inr (.inl w), .inl n] v G Inv := by
  have hG := hI.1
  obtain ⟨p1, p2, p3, p4, p5, p6, p7⟩ := hI.2.2.2.2.1
  by_cases c : 1 ≤ n ∧ n ≤ 8
  · obtain ⟨m, rfl⟩ : ∃ m : Nat, n = (m : Int) := ⟨n.toNat, by omega⟩
    by_cases c2 : v 36 1 + m ≤ 200
    · have e1 := apl_c (q := 36) (f := 1) (i := 37) (fbl w m) v
      rw [fbl_len] at e1
      have e3 : q_up (q_apl v 36 1 37 (fbl w m)) 137 0 0 137 23 = v 36 1 := by rw [u_n (by omega), apl_n _ _ (by omega) (by omega), p1]
      have e2 : q_apl (q_up (q_apl v 36 1 37 (fbl w m)) 137 0 0) 137 23 154 (fbl w m) 137 23 = v 36 1 + m := by rw [apl_c, fbl_len, e3]
      have e36 : q_apl (q_up (q_apl v 36 1 37 (fbl w m)) 137 0 0) 137 23 154 (fbl w m) 36 = q_apl v 36 1 37 (fbl w m) 36 := by rw [apl_r (by omega) (by omega), u_r (by omega)]
      have e37 : q_apl (q_up (q_apl v 36 1 37 (fbl w m)) 137 0 0) 137 23 154 (fbl w m) 37 = q_apl v 36 1 37 (fbl w m) 37 := by rw [apl_r (by omega) (by omega), u_r (by omega)]
      refine twin_mk (z := v 36 1 + m) (v1 := q_apl v 36 1 37 (fbl w m)) (v2 := q_apl (q_up (q_apl v 36 1 37 (fbl w m)) 137 0 0) 137 23 154 (fbl w m)) ?_ ?_ (by omega) ?_ (fun b hb => by rw [apl_r (by omega) (by omega), u_r (by omega), apl_r (by omega) (by omega)])
      · simp (disch := first | assumption | omega) only [E127, E45, SHC hG, c_append, ↓if_pos, ↓if_neg, q_push_I, q_push_L, q_push_P, q_push_U, e1]
        repeat' first | (refine And.intro ?_ ?_) | rfl | exact True.intro | assumption | omega
      · have key := s_mfeed_loop (d := d + 7) (w := w) (n := m) (z2 := .inr (.inr (.inr ()))) (Q := fun r v' G' => r = .inl (v 36 1 + m) ∧ v' = q_apl (q_up (q_apl v 36 1 37 (fbl w m)) 137 0 0) 137 23 154 (fbl w m) ∧ G' = G) hG m (q_up (q_apl v 36 1 37 (fbl w m)) 137 0 0) (by omega) (by omega) (by omega) ⟨by rw [e3], rfl, rfl⟩
        simp (disch := omega) only [E172, SHM hG, e3, c_in, ↓if_pos, ↓if_neg, q_push_I, q_push_L, q_push_P, q_push_U]
        repeat' first | (refine And.intro ?_ ?_) | rfl | exact True.intro | assumption | omega
      · refine Inv_ctp hI (fun b j h1 h2 => ?_) ⟨?_, ?_, ?_, fun k hk => ?_, ?_, ?_, ?_⟩
        · rw [apl_n _ _ (by omega) (by omega), u_n (by omega), apl_n _ _ (by omega) (by omega)]
        · rw [e2, e36, e1]
        · rw [e36, e1]
          omega
        · rw [e36, e1]
          omega
        · rw [e36, e1] at hk
          rw [e37]
          by_cases c3 : (k : Int) < v 36 1
          · have := p4 k c3
            have x1 : q_apl v 36 1 37 (fbl w m) 37 k = v 37 k := apl_n _ _ (by omega) (by omega)
            have x2 : q_apl (q_up (q_apl v 36 1 37 (fbl w m)) 137 0 0) 137 23 154 (fbl w m) 154 k = v 154 k := by rw [apl_n _ _ (by omega) (by rw [e3]; omega), u_n (by omega), apl_n _ _ (by omega) (by omega)]
            rw [x1, x2]
            exact this
          · have hj : k - (v 36 1).toNat < (fbl w m).length := by rw [fbl_len]; omega
            have x1 := apl_l (q := 36) (f := 1) (i := 37) (by decide) (fbl w m) v (k - (v 36 1).toNat) p2 hj
            have x2 := apl_l (q := 137) (f := 23) (i := 154) (by decide) (fbl w m) (q_up (q_apl v 36 1 37 (fbl w m)) 137 0 0) (k - (v 36 1).toNat) (by rw [e3]; omega) hj
            rw [e3] at x2
            rw [show (v 36 1).toNat + (k - (v 36 1).toNat) = k by omega] at x1 x2
            rw [x1, x2]
            exact ⟨rfl, fbl_rng w m _ hj⟩
        · rw [e36, apl_n _ _ (by omega) (by omega), apl_n _ _ (by omega) (by omega), u_n (by omega), apl_n _ _ (by omega) (by omega)]
          exact p5
        · rw [e36, apl_n _ _ (by omega) (by omega)]
          exact p6
        · rw [e36, apl_n _ _ (by omega) (by omega)]
          exact p7
    · refine twin_mk (z := -1000003) (v1 := v) (v2 := q_up v 137 0 0) ?_ ?_ (by decide) (Inv_c hI (fun b j h1 => by rw [u_n (by omega)]))
      · simp (disch := first | assumption | omega) only [E127, SHC hG, c_append_no, ↓if_pos, ↓if_neg, q_push_I, q_push_L, q_push_P, q_push_U]
        repeat' first | (refine And.intro ?_ ?_) | rfl | exact True.intro | assumption | omega
      · simp (disch := omega) only [E172, SHM hG, u_n, ← p1, c_in, ↓if_pos, ↓if_neg, q_push_I, q_push_L, q_push_P, q_push_U]
        repeat' first | (refine And.intro ?_ ?_) | rfl | exact True.intro | assumption | omega
  · refine twin_mk (z := -1000001) (v1 := v) (v2 := q_up v 137 0 0) ?_ ?_ (by decide) (Inv_c hI (fun b j h1 => by rw [u_n (by omega)]))
    · simp (disch := omega) only [E127, SHC hG, q_push_I, q_push_L, q_push_P, q_push_U]
      repeat' first | (refine And.intro ?_ ?_) | rfl | exact True.intro | omega | split
    · simp (disch := omega) only [E172, SHM hG, c_in, ↓if_neg, q_push_I, q_push_L, q_push_P, q_push_U]
      repeat' first | (refine And.intro ?_ ?_) | rfl | exact True.intro | omega | split
end
