section
variable {d q : Nat} {v : q_H} {G : q_Gr} {Q : q_V → q_H → q_Gr → Prop}
/-! ===== the reference tells proofs ===== -/
theorem c_mtell {x : Int} (hG : gok G) (h0 : 0 ≤ v 137 32) (h6 : v 137 32 < 600) : q_call (d + 1) 186 [.inr (.inr (.inl (some 137))), .inl x] v G Q = Q (.inr (.inr (.inr ()))) (q_app v 137 32 155 x) G := by
  refine q_call_eq ?_ Q
  unfold q_app
  simp (disch := omega) only [E186, SHM hG, u_n]
  repeat' first | (refine And.intro ?_ ?_) | rfl | exact True.intro | assumption | omega
theorem s_msome_loop {S : Nat → Bool} {k n : Nat} (hG : gok G) (hS : ∀ j, k ≤ j → j < k + n → v 156 j = if S j then 1 else 0) (hkn : k + n ≤ 16) : ∀ (r i : Nat) (b : Bool), k ≤ i → i + r = k + n → Q (.inl (if (b || anyS S r i) then 1 else 0)) v G → q_wp d 187 5 [.inr (.inr (.inl (some 137))), .inl k, .inl n, .inl (if b then 1 else 0), .inl i] [] v G Q := by
  intro r
  induction r with
  | zero =>
    intro i b hk h hQ
    rw [e_187_5]
    rw [show (b || anyS S 0 i) = b by cases b <;> rfl] at hQ
    cases b with
    | true =>
      have hQ : Q (.inl 1) v G := hQ
      simp (disch := omega) only [E187, ↓if_pos, show (if true = true then (1 : Int) else 0) = 1 from rfl]
      repeat' first | (refine And.intro ?_ ?_) | rfl | exact True.intro | assumption | omega
    | false =>
      have hQ : Q (.inl 0) v G := hQ
      simp (disch := omega) only [E187, ↓if_pos, show (if false = true then (1 : Int) else 0) = 0 from rfl]
      repeat' first | (refine And.intro ?_ ?_) | rfl | exact True.intro | assumption | omega
  | succ r ih =>
    intro i b hk h hQ
    have hs := hS i hk (by omega)
    have nx := ih (i + 1) (b || S i) (by omega) (by omega) (by rw [Bool.or_assoc]; exact hQ)
    rw [e_187_5]
    cases b with
    | true =>
      have nx : q_wp d 187 5 [.inr (.inr (.inl (some 137))), .inl k, .inl n, .inl 1, .inl ((i + 1 : Nat))] [] v G Q := nx
      simp (disch := omega) only [E187, SHM hG, ↓if_neg, ↓if_pos, Int.toNat_natCast, show (i : Int) + 1 = ((i + 1 : Nat) : Int) by omega, show (if true = true then (1 : Int) else 0) = 1 from rfl]
      repeat' first | (refine And.intro ?_ ?_) | rfl | exact True.intro | assumption | omega
    | false =>
      rw [Bool.false_or] at nx
      by_cases c : S i = true
      · rw [c] at nx
        rw [if_pos c] at hs
        have nx : q_wp d 187 5 [.inr (.inr (.inl (some 137))), .inl k, .inl n, .inl 1, .inl ((i + 1 : Nat))] [] v G Q := nx
        simp (disch := omega) only [E187, SHM hG, ↓if_neg, ↓if_pos, Int.toNat_natCast, hs, show (i : Int) + 1 = ((i + 1 : Nat) : Int) by omega, show (if false = true then (1 : Int) else 0) = 0 from rfl]
        repeat' first | (refine And.intro ?_ ?_) | rfl | exact True.intro | assumption | omega
      · rw [show S i = false by simpa using c] at nx
        rw [if_neg c] at hs
        have nx : q_wp d 187 5 [.inr (.inr (.inl (some 137))), .inl k, .inl n, .inl 0, .inl ((i + 1 : Nat))] [] v G Q := nx
        simp (disch := omega) only [E187, SHM hG, ↓if_neg, ↓if_pos, Int.toNat_natCast, hs, show (i : Int) + 1 = ((i + 1 : Nat) : Int) by omega, show (if false = true then (1 : Int) else 0) = 0 from rfl]
        repeat' first | (refine And.intro ?_ ?_) | rfl | exact True.intro | assumption | omega
theorem c_msome {S : Nat → Bool} {k n : Nat} (hG : gok G) (hS : ∀ j, k ≤ j → j < k + n → v 156 j = if S j then 1 else 0) (hkn : k + n ≤ 16) : q_call (d + 1) 187 [.inr (.inr (.inl (some 137))), .inl k, .inl n] v G Q = Q (.inl (if anyS S n k then 1 else 0)) v G := by
  refine q_call_eq ?_ Q
  have := s_msome_loop (d := d) (Q := fun r v' G' => r = .inl (if anyS S n k then 1 else 0) ∧ v' = v ∧ G' = G) hG hS hkn n k false (Nat.le_refl _) rfl ⟨by rw [Bool.false_or], rfl, rfl⟩
  simp only [E187, SHM hG]
  exact ⟨True.intro, this⟩
/-- while a tree is told -/
def pcI (v v0 : q_H) (L : List Int) : Prop := (∀ b, b ≠ 137 → b ≠ 155 → b ≠ 157 → b ≠ 158 → v b = v0 b) ∧ (∀ j, j ≠ 32 → v 137 j = v0 137 j) ∧ hasL v 137 32 155 L
theorem pcI_apl {v v0 : q_H} {L xs : List Int} (h : pcI v v0 L) : pcI (q_apl v 137 32 155 xs) v0 (L ++ xs) := by
  refine ⟨fun b b1 b2 b3 b4 => by rw [apl_r b1 b2, h.1 b b1 b2 b3 b4], fun j hj => by rw [apl_n _ _ (by omega) (by omega), h.2.1 j hj], hasL_apl (by decide) h.2.2⟩
theorem pcI_up {v v0 : q_H} {L : List Int} {b k : Nat} {x : Int} (hb : b = 157 ∨ b = 158) (h : pcI v v0 L) : pcI (q_up v b k x) v0 L := by
  refine ⟨fun c b1 b2 b3 b4 => by rw [u_r (by omega), h.1 c b1 b2 b3 b4], fun j hj => by rw [u_n (by omega), h.2.1 j hj], hasL_fr (u_r (by omega)) (u_r (by omega)) h.2.2⟩
theorem s_pile {N : Nat} {S : Nat → Bool} {v0 : q_H} {key val : Nat → Int} (hG : gok G) (hN : N ≤ 16) (hl : layI v0 N key val) (hS : ∀ j, j < N → v0 156 j = if S j then 1 else 0) : ∀ (m k n p : Nat) (v : q_H) (L : List Int) (z2 z3 z4 : q_V), n ≤ m → 1 ≤ n → k + n ≤ N → p + n ≤ 17 → v 157 p = (k : Int) → v 158 p = (n : Int) → pcI v v0 L → L.length + (tl key val S k n).length ≤ 600 → (∀ v' (z2 z3 z4 : q_V), pcI v' v0 (L ++ tl key val S k n) → (∀ j, j < p → v' 157 j = v 157 j ∧ v' 158 j = v 158 j) → q_wp (d + 1) 188 27 [.inr (.inr (.inl (some 137))), .inl p, z2, z3, z4] [] v' G Q) → q_wp (d + 1) 188 27 [.inr (.inr (.inl (some 137))), .inl ((p + 1 : Nat)), z2, z3, z4] [] v G Q := by
  obtain ⟨l1, l2, l3⟩ := hl
  intro m
  induction m with
  | zero => intro k n p v L z2 z3 z4 h1 h2; omega
  | succ m ih =>
    intro k n p v L z2 z3 z4 h1 h2 h3 h4 h5 h6 hp h7 hC
    have e156 := hp.1 156 (by decide) (by decide) (by decide) (by decide)
    have e144 := hp.1 144 (by decide) (by decide) (by decide) (by decide)
    have e145 := hp.1 145 (by decide) (by decide) (by decide) (by decide)
    have e146 := hp.1 146 (by decide) (by decide) (by decide) (by decide)
    have e147 := hp.1 147 (by decide) (by decide) (by decide) (by decide)
    have hw := hp.2.2.1
    have s3 := l3 k n h2 h3
    have hS' : ∀ j, k ≤ j → j < k + n → v 156 j = if S j then 1 else 0 := fun j g1 g2 => by rw [e156, hS j (by omega)]
    rw [e_188_27]
    by_cases ha : anyS S n k = true
    · have eh : ∀ (d' : Nat) (Q' : q_V → q_H → q_Gr → Prop), q_call (d' + 1) 187 [.inr (.inr (.inl (some 137))), .inl k, .inl n] v G Q' = Q' (.inl 1) v G := fun d' Q' => by rw [c_msome hG hS' (by omega), ha, if_pos rfl]
      by_cases hn : n ≤ 1
      · have hn1 : n = 1 := by omega
        subst hn1
        rw [tl_leaf ha hn] at hC h7
        have h7 : L.length + 3 ≤ 600 := h7
        have lk := l2 k (by omega)
        have fin := hC (q_apl v 137 32 155 [1, key k, val k]) (.inl k) (.inl ((1 : Nat))) z4 (pcI_apl hp) (fun j hj => by rw [apl_r (by decide) (by decide), apl_r (by decide) (by decide)]; exact ⟨rfl, rfl⟩)
        have k1 : q_app v 137 32 155 1 144 k = key k := by rw [app_n (by omega) (by omega), e144, lk.1]
        have k2 : q_app (q_app v 137 32 155 1) 137 32 155 (key k) 145 k = val k := by rw [app_n (by omega) (by omega), app_n (by omega) (by omega), e145, lk.2]
        simp (disch := first | assumption | omega | ((try simp (disch := omega) only [app_c, app_n, u_n, u_s]); omega)) only [E188, SHM hG, h5, h6, eh, c_mtell, k1, k2, q_push_I, q_push_L, q_push_P, q_push_U, ↓if_neg, ↓if_pos, Int.toNat_natCast, show ((p + 1 : Nat) : Int) + -1 = (p : Int) by omega]
        repeat' first | (refine And.intro ?_ ?_) | rfl | exact True.intro | assumption | omega
      · rw [tl_fork ha (by omega)] at hC h7
        rw [List.length_cons, List.length_append] at h7
        have e2 : ((n : Int) + 1).tdiv 2 = (((n + 1) / 2 : Nat) : Int) := by rw [Int.tdiv_eq_ediv_of_nonneg (by omega)]; omega
        have pW : pcI (q_up (q_up (q_up (q_up (q_apl v 137 32 155 [1]) 157 p ((k + (n + 1) / 2 : Nat) : Int)) 158 p ((n - (n + 1) / 2 : Nat) : Int)) 157 (p + 1) (k : Int)) 158 (p + 1) (((n + 1) / 2 : Nat) : Int)) v0 (L ++ [1]) := pcI_up (Or.inr rfl) (pcI_up (Or.inl rfl) (pcI_up (Or.inr rfl) (pcI_up (Or.inl rfl) (pcI_apl hp))))
        have nx := ih k ((n + 1) / 2) (p + 1) _ (L ++ [1]) (.inl k) (.inl n) (.inl (((n + 1) / 2 : Nat))) (by omega) (by omega) (by omega) (by omega) (by rw [u_n (by omega), u_s rfl rfl]) (by rw [u_s rfl rfl]) pW (by rw [List.length_append]; show L.length + 1 + _ ≤ 600; omega) (fun v' z2 z3 z4 q1 q2 => by
          have q2p := q2 p (by omega)
          rw [u_n (by omega), u_n (by omega), u_n (by omega), u_s rfl rfl, u_n (by omega), u_n (by omega), u_s rfl rfl] at q2p
          refine ih (k + (n + 1) / 2) (n - (n + 1) / 2) p v' _ z2 z3 z4 (by omega) (by omega) (by omega) (by omega) q2p.1 q2p.2 q1 (by rw [List.length_append, List.length_append]; show L.length + 1 + _ + _ ≤ 600; omega) (fun v'' z2 z3 z4 r1 r2 => hC v'' z2 z3 z4 (by
            rw [show L ++ 1 :: (tl key val S k ((n + 1) / 2) ++ tl key val S (k + (n + 1) / 2) (n - (n + 1) / 2)) = L ++ [1] ++ tl key val S k ((n + 1) / 2) ++ tl key val S (k + (n + 1) / 2) (n - (n + 1) / 2) by simp]
            exact r1) (fun j hj => by
            rw [(r2 j hj).1, (r2 j hj).2, (q2 j (by omega)).1, (q2 j (by omega)).2, u_n (by omega), u_n (by omega), u_n (by omega), u_n (by omega), u_n (by omega), u_n (by omega), u_n (by omega), u_n (by omega), apl_r (by decide) (by decide), apl_r (by decide) (by decide)]
            exact ⟨rfl, rfl⟩)))
        simp (disch := first | assumption | omega | ((try simp (disch := omega) only [app_c, app_n, u_n, u_s]); omega)) only [E188, SHM hG, h5, h6, eh, c_mtell, e2, q_push_I, q_push_L, q_push_P, q_push_U, ↓if_neg, ↓if_pos, Int.toNat_natCast, show ((p + 1 : Nat) : Int) + -1 = (p : Int) by omega, show (k : Int) + (((n + 1) / 2 : Nat) : Int) = ((k + (n + 1) / 2 : Nat) : Int) by omega, show (n : Int) - (((n + 1) / 2 : Nat) : Int) = ((n - (n + 1) / 2 : Nat) : Int) by omega, show (p : Int) + 1 = ((p + 1 : Nat) : Int) by omega, show (p : Int) + 2 = ((p + 1 + 1 : Nat) : Int) by omega]
        repeat' first | (refine And.intro ?_ ?_) | rfl | exact True.intro | assumption | omega
    · have ha : anyS S n k = false := by simpa using ha
      have eh : ∀ (d' : Nat) (Q' : q_V → q_H → q_Gr → Prop), q_call (d' + 1) 187 [.inr (.inr (.inl (some 137))), .inl k, .inl n] v G Q' = Q' (.inl 0) v G := fun d' Q' => by rw [c_msome hG hS' (by omega), ha, if_neg (by decide)]
      rw [tl_no ha] at hC h7
      have h7 : L.length + 3 ≤ 600 := h7
      have fin := hC (q_apl v 137 32 155 [0, (sl key val k n).1, (sl key val k n).2]) (.inl k) (.inl n) z4 (pcI_apl hp) (fun j hj => by rw [apl_r (by decide) (by decide), apl_r (by decide) (by decide)]; exact ⟨rfl, rfl⟩)
      have k1 : q_app v 137 32 155 0 146 (17 * k + n) = (sl key val k n).1 := by rw [app_n (by omega) (by omega), e146, s3.1]
      have k2 : q_app (q_app v 137 32 155 0) 137 32 155 (sl key val k n).1 147 (17 * k + n) = (sl key val k n).2 := by rw [app_n (by omega) (by omega), app_n (by omega) (by omega), e147, s3.2]
      simp (disch := first | assumption | omega | ((try simp (disch := omega) only [app_c, app_n, u_n, u_s]); omega)) only [E188, SHM hG, h5, h6, eh, c_mtell, k1, k2, q_push_I, q_push_L, q_push_P, q_push_U, ↓if_neg, ↓if_pos, Int.toNat_natCast, show ((p + 1 : Nat) : Int) + -1 = (p : Int) by omega, show ((17 : Int) * (k : Int) + (n : Int)).toNat = 17 * k + n by omega]
      repeat' first | (refine And.intro ?_ ?_) | rfl | exact True.intro | assumption | omega
/-- what telling leaves as it is -/
def mfr (v' v : q_H) : Prop := (∀ b, b ≠ 137 → ¬ (144 ≤ b ∧ b ≤ 147) → ¬ (155 ≤ b ∧ b ≤ 158) → v' b = v b) ∧ ∀ j, j ≠ 8 → j ≠ 32 → v' 137 j = v 137 j
theorem mfr_rf (v : q_H) : mfr v v := ⟨fun _ _ _ _ => rfl, fun _ _ _ => rfl⟩
theorem mfr_tr {v1 v2 v3 : q_H} (h1 : mfr v2 v1) (h2 : mfr v3 v2) : mfr v3 v1 := ⟨fun b b1 b2 b3 => by rw [h2.1 b b1 b2 b3, h1.1 b b1 b2 b3], fun j j1 j2 => by rw [h2.2 j j1 j2, h1.2 j j1 j2]⟩
theorem c_mtree {N : Nat} {S : Nat → Bool} {key val : Nat → Int} {L : List Int} (hG : gok G) (hN : N ≤ 16) (hN1 : 1 ≤ N) (hl : layI v N key val) (hS : ∀ j, j < N → v 156 j = if S j then 1 else 0) (hL : hasL v 137 32 155 L) (h6 : L.length + 1 + (tl key val S 0 N).length ≤ 600) (hQ : ∀ v', mfr v' v → hasL v' 137 32 155 (L ++ (N : Int) :: tl key val S 0 N) → Q (.inr (.inr (.inr ()))) v' G) : q_call (d + 2) 188 [.inr (.inr (.inl (some 137)))] v G Q := by
  have l1 := hl.1
  have hL1 := hL.1
  have key := s_pile (d := d) (Q := Q) (v0 := v) (S := S) hG hN hl hS N 0 N 0 (q_up (q_up (q_apl v 137 32 155 [(N : Int)]) 157 0 0) 158 0 (N : Int)) (L ++ [(N : Int)]) (.inr (.inr (.inr ()))) (.inr (.inr (.inr ()))) (.inr (.inr (.inr ()))) (Nat.le_refl _) hN1 (by omega) (by omega) (by rw [u_n (by omega), u_s rfl rfl]; rfl) (by rw [u_s rfl rfl]) (pcI_up (Or.inr rfl) (pcI_up (Or.inl rfl) (pcI_apl ⟨fun _ _ _ _ _ => rfl, fun _ _ => rfl, hL⟩))) (by rw [List.length_append]; exact h6) (fun v' z2 z3 z4 q1 q2 => by
    rw [e_188_27]
    have fin := hQ v' ⟨fun b b1 b2 b3 => q1.1 b b1 (by omega) (by omega) (by omega), fun j j1 j2 => q1.2.1 j j2⟩ (by
      have := q1.2.2
      rw [List.append_assoc] at this
      exact this)
    simp (disch := omega) only [E188, ↓if_pos]
    repeat' first | (refine And.intro ?_ ?_) | rfl | exact True.intro | assumption | omega)
  have k1 : q_up (q_app v 137 32 155 (N : Int)) 157 0 0 137 8 = (N : Int) := by rw [u_n (by omega), app_n (by omega) (by omega), l1]
  simp (disch := first | assumption | omega | ((try simp (disch := omega) only [app_c, app_n, u_n, u_s]); omega)) only [E188, SHM hG, l1, k1, c_mtell, q_push_I, q_push_L, q_push_P, q_push_U, show Int.toNat 0 = 0 from rfl]
  repeat' first | (refine And.intro ?_ ?_) | rfl | exact True.intro | assumption | omega
end
