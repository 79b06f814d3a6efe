theorem s_law {L : Nat} {xs : Nat → Int} (hr : ∀ k, -2147483648 ≤ xs k ∧ xs k ≤ 2147483647) (hL : L ≤ 3072) : ∀ (n i : Nat) (v : q_H) (G : q_Gr), L < i + 6 * n + 6 → i ≤ L + 6 → Inv v G → csI v → q_lk G → G.2.1 0 = (20, L) → (∀ k, v 0 k = xs k) → G.2.2.1 + 12 * n ≤ 600000 → G.2.2.2 + 72 * n ≤ 7302250 → q_wp 40 225 18 [.inr (.inr (.inl (some 0))), .inr (.inr (.inl (some 32))), .inr (.inr (.inl (some 137))), .inl i] [] v G (fun r _ _ => r = .inl 1) := by
  intro n
  induction n with
  | zero =>
    intro i v G h1 h2 hI hC hk h0 hx c1 c2
    rw [e_225_18]
    clear hI hC hk hx hr
    simp (disch := omega) only [e_225_19, e_225_20, e_225_21, e_225_23, e_225_24, e_225_1016, e_225_1017, h0, ↓if_pos, ↓if_neg]
    repeat' first | exact Or.inl True.intro | (refine And.intro ?_ ?_) | exact True.intro | omega | assumption | rfl
  | succ n ih =>
    intro i v G h1 h2 hI hC hk h0 hx c1 c2
    by_cases ci : L < i + 6
    · rw [e_225_18]
      clear hI hC hk hx hr ih
      simp (disch := omega) only [e_225_19, e_225_20, e_225_21, e_225_23, e_225_24, e_225_1016, e_225_1017, h0, ↓if_pos, ↓if_neg]
      repeat' first | exact Or.inl True.intro | (refine And.intro ?_ ?_) | exact True.intro | omega | assumption | rfl
    · have hi : i + 6 ≤ L := by omega
      have hm : G.2.2.1 + 12 ≤ 600000 ∧ G.2.2.2 + 72 ≤ 7302250 := ⟨by omega, by omega⟩
      generalize hQ : (fun (r : q_V) (_ : q_H) (_ : q_Gr) => r = .inl 1) = Q at *
      have nx : ∀ v2 G2, Inv v2 G2 → G2.2.2.1 ≤ G.2.2.1 + 12 → G2.2.2.2 ≤ G.2.2.2 + 72 → q_lw v G v2 G2 → q_wp 40 225 1010 [.inr (.inr (.inl (some 0))), .inr (.inr (.inl (some 32))), .inr (.inr (.inl (some 137))), .inl i] [] v2 G2 Q := fun v2 G2 p1 p2 p3 p4 => by
        have go := ih (i + 6) v2 G2 (by omega) (by omega) p1 (csI_cg (fun b hb => (p4 b hb).1) hC) (lk_tr p4 hk) (by rw [(p4 0 (by decide)).2, h0]) (fun k => by rw [(p4 0 (by decide)).1, hx]) (by omega) (by omega)
        clear ih hr hx hI hC
        simp only [e_225_1010, e_225_1013, show (i : Int) + 6 = ((i + 6 : Nat) : Int) by omega]
        repeat' first | exact Or.inl True.intro | (refine And.intro ?_ ?_) | exact True.intro | omega | assumption | rfl
      have a0 := law_sheet hI hC hk h0 hx hr hi hL hm nx
      have a1 := law_set hI hC hk h0 hx hr hi hL hm nx
      have a2 := law_copy hI hC hk h0 hx hr hi hL hm nx
      have a3 := law_drop hI hC hk h0 hx hr hi hL hm nx
      have a4 := law_put hI hC hk h0 hx hr hi hL hm nx
      have a5 := law_take hI hC hk h0 hx hr hi hL hm nx
      have a6 := law_told hI hC hk h0 hx hr hi hL hm nx
      have a7 := law_round hI hC hk h0 hx hr hi hL hm nx
      have a8 := law_seal hI hC hk h0 hx hr hi hL hm nx
      have a9 := law_feed hI hC hk h0 hx hr hi hL hm nx
      have a10 := law_plan hI hC hk h0 hx hr hi hL hm nx
      have a11 := law_fault hI hC hk h0 hx hr hi hL hm nx
      have a12 := law_proof hI hC hk h0 hx hr hi hL hm nx
      have a13 := law_answer hI hC hk h0 hx hr hi hL hm nx
      have a14 := law_write hI hC hk h0 hx hr hi hL hm nx
      have a15 := law_check hI hC hk h0 hx hr hi hL hm nx
      have a16 := law_why hI hC hk h0 hx hr hi hL hm nx
      have a17 := law_read hI hC hk h0 hx hr hi hL hm nx
      have a18 := law_fewer hI hC hk h0 hx hr hi hL hm nx
      have a19 := law_forged hI hC hk h0 hx hr hi hL hm nx
      have a20 := law_kind hI hC hk h0 hx hr hi hL hm nx
      have a21 := law_as hI hC hk h0 hx hr hi hL hm nx
      have a22 := law_ask hI hC hk h0 hx hr hi hL hm nx
      have a23 := law_trace hI hC hk h0 hx hr hi hL hm nx
      have a24 := law_count hI hC hk h0 hx hr hi hL hm nx
      have a25 := law_status hI hC hk h0 hx hr hi hL hm nx
      have a26 := nx v G hI (by omega) (by omega) (fun _ _ => ⟨rfl, rfl⟩)
      clear nx ih hI hC hk
      have tsw : ∀ t : Int, -2147483648 ≤ t → t ≤ 2147483647 → q_wp 40 225 33 [.inr (.inr (.inl (some 0))), .inr (.inr (.inl (some 32))), .inr (.inr (.inl (some 137))), .inl i] [.inl t] v G Q := fun t t1 t2 => by
        rw [e_225_33]
        refine ⟨⟨t1, t2⟩, ?_⟩
        by_cases b0 : t = 0
        · rw [if_pos b0]
          exact a0
        rw [if_neg b0]
        by_cases b1 : t = 1
        · rw [if_pos b1]
          exact a1
        rw [if_neg b1]
        by_cases b2 : t = 2
        · rw [if_pos b2]
          exact a2
        rw [if_neg b2]
        by_cases b3 : t = 3
        · rw [if_pos b3]
          exact a3
        rw [if_neg b3]
        by_cases b4 : t = 4
        · rw [if_pos b4]
          exact a4
        rw [if_neg b4]
        by_cases b5 : t = 5
        · rw [if_pos b5]
          exact a5
        rw [if_neg b5]
        by_cases b6 : t = 6
        · rw [if_pos b6]
          exact a6
        rw [if_neg b6]
        by_cases b7 : t = 7
        · rw [if_pos b7]
          exact a7
        rw [if_neg b7]
        by_cases b8 : t = 8
        · rw [if_pos b8]
          exact a8
        rw [if_neg b8]
        by_cases b9 : t = 9
        · rw [if_pos b9]
          exact a9
        rw [if_neg b9]
        by_cases b10 : t = 10
        · rw [if_pos b10]
          exact a10
        rw [if_neg b10]
        by_cases b11 : t = 11
        · rw [if_pos b11]
          exact a11
        rw [if_neg b11]
        by_cases b12 : t = 12
        · rw [if_pos b12]
          exact a12
        rw [if_neg b12]
        by_cases b13 : t = 13
        · rw [if_pos b13]
          exact a13
        rw [if_neg b13]
        by_cases b14 : t = 14
        · rw [if_pos b14]
          exact a14
        rw [if_neg b14]
        by_cases b15 : t = 15
        · rw [if_pos b15]
          exact a15
        rw [if_neg b15]
        by_cases b16 : t = 16
        · rw [if_pos b16]
          exact a16
        rw [if_neg b16]
        by_cases b17 : t = 17
        · rw [if_pos b17]
          exact a17
        rw [if_neg b17]
        by_cases b18 : t = 18
        · rw [if_pos b18]
          exact a18
        rw [if_neg b18]
        by_cases b19 : t = 19
        · rw [if_pos b19]
          exact a19
        rw [if_neg b19]
        by_cases b20 : t = 20
        · rw [if_pos b20]
          exact a20
        rw [if_neg b20]
        by_cases b21 : t = 21
        · rw [if_pos b21]
          exact a21
        rw [if_neg b21]
        by_cases b22 : t = 22
        · rw [if_pos b22]
          exact a22
        rw [if_neg b22]
        by_cases b23 : t = 23
        · rw [if_pos b23]
          exact a23
        rw [if_neg b23]
        by_cases b24 : t = 24
        · rw [if_pos b24]
          exact a24
        rw [if_neg b24]
        by_cases b25 : t = 25
        · rw [if_pos b25]
          exact a25
        rw [if_neg b25]
        exact a26
      clear a0 a1 a2 a3 a4 a5 a6 a7 a8 a9 a10 a11 a12 a13 a14 a15 a16 a17 a18 a19 a20 a21 a22 a23 a24 a25 a26
      have fin := tsw (Int32.ofInt (xs i) &&& Int32.ofInt 31).toInt (Int32.le_toInt _) (by have := Int32.toInt_lt (Int32.ofInt (xs i) &&& Int32.ofInt 31); omega)
      rw [e_225_18]
      clear tsw
      simp (disch := omega) only [e_225_19, e_225_20, e_225_21, e_225_23, e_225_24, e_225_27, e_225_28, e_225_29, e_225_30, e_225_32, h0, hx, ↓if_pos, ↓if_neg, Int.toNat_natCast]
      repeat' first | exact Or.inl True.intro | (refine And.intro ?_ ?_) | exact True.intro | omega | assumption | rfl
theorem ite_none {α : Type} {c : Prop} [Decidable c] {x : Option α} {y : α} (h : (if c then x else none) = some y) : x = some y := by
  by_cases hc : c
  · rw [if_pos hc] at h
    exact h
  · rw [if_neg hc] at h
    cases h
/-- the claim, from what the two constructors leave -/
theorem q_pure_of (hN : ∀ (L : Nat) (xs : Nat → Int32), L ≤ 3072 → ∀ Q : q_V → q_H → q_Gr → Prop, (∀ v G, Inv v G → csI v → q_lk G → G.2.1 0 = (20, L) → (∀ k, v 0 k = (xs k).toInt) → G.2.2.1 ≤ 142 → G.2.2.2 ≤ 100000 → q_wp 40 225 18 [.inr (.inr (.inl (some 0))), .inr (.inr (.inl (some 32))), .inr (.inr (.inl (some 137))), .inl 0] [] v G Q) → q_wp 40 225 0 [.inr (.inr (.inl (some 0))), .inr (.inr (.inr ())), .inr (.inr (.inr ())), .inr (.inr (.inr ()))] [] (q_v0 xs) (q_Gs L) Q) : q_Pure := by
  intro L xs hL
  have h := hN L xs hL (fun r _ _ => r = .inl 1) (fun v G hI hC hk h0 hx c1 c2 => s_law (xs := fun k => (xs k).toInt) (fun k => ⟨Int32.le_toInt _, by have := Int32.toInt_lt (xs k); omega⟩) hL 512 0 v G (by omega) (by omega) hI hC hk h0 hx (by omega) (by omega))
  have h' : q_call (40 + 1) 225 [.inr (.inr (.inl (some 0)))] (q_v0 xs) (q_Gs L) (fun r _ _ => r = .inl 1) := by
    rw [e_225]
    exact h
  obtain ⟨N, r, v', G', h1, h2⟩ := h'
  simp only [q_run] at h1
  rw [if_pos (by decide)] at h1
  have h1 := ite_none h1
  rw [h2] at h1
  exact ⟨N, v', G', h1⟩
