section
variable {d q : Nat} {v : q_H} {G : q_Gr} {Q : q_V → q_H → q_Gr → Prop}
theorem c_text {w : Nat} (hw : w < 7) : q_call (d + 1) 63 [.inl w] v G Q = Q (.inr (.inr (.inl (some (5 + w))))) v G := by
  refine q_call_eq ?_ Q
  match w, hw with
  | 0, _ => simp (disch := omega) only [E63, ↓if_pos, ↓if_neg]; repeat' first | (refine And.intro ?_ ?_) | exact True.intro | omega | assumption | rfl
  | 1, _ => simp (disch := omega) only [E63, ↓if_pos, ↓if_neg]; repeat' first | (refine And.intro ?_ ?_) | exact True.intro | omega | assumption | rfl
  | 2, _ => simp (disch := omega) only [E63, ↓if_pos, ↓if_neg]; repeat' first | (refine And.intro ?_ ?_) | exact True.intro | omega | assumption | rfl
  | 3, _ => simp (disch := omega) only [E63, ↓if_pos, ↓if_neg]; repeat' first | (refine And.intro ?_ ?_) | exact True.intro | omega | assumption | rfl
  | 4, _ => simp (disch := omega) only [E63, ↓if_pos, ↓if_neg]; repeat' first | (refine And.intro ?_ ?_) | exact True.intro | omega | assumption | rfl
  | 5, _ => simp (disch := omega) only [E63, ↓if_pos, ↓if_neg]; repeat' first | (refine And.intro ?_ ?_) | exact True.intro | omega | assumption | rfl
  | 6, _ => simp (disch := omega) only [E63, ↓if_pos, ↓if_neg]; repeat' first | (refine And.intro ?_ ?_) | exact True.intro | omega | assumption | rfl
  | w + 7, h => omega
theorem s_ttext {f : Nat → Int} {N s e a : Nat} {l : List Int} (hG : gok G) (ht : tpC' v f N) (h5 : v 36 5 = (s : Int)) (hse : s ≤ e) (heN : e ≤ N) (ha : G.2.1 a = (50, l.length)) (hl : l.length ≤ 10) (hv : ∀ k (hk : k < l.length), v a k = l[k] ∧ 0 ≤ l[k] ∧ l[k] ≤ 255) : ∀ (r k : Nat) (b : Bool), k + r = l.length → (b = true → e - s = l.length) → Q (.inl (if (b && eqT f (l.drop k) (s + k)) then 1 else 0)) v G → q_wp (d + 5) 64 24 [.inr (.inr (.inl (some 36))), .inr (.inr (.inl (some a))), .inl (if b then 1 else 0), .inl k] [] v G Q := by
  have ha1 : (G.2.1 a).1 = 50 := by rw [ha]
  have ha2 : (G.2.1 a).2 = l.length := by rw [ha]
  have h200 := ht.1
  have el : ∀ (d' : Nat) (Q' : q_V → q_H → q_Gr → Prop), q_call (d' + 5) 1002 [.inr (.inr (.inl (some a)))] v G Q' = Q' (.inl l.length) v G := fun d' Q' => by rw [c_len ha1, ha2]
  intro r
  induction r with
  | zero =>
    intro k b h hb hQ
    have ek : k = l.length := by omega
    subst ek
    rw [List.drop_length] at hQ
    have e1 : (b && eqT f [] (s + l.length)) = b := Bool.and_true b
    rw [e1] at hQ
    have br : (0 : Int) ≤ (if b = true then 1 else 0) ∧ (if b = true then (1 : Int) else 0) ≤ 1 := by split <;> decide
    rw [e_64_24]
    simp (disch := omega) only [e_64_25, e_64_26, e_64_29, e_64_66, e_64_67, el, ↓if_pos, q_push_I, q_push_L, q_push_P, q_push_U]
    repeat' first | (refine And.intro ?_ ?_) | exact True.intro | omega | assumption | rfl
  | succ r ih =>
    intro k b h hb hQ
    have hk : k < l.length := by omega
    rw [List.drop_eq_getElem_cons hk] at hQ
    rw [e_64_24]
    cases b with
    | false =>
      have hQ : Q (.inl 0) v G := hQ
      rw [if_neg (by decide)]
      simp (disch := omega) only [e_64_25, e_64_26, e_64_29, e_64_32, e_64_33, e_64_66, e_64_67, el, ↓if_neg, ↓if_pos, q_push_I, q_push_L, q_push_P, q_push_U]
      repeat' first | (refine And.intro ?_ ?_) | exact True.intro | omega | assumption | rfl
    | true =>
      have hb := hb rfl
      have e1 : (true && eqT f (l[k] :: l.drop (k + 1)) (s + k)) = (decide (l[k] = f (s + k)) && eqT f (l.drop (k + 1)) (s + (k + 1))) := by
        rw [Bool.true_and]
        rfl
      rw [e1] at hQ
      rw [if_pos rfl]
      obtain ⟨v1, v2, v3⟩ := hv k hk
      have hfs := ht.2.2 (s + k) (by omega)
      have ec : ∀ (d' : Nat) (Q' : q_V → q_H → q_Gr → Prop), q_call (d' + 5) 1003 [.inr (.inr (.inl (some a))), .inl k] v G Q' = Q' (.inl (l[k])) v G := fun d' Q' => by rw [c_chr ha1 (by omega), v1]
      have eb : ∀ (d' : Nat) (Q' : q_V → q_H → q_Gr → Prop), q_call (d' + 2) 59 [.inr (.inr (.inl (some 36))), .inl ((s : Int) + (k : Int))] v G Q' = Q' (.inl (f (s + k))) v G := fun d' Q' => by rw [show (s : Int) + (k : Int) = ((s + k : Nat) : Int) by omega, c_byte hG ht (by omega), if_pos (by omega)]
      by_cases c : l[k] = f (s + k)
      · rw [decide_eq_true c] at hQ
        have nx := ih (k + 1) true (by omega) (fun _ => hb) hQ
        rw [if_pos rfl] at nx
        simp (disch := omega) only [e_64_25, e_64_26, e_64_29, e_64_32, e_64_33, e_64_36, e_64_37, e_64_38, e_64_41, e_64_42, e_64_43, e_64_46, e_64_47, e_64_48, e_64_51, e_64_54, e_64_55, e_64_58, e_64_59, e_64_60, e_64_63, SHC hG, h5, el, ec, eb, ↓if_neg, ↓if_pos, q_push_I, q_push_L, q_push_P, q_push_U, show (k : Int) + 1 = ((k + 1 : Nat) : Int) by omega]
        repeat' first | (refine And.intro ?_ ?_) | exact True.intro | omega | assumption | rfl
      · rw [decide_eq_false c] at hQ
        have nx := ih (k + 1) false (by omega) (fun h => by cases h) hQ
        rw [if_neg (by decide)] at nx
        simp (disch := omega) only [e_64_25, e_64_26, e_64_29, e_64_32, e_64_33, e_64_36, e_64_37, e_64_38, e_64_41, e_64_42, e_64_43, e_64_46, e_64_47, e_64_48, e_64_51, e_64_54, e_64_55, e_64_58, e_64_59, e_64_60, e_64_63, SHC hG, h5, el, ec, eb, ↓if_neg, ↓if_pos, q_push_I, q_push_L, q_push_P, q_push_U, show (k : Int) + 1 = ((k + 1 : Nat) : Int) by omega]
        repeat' first | (refine And.intro ?_ ?_) | exact True.intro | omega | assumption | rfl
theorem txt_ok : ∀ w, w < 7 → (txt w).length ≤ 10 ∧ ∀ k, k < (txt w).length → 0 ≤ (txt w).getD k 0 ∧ (txt w).getD k 0 ≤ 255 := by decide +kernel
theorem c_ttext {f : Nat → Int} {N s e w : Nat} (hG : gok G) (hC : csI v) (ht : tpC' v f N) (h5 : v 36 5 = (s : Int)) (h6 : v 36 6 = (e : Int)) (hse : s ≤ e) (heN : e ≤ N) (hw : w < 7) : q_call (d + 6) 64 [.inr (.inr (.inl (some 36))), .inr (.inr (.inl (some (5 + w))))] v G Q = Q (.inl (if mtT f s e (txt w) then 1 else 0)) v G := by
  refine q_call_eq ?_ Q
  have h200 := ht.1
  have ha : G.2.1 (5 + w) = (50, (txt w).length) := hG.2.2.2.1 (5 + w) (by omega) (by omega)
  have ok := txt_ok w hw
  have ha1 : (G.2.1 (5 + w)).1 = 50 := by rw [ha]
  have ha2 : (G.2.1 (5 + w)).2 = (txt w).length := by rw [ha]
  have el : ∀ (d' : Nat) (Q' : q_V → q_H → q_Gr → Prop), q_call (d' + 5) 1002 [.inr (.inr (.inl (some (5 + w))))] v G Q' = Q' (.inl ((txt w).length)) v G := fun d' Q' => by rw [c_len ha1, ha2]
  have nx := s_ttext (d := d) (Q := fun r v' G' => r = .inl (if mtT f s e (txt w) then 1 else 0) ∧ v' = v ∧ G' = G) hG ht h5 hse heN ha ok.1 (fun k hk => by
    have := ok.2 k hk
    rw [hC (5 + w) k (by omega) (by omega)]
    have e1 : (q_cst.getD (5 + w) []).getD k 0 = (txt w)[k] := getD_lt hk
    rw [getD_lt hk] at this
    exact ⟨e1, this⟩) (txt w).length 0 (decide (e - s = (txt w).length)) (by omega) (fun h => by simpa using h) ⟨rfl, rfl, rfl⟩
  by_cases c : e - s = (txt w).length
  · rw [decide_eq_true c, if_pos rfl] at nx
    have nx : q_wp (d + 5) 64 24 [.inr (.inr (.inl (some 36))), .inr (.inr (.inl (some (5 + w)))), .inl 1, .inl 0] [] v G (fun r v' G' => r = .inl (if mtT f s e (txt w) then 1 else 0) ∧ v' = v ∧ G' = G) := nx
    simp (disch := omega) only [e_64, e_64_0, e_64_1, e_64_4, e_64_5, e_64_8, e_64_9, e_64_12, e_64_13, e_64_16, e_64_17, e_64_20, e_64_21, e_64_22, e_64_23, SHC hG, h5, h6, el, ↓if_neg, ↓if_pos, q_push_I, q_push_L, q_push_P, q_push_U]
    repeat' first | (refine And.intro ?_ ?_) | exact True.intro | omega | assumption | rfl
  · rw [decide_eq_false c, if_neg (by decide)] at nx
    have nx : q_wp (d + 5) 64 24 [.inr (.inr (.inl (some 36))), .inr (.inr (.inl (some (5 + w)))), .inl 0, .inl 0] [] v G (fun r v' G' => r = .inl (if mtT f s e (txt w) then 1 else 0) ∧ v' = v ∧ G' = G) := nx
    simp (disch := omega) only [e_64, e_64_0, e_64_1, e_64_4, e_64_5, e_64_8, e_64_9, e_64_12, e_64_13, e_64_16, e_64_17, e_64_20, e_64_21, e_64_22, e_64_23, SHC hG, h5, h6, el, ↓if_neg, ↓if_pos, q_push_I, q_push_L, q_push_P, q_push_U]
    repeat' first | (refine And.intro ?_ ?_) | exact True.intro | omega | assumption | rfl
theorem s_wtok {f : Nat → Int} {N s e : Nat} (hG : gok G) (hC : csI v) (ht : tpC' v f N) (h5 : v 36 5 = (s : Int)) (h6 : v 36 6 = (e : Int)) (hse : s ≤ e) (heN : e ≤ N) : ∀ (r w : Nat), w + r = 7 → Q (.inl (wrdF f s e r w)) v G → q_wp (d + 6) 62 2 [.inr (.inr (.inl (some 36))), .inl w] [] v G Q := by
  intro r
  induction r with
  | zero =>
    intro w h hQ
    unfold wrdF at hQ
    rw [e_62_2]
    simp (disch := omega) only [e_62_3, e_62_5, e_62_27, e_62_28, ↓if_neg, ↓if_pos]
    repeat' first | (refine And.intro ?_ ?_) | exact True.intro | omega | assumption | rfl
  | succ r ih =>
    intro w h hQ
    unfold wrdF at hQ
    have et : ∀ (d' : Nat) (Q' : q_V → q_H → q_Gr → Prop), q_call (d' + 1) 63 [.inl w] v G Q' = Q' (.inr (.inr (.inl (some (5 + w))))) v G := fun d' Q' => c_text (by omega)
    have em : ∀ (d' : Nat) (Q' : q_V → q_H → q_Gr → Prop), q_call (d' + 6) 64 [.inr (.inr (.inl (some 36))), .inr (.inr (.inl (some (5 + w))))] v G Q' = Q' (.inl (if mtT f s e (txt w) then 1 else 0)) v G := fun d' Q' => c_ttext hG hC ht h5 h6 hse heN (by omega)
    rw [e_62_2]
    by_cases c : mtT f s e (txt w) = true
    · rw [if_pos c] at hQ em
      simp (disch := omega) only [e_62_3, e_62_5, e_62_8, e_62_9, e_62_10, e_62_13, e_62_16, e_62_19, e_62_20, e_62_21, e_62_24, et, em, ↓if_neg, ↓if_pos, q_push_I, q_push_L, q_push_P, q_push_U]
      repeat' first | (refine And.intro ?_ ?_) | exact True.intro | omega | assumption | rfl
    · rw [if_neg c] at hQ em
      have nx := ih (w + 1) (by omega) hQ
      simp (disch := omega) only [e_62_3, e_62_5, e_62_8, e_62_9, e_62_10, e_62_13, e_62_16, e_62_19, e_62_20, e_62_21, e_62_24, et, em, ↓if_neg, ↓if_pos, q_push_I, q_push_L, q_push_P, q_push_U, show (w : Int) + 1 = ((w + 1 : Nat) : Int) by omega]
      repeat' first | (refine And.intro ?_ ?_) | exact True.intro | omega | assumption | rfl
theorem c_wtok {f : Nat → Int} {N s e : Nat} (hG : gok G) (hC : csI v) (ht : tpC' v f N) (h5 : v 36 5 = (s : Int)) (h6 : v 36 6 = (e : Int)) (hse : s ≤ e) (heN : e ≤ N) : q_call (d + 7) 62 [.inr (.inr (.inl (some 36)))] v G Q = Q (.inl (wrd f s e)) v G := by
  refine q_call_eq ?_ Q
  have nx := s_wtok (d := d) (Q := fun r v' G' => r = .inl (wrd f s e) ∧ v' = v ∧ G' = G) hG hC ht h5 h6 hse heN 7 0 rfl ⟨rfl, rfl, rfl⟩
  have nx : q_wp (d + 6) 62 2 [.inr (.inr (.inl (some 36))), .inl 0] [] v G (fun r v' G' => r = .inl (wrd f s e) ∧ v' = v ∧ G' = G) := nx
  simp (disch := omega) only [e_62, e_62_0, e_62_1, SHC hG]
  repeat' first | (refine And.intro ?_ ?_) | exact True.intro | omega | assumption | rfl
/-! ===== the reference's word ===== -/
theorem fW_le (f : Nat → Int) (hf : ∀ k, 0 ≤ f k ∧ f k ≤ 255) : ∀ r i acc, 0 ≤ acc → 0 ≤ fW f r i acc
  | 0, i, acc, h => h
  | r + 1, i, acc, h => by
    unfold fW
    have := hf i
    exact fW_le f hf r (i + 1) _ (by omega)
def p256 : Nat → Int
  | 0 => 1
  | n + 1 => 256 * p256 n
theorem p256_pos : ∀ r, 0 ≤ p256 r
  | 0 => by decide
  | r + 1 => by
    have := p256_pos r
    show 0 ≤ 256 * p256 r
    omega
theorem lc_ne {a b : Int} {X Y : Prop} (h : a ≠ b) : (if ¬ (if b < a then (1 : Int) else if a = b then 0 else -1) = 0 then X else Y) = X := by
  rw [if_pos]
  split
  · decide
  · first | decide | (rw [if_neg h]; decide)
theorem lc_R {a b : Int} : q_inR (if b < a then (1 : Int) else if a = b then 0 else -1) = True := by
  apply propext
  refine ⟨fun _ => True.intro, fun _ => ?_⟩
  split
  · decide
  · split <;> decide
theorem s_mword {f : Nat → Int} {N s e : Nat} {z2 : q_V} (hG : gok G) (ht : tpM v f N) (h27 : v 137 27 = 2) (h28 : v 137 28 = (s : Int)) (h29 : v 137 29 = (e : Int)) (heN : e ≤ N) (h8 : e - s < 8) (hse : s ≤ e) : ∀ (r i : Nat) (acc : Int), i + r = e → s ≤ i → 0 ≤ acc → acc < p256 (i - s) → Q (.inr (.inl (fW f r i acc))) v G → q_wp d 179 7 [.inr (.inr (.inl (some 137))), .inr (.inl acc), z2, .inl i] [] v G Q := by
  have h200 := ht.1
  intro r
  induction r generalizing z2 with
  | zero =>
    intro i acc h hi h0 hp hQ
    unfold fW at hQ
    rw [e_179_7]
    simp (disch := omega) only [e_179_8, e_179_9, e_179_12, e_179_56, e_179_57, SHM hG, h29, ↓if_pos]
    repeat' first | (refine And.intro ?_ ?_) | exact True.intro | omega | assumption | rfl
  | succ r ih =>
    intro i acc h hi h0 hp hQ
    unfold fW at hQ
    have hfs := ht.2.2 i (by omega)
    have p6 : p256 (i - s) ≤ 281474976710656 := by
      rcases (show i - s = 0 ∨ i - s = 1 ∨ i - s = 2 ∨ i - s = 3 ∨ i - s = 4 ∨ i - s = 5 ∨ i - s = 6 by omega) with c | c | c | c | c | c | c <;> rw [c] <;> decide
    have pe : p256 (i + 1 - s) = 256 * p256 (i - s) := by rw [show i + 1 - s = (i - s) + 1 by omega]; rfl
    have nx := ih (z2 := .inr (.inr (.inr ()))) (i + 1) (256 * acc + f i) (by omega) (by omega) (by omega) (by rw [pe]; omega) hQ
    have es := shl8 (x := acc) (b := f i) h0 (by omega) hfs.2.1 (by omega)
    rw [e_179_7]
    simp (disch := omega) only [e_179_8, e_179_9, e_179_12, e_179_15, e_179_16, e_179_19, e_179_20, e_179_23, e_179_24, e_179_27, e_179_28, e_179_31, e_179_32, e_179_34, e_179_37, e_179_38, e_179_40, e_179_41, e_179_42, e_179_45, e_179_46, e_179_47, e_179_48, e_179_49, e_179_50, e_179_53, SHM hG, h27, h28, h29, hfs.1, es, Int.toNat_natCast, ↓if_neg, ↓if_pos, show (i : Int) + 1 = ((i + 1 : Nat) : Int) by omega]
    repeat' first | (refine And.intro ?_ ?_) | exact True.intro | omega | assumption | rfl
theorem m_word {f : Nat → Int} {N c : Nat} (hG : gok G) (ht : tpM v f N) (hc : c ≤ N) (hk : tokM v f N c) : q_call (d + 2) 181 [.inr (.inr (.inl (some 137)))] v G Q = Q (.inl (if tkK f N c = 1 then (if wrd f (tkS f N c) (tkE f N c) < 0 then -1000000 else wrd f (tkS f N c) (tkE f N c)) else -1000000)) v G := by
  refine q_call_eq ?_ Q
  obtain ⟨k1, k2, k3, k4⟩ := hk
  have te := tkE_ok (f := f) hc
  have h200 := ht.1
  -- the number that word() makes
  have key : ∀ W : Int, aW W = (if tkK f N c = 1 then (if wrd f (tkS f N c) (tkE f N c) < 0 then -1000000 else wrd f (tkS f N c) (tkE f N c)) else -1000000) → (0 ≤ W ∧ W < 9000000000000000000) → (∀ (d' : Nat) (Q' : q_V → q_H → q_Gr → Prop), q_call (d' + 1) 179 [.inr (.inr (.inl (some 137)))] v G Q' = Q' (.inr (.inl W)) v G) → q_call (d + 2) 181 [.inr (.inr (.inl (some 137)))] v G (fun r v' G' => r = .inl (if tkK f N c = 1 then (if wrd f (tkS f N c) (tkE f N c) < 0 then -1000000 else wrd f (tkS f N c) (tkE f N c)) else -1000000) ∧ v' = v ∧ G' = G) := fun W hW hr hcall => by
    rw [← hW]
    unfold aW
    clear hW te k1 k2 k3 k4
    by_cases q0 : W = 491260897125
    · subst q0
      simp (disch := omega) only [E181, SHM hG, hcall, ↓lc_ne, lc_R, ↓if_pos, ↓if_neg, q_push_I, q_push_L, q_push_P, q_push_U]
      repeat' first | (refine And.intro ?_ ?_) | exact True.intro | omega | assumption | rfl
    · skip
      by_cases q1 : W = 7566701
      · subst q1
        simp (disch := omega) only [E181, SHM hG, hcall, ↓lc_ne, lc_R, ↓if_pos, ↓if_neg, q_push_I, q_push_L, q_push_P, q_push_U]
        repeat' first | (refine And.intro ?_ ?_) | exact True.intro | omega | assumption | rfl
      · skip
        by_cases q2 : W = 439855772532
        · subst q2
          simp (disch := omega) only [E181, SHM hG, hcall, ↓lc_ne, lc_R, ↓if_pos, ↓if_neg, q_push_I, q_push_L, q_push_P, q_push_U]
          repeat' first | (refine And.intro ?_ ?_) | exact True.intro | omega | assumption | rfl
        · skip
          by_cases q3 : W = 482956239461
          · subst q3
            simp (disch := omega) only [E181, SHM hG, hcall, ↓lc_ne, lc_R, ↓if_pos, ↓if_neg, q_push_I, q_push_L, q_push_P, q_push_U]
            repeat' first | (refine And.intro ?_ ?_) | exact True.intro | omega | assumption | rfl
          · skip
            by_cases q4 : W = 1785686382
            · subst q4
              simp (disch := omega) only [E181, SHM hG, hcall, ↓lc_ne, lc_R, ↓if_pos, ↓if_neg, q_push_I, q_push_L, q_push_P, q_push_U]
              repeat' first | (refine And.intro ?_ ?_) | exact True.intro | omega | assumption | rfl
            · skip
              by_cases q5 : W = 469853431653
              · subst q5
                simp (disch := omega) only [E181, SHM hG, hcall, ↓lc_ne, lc_R, ↓if_pos, ↓if_neg, q_push_I, q_push_L, q_push_P, q_push_U]
                repeat' first | (refine And.intro ?_ ?_) | exact True.intro | omega | assumption | rfl
              · skip
                by_cases q6 : W = 7237492
                · subst q6
                  simp (disch := omega) only [E181, SHM hG, hcall, ↓lc_ne, lc_R, ↓if_pos, ↓if_neg, q_push_I, q_push_L, q_push_P, q_push_U]
                  repeat' first | (refine And.intro ?_ ?_) | exact True.intro | omega | assumption | rfl
                · simp (disch := omega) only [E181, SHM hG, hcall, ↓lc_ne, lc_R, ↓if_pos, ↓if_neg, q_push_I, q_push_L, q_push_P, q_push_U]
                  repeat' first | (refine And.intro ?_ ?_) | exact True.intro | omega | assumption | rfl
  by_cases ck : tkK f N c = 1
  · have e2 : v 137 27 = 2 := by rw [k1, ck]; decide
    obtain ⟨t1, t2, t3⟩ := te.2.2.1 (by omega)
    have fl : ∀ k, tkS f N c ≤ k → k < tkE f N c → 97 ≤ f k ∧ f k ≤ 122 := by
      have tks : tkK f N c = if N ≤ tkS f N c then 0 else if lIs (f (tkS f N c)) then 1 else if fIs (f (tkS f N c)) then (if tkE f N c - tkS f N c ≤ 3 then 2 else 4) else if f (tkS f N c) = 59 then 3 else 4 := rfl
      have tes : tkE f N c = if N ≤ tkS f N c then N else if lIs (f (tkS f N c)) then srch (fun k => !lIs (f k)) (N - tkS f N c) (tkS f N c) else if fIs (f (tkS f N c)) then srch (fun k => !fIs (f k)) (N - tkS f N c) (tkS f N c) else tkS f N c + 1 := rfl
      rw [if_neg (by omega)] at tks tes
      by_cases cl : lIs (f (tkS f N c)) = true
      · rw [if_pos cl] at tes
        have gs := srch_sp (fun k => !lIs (f k)) (N - tkS f N c) (tkS f N c)
        rw [← tes] at gs
        intro k k1' k2'
        have := gs.2.2.1 k k1' k2'
        have : (!lIs (f k)) = false := this
        simpa using this
      · rw [if_neg cl] at tks
        exfalso
        rw [ck] at tks
        repeat' split at tks
        all_goals omega
    have hse : tkS f N c ≤ tkE f N c := te.1
    by_cases c8 : tkE f N c - tkS f N c < 8
    · have w0 : 0 ≤ fW f (tkE f N c - tkS f N c) (tkS f N c) 0 ∧ fW f (tkE f N c - tkS f N c) (tkS f N c) 0 < 9000000000000000000 := by
        have hb : ∀ r i acc, (∀ k, i ≤ k → k < i + r → 0 ≤ f k ∧ f k ≤ 255) → 0 ≤ acc → 0 ≤ fW f r i acc ∧ fW f r i acc < (acc + 1) * p256 r := by
          intro r
          induction r with
          | zero => intro i acc _ h0; unfold fW p256; omega
          | succ r ih =>
            intro i acc hh h0
            have hi := hh i (Nat.le_refl _) (by omega)
            have := ih (i + 1) (256 * acc + f i) (fun k k1 k2 => hh k (by omega) (by omega)) (by omega)
            unfold fW
            refine ⟨this.1, Int.lt_of_lt_of_le this.2 ?_⟩
            have e1 : (acc + 1) * p256 (r + 1) = (256 * acc + 256) * p256 r := by
              show (acc + 1) * (256 * p256 r) = _
              rw [← Int.mul_assoc]
              congr 1
              omega
            rw [e1]
            have hp := p256_pos r
            exact Int.mul_le_mul_of_nonneg_right (by omega) hp
        have := hb (tkE f N c - tkS f N c) (tkS f N c) 0 (fun k k1 k2 => by have := fl k k1 (by omega); omega) (by decide)
        refine ⟨this.1, Int.lt_of_lt_of_le this.2 ?_⟩
        rcases (show tkE f N c - tkS f N c = 0 ∨ tkE f N c - tkS f N c = 1 ∨ tkE f N c - tkS f N c = 2 ∨ tkE f N c - tkS f N c = 3 ∨ tkE f N c - tkS f N c = 4 ∨ tkE f N c - tkS f N c = 5 ∨ tkE f N c - tkS f N c = 6 ∨ tkE f N c - tkS f N c = 7 by omega) with q | q | q | q | q | q | q | q <;> rw [q] <;> decide
      refine key (fW f (tkE f N c - tkS f N c) (tkS f N c) 0) ?_ w0 (fun d' Q' => ?_)
      · rw [if_pos ck]
        exact aW_wrd t3 c8 fl
      · refine q_call_eq ?_ Q'
        have nx := s_mword (d := d') (Q := fun r v' G' => r = .inr (.inl (fW f (tkE f N c - tkS f N c) (tkS f N c) 0)) ∧ v' = v ∧ G' = G) (z2 := .inr (.inr (.inr ()))) hG ht e2 k2 k3 te.2.1 c8 hse (tkE f N c - tkS f N c) (tkS f N c) 0 (by omega) (Nat.le_refl _) (by decide) (by rw [Nat.sub_self]; decide) ⟨rfl, rfl, rfl⟩
        simp (disch := omega) only [e_179, e_179_0, e_179_1, e_179_2, e_179_3, e_179_6, SHM hG, k2]
        repeat' first | (refine And.intro ?_ ?_) | exact True.intro | omega | assumption | rfl
    · refine key 0 ?_ (by decide) (fun d' Q' => ?_)
      · have hw := (wrd_e f (tkS f N c) (tkE f N c)).2.2.2.2.2.2.2 (fun q => by have := q.1; omega) (fun q => by have := q.1; omega) (fun q => by have := q.1; omega) (fun q => by have := q.1; omega) (fun q => by have := q.1; omega) (fun q => by have := q.1; omega) (fun q => by have := q.1; omega)
        rw [if_pos ck, hw]
        rfl
      · refine q_call_eq ?_ Q'
        simp (disch := omega) only [e_179, e_179_0, e_179_1, e_179_2, e_179_3, e_179_6, SHM hG, k2]
        rw [e_179_7]
        simp (disch := omega) only [e_179_8, e_179_9, e_179_12, e_179_15, e_179_16, e_179_19, e_179_20, e_179_23, e_179_24, e_179_27, e_179_28, e_179_31, e_179_32, e_179_34, e_179_56, e_179_57, SHM hG, e2, k2, k3, ↓if_neg, ↓if_pos]
        repeat' first | (refine And.intro ?_ ?_) | exact True.intro | omega | assumption | rfl
  · refine key 0 (by rw [if_neg ck]; rfl) (by decide) (fun d' Q' => ?_)
    refine q_call_eq ?_ Q'
    have kr : 0 ≤ tkK f N c ∧ tkK f N c ≤ 4 := by
      unfold tkK
      repeat' split
      all_goals omega
    have e2 : v 137 27 ≠ 2 ∧ 0 ≤ v 137 27 ∧ v 137 27 ≤ 4 := by
      rw [k1]
      unfold mkK
      split <;> omega
    have ts := tkS_ok (f := f) hc
    simp (disch := omega) only [e_179, e_179_0, e_179_1, e_179_2, e_179_3, e_179_6, SHM hG, k2]
    rw [e_179_7]
    by_cases cl : tkS f N c < tkE f N c
    · simp (disch := omega) only [e_179_8, e_179_9, e_179_12, e_179_15, e_179_16, e_179_19, e_179_20, e_179_56, e_179_57, SHM hG, k3, ↓if_neg, ↓if_pos]
      repeat' first | (refine And.intro ?_ ?_) | exact True.intro | omega | assumption | rfl
    · simp (disch := omega) only [e_179_8, e_179_9, e_179_12, e_179_15, e_179_16, e_179_19, e_179_20, e_179_56, e_179_57, SHM hG, k3, ↓if_neg, ↓if_pos]
      repeat' first | (refine And.intro ?_ ?_) | exact True.intro | omega | assumption | rfl
end
