/-! ===== words ===== -/
def eqT (f : Nat → Int) : List Int → Nat → Bool
  | [], _ => true
  | x :: xs, s => decide (x = f s) && eqT f xs (s + 1)
def txt (w : Nat) : List Int := q_cst.getD (5 + w) []
def mtT (f : Nat → Int) (s e : Nat) (l : List Int) : Bool := decide (e - s = l.length) && eqT f l s
def wP0 (f : Nat → Int) (s e : Nat) : Prop := e - s = 5 ∧ f s = 114 ∧ f (s + 1) = 97 ∧ f (s + 2) = 110 ∧ f (s + 3) = 103 ∧ f (s + 4) = 101
def wP1 (f : Nat → Int) (s e : Nat) : Prop := e - s = 3 ∧ f s = 115 ∧ f (s + 1) = 117 ∧ f (s + 2) = 109
def wP2 (f : Nat → Int) (s e : Nat) : Prop := e - s = 5 ∧ f s = 102 ∧ f (s + 1) = 105 ∧ f (s + 2) = 114 ∧ f (s + 3) = 115 ∧ f (s + 4) = 116
def wP3 (f : Nat → Int) (s e : Nat) : Prop := e - s = 5 ∧ f s = 112 ∧ f (s + 1) = 114 ∧ f (s + 2) = 111 ∧ f (s + 3) = 98 ∧ f (s + 4) = 101
def wP4 (f : Nat → Int) (s e : Nat) : Prop := e - s = 4 ∧ f s = 106 ∧ f (s + 1) = 111 ∧ f (s + 2) = 105 ∧ f (s + 3) = 110
def wP5 (f : Nat → Int) (s e : Nat) : Prop := e - s = 5 ∧ f s = 109 ∧ f (s + 1) = 101 ∧ f (s + 2) = 114 ∧ f (s + 3) = 103 ∧ f (s + 4) = 101
def wP6 (f : Nat → Int) (s e : Nat) : Prop := e - s = 3 ∧ f s = 110 ∧ f (s + 1) = 111 ∧ f (s + 2) = 116
section
variable {f : Nat → Int} {s e : Nat}
theorem mt_0 : mtT f s e (txt 0) = true ↔ wP0 f s e := by
  simp only [mtT, txt, q_cst, eqT, wP0, List.getD_cons_succ, List.getD_cons_zero, Bool.and_eq_true, decide_eq_true_eq, List.length_cons, List.length_nil, and_true, Nat.add_assoc, Nat.reduceAdd]
  constructor
  · rintro ⟨h0, h1, h2, h3, h4, h5⟩
    exact ⟨h0, h1.symm, h2.symm, h3.symm, h4.symm, h5.symm⟩
  · rintro ⟨h0, h1, h2, h3, h4, h5⟩
    exact ⟨h0, h1.symm, h2.symm, h3.symm, h4.symm, h5.symm⟩
theorem mt_1 : mtT f s e (txt 1) = true ↔ wP1 f s e := by
  simp only [mtT, txt, q_cst, eqT, wP1, List.getD_cons_succ, List.getD_cons_zero, Bool.and_eq_true, decide_eq_true_eq, List.length_cons, List.length_nil, and_true, Nat.add_assoc, Nat.reduceAdd]
  constructor
  · rintro ⟨h0, h1, h2, h3⟩
    exact ⟨h0, h1.symm, h2.symm, h3.symm⟩
  · rintro ⟨h0, h1, h2, h3⟩
    exact ⟨h0, h1.symm, h2.symm, h3.symm⟩
theorem mt_2 : mtT f s e (txt 2) = true ↔ wP2 f s e := by
  simp only [mtT, txt, q_cst, eqT, wP2, List.getD_cons_succ, List.getD_cons_zero, Bool.and_eq_true, decide_eq_true_eq, List.length_cons, List.length_nil, and_true, Nat.add_assoc, Nat.reduceAdd]
  constructor
  · rintro ⟨h0, h1, h2, h3, h4, h5⟩
    exact ⟨h0, h1.symm, h2.symm, h3.symm, h4.symm, h5.symm⟩
  · rintro ⟨h0, h1, h2, h3, h4, h5⟩
    exact ⟨h0, h1.symm, h2.symm, h3.symm, h4.symm, h5.symm⟩
theorem mt_3 : mtT f s e (txt 3) = true ↔ wP3 f s e := by
  simp only [mtT, txt, q_cst, eqT, wP3, List.getD_cons_succ, List.getD_cons_zero, Bool.and_eq_true, decide_eq_true_eq, List.length_cons, List.length_nil, and_true, Nat.add_assoc, Nat.reduceAdd]
  constructor
  · rintro ⟨h0, h1, h2, h3, h4, h5⟩
    exact ⟨h0, h1.symm, h2.symm, h3.symm, h4.symm, h5.symm⟩
  · rintro ⟨h0, h1, h2, h3, h4, h5⟩
    exact ⟨h0, h1.symm, h2.symm, h3.symm, h4.symm, h5.symm⟩
theorem mt_4 : mtT f s e (txt 4) = true ↔ wP4 f s e := by
  simp only [mtT, txt, q_cst, eqT, wP4, List.getD_cons_succ, List.getD_cons_zero, Bool.and_eq_true, decide_eq_true_eq, List.length_cons, List.length_nil, and_true, Nat.add_assoc, Nat.reduceAdd]
  constructor
  · rintro ⟨h0, h1, h2, h3, h4⟩
    exact ⟨h0, h1.symm, h2.symm, h3.symm, h4.symm⟩
  · rintro ⟨h0, h1, h2, h3, h4⟩
    exact ⟨h0, h1.symm, h2.symm, h3.symm, h4.symm⟩
theorem mt_5 : mtT f s e (txt 5) = true ↔ wP5 f s e := by
  simp only [mtT, txt, q_cst, eqT, wP5, List.getD_cons_succ, List.getD_cons_zero, Bool.and_eq_true, decide_eq_true_eq, List.length_cons, List.length_nil, and_true, Nat.add_assoc, Nat.reduceAdd]
  constructor
  · rintro ⟨h0, h1, h2, h3, h4, h5⟩
    exact ⟨h0, h1.symm, h2.symm, h3.symm, h4.symm, h5.symm⟩
  · rintro ⟨h0, h1, h2, h3, h4, h5⟩
    exact ⟨h0, h1.symm, h2.symm, h3.symm, h4.symm, h5.symm⟩
theorem mt_6 : mtT f s e (txt 6) = true ↔ wP6 f s e := by
  simp only [mtT, txt, q_cst, eqT, wP6, List.getD_cons_succ, List.getD_cons_zero, Bool.and_eq_true, decide_eq_true_eq, List.length_cons, List.length_nil, and_true, Nat.add_assoc, Nat.reduceAdd]
  constructor
  · rintro ⟨h0, h1, h2, h3⟩
    exact ⟨h0, h1.symm, h2.symm, h3.symm⟩
  · rintro ⟨h0, h1, h2, h3⟩
    exact ⟨h0, h1.symm, h2.symm, h3.symm⟩
end
def wrdF (f : Nat → Int) (s e : Nat) : Nat → Nat → Int
  | 0, _ => -1
  | r + 1, w => if mtT f s e (txt w) then (w : Int) else wrdF f s e r (w + 1)
def wrd (f : Nat → Int) (s e : Nat) : Int := wrdF f s e 7 0
theorem wrdF_rng (f : Nat → Int) (s e : Nat) : ∀ r w, -1 ≤ wrdF f s e r w ∧ wrdF f s e r w < (w + r : Nat)
  | 0, w => by unfold wrdF; omega
  | r + 1, w => by
    have h := wrdF_rng f s e r (w + 1)
    unfold wrdF
    split <;> omega
theorem wrd_rng (f : Nat → Int) (s e : Nat) : -1 ≤ wrd f s e ∧ wrd f s e ≤ 6 := by
  have := wrdF_rng f s e 7 0
  unfold wrd
  omega
/-- the reference's word, as one number -/
def fW (f : Nat → Int) : Nat → Nat → Int → Int
  | 0, _, acc => acc
  | r + 1, i, acc => fW f r (i + 1) (256 * acc + f i)
def aW (W : Int) : Int := if W = 491260897125 then 0 else if W = 7566701 then 1 else if W = 439855772532 then 2 else if W = 482956239461 then 3 else if W = 1785686382 then 4 else if W = 469853431653 then 5 else if W = 7237492 then 6 else -1000000
theorem wrd_e (f : Nat → Int) (s e : Nat) : (wP0 f s e → wrd f s e = 0) ∧ (wP1 f s e → wrd f s e = 1) ∧ (wP2 f s e → wrd f s e = 2) ∧ (wP3 f s e → wrd f s e = 3) ∧ (wP4 f s e → wrd f s e = 4) ∧ (wP5 f s e → wrd f s e = 5) ∧ (wP6 f s e → wrd f s e = 6) ∧ (¬ wP0 f s e → ¬ wP1 f s e → ¬ wP2 f s e → ¬ wP3 f s e → ¬ wP4 f s e → ¬ wP5 f s e → ¬ wP6 f s e → wrd f s e = -1) := by
  have ev : wrd f s e = if mtT f s e (txt 0) = true then 0 else if mtT f s e (txt 1) = true then 1 else if mtT f s e (txt 2) = true then 2 else if mtT f s e (txt 3) = true then 3 else if mtT f s e (txt 4) = true then 4 else if mtT f s e (txt 5) = true then 5 else if mtT f s e (txt 6) = true then 6 else -1 := rfl
  rw [ev]
  have d01 : wP0 f s e → ¬ wP1 f s e := fun a b => by unfold wP0 at a; unfold wP1 at b; omega
  refine ⟨fun h => ?_, fun h => ?_, fun h => ?_, fun h => ?_, fun h => ?_, fun h => ?_, fun h => ?_, fun h0 h1 h2 h3 h4 h5 h6 => ?_⟩
  · rw [if_pos (mt_0.mpr h)]
  · rw [if_neg (fun q => by have := mt_0.mp q; unfold wP0 at this; unfold wP1 at h; omega), if_pos (mt_1.mpr h)]
  · rw [if_neg (fun q => by have := mt_0.mp q; unfold wP0 at this; unfold wP2 at h; omega), if_neg (fun q => by have := mt_1.mp q; unfold wP1 at this; unfold wP2 at h; omega), if_pos (mt_2.mpr h)]
  · rw [if_neg (fun q => by have := mt_0.mp q; unfold wP0 at this; unfold wP3 at h; omega), if_neg (fun q => by have := mt_1.mp q; unfold wP1 at this; unfold wP3 at h; omega), if_neg (fun q => by have := mt_2.mp q; unfold wP2 at this; unfold wP3 at h; omega), if_pos (mt_3.mpr h)]
  · rw [if_neg (fun q => by have := mt_0.mp q; unfold wP0 at this; unfold wP4 at h; omega), if_neg (fun q => by have := mt_1.mp q; unfold wP1 at this; unfold wP4 at h; omega), if_neg (fun q => by have := mt_2.mp q; unfold wP2 at this; unfold wP4 at h; omega), if_neg (fun q => by have := mt_3.mp q; unfold wP3 at this; unfold wP4 at h; omega), if_pos (mt_4.mpr h)]
  · rw [if_neg (fun q => by have := mt_0.mp q; unfold wP0 at this; unfold wP5 at h; omega), if_neg (fun q => by have := mt_1.mp q; unfold wP1 at this; unfold wP5 at h; omega), if_neg (fun q => by have := mt_2.mp q; unfold wP2 at this; unfold wP5 at h; omega), if_neg (fun q => by have := mt_3.mp q; unfold wP3 at this; unfold wP5 at h; omega), if_neg (fun q => by have := mt_4.mp q; unfold wP4 at this; unfold wP5 at h; omega), if_pos (mt_5.mpr h)]
  · rw [if_neg (fun q => by have := mt_0.mp q; unfold wP0 at this; unfold wP6 at h; omega), if_neg (fun q => by have := mt_1.mp q; unfold wP1 at this; unfold wP6 at h; omega), if_neg (fun q => by have := mt_2.mp q; unfold wP2 at this; unfold wP6 at h; omega), if_neg (fun q => by have := mt_3.mp q; unfold wP3 at this; unfold wP6 at h; omega), if_neg (fun q => by have := mt_4.mp q; unfold wP4 at this; unfold wP6 at h; omega), if_neg (fun q => by have := mt_5.mp q; unfold wP5 at this; unfold wP6 at h; omega), if_pos (mt_6.mpr h)]
  · rw [if_neg (fun q => h0 (mt_0.mp q)), if_neg (fun q => h1 (mt_1.mp q)), if_neg (fun q => h2 (mt_2.mp q)), if_neg (fun q => h3 (mt_3.mp q)), if_neg (fun q => h4 (mt_4.mp q)), if_neg (fun q => h5 (mt_5.mp q)), if_neg (fun q => h6 (mt_6.mp q))]
theorem aW_wrd {f : Nat → Int} {s e : Nat} (hse : s < e) (h8 : e - s < 8) (hf : ∀ k, s ≤ k → k < e → 97 ≤ f k ∧ f k ≤ 122) : aW (fW f (e - s) s 0) = if wrd f s e < 0 then -1000000 else wrd f s e := by
  obtain ⟨w0, w1, w2, w3, w4, w5, w6, w7⟩ := wrd_e f s e
  have b0 := hf s (Nat.le_refl _) hse
  generalize wrd f s e = R at *
  rcases (show e - s = 1 ∨ e - s = 2 ∨ e - s = 3 ∨ e - s = 4 ∨ e - s = 5 ∨ e - s = 6 ∨ e - s = 7 by clear w0 w1 w2 w3 w4 w5 w6 w7; omega) with c | c | c | c | c | c | c
  · have cl : ∀ {m : Nat}, m ≠ 1 → e - s = m → False := fun h q => h (by rw [← q, c])
    have hW : fW f (e - s) s 0 = (256 * 0 + f s) := by
      rw [c]
      rfl
    generalize fW f (e - s) s 0 = W at *
    have hR := w7 (fun q => cl (by decide) q.1) (fun q => cl (by decide) q.1) (fun q => cl (by decide) q.1) (fun q => cl (by decide) q.1) (fun q => cl (by decide) q.1) (fun q => cl (by decide) q.1) (fun q => cl (by decide) q.1)
    clear w0 w1 w2 w3 w4 w5 w6 w7 cl
    have k0 : W ≠ 491260897125 := by omega
    have k1 : W ≠ 7566701 := by omega
    have k2 : W ≠ 439855772532 := by omega
    have k3 : W ≠ 482956239461 := by omega
    have k4 : W ≠ 1785686382 := by omega
    have k5 : W ≠ 469853431653 := by omega
    have k6 : W ≠ 7237492 := by omega
    have hR2 : (if R < 0 then (-1000000 : Int) else R) = -1000000 := by
      rw [hR]
      rfl
    unfold aW
    rw [hR2, if_neg k0, if_neg k1, if_neg k2, if_neg k3, if_neg k4, if_neg k5, if_neg k6]
  · have cl : ∀ {m : Nat}, m ≠ 2 → e - s = m → False := fun h q => h (by rw [← q, c])
    have b1 := hf (s + 1) (by clear w0 w1 w2 w3 w4 w5 w6 w7; omega) (by clear w0 w1 w2 w3 w4 w5 w6 w7; omega)
    have hW : fW f (e - s) s 0 = (256 * (256 * 0 + f s) + f (s + 1)) := by
      rw [c]
      rfl
    generalize fW f (e - s) s 0 = W at *
    have hR := w7 (fun q => cl (by decide) q.1) (fun q => cl (by decide) q.1) (fun q => cl (by decide) q.1) (fun q => cl (by decide) q.1) (fun q => cl (by decide) q.1) (fun q => cl (by decide) q.1) (fun q => cl (by decide) q.1)
    clear w0 w1 w2 w3 w4 w5 w6 w7 cl
    have k0 : W ≠ 491260897125 := by omega
    have k1 : W ≠ 7566701 := by omega
    have k2 : W ≠ 439855772532 := by omega
    have k3 : W ≠ 482956239461 := by omega
    have k4 : W ≠ 1785686382 := by omega
    have k5 : W ≠ 469853431653 := by omega
    have k6 : W ≠ 7237492 := by omega
    have hR2 : (if R < 0 then (-1000000 : Int) else R) = -1000000 := by
      rw [hR]
      rfl
    unfold aW
    rw [hR2, if_neg k0, if_neg k1, if_neg k2, if_neg k3, if_neg k4, if_neg k5, if_neg k6]
  · have cl : ∀ {m : Nat}, m ≠ 3 → e - s = m → False := fun h q => h (by rw [← q, c])
    have b1 := hf (s + 1) (by clear w0 w1 w2 w3 w4 w5 w6 w7; omega) (by clear w0 w1 w2 w3 w4 w5 w6 w7; omega)
    have b2 := hf (s + 2) (by clear w0 w1 w2 w3 w4 w5 w6 w7; omega) (by clear w0 w1 w2 w3 w4 w5 w6 w7; omega)
    have hW : fW f (e - s) s 0 = (256 * (256 * (256 * 0 + f s) + f (s + 1)) + f (s + 2)) := by
      rw [c]
      rfl
    generalize fW f (e - s) s 0 = W at *
    by_cases n1 : f s = 115 ∧ f (s + 1) = 117 ∧ f (s + 2) = 109
    · have hR := w1 ⟨c, n1⟩
      clear w0 w1 w2 w3 w4 w5 w6 w7 cl
      have hR2 : (if R < 0 then (-1000000 : Int) else R) = 1 := by
        rw [hR]
        rfl
      unfold aW
      rw [hR2, if_neg (by omega), if_pos (by omega)]
    · by_cases n6 : f s = 110 ∧ f (s + 1) = 111 ∧ f (s + 2) = 116
      · have hR := w6 ⟨c, n6⟩
        clear w0 w1 w2 w3 w4 w5 w6 w7 cl n1
        have hR2 : (if R < 0 then (-1000000 : Int) else R) = 6 := by
          rw [hR]
          rfl
        unfold aW
        rw [hR2, if_neg (by omega), if_neg (by omega), if_neg (by omega), if_neg (by omega), if_neg (by omega), if_neg (by omega), if_pos (by omega)]
      · have hR := w7 (fun q => cl (by decide) q.1) (fun q => n1 q.2) (fun q => cl (by decide) q.1) (fun q => cl (by decide) q.1) (fun q => cl (by decide) q.1) (fun q => cl (by decide) q.1) (fun q => n6 q.2)
        clear w0 w1 w2 w3 w4 w5 w6 w7 cl
        have k0 : W ≠ 491260897125 := by clear n1 n6; omega
        have k1 : W ≠ 7566701 := fun hq => n1 (by clear n1 n6; refine ⟨?_, ?_, ?_⟩ <;> omega)
        have k2 : W ≠ 439855772532 := by clear n1 n6; omega
        have k3 : W ≠ 482956239461 := by clear n1 n6; omega
        have k4 : W ≠ 1785686382 := by clear n1 n6; omega
        have k5 : W ≠ 469853431653 := by clear n1 n6; omega
        have k6 : W ≠ 7237492 := fun hq => n6 (by clear n1 n6; refine ⟨?_, ?_, ?_⟩ <;> omega)
        have hR2 : (if R < 0 then (-1000000 : Int) else R) = -1000000 := by
          rw [hR]
          rfl
        unfold aW
        rw [hR2, if_neg k0, if_neg k1, if_neg k2, if_neg k3, if_neg k4, if_neg k5, if_neg k6]
  · have cl : ∀ {m : Nat}, m ≠ 4 → e - s = m → False := fun h q => h (by rw [← q, c])
    have b1 := hf (s + 1) (by clear w0 w1 w2 w3 w4 w5 w6 w7; omega) (by clear w0 w1 w2 w3 w4 w5 w6 w7; omega)
    have b2 := hf (s + 2) (by clear w0 w1 w2 w3 w4 w5 w6 w7; omega) (by clear w0 w1 w2 w3 w4 w5 w6 w7; omega)
    have b3 := hf (s + 3) (by clear w0 w1 w2 w3 w4 w5 w6 w7; omega) (by clear w0 w1 w2 w3 w4 w5 w6 w7; omega)
    have hW : fW f (e - s) s 0 = (256 * (256 * (256 * (256 * 0 + f s) + f (s + 1)) + f (s + 2)) + f (s + 3)) := by
      rw [c]
      rfl
    generalize fW f (e - s) s 0 = W at *
    by_cases n4 : f s = 106 ∧ f (s + 1) = 111 ∧ f (s + 2) = 105 ∧ f (s + 3) = 110
    · have hR := w4 ⟨c, n4⟩
      clear w0 w1 w2 w3 w4 w5 w6 w7 cl
      have hR2 : (if R < 0 then (-1000000 : Int) else R) = 4 := by
        rw [hR]
        rfl
      unfold aW
      rw [hR2, if_neg (by omega), if_neg (by omega), if_neg (by omega), if_neg (by omega), if_pos (by omega)]
    · have hR := w7 (fun q => cl (by decide) q.1) (fun q => cl (by decide) q.1) (fun q => cl (by decide) q.1) (fun q => cl (by decide) q.1) (fun q => n4 q.2) (fun q => cl (by decide) q.1) (fun q => cl (by decide) q.1)
      clear w0 w1 w2 w3 w4 w5 w6 w7 cl
      have k0 : W ≠ 491260897125 := by clear n4; omega
      have k1 : W ≠ 7566701 := by clear n4; omega
      have k2 : W ≠ 439855772532 := by clear n4; omega
      have k3 : W ≠ 482956239461 := by clear n4; omega
      have k4 : W ≠ 1785686382 := fun hq => n4 (by clear n4; refine ⟨?_, ?_, ?_, ?_⟩ <;> omega)
      have k5 : W ≠ 469853431653 := by clear n4; omega
      have k6 : W ≠ 7237492 := by clear n4; omega
      have hR2 : (if R < 0 then (-1000000 : Int) else R) = -1000000 := by
        rw [hR]
        rfl
      unfold aW
      rw [hR2, if_neg k0, if_neg k1, if_neg k2, if_neg k3, if_neg k4, if_neg k5, if_neg k6]
  · have cl : ∀ {m : Nat}, m ≠ 5 → e - s = m → False := fun h q => h (by rw [← q, c])
    have b1 := hf (s + 1) (by clear w0 w1 w2 w3 w4 w5 w6 w7; omega) (by clear w0 w1 w2 w3 w4 w5 w6 w7; omega)
    have b2 := hf (s + 2) (by clear w0 w1 w2 w3 w4 w5 w6 w7; omega) (by clear w0 w1 w2 w3 w4 w5 w6 w7; omega)
    have b3 := hf (s + 3) (by clear w0 w1 w2 w3 w4 w5 w6 w7; omega) (by clear w0 w1 w2 w3 w4 w5 w6 w7; omega)
    have b4 := hf (s + 4) (by clear w0 w1 w2 w3 w4 w5 w6 w7; omega) (by clear w0 w1 w2 w3 w4 w5 w6 w7; omega)
    have hW : fW f (e - s) s 0 = (256 * (256 * (256 * (256 * (256 * 0 + f s) + f (s + 1)) + f (s + 2)) + f (s + 3)) + f (s + 4)) := by
      rw [c]
      rfl
    generalize fW f (e - s) s 0 = W at *
    by_cases n0 : f s = 114 ∧ f (s + 1) = 97 ∧ f (s + 2) = 110 ∧ f (s + 3) = 103 ∧ f (s + 4) = 101
    · have hR := w0 ⟨c, n0⟩
      clear w0 w1 w2 w3 w4 w5 w6 w7 cl
      have hR2 : (if R < 0 then (-1000000 : Int) else R) = 0 := by
        rw [hR]
        rfl
      unfold aW
      rw [hR2, if_pos (by omega)]
    · by_cases n2 : f s = 102 ∧ f (s + 1) = 105 ∧ f (s + 2) = 114 ∧ f (s + 3) = 115 ∧ f (s + 4) = 116
      · have hR := w2 ⟨c, n2⟩
        clear w0 w1 w2 w3 w4 w5 w6 w7 cl n0
        have hR2 : (if R < 0 then (-1000000 : Int) else R) = 2 := by
          rw [hR]
          rfl
        unfold aW
        rw [hR2, if_neg (by omega), if_neg (by omega), if_pos (by omega)]
      · by_cases n3 : f s = 112 ∧ f (s + 1) = 114 ∧ f (s + 2) = 111 ∧ f (s + 3) = 98 ∧ f (s + 4) = 101
        · have hR := w3 ⟨c, n3⟩
          clear w0 w1 w2 w3 w4 w5 w6 w7 cl n0 n2
          have hR2 : (if R < 0 then (-1000000 : Int) else R) = 3 := by
            rw [hR]
            rfl
          unfold aW
          rw [hR2, if_neg (by omega), if_neg (by omega), if_neg (by omega), if_pos (by omega)]
        · by_cases n5 : f s = 109 ∧ f (s + 1) = 101 ∧ f (s + 2) = 114 ∧ f (s + 3) = 103 ∧ f (s + 4) = 101
          · have hR := w5 ⟨c, n5⟩
            clear w0 w1 w2 w3 w4 w5 w6 w7 cl n0 n2 n3
            have hR2 : (if R < 0 then (-1000000 : Int) else R) = 5 := by
              rw [hR]
              rfl
            unfold aW
            rw [hR2, if_neg (by omega), if_neg (by omega), if_neg (by omega), if_neg (by omega), if_neg (by omega), if_pos (by omega)]
          · have hR := w7 (fun q => n0 q.2) (fun q => cl (by decide) q.1) (fun q => n2 q.2) (fun q => n3 q.2) (fun q => cl (by decide) q.1) (fun q => n5 q.2) (fun q => cl (by decide) q.1)
            clear w0 w1 w2 w3 w4 w5 w6 w7 cl
            have k0 : W ≠ 491260897125 := fun hq => n0 (by clear n0 n2 n3 n5; refine ⟨?_, ?_, ?_, ?_, ?_⟩ <;> omega)
            have k1 : W ≠ 7566701 := by clear n0 n2 n3 n5; omega
            have k2 : W ≠ 439855772532 := fun hq => n2 (by clear n0 n2 n3 n5; refine ⟨?_, ?_, ?_, ?_, ?_⟩ <;> omega)
            have k3 : W ≠ 482956239461 := fun hq => n3 (by clear n0 n2 n3 n5; refine ⟨?_, ?_, ?_, ?_, ?_⟩ <;> omega)
            have k4 : W ≠ 1785686382 := by clear n0 n2 n3 n5; omega
            have k5 : W ≠ 469853431653 := fun hq => n5 (by clear n0 n2 n3 n5; refine ⟨?_, ?_, ?_, ?_, ?_⟩ <;> omega)
            have k6 : W ≠ 7237492 := by clear n0 n2 n3 n5; omega
            have hR2 : (if R < 0 then (-1000000 : Int) else R) = -1000000 := by
              rw [hR]
              rfl
            unfold aW
            rw [hR2, if_neg k0, if_neg k1, if_neg k2, if_neg k3, if_neg k4, if_neg k5, if_neg k6]
  · have cl : ∀ {m : Nat}, m ≠ 6 → e - s = m → False := fun h q => h (by rw [← q, c])
    have b1 := hf (s + 1) (by clear w0 w1 w2 w3 w4 w5 w6 w7; omega) (by clear w0 w1 w2 w3 w4 w5 w6 w7; omega)
    have b2 := hf (s + 2) (by clear w0 w1 w2 w3 w4 w5 w6 w7; omega) (by clear w0 w1 w2 w3 w4 w5 w6 w7; omega)
    have b3 := hf (s + 3) (by clear w0 w1 w2 w3 w4 w5 w6 w7; omega) (by clear w0 w1 w2 w3 w4 w5 w6 w7; omega)
    have b4 := hf (s + 4) (by clear w0 w1 w2 w3 w4 w5 w6 w7; omega) (by clear w0 w1 w2 w3 w4 w5 w6 w7; omega)
    have b5 := hf (s + 5) (by clear w0 w1 w2 w3 w4 w5 w6 w7; omega) (by clear w0 w1 w2 w3 w4 w5 w6 w7; omega)
    have hW : fW f (e - s) s 0 = (256 * (256 * (256 * (256 * (256 * (256 * 0 + f s) + f (s + 1)) + f (s + 2)) + f (s + 3)) + f (s + 4)) + f (s + 5)) := by
      rw [c]
      rfl
    generalize fW f (e - s) s 0 = W at *
    have hR := w7 (fun q => cl (by decide) q.1) (fun q => cl (by decide) q.1) (fun q => cl (by decide) q.1) (fun q => cl (by decide) q.1) (fun q => cl (by decide) q.1) (fun q => cl (by decide) q.1) (fun q => cl (by decide) q.1)
    clear w0 w1 w2 w3 w4 w5 w6 w7 cl
    have k0 : W ≠ 491260897125 := by omega
    have k1 : W ≠ 7566701 := by omega
    have k2 : W ≠ 439855772532 := by omega
    have k3 : W ≠ 482956239461 := by omega
    have k4 : W ≠ 1785686382 := by omega
    have k5 : W ≠ 469853431653 := by omega
    have k6 : W ≠ 7237492 := by omega
    have hR2 : (if R < 0 then (-1000000 : Int) else R) = -1000000 := by
      rw [hR]
      rfl
    unfold aW
    rw [hR2, if_neg k0, if_neg k1, if_neg k2, if_neg k3, if_neg k4, if_neg k5, if_neg k6]
  · have cl : ∀ {m : Nat}, m ≠ 7 → e - s = m → False := fun h q => h (by rw [← q, c])
    have b1 := hf (s + 1) (by clear w0 w1 w2 w3 w4 w5 w6 w7; omega) (by clear w0 w1 w2 w3 w4 w5 w6 w7; omega)
    have b2 := hf (s + 2) (by clear w0 w1 w2 w3 w4 w5 w6 w7; omega) (by clear w0 w1 w2 w3 w4 w5 w6 w7; omega)
    have b3 := hf (s + 3) (by clear w0 w1 w2 w3 w4 w5 w6 w7; omega) (by clear w0 w1 w2 w3 w4 w5 w6 w7; omega)
    have b4 := hf (s + 4) (by clear w0 w1 w2 w3 w4 w5 w6 w7; omega) (by clear w0 w1 w2 w3 w4 w5 w6 w7; omega)
    have b5 := hf (s + 5) (by clear w0 w1 w2 w3 w4 w5 w6 w7; omega) (by clear w0 w1 w2 w3 w4 w5 w6 w7; omega)
    have b6 := hf (s + 6) (by clear w0 w1 w2 w3 w4 w5 w6 w7; omega) (by clear w0 w1 w2 w3 w4 w5 w6 w7; omega)
    have hW : fW f (e - s) s 0 = (256 * (256 * (256 * (256 * (256 * (256 * (256 * 0 + f s) + f (s + 1)) + f (s + 2)) + f (s + 3)) + f (s + 4)) + f (s + 5)) + f (s + 6)) := by
      rw [c]
      rfl
    generalize fW f (e - s) s 0 = W at *
    have hR := w7 (fun q => cl (by decide) q.1) (fun q => cl (by decide) q.1) (fun q => cl (by decide) q.1) (fun q => cl (by decide) q.1) (fun q => cl (by decide) q.1) (fun q => cl (by decide) q.1) (fun q => cl (by decide) q.1)
    clear w0 w1 w2 w3 w4 w5 w6 w7 cl
    have k0 : W ≠ 491260897125 := by omega
    have k1 : W ≠ 7566701 := by omega
    have k2 : W ≠ 439855772532 := by omega
    have k3 : W ≠ 482956239461 := by omega
    have k4 : W ≠ 1785686382 := by omega
    have k5 : W ≠ 469853431653 := by omega
    have k6 : W ≠ 7237492 := by omega
    have hR2 : (if R < 0 then (-1000000 : Int) else R) = -1000000 := by
      rw [hR]
      rfl
    unfold aW
    rw [hR2, if_neg k0, if_neg k1, if_neg k2, if_neg k3, if_neg k4, if_neg k5, if_neg k6]
theorem shl8 {x b : Int} (hx : 0 ≤ x) (hx2 : x < 281474976710656) (hb : 0 ≤ b) (hb2 : b < 256) : (Int64.ofInt (Int64.ofInt x <<< ((Int32.ofInt 8).toInt64 &&& 63)).toInt ||| Int64.ofInt b).toInt = 256 * x + b := by
  rw [Int64.ofInt_toInt]
  have e8 : ((Int32.ofInt 8).toInt64 &&& 63) = (8 : Int64) := by decide +kernel
  rw [e8]
  show ((BitVec.ofInt 64 x <<< ((8 : Int64).toBitVec.smod 64)) ||| BitVec.ofInt 64 b).toInt = _
  have es : ((8 : Int64).toBitVec.smod 64) = (8#64) := by decide +kernel
  rw [es]
  have en : ((BitVec.ofInt 64 x <<< 8#64) ||| BitVec.ofInt 64 b).toNat = (256 * x + b).toNat := by
    rw [BitVec.toNat_or]
    have e1 : (BitVec.ofInt 64 x <<< 8#64).toNat = x.toNat <<< 8 := by
      show (BitVec.ofInt 64 x <<< (8#64).toNat).toNat = _
      rw [BitVec.toNat_shiftLeft, BitVec.toNat_ofInt, show (8#64).toNat = 8 from rfl, Nat.shiftLeft_eq, Nat.shiftLeft_eq]
      omega
    have e2 : (BitVec.ofInt 64 b).toNat = b.toNat := by
      rw [BitVec.toNat_ofInt]
      omega
    rw [e1, e2, ← Nat.shiftLeft_add_eq_or_of_lt (show b.toNat < 2 ^ 8 by omega), Nat.shiftLeft_eq]
    omega
  rw [BitVec.toInt_eq_toNat_of_lt (by rw [en]; omega), en]
  omega
section
variable {d q : Nat} {v : q_H} {G : q_Gr} {Q : q_V → q_H → q_Gr → Prop}
theorem c_len {a : Nat} (h : (G.2.1 a).1 = 50) : q_call (d + 5) 1002 [.inr (.inr (.inl (some a)))] v G Q = Q (.inl ((G.2.1 a).2)) v G := by
  rw [q_call_str (by decide)]
  have e : q_str 1002 [.inr (.inr (.inl (some a)))] v G = some (.inl ((G.2.1 a).2), v, G) := by
    show (if 1002 = 1002 ∧ (G.2.1 a).1 = 50 then _ else none) = _
    rw [if_pos ⟨rfl, h⟩]
  rw [e]
  apply propext
  constructor
  · rintro ⟨r, h1, h2⟩
    have := congrArg Prod.fst (Option.some.inj h1)
    have e2 : (.inl ((G.2.1 a).2) : q_V) = r := this
    rw [e2]
    exact h2
  · intro h2
    exact ⟨_, rfl, h2⟩
theorem c_chr {a k : Nat} (h : (G.2.1 a).1 = 50) (hk : k < (G.2.1 a).2) : q_call (d + 5) 1003 [.inr (.inr (.inl (some a))), .inl k] v G Q = Q (.inl (v a k)) v G := by
  rw [q_call_str (by decide)]
  have e : q_str 1003 [.inr (.inr (.inl (some a))), .inl k] v G = some (.inl (v a k), v, G) := by
    show (if 1003 = 1003 ∧ (G.2.1 a).1 = 50 ∧ 0 ≤ (k : Int) ∧ (k : Int) < (G.2.1 a).2 then some ((.inl (v a (k : Int).toNat) : q_V), v, G) else none) = _
    rw [if_pos ⟨rfl, h, by omega, by omega⟩, Int.toNat_natCast]
  rw [e]
  apply propext
  constructor
  · rintro ⟨r, h1, h2⟩
    have := congrArg Prod.fst (Option.some.inj h1)
    have e2 : (.inl (v a k) : q_V) = r := this
    rw [e2]
    exact h2
  · intro h2
    exact ⟨_, rfl, h2⟩
end
