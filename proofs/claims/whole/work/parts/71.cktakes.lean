section
variable {d q : Nat} {v : q_H} {G : q_Gr} {Q : q_V → q_H → q_Gr → Prop}
/-- what taking leaves alone -/
def ctf (q : Nat) (v' v : q_H) : Prop := ∀ b, b < q ∨ b = q + 1 ∨ b = q + 2 ∨ q + 17 < b → v' b = v b
theorem ctf_tr {v1 v2 v3 : q_H} (h1 : ctf q v2 v1) (h2 : ctf q v3 v2) : ctf q v3 v1 := fun b hb => by rw [h2 b hb, h1 b hb]
theorem ctf_c {v' : q_H} (h : cpr q v' v) : ctf q v' v := fun b hb => h.1 b (by omega) (by omega)
/-- the probes of a JOIN, a NOT -/
theorem s_tprobes {L : List Int} {p : Nat} {w sa sb : Int} {RA : List (Int × Int)} {v0 : q_H} (g : gChk G q) (hl : lok L) (hp : G.2.1 p = (0, 6)) (hp2 : 174 ≤ p) (hw : v0 p 0 = w) (hw4 : w = 4 ∨ w = 6) (hL : hasL v0 (q + 1) 1 (q + 1 + 1) L) (hsb : 0 ≤ sb ∧ sb ≤ 100000) (hA14 : RA.length ≤ 14) (hAr : ∀ x, x ∈ RA → (0 ≤ x.1 ∧ x.1 ≤ 999) ∧ 0 ≤ x.2 ∧ x.2 ≤ 999) : ∀ (r i pos : Nat) (v : q_H) (RB : List (Int × Int)), i + r = RA.length → ctf q v v0 → v q 1 = (pos : Int) → v q 2 = 0 → pos ≤ L.length → hasR v (q + 12) RA → hasR v (q + 15) RB → RB.length ≤ i →
    (∀ v' (e : Nat) (y : Int) (z4 : q_V), prbs L sb (RA.drop i) pos RB = .inl (e, y) → ctf q v' v0 → v' q 1 = (e : Int) → v' q 2 = y → 1 ≤ y → y ≤ 3 → e ≤ 600 → q_wp (d + 7) 21 97 [.inr (.inr (.inl (some q))), .inr (.inr (.inl (some p))), .inl sa, .inl sb, z4] [] v' G Q) →
    (∀ v' z (z4 : q_V), prbs L sb (RA.drop i) pos RB = .inr z → ctf q v' v0 → v' q 1 = (z.1 : Int) → v' q 2 = 0 → z.1 ≤ L.length → hasR v' (q + 12) RA → hasR v' (q + 15) z.2 → q_wp (d + 7) 21 97 [.inr (.inr (.inl (some q))), .inr (.inr (.inl (some p))), .inl sa, .inl sb, z4] [] v' G Q) →
    q_wp (d + 7) 21 39 [.inr (.inr (.inl (some q))), .inr (.inr (.inl (some p))), .inl sa, .inl sb, .inl ((i + 1 : Nat))] [] v G Q := by
  have g' := g
  obtain ⟨g0, ⟨g1, g2, g3, g4, g5, g6, g7, g8, g9⟩, gN, gT, k1, k2, k3, k4, gA, gB, gR, q1, q2⟩ := g'
  have hp' : (G.2.1 p).1 = 0 := by rw [hp]
  have hwh : wh w = 0 := by
    unfold wh
    rw [if_neg (by omega)]
  have pof : pofC w RA.length = 1 + RA.length := by
    unfold pofC
    rw [if_neg (by omega), if_pos hw4]
  intro r
  induction r with
  | zero =>
    intro i pos v RB h hf h1 h2 hpos hA hB hlB hF hC
    have ei : i = RA.length := by omega
    subst ei
    rw [List.drop_length] at hC
    have fin := hC v (pos, RB) (.inl ((RA.length + 1 : Nat))) rfl hf h1 h2 hpos hA hB
    have ep : ∀ (d' : Nat) (Q' : q_V → q_H → q_Gr → Prop), q_call (d' + 2) 22 [.inr (.inr (.inl (some q))), .inr (.inr (.inl (some p)))] v G Q' = Q' (.inl (1 + RA.length)) v G := fun d' Q' => by rw [c_pof g hp (by rw [hf p (by omega), hw]) (by omega), hA.1, pof]
    rw [e_21_39]
    simp (disch := omega) only [e_21_41, e_21_43, e_21_46, e_21_48, e_21_49, e_21_50, e_21_53, e_21_56, e_21_57, e_21_60, ep, q_push_I, q_push_L, q_push_P, q_push_U, ↓if_neg, ↓if_pos]
    repeat' first | exact fin | (refine And.intro ?_ ?_) | exact True.intro | omega | rfl
  | succ r ih =>
    intro i pos v RB h hf h1 h2 hpos hA hB hlB hF hC
    have hi : i < RA.length := by omega
    have kr := hAr _ (List.getElem_mem hi)
    rw [List.drop_eq_getElem_cons hi] at hF hC
    have vp : v p = v0 p := hf p (by omega)
    have hL' : hasL v (q + 1) 1 (q + 1 + 1) L := hasL_fr (hf _ (by omega)) (hf _ (by omega)) hL
    refine s_tstep (d := d) (pi := i + 1) (rq := q + 15) (xs := RB) (RA := RA) (due := sb) (low := RA[i].1) (high := RA[i].1) (hi := RA[i].1) (w := w) g hl hp hp2 (by rw [vp, hw]) (by omega) (by omega) hL' h1 h2 hpos (by rw [if_neg (by omega)]) hsb ⟨fun c => by omega, fun _ => rfl⟩ hB hA (by omega) (by rw [pof]; omega) (Or.inr ⟨by omega, hw4, by show i + 1 - 1 < RA.length; omega, rfl, rfl⟩) kr.1 (fun c => by omega) (fun _ => ⟨rfl, Int.le_refl _, kr.1.2⟩) (fun z hz => ?_) (fun v' e y z4 hr hc e1 e2 y1 y2 e3 => ?_) (fun v' z hr hf' e1 e2 hr' _ => ?_)
    · rw [hwh] at hz
      have ok := rwP_ok (by omega) (fun c => absurd c (by decide)) (fun _ => Int.le_refl _) hz
      have len := pw_len1 _ ok.2.1 (ok.2.2.2 (by decide))
      omega
    · rw [hwh] at hr
      refine hF v' e y z4 ?_ (ctf_tr hf (ctf_c hc)) e1 e2 y1 y2 e3
      unfold prbs
      rw [hr]
    · rw [hwh] at hr
      have ok := rwP_ok (by omega) (fun c => absurd c (by decide)) (fun _ => Int.le_refl _) hr
      have len := pw_len1 _ ok.2.1 (ok.2.2.2 (by decide))
      have zl := (rdP_inr hr).2.2.2.2.2
      have pe : prbs L sb (RA[i] :: RA.drop (i + 1)) pos RB = prbs L sb (RA.drop (i + 1)) z.1.1 (RB ++ rwP z) := by
        conv => lhs; unfold prbs
        rw [hr]
      rw [pe] at hF hC
      exact ih (i + 1) z.1.1 v' (RB ++ rwP z) (by omega) (ctf_tr hf (fun b hb => hf' b (by omega) (by omega) (by omega) (by omega) (by omega))) e1 e2 zl (hasR_fr (hf' _ (by omega) (by omega) (by omega) (by omega) (by omega)) (hf' _ (by omega) (by omega) (by omega) (by omega) (by omega)) (hf' _ (by omega) (by omega) (by omega) (by omega) (by omega)) hA) hr' (by rw [List.length_append]; omega) hF hC
theorem ansL_s {w a b : Int} {RA RB : List (Int × Int)} (h : w ≠ 1) : ansL w RA RB a = ansL w RA RB b := by
  unfold ansL
  rw [if_neg h, if_neg h]
theorem ansL_ok {w sum : Int} {RA RB : List (Int × Int)} (hA : ∀ x, x ∈ RA → (0 ≤ x.1 ∧ x.1 ≤ 999) ∧ 0 ≤ x.2 ∧ x.2 ≤ 999) (hB : ∀ x, x ∈ RB → (0 ≤ x.1 ∧ x.1 ≤ 999) ∧ 0 ≤ x.2 ∧ x.2 ≤ 999) (hl : RA.length ≤ 14) (hs : w = 1 → 0 ≤ sum ∧ sum ≤ 1000000) : (ansL w RA RB sum).length ≤ 42 ∧ ∀ x, x ∈ ansL w RA RB sum → 0 ≤ x ∧ x ≤ 1000000 := by
  unfold ansL
  split
  · next c =>
    have hs := hs c
    refine ⟨by simp, fun x hx => ?_⟩
    simp only [List.mem_cons, List.not_mem_nil, or_false] at hx
    rcases hx with rfl | rfl <;> omega
  · split
    · have := mat_ok hB RA hA
      exact ⟨by omega, fun x hx => by have := this.2 x hx; omega⟩
    · have := mis_ok (RB := RB) RA hA
      exact ⟨by omega, fun x hx => by have := this.2 x hx; omega⟩
/-- an act as the checker sees it -/
def actQ (v : q_H) (p : Nat) (w low hi : Int) : Prop := v p 0 = w ∧ (0 ≤ w ∧ w ≤ 6) ∧ v p 3 = low ∧ (0 ≤ low ∧ low ≤ 999) ∧ (w = 2 → hi = v p 5 ∧ 1 ≤ hi ∧ hi ≤ 14) ∧ (w ≠ 2 → hi = v p 4 ∧ low ≤ hi ∧ hi ≤ 999)
theorem smP_rng {L : List Int} {pos : Nat} {due w low high : Int} {z : RS × Nat × Nat × Nat} (hlow : low ≤ 1000) (hk : w = 2 → 1 ≤ high) (hlh : w ≠ 2 → low ≤ high) (h : rdP L pos due w low high = .inr z) : 0 ≤ smP z ∧ smP z ≤ 1000000 := by
  obtain ⟨h1, h2, h3, h4, h5, h6⟩ := rdP_inr h
  obtain ⟨e1, e2, e3, e4, e5, e6⟩ := enw_ok h2.1 h3 hlow hk hlh h4
  have := sumA_rng h3.2.2.2.2.2.2 (z.2.2.1 - z.2.1 - 1) (z.2.1 + 1)
  unfold smP
  omega
theorem c_takes {L : List Int} {p : Nat} {w low hi sa sb : Int} (g : gChk G q) (hl : lok L) (hp : G.2.1 p = (0, 6)) (hp2 : 174 ≤ p) (ha : actQ v p w low hi) (hL : hasL v (q + 1) 1 (q + 1 + 1) L) (hsa : 0 ≤ sa ∧ sa ≤ 100000) (hsb : 0 ≤ sb ∧ sb ≤ 100000)
  (hE : ∀ v' (e : Nat) (y : Int), tk L w sa sb low hi = .inl (e, y) → (∀ b, b < q ∨ b = q + 1 ∨ b = q + 2 ∨ q + 19 < b → v' b = v b) → v' q 1 = (e : Int) → v' q 2 = y → 1 ≤ y → y ≤ 3 → e ≤ 600 → v' (q + 18) 1 = 0 → Q (.inl 0) v' G)
  (hY : ∀ v' (T : List Int), tk L w sa sb low hi = .inr T → (∀ b, b < q ∨ b = q + 1 ∨ b = q + 2 ∨ q + 19 < b → v' b = v b) → v' q 2 = 0 → hasL v' (q + 18) 1 (q + 18 + 1) T → T.length ≤ 42 → (∀ x, x ∈ T → 0 ≤ x ∧ x ≤ 1000000) → Q (.inl 1) v' G) : q_call (d + 8) 21 [.inr (.inr (.inl (some q))), .inr (.inr (.inl (some p))), .inl sa, .inl sb] v G Q := by
  have g' := g
  obtain ⟨g0, ⟨g1, g2, g3, g4, g5, g6, g7, g8, g9⟩, gN, gT, k1, k2, k3, k4, gA, gB, gR, q1, q2⟩ := g'
  have hp' : (G.2.1 p).1 = 0 := by rw [hp]
  generalize hv0 : q_up (q_up (q_up (q_up (q_up (q_up v q 1 0) q 2 0) q 12 0) (q + 12) 2 0) (q + 15) 2 0) (q + 18) 1 0 = v0
  have f0 : ∀ b, b ≠ q → b ≠ q + 12 → b ≠ q + 15 → b ≠ q + 18 → v0 b = v b := fun b b1 b2 b3 b4 => by rw [← hv0, u_r b4, u_r b3, u_r b2, u_r b1, u_r b1, u_r b1]
  have w1 : v0 q 1 = ((0 : Nat) : Int) := by rw [← hv0]; simp (disch := omega) only [u_n, u_s]; rfl
  have w2 : v0 q 2 = 0 := by rw [← hv0]; simp (disch := omega) only [u_n, u_s]
  have w12 : v0 q 12 = 0 := by rw [← hv0]; simp (disch := omega) only [u_n, u_s]
  have rA : hasR v0 (q + 12) [] := ⟨by rw [← hv0]; simp (disch := omega) only [u_n, u_s]; rfl, fun k hk => absurd hk (Nat.not_lt_zero _)⟩
  have rB : hasR v0 (q + 15) [] := ⟨by rw [← hv0]; simp (disch := omega) only [u_n, u_s]; rfl, fun k hk => absurd hk (Nat.not_lt_zero _)⟩
  have r18 : v0 (q + 18) 1 = 0 := by rw [← hv0]; simp (disch := omega) only [u_s]
  have hL0 : hasL v0 (q + 1) 1 (q + 1 + 1) L := hasL_fr (f0 _ (by omega) (by omega) (by omega) (by omega)) (f0 _ (by omega) (by omega) (by omega) (by omega)) hL
  have vp : v0 p = v p := f0 p (by omega) (by omega) (by omega) (by omega)
  obtain ⟨a1, a2, a3, a4, a5, a6⟩ := ha
  rw [← vp] at a1 a3 a5 a6
  have hkw : wh w = 2 → 1 ≤ hi := fun c => by
    have : w = 2 := by unfold wh at c; split at c <;> omega
    exact (a5 this).2.1
  have hlw : wh w ≠ 2 → low ≤ hi := fun c => by
    have : w ≠ 2 := fun e => c (by rw [e]; decide)
    exact (a6 this).2.1
  have frm : ∀ v', ctf q v' v0 → ∀ b, b < q ∨ b = q + 1 ∨ b = q + 2 ∨ q + 19 < b → v' b = v b := fun v' hc b hb => by rw [hc b (by omega), f0 b (by omega) (by omega) (by omega) (by omega)]
  -- the end, in words of tk
  have failE : ∀ v' (e : Nat) (y : Int) (z4 : q_V), tk L w sa sb low hi = .inl (e, y) → ctf q v' v0 → v' q 1 = (e : Int) → v' q 2 = y → 1 ≤ y → y ≤ 3 → e ≤ 600 → q_wp (d + 7) 21 97 [.inr (.inr (.inl (some q))), .inr (.inr (.inl (some p))), .inl sa, .inl sb, z4] [] v' G Q := fun v' e y z4 ht hc e1 e2 y1 y2 e3 => s_tfail (p := p) g e2 y1 y2 (hE v' e y ht (frm v' hc) e1 e2 y1 y2 e3 (by rw [hc (q + 18) (by omega), r18]))
  have goodE : ∀ v' (RA RB : List (Int × Int)) (pos : Nat) (z4 : q_V), (∀ sum, (w = 1 → sum = v' q 12) → tk L w sa sb low hi = fin1 L pos (ansL w RA RB sum)) → ctf q v' v0 → v' q 1 = (pos : Int) → v' q 2 = 0 → pos ≤ L.length → hasR v' (q + 12) RA → hasR v' (q + 15) RB → RA.length ≤ 14 → RB.length ≤ 16 → (∀ x, x ∈ RA → (0 ≤ x.1 ∧ x.1 ≤ 999) ∧ 0 ≤ x.2 ∧ x.2 ≤ 999) → (∀ x, x ∈ RB → (0 ≤ x.1 ∧ x.1 ≤ 999) ∧ 0 ≤ x.2 ∧ x.2 ≤ 999) → (w = 1 → 0 ≤ v' q 12 ∧ v' q 12 ≤ 1000000) → q_wp (d + 7) 21 97 [.inr (.inr (.inl (some q))), .inr (.inr (.inl (some p))), .inl sa, .inl sb, z4] [] v' G Q := fun v' RA RB pos z4 ht hc e1 e2 e3 hA hB lA lB oA oB hsm => by
    have hll := hl.1
    have ht := ht (v' q 12) (fun _ => rfl)
    refine s_tend (d := d + 2) (w := w) (pos := pos) g hl hp hp2 (by rw [hc p (by omega), a1]) a2 (hasL_fr (hc _ (by omega)) (hc _ (by omega)) hL0) e1 e2 e3 hA hB (by omega) lB (rok_of oA) (rok_of oB) (fun c => ?_) (fun c v2 f2 l2 => ?_)
    · unfold fin1 at ht
      rw [if_pos c] at ht
      exact hE _ pos 1 ht (fun b hb => by rw [u_r (by omega), frm v' hc b hb]) (by rw [u_n (by omega), e1]) (u_s rfl rfl) (by decide) (by decide) (by omega) (by rw [u_n (by omega), hc (q + 18) (by omega), r18])
    · unfold fin1 at ht
      rw [if_neg c] at ht
      have ok := ansL_ok (w := w) (sum := v' q 12) oA oB lA hsm
      exact hY v2 _ ht (fun b hb => by rw [f2 b (by omega) (by omega), frm v' hc b hb]) (by rw [f2 q (by omega) (by omega), e2]) l2 ok.1 ok.2
  clear hE hY
  have main : q_wp (d + 7) 21 39 [.inr (.inr (.inl (some q))), .inr (.inr (.inl (some p))), .inl sa, .inl sb, .inl (((0 : Nat) : Int))] [] v0 G Q := by
    refine s_tstep (d := d) (pi := 0) (rq := q + 12) (xs := []) (RA := []) (due := sa) (low := low) (high := v0 p 4) (hi := hi) (w := w) g hl hp hp2 a1 a2 (by decide) hL0 w1 w2 (Nat.zero_le _) (by rw [if_pos rfl]) hsa ⟨fun _ => rfl, fun c => absurd rfl c⟩ rA rA (by decide) ?_ (Or.inl ⟨Or.inl rfl, a3.symm, rfl⟩) a4 a5 (fun c => ⟨(a6 c).1, by have := a6 c; omega, by have := a6 c; omega⟩) (fun z hz => ?_) (fun v' e y z4 hr hc e1 e2 y1 y2 e3 => ?_) (fun v1 z hr hf' e1 e2 hr' m1 => ?_)
    · show (0 : Int) < pofC w 0
      unfold pofC
      repeat' split
      all_goals omega
    · have ok := rwP_ok (by omega) hkw hlw hz
      show 0 + (rwP z).length ≤ 16
      omega
    · refine failE v' e y z4 ?_ (ctf_c hc) e1 e2 y1 y2 e3
      unfold tk
      rw [hr]
    · have ok := rwP_ok (by omega) hkw hlw hr
      have zl := (rdP_inr hr).2.2.2.2.2
      have sr := smP_rng (by omega) hkw hlw hr
      rw [List.nil_append] at hr'
      rw [w12, Int.zero_add] at m1
      have c1 : ctf q v1 v0 := fun b hb => hf' b (by omega) (by omega) (by omega) (by omega) (by omega)
      have rB1 : hasR v1 (q + 15) [] := hasR_fr (hf' _ (by omega) (by omega) (by omega) (by omega) (by omega)) (hf' _ (by omega) (by omega) (by omega) (by omega) (by omega)) (hf' _ (by omega) (by omega) (by omega) (by omega) (by omega)) rB
      have htk : tk L w sa sb low hi = if w = 5 then (match rdP L z.1.1 sb 0 low hi with
          | .inl e => .inl e
          | .inr z2 => fin1 L z2.1.1 (ansL w (rwP z) (rwP z2) 0))
        else if w = 4 ∨ w = 6 then (match prbs L sb (rwP z) z.1.1 [] with
          | .inl e => .inl e
          | .inr q => fin1 L q.1 (ansL w (rwP z) q.2 0))
        else fin1 L z.1.1 (ansL w (rwP z) [] (smP z)) := by
        unfold tk
        rw [hr]
        rfl
      have vp1 : v1 p = v0 p := c1 p (by omega)
      by_cases c5 : w = 5
      · rw [if_pos c5] at htk
        have wh5 : wh w = 0 := by rw [c5]; decide
        have a6 := a6 (by omega)
        refine s_tstep (d := d) (pi := 1) (rq := q + 15) (xs := []) (RA := rwP z) (due := sb) (low := low) (high := hi) (hi := hi) (w := w) g hl hp hp2 (by rw [vp1, a1]) a2 (by decide) (hasL_fr (c1 _ (by omega)) (c1 _ (by omega)) hL0) e1 e2 zl (by rw [if_neg (by decide)]) hsb ⟨fun c => absurd c (by decide), fun _ => rfl⟩ rB1 hr' (by omega) (by unfold pofC; rw [if_pos c5]; decide) (Or.inl ⟨Or.inr (by omega), by rw [vp1, a3], by rw [vp1]; exact a6.1⟩) a4 (fun c => by omega) (fun _ => ⟨rfl, a6.2⟩) (fun z2 hz => ?_) (fun v' e y z4 hr2 hc e1 e2 y1 y2 e3 => ?_) (fun v2 z2 hr2 hf2 e1 e2 hr2' m2 => ?_)
        · rw [wh5] at hz
          have ok2 := rwP_ok (by omega) (fun c => absurd c (by decide)) (fun _ => a6.2.1) hz
          show 0 + (rwP z2).length ≤ 16
          omega
        · rw [wh5] at hr2
          rw [hr2] at htk
          exact failE v' e y z4 htk (ctf_tr c1 (ctf_c hc)) e1 e2 y1 y2 e3
        · rw [wh5] at hr2
          simp only [hr2] at htk
          have ok2 := rwP_ok (by omega) (fun c => absurd c (by decide)) (fun _ => a6.2.1) hr2
          have zl2 := (rdP_inr hr2).2.2.2.2.2
          rw [List.nil_append] at hr2'
          have c2 : ctf q v2 v0 := ctf_tr c1 (fun b hb => hf2 b (by omega) (by omega) (by omega) (by omega) (by omega))
          have rA2 : hasR v2 (q + 12) (rwP z) := hasR_fr (hf2 _ (by omega) (by omega) (by omega) (by omega) (by omega)) (hf2 _ (by omega) (by omega) (by omega) (by omega) (by omega)) (hf2 _ (by omega) (by omega) (by omega) (by omega) (by omega)) hr'
          have fin := goodE v2 (rwP z) (rwP z2) z2.1.1 (.inl ((1 + 1 : Nat))) (fun sum _ => by rw [htk, ansL_s (a := 0) (b := sum) (by omega)]) c2 e1 e2 zl2 rA2 hr2' ok.1 (by omega) ok.2.2.1 ok2.2.2.1 (fun c => by omega)
          have ep : ∀ (d' : Nat) (Q' : q_V → q_H → q_Gr → Prop), q_call (d' + 2) 22 [.inr (.inr (.inl (some q))), .inr (.inr (.inl (some p)))] v2 G Q' = Q' (.inl 2) v2 G := fun d' Q' => by
            rw [c_pof g hp (by rw [c2 p (by omega), a1]) a2]
            unfold pofC
            rw [if_pos c5]
          rw [e_21_39]
          simp (disch := omega) only [e_21_41, e_21_43, e_21_46, e_21_48, e_21_49, e_21_50, e_21_53, e_21_56, e_21_57, e_21_60, ep, q_push_I, q_push_L, q_push_P, q_push_U, ↓if_neg, ↓if_pos]
          repeat' first | exact fin | (refine And.intro ?_ ?_) | exact True.intro | omega | rfl
      · rw [if_neg c5] at htk
        by_cases c4 : w = 4 ∨ w = 6
        · rw [if_pos c4] at htk
          refine s_tprobes (d := d) (w := w) (v0 := v1) (RA := rwP z) g hl hp hp2 (by rw [vp1, a1]) c4 (hasL_fr (c1 _ (by omega)) (c1 _ (by omega)) hL0) hsb ok.1 ok.2.2.1 (rwP z).length 0 z.1.1 v1 [] (by omega) (fun _ _ => rfl) e1 e2 zl hr' rB1 (Nat.le_refl _) (fun v' e y z4 hq hc e1 e2 y1 y2 e3 => ?_) (fun v' x z4 hq hc e1 e2 e3 hA hB => ?_)
          · rw [List.drop_zero] at hq
            rw [hq] at htk
            exact failE v' e y z4 htk (ctf_tr c1 hc) e1 e2 y1 y2 e3
          · rw [List.drop_zero] at hq
            simp only [hq] at htk
            have pk := prbs_ok (rwP z) z.1.1 [] x (fun r hr => (ok.2.2.1 r hr).1) hq
            have p1 := pk.1
            rw [List.length_nil] at p1
            exact goodE v' (rwP z) x.2 x.1 z4 (fun sum _ => by rw [htk, ansL_s (a := 0) (b := sum) (by omega)]) (ctf_tr c1 hc) e1 e2 e3 hA hB ok.1 (by omega) ok.2.2.1 (pk.2.2 (fun x hx => by cases hx)) (fun c => by omega)
        · rw [if_neg c4] at htk
          have fin := goodE v1 (rwP z) [] z.1.1 (.inl ((0 + 1 : Nat))) (fun sum hs => by
            rw [htk]
            by_cases cw : w = 1
            · rw [hs cw, m1]
            · rw [ansL_s (a := smP z) (b := sum) cw]) c1 e1 e2 zl hr' rB1 ok.1 (by decide) ok.2.2.1 (fun x hx => by cases hx) (fun _ => by rw [m1]; exact sr)
          have ep : ∀ (d' : Nat) (Q' : q_V → q_H → q_Gr → Prop), q_call (d' + 2) 22 [.inr (.inr (.inl (some q))), .inr (.inr (.inl (some p)))] v1 G Q' = Q' (.inl 1) v1 G := fun d' Q' => by
            rw [c_pof g hp (by rw [vp1, a1]) a2]
            unfold pofC
            rw [if_neg c5, if_neg c4]
          rw [e_21_39]
          simp (disch := omega) only [e_21_41, e_21_43, e_21_46, e_21_48, e_21_49, e_21_50, e_21_53, e_21_56, e_21_57, e_21_60, ep, q_push_I, q_push_L, q_push_P, q_push_U, ↓if_neg, ↓if_pos]
          repeat' first | exact fin | (refine And.intro ?_ ?_) | exact True.intro | omega | rfl
  have main : q_wp (d + 7) 21 39 [.inr (.inr (.inl (some q))), .inr (.inr (.inl (some p))), .inl sa, .inl sb, .inl 0] [] v0 G Q := main
  simp (disch := first | assumption | omega | ((try simp (disch := omega) only [u_n, u_s]); first | assumption | omega)) only [e_21, e_21_0, e_21_1, e_21_2, e_21_5, e_21_6, e_21_7, e_21_10, e_21_11, e_21_12, e_21_15, e_21_16, e_21_19, e_21_22, e_21_23, e_21_26, e_21_29, e_21_30, e_21_33, e_21_36, e_21_37, g0, g7, g8, g9, c_rclear gA, c_rclear gB, c_nclear gR, hv0, q_push_I, q_push_L, q_push_P, q_push_U]
  repeat' first | (refine And.intro ?_ ?_) | exact True.intro | omega | assumption | rfl
end
