def bl5 (v : q_H) : Prop := (-1000000 ≤ v 137 56 ∧ v 137 56 ≤ 100) ∧ (-1000000 ≤ v 137 57 ∧ v 137 57 ≤ 100)
def mpf (v' v : q_H) : Prop := (∀ b, b ≠ 137 → ¬ (161 ≤ b ∧ b ≤ 169) → v' b = v b) ∧ (∀ j, ¬ (41 ≤ j ∧ j ≤ 44) → ¬ (54 ≤ j ∧ j ≤ 57) → v' 137 j = v 137 j) ∧ bl5 v'
section
variable {d q : Nat} {v : q_H} {G : q_Gr} {Q : q_V → q_H → q_Gr → Prop}
theorem c_mrt {L : List Int} {N pos : Nat} (hG : gok G) (hl : lok L) (hN2 : 2 ≤ N) (hN : N ≤ 16) (hL : hasL v 137 39 160 L) (h8 : v 137 44 = (N : Int)) (hs : mS v (rs0 pos)) (hpos : pos ≤ L.length)
  (hF : ∀ v' (e : Nat), rdT L N 16 0 N (rs0 pos) = .inl e → mrf v' v → v' 137 42 = (e : Int) → v' 137 43 = 1 → Q (.inr (.inr (.inr ()))) v' G)
  (hC : ∀ v' (r : RS × Int × Int), rdT L N 16 0 N (rs0 pos) = .inr r → mrf v' v → mS v' r.1 → v' 137 54 = r.2.1 → v' 137 55 = r.2.2 → Q (.inr (.inr (.inr ()))) v' G) : q_call (d + 4) 203 [.inr (.inr (.inl (some 137)))] v G Q := by
  generalize hv1 : q_up (q_up (q_up v 165 0 0) 166 0 (N : Int)) 167 0 0 = v1
  have f1 : ∀ b, ¬ (165 ≤ b ∧ b ≤ 167) → v1 b = v b := fun b hb => by rw [← hv1, u_r (by omega), u_r (by omega), u_r (by omega)]
  have m1 : mrf v1 v := ⟨fun b b1 b2 => f1 b (by omega), fun j _ _ _ _ _ => by rw [f1 137 (by omega)]⟩
  have hs1 : mS v1 (rs0 pos) := by
    obtain ⟨x1, x2, x3, x4, x5⟩ := hs
    exact ⟨by rw [f1 137 (by omega)]; exact x1, by rw [f1 137 (by omega)]; exact x2, fun j hj => by rw [f1 161 (by omega)]; exact x3 j hj, fun j hj hS => by rw [f1 162 (by omega), f1 163 (by omega)]; exact x4 j hj hS, fun j hj hS => by rw [f1 164 (by omega)]; exact x5 j hj hS⟩
  have nx := s_mtree (d := d) (G := G) (Q := Q) hG hl hN2 hN 16 0 N 0 (rs0 pos) v1 (.inr (.inr (.inr ()))) (.inr (.inr (.inr ()))) (.inr (.inr (.inr ()))) (.inr (.inr (.inr ()))) (.inr (.inr (.inr ()))) (.inr (.inr (.inr ()))) hN (by omega) (by omega) (by omega) (by rw [← hv1]; simp (disch := omega) only [u_n, u_s]; rfl) (by rw [← hv1]; simp (disch := omega) only [u_n, u_s]) (by rw [← hv1]; simp (disch := omega) only [u_s]) (hasL_mrf m1 hL) (by rw [f1 137 (by omega), h8]) hs1 (rdInv_0 _ _) hpos (fun v' e hr hm e1 e2 => hF v' e hr (mrf_tr m1 hm) e1 e2) (fun v' r z3 z4 z5 z6 z7 z8 hr hm hs' a x _ => by
    have fin := hC v' r hr (mrf_tr m1 hm) hs' a x
    rw [e_203_28]
    simp (disch := omega) only [e_203_29, e_203_347, ↓if_pos]
    repeat' first | exact fin | (refine And.intro ?_ ?_) | exact True.intro | omega | rfl)
  have nx : q_wp (d + 3) 203 28 [.inr (.inr (.inl (some 137))), .inl 1, .inl (-1), .inr (.inr (.inr ())), .inr (.inr (.inr ())), .inr (.inr (.inr ())), .inr (.inr (.inr ())), .inr (.inr (.inr ())), .inr (.inr (.inr ()))] [] v1 G Q := nx
  simp (disch := omega) only [e_203, e_203_0, e_203_1, e_203_2, e_203_3, e_203_4, e_203_5, e_203_8, e_203_9, e_203_10, e_203_11, e_203_12, e_203_15, e_203_16, e_203_17, e_203_20, e_203_21, e_203_22, e_203_25, e_203_26, e_203_27, SHM hG, h8, u_n, show (0 : Int).toNat = 0 from rfl, hv1]
  repeat' first | (refine And.intro ?_ ?_) | exact True.intro | omega | assumption | rfl
theorem s_mclear {v0 : q_H} {z1 z2 z3 z4 z5 : q_V} (hG : gok G) (hC : ∀ v', (∀ b, b ≠ 161 → b ≠ 164 → v' b = v0 b) → (∀ j, j < 16 → v' 161 j = 0 ∧ v' 164 j = 0) → q_wp d 206 32 [.inr (.inr (.inl (some 137))), z1, z2, z3, z4, z5, .inl 16] [] v' G Q) : ∀ (r i : Nat) (v : q_H), i + r = 16 → (∀ b, b ≠ 161 → b ≠ 164 → v b = v0 b) → (∀ j, j < i → v 161 j = 0 ∧ v 164 j = 0) → q_wp d 206 3 [.inr (.inr (.inl (some 137))), z1, z2, z3, z4, z5, .inl i] [] v G Q := by
  intro r
  induction r with
  | zero =>
    intro i v h hf hz
    have e : i = 16 := by omega
    subst e
    have fin := hC v hf hz
    have fin : q_wp d 206 32 [.inr (.inr (.inl (some 137))), z1, z2, z3, z4, z5, .inl (((16 : Nat) : Int))] [] v G Q := fin
    rw [e_206_3]
    simp (disch := omega) only [e_206_5, e_206_7, ↓if_pos]
    repeat' first | exact fin | (refine And.intro ?_ ?_) | exact True.intro | omega | rfl
  | succ r ih =>
    intro i v h hf hz
    have nx := ih (i + 1) (q_up (q_up v 161 i 0) 164 i 0) (by omega) (fun b b1 b2 => by rw [u_r b2, u_r b1, hf b b1 b2]) (fun j hj => by
      by_cases e : j = i
      · subst e
        simp (disch := omega) only [u_n, u_s]
        exact ⟨True.intro, True.intro⟩
      · simp (disch := omega) only [u_n]
        exact hz j (by omega))
    rw [e_206_3]
    simp (disch := omega) only [e_206_5, e_206_7, e_206_10, e_206_11, e_206_14, e_206_16, e_206_17, e_206_18, e_206_19, e_206_22, e_206_24, e_206_25, e_206_26, e_206_29, SHM hG, ↓if_neg, Int.toNat_natCast, show (i : Int) + 1 = ((i + 1 : Nat) : Int) by omega]
    repeat' first | (refine And.intro ?_ ?_) | exact True.intro | omega | assumption | rfl
theorem m_rproof {L : List Int} {pos t rd : Nat} {w low high due : Int} (hG : gok G) (hl : lok L) (hL : hasL v 137 39 160 L) (h41 : v 137 41 = (pos : Int)) (h43 : v 137 43 = 0) (hpos : pos ≤ L.length) (hb5 : bl5 v) (hw : 0 ≤ w ∧ w ≤ 2) (ht : t < 3) (hrd : rd < 20) (hdue : v 148 (4 * rd + t) = due) (hdr : 0 ≤ due ∧ due ≤ 65520) (hlo : 0 ≤ low ∧ low ≤ 999) (hk : w = 2 → 1 ≤ high ∧ high ≤ 14) (hh : w ≠ 2 → low ≤ high ∧ high ≤ 999)
  (hF : ∀ v' (e : Nat) (y : Int), rdP L pos due w low high = .inl (e, y) → mpf v' v → v' 137 42 = (e : Int) → v' 137 43 = y → 1 ≤ y → y ≤ 3 → Q (.inr (.inr (.inr ()))) v' G)
  (hS : ∀ v' z, rdP L pos due w low high = .inr z → mpf v' v → v' 137 41 = (z.1.1 : Int) → v' 137 43 = 0 → mS v' z.1 → v' 137 56 = (z.2.1 : Int) → v' 137 57 = (z.2.2.2 : Int) → Q (.inr (.inr (.inr ()))) v' G) : q_call (d + 5) 206 [.inr (.inr (.inl (some 137))), .inl w, .inl t, .inl low, .inl high, .inl rd] v G Q := by
  have hll := hl.1
  have nx := s_mclear (d := d + 4) (Q := Q) (z1 := .inl w) (z2 := .inl t) (z3 := .inl low) (z4 := .inl high) (z5 := .inl rd) (v0 := v) hG (fun v1 f1 c1 => by
    have v137 : v1 137 = v 137 := f1 137 (by omega) (by omega)
    have hL1 : hasL v1 137 39 160 L := hasL_fr v137 (f1 160 (by omega) (by omega)) hL
    have w41 : v1 137 41 = (pos : Int) := by rw [v137, h41]
    have w43 : v1 137 43 = 0 := by rw [v137, h43]
    by_cases c : okN L pos 2 16
    · have hn : 2 ≤ nL L pos ∧ nL L pos ≤ 16 := by
        unfold nL
        omega
      have hnN : L.getD pos 0 = (nL L pos : Int) := by
        unfold nL
        omega
      have n1 : ∀ (d' : Nat) (Q' : q_V → q_H → q_Gr → Prop), q_call (d' + 2) 201 [.inr (.inr (.inl (some 137))), .inl 2, .inl 16] v1 G Q' = Q' (.inl (nL L pos)) (q_up v1 137 41 ((pos : Int) + 1)) G := fun d' Q' => by rw [m_next_y hG hL1 hl w41 w43 (by decide) (by decide) c, hnN]
      have p1 : ∀ {x}, rdT L (nL L pos) 16 0 (nL L pos) (rs0 (pos + 1)) = .inl x → rdP1 L pos due = .inl (x, 1) := fun hr => by
        unfold rdP1
        rw [if_neg (fun q => q c), hr]
      have p2 : ∀ {r}, rdT L (nL L pos) 16 0 (nL L pos) (rs0 (pos + 1)) = .inr r → rdP1 L pos due = if J (J r.2.1 r.2.2) (nL L pos) ≠ due then .inl (r.1.1, 2) else .inr r.1 := fun hr => by
        unfold rdP1
        rw [if_neg (fun q => q c), hr]
      generalize hv2 : q_up (q_up v1 137 41 ((pos : Int) + 1)) 137 44 (nL L pos : Int) = v2
      have f2 : ∀ b, b ≠ 137 → v2 b = v1 b := fun b hb => by rw [← hv2, u_r hb, u_r hb]
      have f2q : ∀ j, j ≠ 41 → j ≠ 44 → v2 137 j = v 137 j := fun j j1 j2 => by rw [← hv2, u_n (by omega), u_n (by omega), v137]
      have x41 : v2 137 41 = ((pos + 1 : Nat) : Int) := by
        rw [← hv2, u_n (by omega), u_s rfl rfl]
        omega
      have x43 : v2 137 43 = 0 := by rw [f2q 43 (by omega) (by omega), h43]
      have x44 : v2 137 44 = (nL L pos : Int) := by rw [← hv2, u_s rfl rfl]
      have hL2 : hasL v2 137 39 160 L := ⟨by rw [f2q 39 (by omega) (by omega)]; exact hL.1, fun j hj => by rw [f2 160 (by omega), f1 160 (by omega) (by omega)]; exact hL.2 j hj⟩
      have hs2 : mS v2 (rs0 (pos + 1)) := ⟨x41, x43, fun j hj => by rw [f2 161 (by omega), (c1 j hj).1]; rfl, fun j hj hS => (by cases hS), fun j hj _ => by rw [f2 164 (by omega), (c1 j hj).2]; rfl⟩
      -- from a state behind the tree
      have mp : ∀ v', mrf v' v2 → mpf v' v := fun v' hm => ⟨fun b b1 b2 => by rw [hm.1 b b1 b2, f2 b b1, f1 b (by omega) (by omega)], fun j j1 j2 => by rw [hm.2 j (by omega) (by omega) (by omega) (by omega) (by omega), f2q j (by omega) (by omega)], by
        unfold bl5
        rw [hm.2 56 (by omega) (by omega) (by omega) (by omega) (by omega), hm.2 57 (by omega) (by omega) (by omega) (by omega) (by omega), f2q 56 (by omega) (by omega), f2q 57 (by omega) (by omega)]
        exact hb5⟩
      have key : q_call (d + 4) 203 [.inr (.inr (.inl (some 137)))] v2 G (fun r v' G' => q_wp (d + 4) 206 54 [.inr (.inr (.inl (some 137))), .inl w, .inl t, .inl low, .inl high, .inl rd, .inl 16] (q_push r []) v' G' Q) := by
        refine c_mrt hG hl hn.1 hn.2 hL2 x44 hs2 (by have := c.1; omega) (fun v' e hr hm e1 e2 => ?_) (fun v3 r hr hm hs3 a3 x3 => ?_)
        · have fin := hF v' e 1 (rdP_e (p1 hr)) (mp v' hm) e1 e2 (by decide) (by decide)
          simp (disch := omega) only [e_206_54, e_206_55, e_206_58, e_206_102, e_206_103, e_206_106, e_206_129, SHM hG, e2, ↓if_neg, ↓if_pos, q_push_I, q_push_L, q_push_P, q_push_U]
          repeat' first | exact fin | (refine And.intro ?_ ?_) | exact True.intro | omega | rfl
        · have ok := rd_ok hn.1 16 0 (nL L pos) (rs0 (pos + 1)) hn.2 (by omega) (by omega) (rdInv_0 _ _) r hr
          rw [Nat.zero_add] at ok
          have m3 := mp v3 hm
          have p2 := p2 hr
          have y43 := hs3.2.1
          have y41 := hs3.1
          have y44 : v3 137 44 = (nL L pos : Int) := by rw [hm.2 44 (by omega) (by omega) (by omega) (by omega) (by omega), x44]
          have yd : v3 148 (4 * rd + t) = due := by rw [m3.1 148 (by omega) (by omega), hdue]
          have j1 := J_rng r.2.1 r.2.2
          have j2 := J_rng (J r.2.1 r.2.2) (nL L pos)
          by_cases ce : J (J r.2.1 r.2.2) (nL L pos) = due
          · rw [if_neg (fun q => q ce)] at p2
            obtain ⟨_, _, _, hno, hyes⟩ := rdP_s (w := w) (low := low) (high := high) p2
            have ken : q_call (d + 4) 205 [.inr (.inr (.inl (some 137))), .inl w, .inl low, .inl high] v3 G (fun r v' G' => q_wp (d + 4) 206 117 [.inr (.inr (.inl (some 137))), .inl w, .inl t, .inl low, .inl high, .inl rd, .inl 16] (q_push r []) v' G' Q) := by
              refine m_enough (d := d + 2) hG hs3 ok.1 hn.1 hn.2 y44 hw hlo hk hh (fun hz v4 f4 f4q b56 b57 => ?_) (fun z hz v4 f4 f4q e56 e57 => ?_)
              · have z43 : v4 137 43 = 0 := by rw [f4q 43 (by omega) (by omega), y43]
                have z41 : v4 137 41 = (r.1.1 : Int) := by rw [f4q 41 (by omega) (by omega), y41]
                have fin := hF (q_up (q_up v4 137 42 (r.1.1 : Int)) 137 43 3) r.1.1 3 (hno hz) ⟨fun b b1 b2 => by rw [u_r b1, u_r b1, f4 b b1, m3.1 b b1 b2], fun j j1 j2 => by rw [u_n (by omega), u_n (by omega), f4q j (by omega) (by omega), m3.2.1 j j1 j2], by
                  unfold bl5
                  simp (disch := omega) only [u_n]
                  exact ⟨b56, b57⟩⟩ (by rw [u_n (by omega), u_s rfl rfl]) (u_s rfl rfl) (by decide) (by decide)
                simp (disch := first | assumption | omega) only [e_206_117, e_206_120, e_206_121, e_206_122, e_206_125, e_206_126, e_206_129, SHM hG, z41, c_wrong, ↓if_neg, ↓if_pos, q_push_I, q_push_L, q_push_P, q_push_U]
                repeat' first | exact fin | (refine And.intro ?_ ?_) | exact True.intro | omega | rfl
              · have z43 : v4 137 43 = 0 := by rw [f4q 43 (by omega) (by omega), y43]
                have z41 : v4 137 41 = (r.1.1 : Int) := by rw [f4q 41 (by omega) (by omega), y41]
                have eo := enw_ok hn.1 ok.1 (by omega) (fun c => (hk c).1) (fun c => (hh c).1) hz
                have fin := hS v4 (r.1, z) (hyes z hz) ⟨fun b b1 b2 => by rw [f4 b b1, m3.1 b b1 b2], fun j j1 j2 => by rw [f4q j (by omega) (by omega), m3.2.1 j j1 j2], by
                  unfold bl5
                  rw [e56, e57]
                  omega⟩ z41 z43 (by
                  obtain ⟨x1, x2, x3, x4, x5⟩ := hs3
                  exact ⟨z41, z43, fun j hj => by rw [f4 161 (by omega)]; exact x3 j hj, fun j hj hS => by rw [f4 162 (by omega), f4 163 (by omega)]; exact x4 j hj hS, fun j hj hS => by rw [f4 164 (by omega)]; exact x5 j hj hS⟩) e56 e57
                simp (disch := omega) only [e_206_117, e_206_120, e_206_121, e_206_122, e_206_125, e_206_126, e_206_129, SHM hG, ↓if_neg, ↓if_pos, q_push_I, q_push_L, q_push_P, q_push_U]
                repeat' first | exact fin | (refine And.intro ?_ ?_) | exact True.intro | omega | rfl
            simp (disch := first | assumption | omega | ((try simp (disch := omega) only [u_n, u_s]); first | assumption | omega)) only [e_206_54, e_206_55, e_206_58, e_206_61, e_206_62, e_206_65, e_206_66, e_206_69, e_206_72, e_206_73, e_206_76, e_206_79, e_206_80, e_206_83, e_206_84, e_206_86, e_206_87, e_206_88, e_206_89, e_206_90, e_206_93, e_206_94, e_206_95, e_206_98, e_206_99, e_206_102, e_206_103, e_206_106, e_206_109, e_206_110, e_206_111, e_206_112, e_206_114, SHM hG, y43, y44, a3, x3, c_join, yd, ce, show ((4 : Int) * (rd : Int) + (t : Int)).toNat = 4 * rd + t by omega, ↓if_neg, ↓if_pos, q_push_I, q_push_L, q_push_P, q_push_U]
            repeat' first | (refine And.intro ?_ ?_) | exact True.intro | omega | assumption | rfl
          · rw [if_pos ce] at p2
            have fin := hF (q_up (q_up v3 137 42 (r.1.1 : Int)) 137 43 2) r.1.1 2 (rdP_e p2) ⟨fun b b1 b2 => by rw [u_r b1, u_r b1, m3.1 b b1 b2], fun j j1 j2 => by rw [u_n (by omega), u_n (by omega), m3.2.1 j j1 j2], by
              unfold bl5
              simp (disch := omega) only [u_n]
              exact m3.2.2⟩ (by rw [u_n (by omega), u_s rfl rfl]) (u_s rfl rfl) (by decide) (by decide)
            simp (disch := first | assumption | omega | ((try simp (disch := omega) only [u_n, u_s]); first | assumption | omega)) only [e_206_54, e_206_55, e_206_58, e_206_61, e_206_62, e_206_65, e_206_66, e_206_69, e_206_72, e_206_73, e_206_76, e_206_79, e_206_80, e_206_83, e_206_84, e_206_86, e_206_87, e_206_88, e_206_89, e_206_90, e_206_93, e_206_94, e_206_95, e_206_98, e_206_99, e_206_102, e_206_103, e_206_106, e_206_129, SHM hG, y41, y43, y44, a3, x3, c_join, c_wrong, yd, u_s, u_n, show ((4 : Int) * (rd : Int) + (t : Int)).toNat = 4 * rd + t by omega, ↓if_neg, ↓if_pos, q_push_I, q_push_L, q_push_P, q_push_U]
            repeat' first | exact fin | (refine And.intro ?_ ?_) | exact True.intro | omega | rfl
      simp (disch := first | assumption | omega | ((try simp (disch := omega) only [u_n, u_s]); first | assumption | omega)) only [e_206_32, e_206_33, e_206_34, e_206_35, e_206_37, e_206_40, e_206_43, e_206_44, e_206_47, e_206_50, e_206_51, SHM hG, n1, hv2, x43, ↓if_neg, ↓if_pos, q_push_I, q_push_L, q_push_P, q_push_U]
      repeat' first | (refine And.intro ?_ ?_) | exact True.intro | omega | assumption | rfl
    · have n1 : ∀ (d' : Nat) (Q' : q_V → q_H → q_Gr → Prop), q_call (d' + 2) 201 [.inr (.inr (.inl (some 137))), .inl 2, .inl 16] v1 G Q' = Q' (.inl 0) (q_up (q_up v1 137 42 (pos : Int)) 137 43 1) G := fun d' Q' => m_next_n hG hL1 hl w41 hpos w43 (by decide) (by decide) c
      have p1 : rdP1 L pos due = .inl (pos, 1) := by
        unfold rdP1
        rw [if_pos c]
      have fin := hF (q_up (q_up (q_up v1 137 42 (pos : Int)) 137 43 1) 137 44 0) pos 1 (rdP_e p1) ⟨fun b b1 b2 => by rw [u_r b1, u_r b1, u_r b1, f1 b (by omega) (by omega)], fun j j1 j2 => by rw [u_n (by omega), u_n (by omega), u_n (by omega), v137], by
        unfold bl5
        simp (disch := omega) only [u_n]
        rw [v137]
        exact hb5⟩ (by simp (disch := omega) only [u_n, u_s]) (by simp (disch := omega) only [u_n, u_s]) (by decide) (by decide)
      simp (disch := first | assumption | omega | ((try simp (disch := omega) only [u_n, u_s]); first | assumption | omega)) only [e_206_32, e_206_33, e_206_34, e_206_35, e_206_37, e_206_40, e_206_43, e_206_44, e_206_47, e_206_54, e_206_55, e_206_58, e_206_102, e_206_103, e_206_106, e_206_129, SHM hG, n1, u_s, u_n, ↓if_neg, ↓if_pos, q_push_I, q_push_L, q_push_P, q_push_U]
      repeat' first | exact fin | (refine And.intro ?_ ?_) | exact True.intro | omega | rfl) 16 0 v (by omega) (fun _ _ _ => rfl) (fun j hj => by omega)
  have nx : q_wp (d + 4) 206 3 [.inr (.inr (.inl (some 137))), .inl w, .inl t, .inl low, .inl high, .inl rd, .inl 0] [] v G Q := nx
  simp (disch := omega) only [e_206, e_206_0, e_206_1, SHM hG]
  repeat' first | (refine And.intro ?_ ?_) | exact True.intro | omega | assumption | rfl
/-! ===== values that were shown, rows that are said ===== -/
def vsV (S : Nat → Bool) (K A : Nat → Int) (key : Int) : Nat → Nat → Int → Int
  | 0, _, acc => acc
  | r + 1, i, acc => vsV S K A key r (i + 1) (if S i = true ∧ K i = key then A i else acc)
theorem vsV_no {S : Nat → Bool} {K A : Nat → Int} {key : Int} : ∀ r i acc, (∀ j, i ≤ j → j < i + r → S j = true → K j ≠ key) → vsV S K A key r i acc = acc
  | 0, i, acc, _ => rfl
  | r + 1, i, acc, h => by
    unfold vsV
    rw [if_neg (fun q => h i (Nat.le_refl _) (by omega) q.1 q.2)]
    exact vsV_no r (i + 1) acc (fun j j1 j2 => h j (by omega) (by omega))
theorem vsV_eq {S : Nat → Bool} {K A : Nat → Int} {key : Int} (hr : ∀ i j, i < j → S i = true → S j = true → K i < K j) : ∀ r i acc, vsV S K A key r i acc = (match fnd key (rws S K A r i) with | some y => y | none => acc) := by
  intro r
  induction r with
  | zero => intro i acc; rfl
  | succ r ih =>
    intro i acc
    unfold vsV rws
    by_cases c : S i = true
    · rw [if_pos c]
      show _ = (match fnd key ((K i, A i) :: rws S K A r (i + 1)) with | some y => y | none => acc)
      have ef : fnd key ((K i, A i) :: rws S K A r (i + 1)) = if K i = key then some (A i) else fnd key (rws S K A r (i + 1)) := rfl
      rw [ef]
      by_cases ck : K i = key
      · rw [if_pos ⟨c, ck⟩, if_pos ck, vsV_no r (i + 1) (A i) (fun j j1 j2 hj => by have := hr i j (by omega) c hj; omega)]
      · rw [if_neg (fun q => ck q.2), if_neg ck]
        exact ih (i + 1) acc
    · rw [if_neg c, if_neg (fun q => c q.1), List.nil_append]
      exact ih (i + 1) acc
theorem s_vs {s : RS} {N y : Nat} {key : Int} (hG : gok G) (hs : mS v s) (hI : rdInv N N s) (hy : y ≤ 16) (h57 : v 137 57 = (y : Int)) (hk : -2147483648 ≤ key ∧ key ≤ 2147483647) : ∀ (r i : Nat) (acc : Int), i + r = y → Q (.inl (vsV s.2.2.1 s.2.2.2.1 s.2.2.2.2 key r i acc)) v G → q_wp d 207 10 [.inr (.inr (.inl (some 137))), .inl key, .inl acc, .inl i] [] v G Q := by
  obtain ⟨s1, s2, s3, s4, s5⟩ := hs
  intro r
  induction r with
  | zero =>
    intro i acc h hQ
    unfold vsV at hQ
    rw [e_207_10]
    simp (disch := omega) only [e_207_11, e_207_12, e_207_15, e_207_54, e_207_55, SHM hG, h57, ↓if_pos]
    repeat' first | (refine And.intro ?_ ?_) | exact True.intro | omega | assumption | rfl
  | succ r ih =>
    intro i acc h hQ
    unfold vsV at hQ
    have nx := ih (i + 1) _ (by omega) hQ
    have a3 := s3 i (by omega)
    rw [e_207_10]
    by_cases c : s.2.2.1 i = true
    · have a4 := s4 i (by omega) c
      have kr := hI.2.2.2.2.2.1 i c
      rw [c, if_pos rfl] at a3
      by_cases ck : s.2.2.2.1 i = key
      · rw [if_pos ⟨c, ck⟩] at nx
        simp (disch := omega) only [e_207_11, e_207_12, e_207_15, e_207_18, e_207_19, e_207_22, e_207_23, e_207_24, e_207_27, e_207_28, e_207_31, e_207_32, e_207_33, e_207_34, e_207_37, e_207_38, e_207_41, e_207_42, e_207_43, e_207_46, e_207_47, e_207_48, e_207_51, SHM hG, h57, a3, a4.1, a4.2, Int.toNat_natCast, ↓if_neg, ↓if_pos, show (i : Int) + 1 = ((i + 1 : Nat) : Int) by omega]
        repeat' first | (refine And.intro ?_ ?_) | exact True.intro | omega | assumption | rfl
      · rw [if_neg (fun q => ck q.2)] at nx
        simp (disch := omega) only [e_207_11, e_207_12, e_207_15, e_207_18, e_207_19, e_207_22, e_207_23, e_207_24, e_207_27, e_207_28, e_207_31, e_207_32, e_207_33, e_207_34, e_207_37, e_207_38, e_207_41, e_207_42, e_207_43, e_207_46, e_207_47, e_207_48, e_207_51, SHM hG, h57, a3, a4.1, Int.toNat_natCast, ↓if_neg, ↓if_pos, show (i : Int) + 1 = ((i + 1 : Nat) : Int) by omega]
        repeat' first | (refine And.intro ?_ ?_) | exact True.intro | omega | assumption | rfl
    · rw [if_neg c] at a3
      rw [if_neg (fun q => c q.1)] at nx
      simp (disch := omega) only [e_207_11, e_207_12, e_207_15, e_207_18, e_207_19, e_207_22, e_207_23, e_207_24, e_207_27, e_207_28, e_207_31, e_207_32, e_207_33, e_207_34, e_207_37, e_207_38, e_207_41, e_207_42, e_207_43, e_207_46, e_207_47, e_207_48, e_207_51, SHM hG, h57, a3, Int.toNat_natCast, ↓if_neg, ↓if_pos, show (i : Int) + 1 = ((i + 1 : Nat) : Int) by omega]
      repeat' first | (refine And.intro ?_ ?_) | exact True.intro | omega | assumption | rfl
def oN (o : Option Int) : Int := match o with | some y => y | none => -1000000
theorem c_vs {s : RS} {N x y : Nat} {key : Int} (hG : gok G) (hs : mS v s) (hI : rdInv N N s) (hy : y ≤ 16) (hxy : x < y) (h56 : v 137 56 = (x : Int)) (h57 : v 137 57 = (y : Int)) (hk : -2147483648 ≤ key ∧ key ≤ 2147483647) : q_call (d + 1) 207 [.inr (.inr (.inl (some 137))), .inl key] v G Q = Q (.inl (oN (fnd key (rws s.2.2.1 s.2.2.2.1 s.2.2.2.2 (y - x - 1) (x + 1))))) v G := by
  refine q_call_eq ?_ Q
  have nx := s_vs (d := d) (Q := fun r v' G' => r = .inl (oN (fnd key (rws s.2.2.1 s.2.2.2.1 s.2.2.2.2 (y - x - 1) (x + 1)))) ∧ v' = v ∧ G' = G) hG hs hI hy h57 hk (y - x - 1) (x + 1) (-1000000) (by omega) (by rw [vsV_eq hI.2.2.1]; exact ⟨rfl, rfl, rfl⟩)
  simp (disch := omega) only [e_207, e_207_0, e_207_2, e_207_3, e_207_4, e_207_7, e_207_8, e_207_9, SHM hG, h56, show (x : Int) + 1 = ((x + 1 : Nat) : Int) by omega]
  repeat' first | (refine And.intro ?_ ?_) | exact True.intro | omega | assumption | rfl
/-- sayRow -/
def syR (w : Int) (r : Int × Int) (o : Int) : List Int := if w ≤ 3 ∨ ((o = -1000000) ↔ (w = 6)) then (if o = -1000000 then [r.1, r.2] else [r.1, r.2, o]) else []
theorem c_sayRow {k : Nat} {w o : Int} {r : Int × Int} (hG : gok G) (hk : k < 16) (hw : 0 ≤ w ∧ w ≤ 6) (ho : -2147483648 ≤ o ∧ o ≤ 2147483647) (h1 : v 170 k = r.1) (h2 : v 171 k = r.2) (h0 : 0 ≤ v 137 37) (h6 : v 137 37 + 3 ≤ 64) : q_call (d + 2) 208 [.inr (.inr (.inl (some 137))), .inl w, .inl k, .inl o] v G Q = Q (.inr (.inr (.inr ()))) (q_apl v 137 37 159 (syR w r o)) G := by
  refine q_call_eq ?_ Q
  have e2 : ∀ x, q_app v 137 37 159 x 171 k = r.2 := fun x => by rw [app_r (by omega) (by omega), h2]
  unfold syR
  by_cases co : o = -1000000
  · by_cases cw : w ≤ 3 ∨ w = 6
    · rw [if_pos (by omega), if_pos co]
      simp only [q_apl]
      by_cases c3 : w ≤ 3
      · simp (disch := first | assumption | omega | ((try simp (disch := omega) only [app_r, app_c]); first | assumption | omega)) only [E208, SHM hG, h1, e2, c_say, Int.toNat_natCast, ↓if_neg, ↓if_pos, q_push_I, q_push_L, q_push_P, q_push_U]
        repeat' first | (refine And.intro ?_ ?_) | exact True.intro | omega | assumption | rfl
      · simp (disch := first | assumption | omega | ((try simp (disch := omega) only [app_r, app_c]); first | assumption | omega)) only [E208, SHM hG, h1, e2, c_say, Int.toNat_natCast, ↓if_neg, ↓if_pos, q_push_I, q_push_L, q_push_P, q_push_U]
        repeat' first | (refine And.intro ?_ ?_) | exact True.intro | omega | assumption | rfl
    · rw [if_neg (by omega)]
      simp only [q_apl]
      simp (disch := omega) only [E208, SHM hG, ↓if_neg, ↓if_pos, q_push_I, q_push_L, q_push_P, q_push_U]
      repeat' first | (refine And.intro ?_ ?_) | exact True.intro | omega | assumption | rfl
  · by_cases cw : w = 6
    · rw [if_neg (by omega)]
      simp only [q_apl]
      simp (disch := omega) only [E208, SHM hG, ↓if_neg, ↓if_pos, q_push_I, q_push_L, q_push_P, q_push_U]
      repeat' first | (refine And.intro ?_ ?_) | exact True.intro | omega | assumption | rfl
    · rw [if_pos (by omega), if_neg co]
      simp only [q_apl]
      by_cases c3 : w ≤ 3
      · simp (disch := first | assumption | omega | ((try simp (disch := omega) only [app_r, app_c]); first | assumption | omega)) only [E208, SHM hG, h1, e2, c_say, Int.toNat_natCast, ↓if_neg, ↓if_pos, q_push_I, q_push_L, q_push_P, q_push_U]
        repeat' first | (refine And.intro ?_ ?_) | exact True.intro | omega | assumption | rfl
      · simp (disch := first | assumption | omega | ((try simp (disch := omega) only [app_r, app_c]); first | assumption | omega)) only [E208, SHM hG, h1, e2, c_say, Int.toNat_natCast, ↓if_neg, ↓if_pos, q_push_I, q_push_L, q_push_P, q_push_U]
        repeat' first | (refine And.intro ?_ ?_) | exact True.intro | omega | assumption | rfl
end
