
/-! ===== runs: what grows, what stays ===== -/
theorem q_end_same {m : Nat} {x : q_I} {st : List q_V} {v v' : q_H} {G G' : q_Gr} {r : q_V} (h : q_end m x st v G = some (r, v', G')) : v' = v ∧ G' = G := by
  unfold q_end at h
  repeat' split at h
  all_goals first | (cases h; done) | (cases h; exact ⟨rfl, rfl⟩)
theorem q_str_same {m : Nat} {as : List q_V} {v v' : q_H} {G G' : q_Gr} {r : q_V} (h : q_str m as v G = some (r, v', G')) : v' = v ∧ G' = G := by
  unfold q_str at h
  repeat' split at h
  all_goals first | (cases h; done) | (cases h; exact ⟨rfl, rfl⟩)
theorem q_step_const {m pc : Nat} (hm : m < 227) {ls st : List q_V} {v : q_H} {G : q_Gr} {S : q_S} (h : q_step (q_code m pc) pc ls st v G = some S) (hck : ∀ a, a < 32 → 12 ≤ (G.2.1 a).1) : ∀ a, a < 32 → S.2.2.2.1 a = v a ∧ S.2.2.2.2.2.1 a = G.2.1 a := by
  generalize hx : q_code m pc = x at h
  have hpf : ∀ i, x.1 = .putfield i → x.2.2.1 < 12 := by
    intro i hi
    have := q_chkx_ok hm hx (fun q => by rw [q] at hi; cases hi)
    simp only [q_chkx, hi, q_fok, Bool.and_eq_true, decide_eq_true_eq] at this
    exact this.1.1.1.1
  obtain ⟨i, n, x1, x2, x3, x4, xi⟩ := x
  dsimp only at hpf
  unfold q_step at h
  dsimp only at h
  have up : ∀ (b k : Nat) (y : Int), 32 ≤ b → ∀ a, a < 32 → q_up v b k y a = v a := fun b k y hb a ha => by funext j; simp [q_up, show a ≠ b by omega]
  have zr : ∀ (b : Nat), 32 ≤ b → ∀ a, a < 32 → q_zr v b a = v a := fun b hb a ha => by funext j; simp [q_zr, show a ≠ b by omega]
  have cp : ∀ (b i c j n : Nat), 32 ≤ c → ∀ a, a < 32 → q_cp v b i c j n a = v a := fun b i c j n hb a ha => by funext k; simp [q_cp, show a ≠ c by omega]
  have sh : ∀ (kd n : Nat), ∀ a, a < 32 → (q_mk G kd n).2.1 a = G.2.1 a := fun kd n a ha => by simp [q_mk, q_sh1, show a ≠ 32 + G.2.2.1 by omega]
  have pf : ∀ b, (G.2.1 b).1 = x1 → x1 < 12 → 32 ≤ b := fun b h1 h2 => by
    rcases Nat.lt_or_ge b 32 with q | q
    · have := hck b q; omega
    · exact q
  cases i <;> dsimp only at h <;> first
    | (cases h; done)
    | (cases h; exact fun a ha => ⟨rfl, rfl⟩)
    | ((try simp only [q_1I, q_2I, q_1L, q_2L, q_LI, q_1P, q_1A, q_IA, q_IIA, q_AIA, q_IO, q_PO, q_5, q_lI, q_lL, q_lP, q_jmp, q_br] at h)
       repeat' split at h
       all_goals first
         | (cases h; done)
         | (cases h; exact fun a ha => ⟨rfl, rfl⟩)
         | (cases h; exact fun a ha => ⟨zr _ (Nat.le_add_right _ _) a ha, sh _ _ a ha⟩)
         | (next hh => cases h; exact fun a ha => ⟨up _ _ _ hh.2.1 a ha, rfl⟩)
         | (next hh => cases h; exact fun a ha => ⟨cp _ _ _ _ _ hh.2.2.2.2.2.1 a ha, rfl⟩)
         | (next hh => cases h; exact fun a ha => ⟨up _ _ _ (pf _ hh (hpf _ rfl)) a ha, rfl⟩))
section QR
variable {call : Nat → List q_V → q_H → q_Gr → Option q_R}
theorem q_exec_mono (hcall : ∀ m as v G r v' G', call m as v G = some (r, v', G') → G.2.2.1 ≤ G'.2.2.1 ∧ G.2.2.2 ≤ G'.2.2.2) : ∀ (n m pc : Nat) (ls st : List q_V) (v : q_H) (G : q_Gr) (r : q_V) (v' : q_H) (G' : q_Gr), q_exec call n m pc ls st v G = some (r, v', G') → G.2.2.1 ≤ G'.2.2.1 ∧ G.2.2.2 ≤ G'.2.2.2 := by
  intro n
  induction n with
  | zero => intro m pc ls st v G r v' G' h; cases h
  | succ n ih =>
    intro m pc ls st v G r v' G' h
    simp only [q_exec] at h
    split at h
    · split at h
      · next S1 S2 S3 S4 S5 hs =>
        have h1 := q_step_mono hs
        have h2 := ih _ _ _ _ _ _ _ _ _ h
        exact ⟨Nat.le_trans h1.1 h2.1, Nat.le_trans h1.2 h2.2⟩
      · cases h
    · split at h
      · split at h
        · next r1 v1 G1 hc =>
          have h1 := hcall _ _ _ _ _ _ _ hc
          have h2 := ih _ _ _ _ _ _ _ _ _ h
          exact ⟨Nat.le_trans h1.1 h2.1, Nat.le_trans h1.2 h2.2⟩
        · cases h
      · cases h
    · rw [(q_end_same h).2]
      exact ⟨Nat.le_refl _, Nat.le_refl _⟩
theorem q_exec_const (hcall : ∀ m as v G r v' G', call m as v G = some (r, v', G') → (∀ a, a < 32 → 12 ≤ (G.2.1 a).1) → ∀ a, a < 32 → v' a = v a ∧ G'.2.1 a = G.2.1 a) {m : Nat} (hm : m < 227) : ∀ (n pc : Nat) (ls st : List q_V) (v : q_H) (G : q_Gr) (r : q_V) (v' : q_H) (G' : q_Gr), q_exec call n m pc ls st v G = some (r, v', G') → (∀ a, a < 32 → 12 ≤ (G.2.1 a).1) → ∀ a, a < 32 → v' a = v a ∧ G'.2.1 a = G.2.1 a := by
  intro n
  induction n with
  | zero => intro pc ls st v G r v' G' h; cases h
  | succ n ih =>
    intro pc ls st v G r v' G' h hck a ha
    simp only [q_exec] at h
    split at h
    · split at h
      · next S1 S2 S3 S4 S5 hs =>
        have h1 := q_step_const hm hs hck
        dsimp only at h1
        have h2 := ih _ _ _ _ _ _ _ _ h (fun b hb => by rw [(h1 b hb).2]; exact hck b hb) a ha
        exact ⟨h2.1.trans (h1 a ha).1, h2.2.trans (h1 a ha).2⟩
      · cases h
    · split at h
      · split at h
        · next r1 v1 G1 hc =>
          have h1 := hcall _ _ _ _ _ _ _ hc hck
          have h2 := ih _ _ _ _ _ _ _ _ h (fun b hb => by rw [(h1 b hb).2]; exact hck b hb) a ha
          exact ⟨h2.1.trans (h1 a ha).1, h2.2.trans (h1 a ha).2⟩
        · cases h
      · cases h
    · obtain ⟨e1, e2⟩ := q_end_same h
      rw [e1, e2]
      exact ⟨rfl, rfl⟩
end QR
theorem q_run_mono (N : Nat) : ∀ (d m : Nat) (as : List q_V) (v : q_H) (G : q_Gr) (r : q_V) (v' : q_H) (G' : q_Gr), q_run N d m as v G = some (r, v', G') → G.2.2.1 ≤ G'.2.2.1 ∧ G.2.2.2 ≤ G'.2.2.2 := by
  intro d
  induction d with
  | zero => intro m as v G r v' G' h; cases h
  | succ d ih =>
    intro m as v G r v' G' h
    simp only [q_run] at h
    split at h
    · split at h
      · exact q_exec_mono ih _ _ _ _ _ _ _ _ _ _ h
      · cases h
    · split at h
      · rw [(q_str_same h).2]
        exact ⟨Nat.le_refl _, Nat.le_refl _⟩
      · cases h
theorem q_run_const (N : Nat) : ∀ (d m : Nat) (as : List q_V) (v : q_H) (G : q_Gr) (r : q_V) (v' : q_H) (G' : q_Gr), q_run N d m as v G = some (r, v', G') → (∀ a, a < 32 → 12 ≤ (G.2.1 a).1) → ∀ a, a < 32 → v' a = v a ∧ G'.2.1 a = G.2.1 a := by
  intro d
  induction d with
  | zero => intro m as v G r v' G' h; cases h
  | succ d ih =>
    intro m as v G r v' G' h hck a ha
    simp only [q_run] at h
    split at h
    · next hm =>
      split at h
      · exact q_exec_const ih hm _ _ _ _ _ _ _ _ _ h hck a ha
      · cases h
    · split at h
      · obtain ⟨e1, e2⟩ := q_str_same h
        rw [e1, e2]
        exact ⟨rfl, rfl⟩
      · cases h
/-! ===== the start of a method ===== -/
section QN
variable {z : Nat} {ad : Nat → Nat} {D : va_G} {cA : Nat → ClassId} {m d : Nat} {p : Program} {l : Launch} {e : Env} {R : Room} {s : State} {mm : MethodId} {args : Array Value} {below : List Frame} {meth : Method} {c : Code} {c0 s0 pc : Nat} {ls st : List q_V} {v : q_H} {G : q_Gr} {H : Heap}
def q_w1 (a : q_V) : List q_V := match a with
  | .inr (.inl k) => [(.inr (.inl k) : q_V), .inr (.inr (.inr ()))]
  | a => [a]
theorem q_ent_eq (as : List q_V) (n : Nat) : q_ent as n = as.flatMap q_w1 ++ List.replicate (n - q_wd as) (.inr (.inr (.inr ()))) := rfl
theorem q_wd_eq (as : List q_V) : q_wd as = (as.flatMap q_w1).length := rfl
theorem q_sl_len : ∀ as : List q_V, (lg_sl (as.map (q_tv z ad))).length = (as.flatMap q_w1).length
  | [] => rfl
  | a :: as => by
    have ih := q_sl_len as
    unfold lg_sl at ih ⊢
    rw [List.map_cons, List.flatMap_cons, List.flatMap_cons, List.length_append, List.length_append, ih]
    congr 1
    rcases a with a | a | a | a
    · rfl
    · rfl
    · cases a <;> rfl
    · rfl
theorem q_sl_at : ∀ (as : List q_V) (i : Nat) (c : q_V), (as.flatMap q_w1)[i]? = some c → c ≠ .inr (.inr (.inr ())) → (lg_sl (as.map (q_tv z ad)))[i]? = some (.val (q_tv z ad c))
  | [], i, c, h, _ => by simp at h
  | a :: as, i, c, h, hc => by
    have ih := q_sl_at as
    unfold lg_sl at ih ⊢
    rw [List.map_cons, List.flatMap_cons]
    rw [List.flatMap_cons] at h
    rcases a with a | a | a | a
    · match i, h with
      | 0, h => cases h; rfl
      | i + 1, h => exact ih i c h hc
    · match i, h with
      | 0, h => cases h; rfl
      | 1, h => cases h; exact absurd rfl hc
      | i + 2, h => exact ih i c h hc
    · cases a with
      | none => match i, h with
        | 0, h => cases h; rfl
        | i + 1, h => exact ih i c h hc
      | some a => match i, h with
        | 0, h => cases h; rfl
        | i + 1, h => exact ih i c h hc
    · match i, h with
      | 0, h => cases h; exact absurd rfl hc
      | i + 1, h => exact ih i c h hc
theorem q_entry (as : List q_V) {n : Nat} (h : q_wd as ≤ n) : q_L z ad (q_ent as n) ((lg_sl (as.map (q_tv z ad)) ++ List.replicate (n - (lg_sl (as.map (q_tv z ad))).length) Slot.unset).toArray) n := by
  have hl := q_sl_len (z := z) (ad := ad) as
  rw [q_wd_eq] at h
  have h1 := lv_entry (as.map (q_tv z ad)) (n := n) (by rw [hl]; exact h)
  refine ⟨h1.1, ?_, h1.2.1, fun i c hi hc => ?_⟩
  · rw [q_ent_eq, List.length_append, List.length_replicate, q_wd_eq]; omega
  · rw [q_ent_eq] at hi
    rw [List.getElem?_toArray]
    by_cases hlt : i < (as.flatMap q_w1).length
    · rw [List.getElem?_append_left hlt] at hi
      rw [List.getElem?_append_left (by rw [hl]; exact hlt)]
      exact q_sl_at as i c hi hc
    · rw [List.getElem?_append_right (by omega)] at hi
      have := List.mem_of_getElem? hi
      exact absurd (List.eq_of_mem_replicate this) hc
theorem q_lgB_lg (h : q_lgB m ls = true) : q_lg m ls := by
  intro i k hi
  have := List.all_eq_true.mp h (.inr (.inl k), i) (List.mem_zipIdx_iff_getElem?.mpr hi)
  exact q_contains.mp this
/-- a method's end -/
theorem q_sim_end (X : q_Cx z ad D cA m d p R s mm args meth c) (hm : m < 227) {r : q_V} {v' : q_H} {G' : q_Gr} (hk : q_kind (q_code m pc) ≠ 0 ∧ q_kind (q_code m pc) ≠ 1) (h : q_end m (q_code m pc) st v G = some (r, v', G')) : q_At z ad D cA m p l e R s mm args below meth c (MQ below (q_Qc z ad D cA r v' G') args s (G'.2.2.1 - c0) (G'.2.2.2 - s0) (q_A z)) c0 s0 (pc, ls, st, v, G) := by
  obtain ⟨rfl, rfl⟩ := q_end_same h
  intro H locs LS hW hK hS hL hg hc hs
  dsimp only at hW hK hL hg hc hs ⊢
  have hlocks := X.2.2.2.2.2.2.1
  generalize hx : q_code m pc = x at h hk
  obtain ⟨i, n, x1, x2, x3, x4, xi⟩ := x
  have hr0 := X.2.2.2.2.2.1
  have hq : ∀ r1 : q_V, ∀ t : State, t.heap = H → s.WarmedH t.vm → q_Qc z ad D cA r1 v' G' args s (.returned (q_rt z ad r1)) t := fun r1 t ht _ => ⟨rfl, by rw [ht]; exact hW, hS.F ht⟩
  cases i with
  | ireturn =>
    have hd := q_dec_ok hm hx (fun q => by cases q) (fun _ _ _ _ q => by cases q)
    simp only [q_end] at h
    split at h
    · next a heq =>
      split at h
      · next hr => cases h; rw [hr] at hr0; exact W.iret X.1 X.2.1 hr0 (hq (.inl a)) hS.2.2 hd hlocks
      · next hr =>
        split at h
        · next h01 =>
          cases h; rw [hr] at hr0
          have e0 : narrow .boolean (.int (Int32.ofInt a)) = .int (Int32.ofInt a) := by
            rcases (show a = 0 ∨ a = 1 by omega) with rfl | rfl <;> rfl
          exact W.zret X.1 X.2.1 hr0 e0 (hq (.inl a)) hS.2.2 hd hlocks
        · cases h
      · cases h
    all_goals first | (cases h; done) | (next q => cases q)
  | lreturn =>
    have hd := q_dec_ok hm hx (fun q => by cases q) (fun _ _ _ _ q => by cases q)
    simp only [q_end] at h
    split at h
    · next q => cases q
    · next a heq =>
      split at h
      · next hr => cases h; rw [hr] at hr0; exact W.lret X.1 X.2.1 hr0 (hq (.inr (.inl a))) hS.2.2 hd hlocks
      · cases h
    all_goals first | (cases h; done) | (next q => cases q)
  | areturn =>
    have hd := q_dec_ok hm hx (fun q => by cases q) (fun _ _ _ _ q => by cases q)
    simp only [q_end] at h
    split at h
    · next q => cases q
    · next q => cases q
    · next a heq =>
      have hv : q_tv z ad (.inr (.inr (.inl a))) = .null ∨ ∃ b, q_tv z ad (.inr (.inr (.inl a))) = .ref b := by
        cases a with
        | none => exact Or.inl rfl
        | some a => exact Or.inr ⟨_, rfl⟩
      split at h
      · next hr => cases h; rw [hr] at hr0; exact W.aret X.1 X.2.1 hr0 (Or.inl ⟨_, rfl⟩) hv (hq (.inr (.inr (.inl a)))) hS.2.2 hd hlocks
      · next hr => cases h; rw [hr] at hr0; exact W.aret X.1 X.2.1 hr0 (Or.inr ⟨_, rfl⟩) hv (hq (.inr (.inr (.inl a)))) hS.2.2 hd hlocks
      · cases h
    all_goals first | (cases h; done) | (next q => cases q)
  | return_ =>
    have hd := q_dec_ok hm hx (fun q => by cases q) (fun _ _ _ _ q => by cases q)
    simp only [q_end] at h
    split at h
    · next q => cases q
    · next q => cases q
    · next q => cases q
    · split at h
      · next hr => cases h; rw [hr] at hr0; exact W.vret X.1 X.2.1 hr0 (hq (.inr (.inr (.inr ())))) hS.2.2 hd hlocks
      · cases h
    · cases h
  | _ => first | exact absurd rfl hk.1 | (simp only [q_kind] at hk; split at hk <;> simp at hk) | exact absurd rfl hk.2
end QN
