
/-! ===== arrays, and what is made ===== -/
theorem q_ac_nat : Cond.native arraycopyName ∈ q_T := by decide +kernel
theorem q_ac_st : Cond.static arraycopyName ∈ q_T := by decide +kernel
theorem q_ac_in : Cond.initialized "java/lang/System" ∈ q_T := by decide +kernel
theorem q_mx_st : Cond.static Lib.Math.max.name ∈ q_T := by decide +kernel
theorem q_mn_st : Cond.static Lib.Math.min.name ∈ q_T := by decide +kernel
theorem q_mth_in : Cond.initialized "java/lang/Math" ∈ q_T := by decide +kernel
theorem q_mx_code : Cond.code Lib.Math.max.name Lib.Math.max.code 2 (some .int) ∈ q_T := by decide +kernel
theorem q_mn_code : Cond.code Lib.Math.min.name Lib.Math.min.code 2 (some .int) ∈ q_T := by decide +kernel
theorem q_aci : Cond.arrayClass .int ∈ q_T := by decide +kernel
theorem q_acb : Cond.arrayClass .boolean ∈ q_T := by decide +kernel
section QA
variable {z : Nat} {ad : Nat → Nat} {D : va_G} {cA : Nat → ClassId} {m d : Nat} {p : Program} {l : Launch} {e : Env} {R : Room} {s : State} {mm : MethodId} {args : Array Value} {below : List Frame} {meth : Method} {c : Code} {Q : State → Prop} {c0 s0 pc : Nat} {ls st : List q_V} {v : q_H} {G : q_Gr} {H : Heap}
theorem q_cats : ∀ l : List q_V, ((l.map (q_tv z ad)).map fun v => v.category).sum ≤ 2 * l.length := by
  intro l
  induction l with
  | nil => exact Nat.le_refl _
  | cons a l ih =>
    simp only [List.map_cons, List.sum_cons, List.length_cons]
    have := lv_cat (q_tv z ad a)
    omega
theorem q_arr {a : Nat} (hW : q_W z ad D cA v G H) (h1 : 32 ≤ a) (hk : (G.2.1 a).1 = 20 ∨ (G.2.1 a).1 = 21) : a < 32 + G.2.2.1 ∧ H[q_ad z ad a]? = some (arrV (cA (G.2.1 a).1) (G.2.1 a).2 (fun j => .int (Int32.ofInt (v a j)))) := by
  have h2 : a < 32 + G.2.2.1 := by
    rcases Nat.lt_or_ge a (32 + G.2.2.1) with q | q
    · exact q
    · have := hW.2.2.1 a q; omega
  refine ⟨h2, ?_⟩
  have h3 := hW.2.1 a h1 h2
  unfold q_cell at h3
  rw [if_neg (by omega), if_pos hk] at h3
  exact h3
theorem q_rarr {a : Nat} (hW : q_W z ad D cA v G H) {U : State} {H0 : Heap} (hK : q_K z ad v G U H0) (hk : 30 ≤ (G.2.1 a).1 ∧ (G.2.1 a).1 < 42) : 32 ≤ a ∧ a < 32 + G.2.2.1 ∧ ((G.2.1 a).1 = 30 ∨ (G.2.1 a).1 = 37 ∨ (G.2.1 a).1 = 38) ∧ H[q_ad z ad a]? = some (arrV (cA (G.2.1 a).1) (G.2.1 a).2 (fun j => q_rv z ad (G.1 a j))) := by
  obtain ⟨h1, h2⟩ := q_in hW hK (a := a) (by omega) (by omega) (by omega)
  refine ⟨h1, h2, ?_⟩
  have h3 := hW.2.1 a h1 h2
  unfold q_cell at h3
  rw [if_neg (by omega), if_neg (by omega)] at h3
  exact h3
theorem q_rcls {kd : Nat} (hk : kd = 30 ∨ kd = 37 ∨ kd = 38) (hK : va_K D vwCl (q_tys cA) s) : ArrOfT s (cA kd) (.object (q_cls (kd - 30)).1) ∧ va_RA s (cA kd) (.object (q_cls (kd - 30)).1) := by
  rcases hk with rfl | rfl | rfl
  · exact hK.2 2 _ rfl
  · exact hK.2 3 _ rfl
  · exact hK.2 4 _ rfl
theorem q_s_iald (X : q_Cx z ad D cA m d p R s mm args meth c) {a : Nat} {i : Int} (hd : decode (q_m m).2.1 pc = .ok (.iaload, 1)) (h : (G.2.1 a).1 = 20 ∧ 0 ≤ i ∧ i < (G.2.1 a).2) (k : q_At z ad D cA m p l e R s mm args below meth c Q c0 s0 (pc + 1, ls, .inl (v a i.toNat) :: st, v, G)) : q_At z ad D cA m p l e R s mm args below meth c Q c0 s0 (pc, ls, .inl i :: .inr (.inr (.inl (some a))) :: st, v, G) := by
  intro H locs LS hW hK hS hL hg hc hs
  dsimp only at hW hK hL hg hc hs ⊢
  have hn := hW.2.2.2 a
  have hin := q_vin h.2.1 h.2.2 hn
  have hcl : (Int32.ofInt i).toNatClampNeg = i.toNat := q_cl h.2.1 (by omega)
  have kk := k H locs LS hW hK hS hL hg hc hs
  by_cases ha : a < 32
  · rcases hK a ha with ⟨-, hT⟩ | ⟨q, -⟩ | q
    · have e1 : q_ad z ad a = ad a := by unfold q_ad; rw [if_pos ha]
      show W p l e R s mm args below meth c H locs _ _ Q (F0 mm pc LS (.int (Int32.ofInt i) :: .ref (q_ad z ad a) :: st.map (q_tv z ad)))
      rw [e1]
      exact va_ti X.1 X.2.1 hT hS hin (v := .int (Int32.ofInt (v a i.toNat))) (by rw [hcl]) hd kk
    · omega
    · omega
  · obtain ⟨-, hcell⟩ := q_arr hW (by omega) (Or.inl h.1)
    rw [h.1] at hcell
    exact W.iald (v := .int (Int32.ofInt (v a i.toNat))) X.1 X.2.1 hcell ((X.2.2.2.2.2.2.2.2.1.1.2 0 _ rfl).1 _ _) (fun q => by cases q) (by rw [arrV_size]; exact hin) (by rw [hcl, arrV_read _ _ (by omega)]) rfl rfl hd kk
theorem q_s_bald (X : q_Cx z ad D cA m d p R s mm args meth c) {a : Nat} {i : Int} (hd : decode (q_m m).2.1 pc = .ok (.baload, 1)) (h : (G.2.1 a).1 = 21 ∧ 0 ≤ i ∧ i < (G.2.1 a).2) (k : q_At z ad D cA m p l e R s mm args below meth c Q c0 s0 (pc + 1, ls, .inl (v a i.toNat) :: st, v, G)) : q_At z ad D cA m p l e R s mm args below meth c Q c0 s0 (pc, ls, .inl i :: .inr (.inr (.inl (some a))) :: st, v, G) := by
  intro H locs LS hW hK hS hL hg hc hs
  dsimp only at hW hK hL hg hc hs ⊢
  have hn := hW.2.2.2 a
  have hin := q_vin h.2.1 h.2.2 hn
  have hcl : (Int32.ofInt i).toNatClampNeg = i.toNat := q_cl h.2.1 (by omega)
  have kk := k H locs LS hW hK hS hL hg hc hs
  obtain ⟨h1, -⟩ := q_in hW hK (a := a) (by omega) (by omega) (by omega)
  obtain ⟨-, hcell⟩ := q_arr hW h1 (Or.inr h.1)
  rw [h.1] at hcell
  exact W.zald (v := .int (Int32.ofInt (v a i.toNat))) X.1 X.2.1 hcell ((X.2.2.2.2.2.2.2.2.1.1.2 1 _ rfl).1 _ _) (fun q => by cases q) (by rw [arrV_size]; exact hin) (by rw [hcl, arrV_read _ _ (by omega)]) rfl rfl hd kk
theorem q_s_aald (X : q_Cx z ad D cA m d p R s mm args meth c) {a : Nat} {i : Int} (hd : decode (q_m m).2.1 pc = .ok (.aaload, 1)) (h : 30 ≤ (G.2.1 a).1 ∧ (G.2.1 a).1 < 42 ∧ 0 ≤ i ∧ i < (G.2.1 a).2) (k : q_At z ad D cA m p l e R s mm args below meth c Q c0 s0 (pc + 1, ls, .inr (.inr (.inl (G.1 a i.toNat))) :: st, v, G)) : q_At z ad D cA m p l e R s mm args below meth c Q c0 s0 (pc, ls, .inl i :: .inr (.inr (.inl (some a))) :: st, v, G) := by
  intro H locs LS hW hK hS hL hg hc hs
  dsimp only at hW hK hL hg hc hs ⊢
  have hn := hW.2.2.2 a
  have hin := q_vin h.2.2.1 h.2.2.2 hn
  have hcl : (Int32.ofInt i).toNatClampNeg = i.toNat := q_cl h.2.2.1 (by omega)
  have kk := k H locs LS hW hK hS hL hg hc hs
  obtain ⟨h1, h2, h3, hcell⟩ := q_rarr hW hK ⟨h.1, h.2.1⟩
  obtain ⟨hA, -⟩ := q_rcls h3 X.2.2.2.2.2.2.2.2.1.1
  exact W.aald (v := q_rv z ad (G.1 a i.toNat)) (ty := .object (q_cls ((G.2.1 a).1 - 30)).1) X.1 X.2.1 hcell (hA _ _) rfl (fun q => by cases q) (by rw [arrV_size]; exact hin) (by rw [hcl, arrV_read _ _ (by omega)]) rfl rfl hd kk
theorem q_s_alen (X : q_Cx z ad D cA m d p R s mm args meth c) {a : Nat} (hd : decode (q_m m).2.1 pc = .ok (.arraylength, 1)) (h : (G.2.1 a).1 = 20 ∨ (G.2.1 a).1 = 21) (k : q_At z ad D cA m p l e R s mm args below meth c Q c0 s0 (pc + 1, ls, .inl ((G.2.1 a).2 : Int) :: st, v, G)) : q_At z ad D cA m p l e R s mm args below meth c Q c0 s0 (pc, ls, .inr (.inr (.inl (some a))) :: st, v, G) := by
  intro H locs LS hW hK hS hL hg hc hs
  dsimp only at hW hK hL hg hc hs ⊢
  have hn := hW.2.2.2 a
  have kk := k H locs LS hW hK hS hL hg hc hs
  have e0 : Int32.ofNat (G.2.1 a).2 = Int32.ofInt ((G.2.1 a).2 : Int) := Int32.ofInt_eq_ofNat.symm
  by_cases ha : a < 32
  · rcases hK a ha with ⟨q, hT⟩ | ⟨q, -⟩ | q
    · have e1 : q_ad z ad a = ad a := by unfold q_ad; rw [if_pos ha]
      show W p l e R s mm args below meth c H locs _ _ Q (F0 mm pc LS (.ref (q_ad z ad a) :: st.map (q_tv z ad)))
      rw [e1]
      exact va_tlen X.1 X.2.1 hT hS e0 hd kk
    · omega
    · omega
  · obtain ⟨-, hcell⟩ := q_arr hW (by omega) h
    have hsz : (arrV (cA (G.2.1 a).1) (G.2.1 a).2 (fun j => .int (Int32.ofInt (v a j)))).slots.size.toInt32 = Int32.ofInt ((G.2.1 a).2 : Int) := by rw [arrV_size, ← e0]
    rcases h with h | h
    · rw [h] at hcell hsz
      exact W.alen X.1 X.2.1 hcell ((X.2.2.2.2.2.2.2.2.1.1.2 0 _ rfl).1 _ _) hsz rfl rfl hd kk
    · rw [h] at hcell hsz
      exact W.alen X.1 X.2.1 hcell ((X.2.2.2.2.2.2.2.2.1.1.2 1 _ rfl).1 _ _) hsz rfl rfl hd kk
/-- an int array behind a write -/
theorem q_cell_up {a i : Nat} {y : Int} {H' : Heap} (hk : (G.2.1 a).1 = 20 ∨ (G.2.1 a).1 = 21) (e : H'[q_ad z ad a]? = some ((arrV (cA (G.2.1 a).1) (G.2.1 a).2 (fun j => .int (Int32.ofInt (v a j)))).setSlot i (.int (Int32.ofInt y)))) : q_cell z ad D cA (q_up v a i y) G a H' := by
  unfold q_cell
  rw [if_neg (by omega), if_pos hk, e, arrV_store]
  congr 2
  funext j
  unfold updV q_up
  by_cases hj : j = i <;> simp [hj]
theorem q_up_ne {a b i : Nat} {y : Int} (h : b ≠ a) : q_up v a i y b = v b := by
  funext j; simp [q_up, h]
theorem q_s_iast (X : q_Cx z ad D cA m d p R s mm args meth c) {a : Nat} {i y : Int} (hd : decode (q_m m).2.1 pc = .ok (.iastore, 1)) (h : (G.2.1 a).1 = 20 ∧ 32 ≤ a ∧ 0 ≤ i ∧ i < (G.2.1 a).2) (k : q_At z ad D cA m p l e R s mm args below meth c Q c0 s0 (pc + 1, ls, st, q_up v a i.toNat y, G)) : q_At z ad D cA m p l e R s mm args below meth c Q c0 s0 (pc, ls, .inl y :: .inl i :: .inr (.inr (.inl (some a))) :: st, v, G) := by
  intro H locs LS hW hK hS hL hg hc hs
  dsimp only at hW hK hL hg hc hs ⊢
  have hn := hW.2.2.2 a
  have hin := q_vin h.2.2.1 h.2.2.2 hn
  have hcl : (Int32.ofInt i).toNatClampNeg = i.toNat := q_cl h.2.2.1 (by omega)
  obtain ⟨h2, hcell⟩ := q_arr hW h.2.1 (Or.inl h.1)
  have hcell' := hcell
  rw [h.1] at hcell'
  refine W.iast X.1 X.2.1 hcell' ((X.2.2.2.2.2.2.2.2.1.1.2 0 _ rfl).1 _ _) (fun q => by cases q) (by rw [arrV_size]; exact hin) rfl rfl hd fun H' e1 e2 e3 => ?_
  rw [hcl] at e1
  rw [← h.1] at e1
  exact k H' _ LS (hW.put h.2.1 e2 e3 rfl (fun b hb => q_up_ne hb) (fun _ _ => rfl) (q_cell_up (Or.inl h.1) e1)) (hK.kept (fun b hb => q_up_ne (by omega)) (fun _ _ => rfl)) (hS.put e2 e3 (by rw [q_ad_w h.2.1]; show z ≤ _; omega)) hL hg hc hs
theorem q_s_bast (X : q_Cx z ad D cA m d p R s mm args meth c) {a : Nat} {i y : Int} (hd : decode (q_m m).2.1 pc = .ok (.bastore, 1)) (h : (G.2.1 a).1 = 21 ∧ 32 ≤ a ∧ (0 ≤ y ∧ y ≤ 1) ∧ 0 ≤ i ∧ i < (G.2.1 a).2) (k : q_At z ad D cA m p l e R s mm args below meth c Q c0 s0 (pc + 1, ls, st, q_up v a i.toNat y, G)) : q_At z ad D cA m p l e R s mm args below meth c Q c0 s0 (pc, ls, .inl y :: .inl i :: .inr (.inr (.inl (some a))) :: st, v, G) := by
  intro H locs LS hW hK hS hL hg hc hs
  dsimp only at hW hK hL hg hc hs ⊢
  have hn := hW.2.2.2 a
  have hin := q_vin h.2.2.2.1 h.2.2.2.2 hn
  have hcl : (Int32.ofInt i).toNatClampNeg = i.toNat := q_cl h.2.2.2.1 (by omega)
  obtain ⟨h2, hcell⟩ := q_arr hW h.2.1 (Or.inr h.1)
  have hcell' := hcell
  rw [h.1] at hcell'
  refine W.zast X.1 X.2.1 hcell' ((X.2.2.2.2.2.2.2.2.1.1.2 1 _ rfl).1 _ _) (fun q => by cases q) (by rw [arrV_size]; exact hin) rfl rfl hd fun H' e1 e2 e3 => ?_
  have e0 : narrow .boolean (.int (Int32.ofInt y)) = .int (Int32.ofInt y) := by
    rcases (show y = 0 ∨ y = 1 by omega) with rfl | rfl <;> rfl
  rw [hcl, e0] at e1
  rw [← h.1] at e1
  exact k H' _ LS (hW.put h.2.1 e2 e3 rfl (fun b hb => q_up_ne hb) (fun _ _ => rfl) (q_cell_up (Or.inr h.1) e1)) (hK.kept (fun b hb => q_up_ne (by omega)) (fun _ _ => rfl)) (hS.put e2 e3 (by rw [q_ad_w h.2.1]; show z ≤ _; omega)) hL hg hc hs
theorem q_s_aast (X : q_Cx z ad D cA m d p R s mm args meth c) {a b : Nat} {i : Int} (hd : decode (q_m m).2.1 pc = .ok (.aastore, 1)) (h : (G.2.1 b).1 < 12 ∧ (G.2.1 a).1 = 30 + (G.2.1 b).1 ∧ 0 ≤ i ∧ i < (G.2.1 a).2) (k : q_At z ad D cA m p l e R s mm args below meth c Q c0 s0 (pc + 1, ls, st, v, (q_upr G.1 a i.toNat (some b), G.2))) : q_At z ad D cA m p l e R s mm args below meth c Q c0 s0 (pc, ls, .inr (.inr (.inl (some b))) :: .inl i :: .inr (.inr (.inl (some a))) :: st, v, G) := by
  intro H locs LS hW hK hS hL hg hc hs
  dsimp only at hW hK hL hg hc hs ⊢
  have hn := hW.2.2.2 a
  have hin := q_vin h.2.2.1 h.2.2.2 hn
  have hcl : (Int32.ofInt i).toNatClampNeg = i.toNat := q_cl h.2.2.1 (by omega)
  obtain ⟨h1, h2, h3, hcell⟩ := q_rarr (a := a) hW hK ⟨by omega, by omega⟩
  obtain ⟨hA, hRA⟩ := q_rcls h3 X.2.2.2.2.2.2.2.2.1.1
  obtain ⟨b1, b2, cellV, g1, g2, g3, -⟩ := q_obj hW hK (a := b) rfl h.1
  have hcls := (X.2.2.2.2.2.2.2.2.1.1.1 _ _ (q_cls_get h.1)).2
  obtain ⟨kA, comp, k1, k2, k3, -⟩ := hRA
  rw [show (G.2.1 a).1 - 30 = (G.2.1 b).1 by omega] at k2 k3
  have hcomp : comp = D.1 (G.2.1 b).1 := Option.some.inj (k3.symm.trans hcls.1)
  subst hcomp
  obtain ⟨kC, hkC, hkind⟩ := hcls.2
  refine W.aast X.1 X.2.1 hcell (fun q h => by cases h) (fun h => by cases h) k1 k2 rfl hkC ⟨fun q => hin (Or.inl q), by rw [arrV_size]; exact Nat.not_le.mp fun q => hin (Or.inr q)⟩ g1 (fun q h => by rw [g3] at h; cases h) (by rw [g2]; exact hkC) (by rw [g2]; exact va_assign hcls) rfl rfl hd fun H' e1 e2 e3 => ?_
  rw [hcl] at e1
  refine k H' _ LS (hW.put h1 e2 e3 rfl (fun _ _ => rfl) (fun c hb => by funext j; simp [q_upr, hb]) ?_) hK (hS.put e2 e3 (by rw [q_ad_w h1]; show z ≤ _; omega)) hL hg hc hs
  unfold q_cell
  show if (G.2.1 a).1 < 12 then _ else _
  rw [if_neg (by omega)]
  show if (G.2.1 a).1 = 20 ∨ (G.2.1 a).1 = 21 then _ else _
  rw [if_neg (by omega)]
  refine ⟨h3, ?_⟩
  rw [e1, arrV_store]
  congr 2
  funext j
  unfold updV q_upr
  by_cases hj : j = i.toNat
  · simp [hj, q_rv, va_rf]
  · simp [hj]
/-- the world with a new cell -/
theorem q_W.mk {kd n : Nat} {H' : Heap} (hW : q_W z ad D cA v G H) (hn : n ≤ 2147483647) (hz : H'.size = H.size + 1) (ho : ∀ q, q < H.size → H'[q]? = H[q]?) (hc : q_cell z ad D cA (q_zr v (32 + G.2.2.1)) (q_mk G kd n) (32 + G.2.2.1) H') : q_W z ad D cA (q_zr v (32 + G.2.2.1)) (q_mk G kd n) H' := by
  refine ⟨by rw [hz, hW.1]; rfl, fun b b1 b2 => ?_, fun b hb => ?_, fun b => ?_⟩
  · have b2 : b < 32 + (G.2.2.1 + 1) := b2
    by_cases e : b = 32 + G.2.2.1
    · subst e; exact hc
    · refine (hW.2.1 b b1 (by omega)).kept (ho _ ?_) ?_ ?_ ?_
      · rw [q_ad_w b1, hW.1]; omega
      · funext j; simp [q_zr, e]
      · funext j; simp [q_mk, q_zrr, e]
      · simp [q_mk, q_sh1, e]
  · have hb : 32 + (G.2.2.1 + 1) ≤ b := hb
    have e : b ≠ 32 + G.2.2.1 := by omega
    simp only [q_mk, q_sh1, if_neg e]
    exact hW.2.2.1 b (by omega)
  · by_cases e : b = 32 + G.2.2.1
    · simp [q_mk, q_sh1, e, hn]
    · simp only [q_mk, q_sh1, if_neg e]
      exact hW.2.2.2 b
theorem q_K.mk {kd n : Nat} {U : State} {H0 : Heap} (hK : q_K z ad v G U H0) : q_K z ad (q_zr v (32 + G.2.2.1)) (q_mk G kd n) U H0 := hK.kept (fun b hb => by funext j; simp [q_zr, show b ≠ 32 + G.2.2.1 by omega]) (fun b hb => by simp [q_mk, q_sh1, show b ≠ 32 + G.2.2.1 by omega])
theorem q_S.mk {H0 H' : Heap} {locs : List Loc} (hS : va_S (q_A z) H0 H locs) (hz : H'.size = H.size + 1) (ho : ∀ q, q < H.size → H'[q]? = H[q]?) : va_S (q_A z) H0 H' locs := ⟨by have := hS.1; omega, fun q h1 h2 => (ho q (Nat.lt_of_lt_of_le h1 hS.1)).trans (hS.2.1 q h1 h2), hS.2.2⟩
theorem q_s_new (X : q_Cx z ad D cA m d p R s mm args meth c) {i h ci n : Nat} (hd : decode (q_m m).2.1 pc = .ok (.new i, 3)) (hci : ci < 12) (hn : n = (q_cls ci).2.2) (hw : q_at h (.classLink (q_m m).2.2.2.2.1 i (q_cls ci).1) = true) (hr : G.2.2.2 + n ≤ 7302250) (hR : G.2.2.1 + 1 ≤ c0 + R.cells ∧ G.2.2.2 + n ≤ s0 + R.slots) (k : q_At z ad D cA m p l e R s mm args below meth c Q c0 s0 (pc + 3, ls, .inr (.inr (.inl (some (32 + G.2.2.1)))) :: st, q_zr v (32 + G.2.2.1), q_mk G ci n)) : q_At z ad D cA m p l e R s mm args below meth c Q c0 s0 (pc, ls, st, v, G) := by
  intro H locs LS hW hK hS hL hg hc hs
  dsimp only at hW hK hL hg hc hs ⊢
  subst hn
  have hc : c0 ≤ G.2.2.1 := hc
  have hs : s0 ≤ G.2.2.2 := hs
  obtain ⟨hty, hnm, hin, hnew, hir⟩ := q_cl_ok (q_cls_get hci)
  have hKn := X.2.2.2.2.2.2.2.2.1.1.1 _ _ (q_cls_get hci)
  refine W.newcK (H := H) (h := H.size) X.1 X.2.1 X.2.2.2.1 (X.2.2.2.2.1 _ (q_at_mem hw)) (X.2.2.2.2.1 _ hnew.1) (X.2.2.2.2.1 _ hnew.2) rfl hd (by omega) (by omega) hKn.2.1 rfl fun H' kC hkC e1 e2 e3 => ?_
  have hadr : q_ad z ad (32 + G.2.2.1) = H.size := by rw [q_ad_w (by omega), hW.1]; omega
  have hcell : q_cell z ad D cA (q_zr v (32 + G.2.2.1)) (q_mk G ci (q_cls ci).2.2) (32 + G.2.2.1) H' := by
    have hk : ((q_mk G ci (q_cls ci).2.2).2.1 (32 + G.2.2.1)) = (ci, (q_cls ci).2.2) := by simp [q_mk, q_sh1]
    unfold q_cell
    rw [hk, if_pos hci]
    refine ⟨_, q_cls_get hci, ?_⟩
    rw [hadr]
    refine (u_born (q_ft ci) X.2.2.2.2.1 hin hKn hkC e1 hty).to (fun j hj => ?_)
    unfold q_fv
    rw [hk]
    rcases hir j hj with q | q
    · rw [if_pos q, q]; simp [q_zr, defaultValue]
    · have hne : ¬ q_ft ci j = .int := fun q2 => by rw [q2] at q; cases q
      rw [if_neg hne]
      have : (q_mk G ci (q_cls ci).2.2).1 (32 + G.2.2.1) j = none := by simp [q_mk, q_zrr]
      rw [this]
      generalize q_ft ci j = ty at q
      cases ty <;> first | (cases q; done) | rfl
  have kk := k H' locs LS (hW.mk (by omega) e2 e3 hcell) hK.mk (q_S.mk hS e2 e3) hL hg (by show c0 ≤ G.2.2.1 + 1; omega) (by show s0 ≤ G.2.2.2 + _; omega)
  have kk : W p l e R s mm args below meth c H' locs (G.2.2.1 + 1 - c0) (G.2.2.2 + (q_cls ci).2.2 - s0) Q (F0 mm (pc + 3) LS (.ref (q_ad z ad (32 + G.2.2.1)) :: st.map (q_tv z ad))) := kk
  rw [hadr, show G.2.2.1 + 1 - c0 = G.2.2.1 - c0 + 1 by omega, show G.2.2.2 + (q_cls ci).2.2 - s0 = G.2.2.2 - s0 + (q_cls ci).2.2 by omega] at kk
  exact kk
theorem q_s_newa (X : q_Cx z ad D cA m d p R s mm args meth c) {n : Int} {t : ArrayType} {kd : Nat} (hd : decode (q_m m).2.1 pc = .ok (.newarray t, 2)) (ht : (t = .int ∧ kd = 20) ∨ (t = .boolean ∧ kd = 21)) (hn : 0 ≤ n) (hr : G.2.2.2 + n.toNat ≤ 7302250) (hR : G.2.2.1 + 1 ≤ c0 + R.cells ∧ G.2.2.2 + n.toNat ≤ s0 + R.slots) (k : q_At z ad D cA m p l e R s mm args below meth c Q c0 s0 (pc + 2, ls, .inr (.inr (.inl (some (32 + G.2.2.1)))) :: st, q_zr v (32 + G.2.2.1), q_mk G kd n.toNat)) : q_At z ad D cA m p l e R s mm args below meth c Q c0 s0 (pc, ls, .inl n :: st, v, G) := by
  intro H locs LS hW hK hS hL hg hc hs
  dsimp only at hW hK hL hg hc hs ⊢
  have hc : c0 ≤ G.2.2.1 := hc
  have hs : s0 ≤ G.2.2.2 := hs
  have hadr : q_ad z ad (32 + G.2.2.1) = H.size := by rw [q_ad_w (by omega), hW.1]; omega
  have hcl : (Int32.ofInt n).toNatClampNeg = n.toNat := q_cl hn (by omega)
  have hdv : defaultValue (newarray.typeOf t) = .int 0 := by rcases ht with ⟨rfl, -⟩ | ⟨rfl, -⟩ <;> rfl
  have hcb : componentBytes (newarray.typeOf t) ≤ 4 := by rcases ht with ⟨rfl, -⟩ | ⟨rfl, -⟩ <;> decide
  have hac : (Cond.arrayClass (newarray.typeOf t)).before args s = true := by
    rcases ht with ⟨rfl, -⟩ | ⟨rfl, -⟩
    · exact X.2.2.2.2.1 _ q_aci
    · exact X.2.2.2.2.1 _ q_acb
  have hcA : s.vm.findClass ("[" ++ (newarray.typeOf t).toString) = some (cA kd) := by
    rcases ht with ⟨rfl, rfl⟩ | ⟨rfl, rfl⟩
    · exact (X.2.2.2.2.2.2.2.2.1.1.2 0 _ rfl).2
    · exact (X.2.2.2.2.2.2.2.2.1.1.2 1 _ rfl).2
  refine va_newaK (H := H) (h := H.size) X.1 X.2.1 hac rfl hd rfl (q_neg hn (by omega)) hcl (by have := Nat.mul_le_mul_left n.toNat hcb; omega) (by omega) (by omega) rfl fun H' cA' e1 e2 e3 _ e4 => ?_
  cases hcA.symm.trans e4
  have hcell : q_cell z ad D cA (q_zr v (32 + G.2.2.1)) (q_mk G kd n.toNat) (32 + G.2.2.1) H' := by
    have hk : ((q_mk G kd n.toNat).2.1 (32 + G.2.2.1)) = (kd, n.toNat) := by simp [q_mk, q_sh1]
    unfold q_cell
    rw [hk, hadr]
    rw [if_neg (by rcases ht with ⟨-, rfl⟩ | ⟨-, rfl⟩ <;> simp), if_pos (by rcases ht with ⟨-, rfl⟩ | ⟨-, rfl⟩ <;> simp), e1, hdv]
    congr 2
    funext j
    simp [q_zr]
  have kk := k H' locs LS (hW.mk (by omega) e2 e3 hcell) hK.mk (q_S.mk hS e2 e3) hL hg (by show c0 ≤ G.2.2.1 + 1; omega) (by show s0 ≤ G.2.2.2 + _; omega)
  have kk : W p l e R s mm args below meth c H' locs (G.2.2.1 + 1 - c0) (G.2.2.2 + n.toNat - s0) Q (F0 mm (pc + 2) LS (.ref (q_ad z ad (32 + G.2.2.1)) :: st.map (q_tv z ad))) := kk
  rw [hadr, show G.2.2.1 + 1 - c0 = G.2.2.1 - c0 + 1 by omega, show G.2.2.2 + n.toNat - s0 = G.2.2.2 - s0 + n.toNat by omega] at kk
  exact kk
theorem q_s_anew (X : q_Cx z ad D cA m d p R s mm args meth c) {n : Int} {i h ci : Nat} (hd : decode (q_m m).2.1 pc = .ok (.anewarray i, 3)) (hci : ci = 0 ∨ ci = 7 ∨ ci = 8) (hw : q_at h (.classLink (q_m m).2.2.2.2.1 i (q_cls ci).1) = true) (hn : 0 ≤ n) (hr : G.2.2.2 + n.toNat ≤ 7302250) (hR : G.2.2.1 + 1 ≤ c0 + R.cells ∧ G.2.2.2 + n.toNat ≤ s0 + R.slots) (k : q_At z ad D cA m p l e R s mm args below meth c Q c0 s0 (pc + 3, ls, .inr (.inr (.inl (some (32 + G.2.2.1)))) :: st, q_zr v (32 + G.2.2.1), q_mk G (30 + ci) n.toNat)) : q_At z ad D cA m p l e R s mm args below meth c Q c0 s0 (pc, ls, .inl n :: st, v, G) := by
  intro H locs LS hW hK hS hL hg hc hs
  dsimp only at hW hK hL hg hc hs ⊢
  have hc : c0 ≤ G.2.2.1 := hc
  have hs : s0 ≤ G.2.2.2 := hs
  have hadr : q_ad z ad (32 + G.2.2.1) = H.size := by rw [q_ad_w (by omega), hW.1]; omega
  have hcl : (Int32.ofInt n).toNatClampNeg = n.toNat := q_cl hn (by omega)
  have hao : va_AO (q_cls ci).1 s := by
    have := X.2.2.2.2.2.2.2.2.1.2.2.1
    rcases hci with rfl | rfl | rfl
    · exact this.1
    · exact this.2.1
    · exact this.2.2
  obtain ⟨-, hRA⟩ := q_rcls (kd := 30 + ci) (by omega) X.2.2.2.2.2.2.2.2.1.1
  rw [show 30 + ci - 30 = ci by omega] at hRA
  obtain ⟨kA0, comp0, a1, a2, a3, a4⟩ := hRA
  refine W.anew X.1 X.2.1 X.2.2.2.1 (X.2.2.2.2.1 _ (q_at_mem hw)) (va_AO.use hao) rfl hd rfl (q_neg hn (by omega)) (by rw [hcl]; omega) (by omega) (by rw [hcl]; omega) fun cA' kA comp f1 f2 f3 f4 => ?_
  cases a4.symm.trans f1
  rw [hcl]
  generalize hH1 : H.push ({ cls := cA (30 + ci), slots := Array.replicate n.toNat .null, vm := .none } : Cell) = H'
  have e2 : H'.size = H.size + 1 := by rw [← hH1, Array.size_push]
  have e1 : H'[H.size]? = some (arrV (cA (30 + ci)) n.toNat (fun _ => .null)) := by rw [← hH1, Array.getElem?_push_size, ← arrV_new]
  have e3 : ∀ q : Nat, q < H.size → H'[q]? = H[q]? := fun q hq => by rw [← hH1, Array.getElem?_push, if_neg (Nat.ne_of_lt hq)]
  have hcell : q_cell z ad D cA (q_zr v (32 + G.2.2.1)) (q_mk G (30 + ci) n.toNat) (32 + G.2.2.1) H' := by
    have hk : ((q_mk G (30 + ci) n.toNat).2.1 (32 + G.2.2.1)) = (30 + ci, n.toNat) := by simp [q_mk, q_sh1]
    unfold q_cell
    rw [hk, hadr]
    rw [if_neg (by show ¬ (30 + ci < 12); omega), if_neg (by show ¬ (30 + ci = 20 ∨ 30 + ci = 21); omega)]
    refine ⟨by show 30 + ci = 30 ∨ 30 + ci = 37 ∨ 30 + ci = 38; omega, ?_⟩
    rw [e1]
    congr 2
    funext j
    simp [q_mk, q_zrr, q_rv, va_rf]
  have kk := k H' locs LS (hW.mk (by omega) e2 e3 hcell) hK.mk (q_S.mk hS e2 e3) hL hg (by show c0 ≤ G.2.2.1 + 1; omega) (by show s0 ≤ G.2.2.2 + _; omega)
  have kk : W p l e R s mm args below meth c H' locs (G.2.2.1 + 1 - c0) (G.2.2.2 + n.toNat - s0) Q (F0 mm (pc + 3) LS (.ref (q_ad z ad (32 + G.2.2.1)) :: st.map (q_tv z ad))) := kk
  rw [hadr, show G.2.2.1 + 1 - c0 = G.2.2.1 - c0 + 1 by omega, show G.2.2.2 + n.toNat - s0 = G.2.2.2 - s0 + n.toNat by omega] at kk
  exact kk
theorem q_s_max (X : q_Cx z ad D cA m d p R s mm args meth c) {i h : Nat} {a b : Int} (hd : decode (q_m m).2.1 pc = .ok (.invokestatic i, 3)) (hw : q_at h (.methodLink (q_m m).2.2.2.2.1 i Lib.Math.max.name) = true) (h1 : q_inR a ∧ q_inR b ∧ st.length ≤ 4) (hRc : G.2.2.1 ≤ c0 + R.cells ∧ G.2.2.2 ≤ s0 + R.slots) (k : q_At z ad D cA m p l e R s mm args below meth c Q c0 s0 (pc + 3, ls, .inl (if a < b then b else a) :: st, v, G)) : q_At z ad D cA m p l e R s mm args below meth c Q c0 s0 (pc, ls, .inl b :: .inl a :: st, v, G) := by
  intro H locs LS hW hK hS hL hg hc hs
  dsimp only at hW hK hL hg hc hs ⊢
  have hc' : c0 ≤ G.2.2.1 := hc
  have hs' : s0 ≤ G.2.2.2 := hs
  have h8 := q_cats (z := z) (ad := ad) st
  have kk := k H locs LS hW hK hS hL hg hc hs
  refine va_mmax X.1 X.2.1 (by rw [X.2.2.1]; exact hL.1.symm) X.2.2.2.1 (X.2.2.2.2.1 _ (q_at_mem hw)) (X.2.2.2.2.1 _ q_mx_st) (X.2.2.2.2.1 _ q_mth_in) (X.2.2.2.2.1 _ q_mx_code) (by have := X.2.2.2.2.2.2.2.2.2.2.1; omega) (by have := X.2.2.2.2.2.2.2.2.2.2.2; omega) (by show G.2.2.1 - c0 ≤ _; omega) (by show G.2.2.2 - s0 ≤ _; omega) hd ?_
  have e1 : (if Int32.ofInt a < Int32.ofInt b then Int32.ofInt b else Int32.ofInt a) = Int32.ofInt (if a < b then b else a) := by
    by_cases q : a < b
    · rw [if_pos ((q_lt32 h1.1 h1.2.1).mpr q), if_pos q]
    · rw [if_neg (fun z => q ((q_lt32 h1.1 h1.2.1).mp z)), if_neg q]
  rw [e1]
  exact kk
theorem q_s_min (X : q_Cx z ad D cA m d p R s mm args meth c) {i h : Nat} {a b : Int} (hd : decode (q_m m).2.1 pc = .ok (.invokestatic i, 3)) (hw : q_at h (.methodLink (q_m m).2.2.2.2.1 i Lib.Math.min.name) = true) (h1 : q_inR a ∧ q_inR b ∧ st.length ≤ 4) (hRc : G.2.2.1 ≤ c0 + R.cells ∧ G.2.2.2 ≤ s0 + R.slots) (k : q_At z ad D cA m p l e R s mm args below meth c Q c0 s0 (pc + 3, ls, .inl (if b < a then b else a) :: st, v, G)) : q_At z ad D cA m p l e R s mm args below meth c Q c0 s0 (pc, ls, .inl b :: .inl a :: st, v, G) := by
  intro H locs LS hW hK hS hL hg hc hs
  dsimp only at hW hK hL hg hc hs ⊢
  have hc' : c0 ≤ G.2.2.1 := hc
  have hs' : s0 ≤ G.2.2.2 := hs
  have h8 := q_cats (z := z) (ad := ad) st
  have kk := k H locs LS hW hK hS hL hg hc hs
  refine va_mmin X.1 X.2.1 (by rw [X.2.2.1]; exact hL.1.symm) X.2.2.2.1 (X.2.2.2.2.1 _ (q_at_mem hw)) (X.2.2.2.2.1 _ q_mn_st) (X.2.2.2.2.1 _ q_mth_in) (X.2.2.2.2.1 _ q_mn_code) (by have := X.2.2.2.2.2.2.2.2.2.2.1; omega) (by have := X.2.2.2.2.2.2.2.2.2.2.2; omega) (by show G.2.2.1 - c0 ≤ _; omega) (by show G.2.2.2 - s0 ≤ _; omega) hd ?_
  have e1 : (if Int32.ofInt b < Int32.ofInt a then Int32.ofInt b else Int32.ofInt a) = Int32.ofInt (if b < a then b else a) := by
    by_cases q : b < a
    · rw [if_pos ((q_lt32 h1.2.1 h1.1).mpr q), if_pos q]
    · rw [if_neg (fun z => q ((q_lt32 h1.2.1 h1.1).mp z)), if_neg q]
  rw [e1]
  exact kk
theorem q_s_copy (X : q_Cx z ad D cA m d p R s mm args meth c) {ix h a b : Nat} {i j n : Int} (hd : decode (q_m m).2.1 pc = .ok (.invokestatic ix, 3)) (hw : q_at h (.methodLink (q_m m).2.2.2.2.1 ix arraycopyName) = true) (h1 : st.length ≤ 4 ∧ (G.2.1 a).1 = 20 ∧ (G.2.1 b).1 = 20 ∧ 32 ≤ a ∧ 32 ≤ b ∧ 0 ≤ i ∧ 0 ≤ j ∧ 0 ≤ n ∧ i + n ≤ (G.2.1 a).2 ∧ j + n ≤ (G.2.1 b).2) (k : q_At z ad D cA m p l e R s mm args below meth c Q c0 s0 (pc + 3, ls, st, q_cp v a i.toNat b j.toNat n.toNat, G)) : q_At z ad D cA m p l e R s mm args below meth c Q c0 s0 (pc, ls, .inl n :: .inl j :: .inr (.inr (.inl (some b))) :: .inl i :: .inr (.inr (.inl (some a))) :: st, v, G) := by
  intro H locs LS hW hK hS hL hg hc hs
  dsimp only at hW hK hL hg hc hs ⊢
  obtain ⟨h8, ka, kb, a1, b1, i0, j0, n0, hi, hj⟩ := h1
  have hna := hW.2.2.2 a
  have hnb := hW.2.2.2 b
  have ci : (Int32.ofInt i).toNatClampNeg = i.toNat := q_cl i0 (by omega)
  have cj : (Int32.ofInt j).toNatClampNeg = j.toNat := q_cl j0 (by omega)
  have cn : (Int32.ofInt n).toNatClampNeg = n.toNat := q_cl n0 (by omega)
  have ti : (Int32.ofInt i).toInt = i := q_i32 ⟨by omega, by omega⟩
  have tj : (Int32.ofInt j).toInt = j := q_i32 ⟨by omega, by omega⟩
  have tn : (Int32.ofInt n).toInt = n := q_i32 ⟨by omega, by omega⟩
  obtain ⟨a2, hca⟩ := q_arr hW a1 (Or.inl ka)
  obtain ⟨b2, hcb⟩ := q_arr hW b1 (Or.inl kb)
  rw [ka] at hca
  rw [kb] at hcb
  have h8' := q_cats (z := z) (ad := ad) st
  intro T hT Y
  obtain ⟨-, k0, hk0, cm0, hkk0⟩ := (X.2.2.2.2.2.2.2.2.1.1.2 0 _ rfl).1 (G.2.1 a).2 (fun j => .int (Int32.ofInt (v a j)))
  obtain ⟨-, k1, hk1, cm1, hkk1⟩ := (X.2.2.2.2.2.2.2.2.1.1.2 0 _ rfl).1 (G.2.1 b).2 (fun j => .int (Int32.ofInt (v b j)))
  obtain ⟨vm', Y', step⟩ := Y.arraycopy X.1 X.2.2.2.1 (X.2.2.2.2.1 _ (q_at_mem hw)) (X.2.2.2.2.1 _ q_ac_nat) (X.2.2.2.2.1 _ q_ac_st) (X.2.2.2.2.1 _ q_ac_in) (src := q_ad z ad a) (dst := q_ad z ad b) (cs := arrV (cA 20) (G.2.1 a).2 (fun j => .int (Int32.ofInt (v a j)))) (cd := arrV (cA 20) (G.2.1 b).2 (fun j => .int (Int32.ofInt (v b j)))) (srcPos := Int32.ofInt i) (destPos := Int32.ofInt j) (n := Int32.ofInt n) (by rw [hT]; exact hca) (by rw [hT]; exact hcb)
    (fun _ h => by cases h) (fun _ h => by cases h) (fun h => by cases h) (fun h => by cases h) hk0 hk1 hkk0 hkk1 (by rfl) (q_neg i0 (by omega)) (q_neg j0 (by omega)) (q_neg n0 (by omega))
    (by rw [ti, tn, arrV_size]; omega) (by rw [tj, tn, arrV_size]; omega)
    (fun vm₁ _ x hx => by
      rw [cn] at hx
      have e : (arrV (cA 20) (G.2.1 a).2 (fun j => .int (Int32.ofInt (v a j)))).slots.getD ((Int32.ofInt i).toNatClampNeg + x) .null = .int (Int32.ofInt (v a (i.toNat + x))) := by
        rw [ci, Array.getD_eq_getD_getElem?, arrV_read _ _ (by omega)]
        rfl
      rw [e]
      exact ⟨rfl, trivial⟩)
    (g := F0 mm pc LS (.int (Int32.ofInt n) :: .int (Int32.ofInt j) :: .ref (q_ad z ad b) :: .int (Int32.ofInt i) :: .ref (q_ad z ad a) :: st.map (q_tv z ad))) rfl (by rw [X.2.2.1]; exact hL.1) (rest := st.map (q_tv z ad)) rfl (by rw [X.2.1]; exact hd) (by have := X.2.2.2.2.2.2.2.2.2.2.1; omega) (by have := X.2.2.2.2.2.2.2.2.2.2.2; show 2 * 0 + _ + (7 + 11) ≤ _; omega)
  have e1 : copied (arrV (cA 20) (G.2.1 a).2 (fun j => .int (Int32.ofInt (v a j)))) (arrV (cA 20) (G.2.1 b).2 (fun j => .int (Int32.ofInt (v b j)))) (Int32.ofInt i) (Int32.ofInt j) (Int32.ofInt n) = arrV (cA 20) (G.2.1 b).2 (fun k => .int (va_cpy (fun j => Int32.ofInt (v a j)) (fun j => Int32.ofInt (v b j)) i.toNat j.toNat n.toNat k)) := by
    have := va_copied (fun z => .int z) (cA 20) (cA 20) (n0 := (G.2.1 a).2) (n1 := (G.2.1 b).2) (sp := i.toNat) (dp := j.toNat) (n := n.toNat) (fun j => Int32.ofInt (v a j)) (fun j => Int32.ofInt (v b j)) (by omega)
    rw [← this]
    show (arrV _ _ _).storeRun (Int32.ofInt j).toNatClampNeg ((arrV _ _ _).stretch (Int32.ofInt i).toNatClampNeg (Int32.ofInt n).toNatClampNeg) = _
    rw [ci, cj, cn]
  rw [e1] at Y' step
  have hl : q_ad z ad b < H.size := (Array.getElem?_eq_some_iff.mp hcb).1
  generalize hcc : arrV (cA 20) (G.2.1 b).2 (fun k => .int (va_cpy (fun j => Int32.ofInt (v a j)) (fun j => Int32.ofInt (v b j)) i.toNat j.toNat n.toNat k)) = cc at Y' step
  have hheap : ((T.setVm vm').setCell (q_ad z ad b) cc).heap = H.setIfInBounds (q_ad z ad b) cc := by rw [← hT]; rfl
  have e2 : (H.setIfInBounds (q_ad z ad b) cc).size = H.size := by simp
  have e3 : ∀ q : Nat, q ≠ q_ad z ad b → (H.setIfInBounds (q_ad z ad b) cc)[q]? = H[q]? := fun q hq => by simp [Array.getElem?_setIfInBounds, Ne.symm hq]
  have e4 : (H.setIfInBounds (q_ad z ad b) cc)[q_ad z ad b]? = some cc := by simp [Array.getElem?_setIfInBounds, hl]
  have hne : ∀ q, q ≠ b → q_cp v a i.toNat b j.toNat n.toNat q = v q := fun q hq => by funext j; simp [q_cp, hq]
  have hcell : q_cell z ad D cA (q_cp v a i.toNat b j.toNat n.toNat) G b (H.setIfInBounds (q_ad z ad b) cc) := by
    unfold q_cell
    rw [if_neg (by omega), if_pos (Or.inl kb), e4, ← hcc, kb]
    congr 2
    funext k
    unfold va_cpy q_cp
    by_cases hk : j.toNat ≤ k ∧ k < j.toNat + n.toNat
    · rw [if_pos hk, if_pos ⟨rfl, hk⟩]
    · rw [if_neg hk, if_neg (fun q => hk q.2)]
  obtain ⟨t, t1, t2⟩ := k _ _ LS (hW.put b1 e2 e3 rfl hne (fun _ _ => rfl) hcell) (hK.kept (fun q hq => hne q (by omega)) (fun _ _ => rfl)) ⟨by rw [e2]; exact hS.1, fun q g1 g2 => by
      rw [e3 q (fun e => g2 (by rw [e, q_ad_w b1]; show z ≤ _; omega))]
      exact hS.2.1 q g1 g2, fun q hq => by
      rcases List.mem_append.mp hq with h | h
      · exact hS.2.2 q h
      · obtain ⟨y, -, hy⟩ := List.mem_map.mp h
        rw [← hy, q_ad_w b1]
        exact Nat.le_add_right z (b - 32)⟩ hL hg hc hs _ hheap Y'
  exact ⟨t, step t t1, t2⟩
end QA
