/-! ===== the classes: what the tables say of them ===== -/
def q_isref : FieldType → Bool
  | .object _ => true
  | .array _ => true
  | _ => false
theorem q_uws0 : ∀ w ∈ u_ws RX0 TX0 6, w ∈ q_T := by
  intro w hw
  obtain ⟨k, hk, rfl⟩ := List.mem_map.mp hw
  exact q_at_mem (List.all_eq_true.mp (show (List.range 6).all (fun k => q_at (([615, 616, 617, 618, 619, 620] : List Nat).getD k 0) (u_lay RX0 TX0 k)) = true by decide +kernel) k hk)
theorem q_new0 : Cond.instantiable RX0 6 ∈ q_T ∧ Cond.initialized RX0 ∈ q_T := ⟨q_at_mem (h := 592) (by decide +kernel), q_at_mem (h := 94) (by decide +kernel)⟩
theorem q_uws1 : ∀ w ∈ u_ws RX1 TX1 7, w ∈ q_T := by
  intro w hw
  obtain ⟨k, hk, rfl⟩ := List.mem_map.mp hw
  exact q_at_mem (List.all_eq_true.mp (show (List.range 7).all (fun k => q_at (([235, 236, 237, 238, 239, 240, 241] : List Nat).getD k 0) (u_lay RX1 TX1 k)) = true by decide +kernel) k hk)
theorem q_new1 : Cond.instantiable RX1 7 ∈ q_T ∧ Cond.initialized RX1 ∈ q_T := ⟨q_at_mem (h := 224) (by decide +kernel), q_at_mem (h := 84) (by decide +kernel)⟩
theorem q_uws2 : ∀ w ∈ u_ws RX2 TX2 14, w ∈ q_T := by
  intro w hw
  obtain ⟨k, hk, rfl⟩ := List.mem_map.mp hw
  exact q_at_mem (List.all_eq_true.mp (show (List.range 14).all (fun k => q_at (([209, 210, 211, 212, 213, 214, 215, 216, 217, 218, 219, 220, 221, 222] : List Nat).getD k 0) (u_lay RX2 TX2 k)) = true by decide +kernel) k hk)
theorem q_new2 : Cond.instantiable RX2 14 ∈ q_T ∧ Cond.initialized RX2 ∈ q_T := ⟨q_at_mem (h := 175) (by decide +kernel), q_at_mem (h := 82) (by decide +kernel)⟩
theorem q_uws3 : ∀ w ∈ u_ws RX3 TX3 2, w ∈ q_T := by
  intro w hw
  obtain ⟨k, hk, rfl⟩ := List.mem_map.mp hw
  exact q_at_mem (List.all_eq_true.mp (show (List.range 2).all (fun k => q_at (([150, 151] : List Nat).getD k 0) (u_lay RX3 TX3 k)) = true by decide +kernel) k hk)
theorem q_new3 : Cond.instantiable RX3 2 ∈ q_T ∧ Cond.initialized RX3 ∈ q_T := ⟨q_at_mem (h := 140) (by decide +kernel), q_at_mem (h := 79) (by decide +kernel)⟩
theorem q_uws4 : ∀ w ∈ u_ws RX4 TX4 11, w ∈ q_T := by
  intro w hw
  obtain ⟨k, hk, rfl⟩ := List.mem_map.mp hw
  exact q_at_mem (List.all_eq_true.mp (show (List.range 11).all (fun k => q_at (([122, 123, 124, 125, 126, 127, 128, 129, 130, 131, 132] : List Nat).getD k 0) (u_lay RX4 TX4 k)) = true by decide +kernel) k hk)
theorem q_new4 : Cond.instantiable RX4 11 ∈ q_T ∧ Cond.initialized RX4 ∈ q_T := ⟨q_at_mem (h := 106) (by decide +kernel), q_at_mem (h := 77) (by decide +kernel)⟩
theorem q_uws5 : ∀ w ∈ u_ws RX5 TX5 5, w ∈ q_T := by
  intro w hw
  obtain ⟨k, hk, rfl⟩ := List.mem_map.mp hw
  exact q_at_mem (List.all_eq_true.mp (show (List.range 5).all (fun k => q_at (([169, 170, 171, 172, 173] : List Nat).getD k 0) (u_lay RX5 TX5 k)) = true by decide +kernel) k hk)
theorem q_new5 : Cond.instantiable RX5 5 ∈ q_T ∧ Cond.initialized RX5 ∈ q_T := ⟨q_at_mem (h := 135) (by decide +kernel), q_at_mem (h := 78) (by decide +kernel)⟩
theorem q_uws6 : ∀ w ∈ u_ws RX6 TX6 3, w ∈ q_T := by
  intro w hw
  obtain ⟨k, hk, rfl⟩ := List.mem_map.mp hw
  exact q_at_mem (List.all_eq_true.mp (show (List.range 3).all (fun k => q_at (([161, 162, 163] : List Nat).getD k 0) (u_lay RX6 TX6 k)) = true by decide +kernel) k hk)
theorem q_new6 : Cond.instantiable RX6 3 ∈ q_T ∧ Cond.initialized RX6 ∈ q_T := ⟨q_at_mem (h := 154) (by decide +kernel), q_at_mem (h := 81) (by decide +kernel)⟩
theorem q_uws7 : ∀ w ∈ u_ws RX7 TX7 3, w ∈ q_T := by
  intro w hw
  obtain ⟨k, hk, rfl⟩ := List.mem_map.mp hw
  exact q_at_mem (List.all_eq_true.mp (show (List.range 3).all (fun k => q_at (([249, 250, 251] : List Nat).getD k 0) (u_lay RX7 TX7 k)) = true by decide +kernel) k hk)
theorem q_new7 : Cond.instantiable RX7 3 ∈ q_T ∧ Cond.initialized RX7 ∈ q_T := ⟨q_at_mem (h := 242) (by decide +kernel), q_at_mem (h := 85) (by decide +kernel)⟩
theorem q_uws8 : ∀ w ∈ u_ws RX8 TX8 2, w ∈ q_T := by
  intro w hw
  obtain ⟨k, hk, rfl⟩ := List.mem_map.mp hw
  exact q_at_mem (List.all_eq_true.mp (show (List.range 2).all (fun k => q_at (([332, 333] : List Nat).getD k 0) (u_lay RX8 TX8 k)) = true by decide +kernel) k hk)
theorem q_new8 : Cond.instantiable RX8 2 ∈ q_T ∧ Cond.initialized RX8 ∈ q_T := ⟨q_at_mem (h := 252) (by decide +kernel), q_at_mem (h := 86) (by decide +kernel)⟩
theorem q_uws9 : ∀ w ∈ u_ws RX9 TX9 4, w ∈ q_T := by
  intro w hw
  obtain ⟨k, hk, rfl⟩ := List.mem_map.mp hw
  exact q_at_mem (List.all_eq_true.mp (show (List.range 4).all (fun k => q_at (([190, 191, 192, 193] : List Nat).getD k 0) (u_lay RX9 TX9 k)) = true by decide +kernel) k hk)
theorem q_new9 : Cond.instantiable RX9 4 ∈ q_T ∧ Cond.initialized RX9 ∈ q_T := ⟨q_at_mem (h := 182) (by decide +kernel), q_at_mem (h := 83) (by decide +kernel)⟩
theorem q_uws10 : ∀ w ∈ u_ws RX10 TX10 10, w ∈ q_T := by
  intro w hw
  obtain ⟨k, hk, rfl⟩ := List.mem_map.mp hw
  exact q_at_mem (List.all_eq_true.mp (show (List.range 10).all (fun k => q_at (([344, 345, 346, 347, 348, 349, 350, 351, 352, 353] : List Nat).getD k 0) (u_lay RX10 TX10 k)) = true by decide +kernel) k hk)
theorem q_new10 : Cond.instantiable RX10 10 ∈ q_T ∧ Cond.initialized RX10 ∈ q_T := ⟨q_at_mem (h := 96) (by decide +kernel), q_at_mem (h := 76) (by decide +kernel)⟩
theorem q_uws11 : ∀ w ∈ u_ws RX11 TX11 66, w ∈ q_T := by
  intro w hw
  obtain ⟨k, hk, rfl⟩ := List.mem_map.mp hw
  exact q_at_mem (List.all_eq_true.mp (show (List.range 66).all (fun k => q_at (([1021, 1022, 1023, 1024, 1025, 1026, 1027, 1028, 1029, 1030, 1031, 1032, 1033, 1034, 1035, 1036, 1037, 1038, 1039, 1040, 1041, 1042, 1043, 1044, 1045, 1046, 1047, 1048, 1049, 1050, 1051, 1052, 1053, 1054, 1055, 1056, 1057, 1058, 1059, 1060, 1061, 1062, 1063, 1064, 1065, 1066, 1067, 1068, 1069, 1070, 1071, 1072, 1073, 1074, 1075, 1076, 1077, 1078, 1079, 1080, 1081, 1082, 1083, 1084, 1085, 1086] : List Nat).getD k 0) (u_lay RX11 TX11 k)) = true by decide +kernel) k hk)
theorem q_new11 : Cond.instantiable RX11 66 ∈ q_T ∧ Cond.initialized RX11 ∈ q_T := ⟨q_at_mem (h := 950) (by decide +kernel), q_at_mem (h := 88) (by decide +kernel)⟩
theorem q_cl_ok {ci : Nat} {r : vw_C} (h : vwCl[ci]? = some r) : (∀ k, k < r.2.2 → parseFieldDescriptor (r.2.1 k).2.2.1 = some (q_ft ci k)) ∧ (∀ a, a < r.2.2 → ∀ b, b < r.2.2 → a ≠ b → (r.2.1 a).2.1 ≠ (r.2.1 b).2.1) ∧ (∀ w ∈ u_ws r.1 r.2.1 r.2.2, w ∈ q_T) ∧ (Cond.instantiable r.1 r.2.2 ∈ q_T ∧ Cond.initialized r.1 ∈ q_T) ∧ ∀ k, k < r.2.2 → q_ft ci k = .int ∨ q_isref (q_ft ci k) = true := by
  match ci, h with
  | 0, h => cases h; exact ⟨tyX0_ok, nmX0, q_uws0, q_new0, by decide +kernel⟩
  | 1, h => cases h; exact ⟨tyX1_ok, nmX1, q_uws1, q_new1, by decide +kernel⟩
  | 2, h => cases h; exact ⟨tyX2_ok, nmX2, q_uws2, q_new2, by decide +kernel⟩
  | 3, h => cases h; exact ⟨tyX3_ok, nmX3, q_uws3, q_new3, by decide +kernel⟩
  | 4, h => cases h; exact ⟨tyX4_ok, nmX4, q_uws4, q_new4, by decide +kernel⟩
  | 5, h => cases h; exact ⟨tyX5_ok, nmX5, q_uws5, q_new5, by decide +kernel⟩
  | 6, h => cases h; exact ⟨tyX6_ok, nmX6, q_uws6, q_new6, by decide +kernel⟩
  | 7, h => cases h; exact ⟨tyX7_ok, nmX7, q_uws7, q_new7, by decide +kernel⟩
  | 8, h => cases h; exact ⟨tyX8_ok, nmX8, q_uws8, q_new8, by decide +kernel⟩
  | 9, h => cases h; exact ⟨tyX9_ok, nmX9, q_uws9, q_new9, by decide +kernel⟩
  | 10, h => cases h; exact ⟨tyX10_ok, nmX10, q_uws10, q_new10, by decide +kernel⟩
  | 11, h => cases h; exact ⟨tyX11_ok, nmX11, q_uws11, q_new11, by decide +kernel⟩
  | n + 12, h => simp [vwCl] at h

theorem q_cls_get {ci : Nat} (h : ci < 12) : vwCl[ci]? = some (q_cls ci) := by
  have : ci < vwCl.length := h
  rw [q_cls, List.getD_eq_getElem?_getD, List.getElem?_eq_getElem this]; rfl
section QH
variable {z : Nat} {ad : Nat → Nat} {D : va_G} {cA : Nat → ClassId} {m d : Nat} {p : Program} {l : Launch} {e : Env} {R : Room} {s : State} {mm : MethodId} {args : Array Value} {below : List Frame} {meth : Method} {c : Code} {Q : State → Prop} {c0 s0 pc : Nat} {ls st : List q_V} {v : q_H} {G : q_Gr} {H : Heap}
/-- a cell of a kind that only the world has -/
theorem q_in {a : Nat} (hW : q_W z ad D cA v G H) {U : State} {H0 : Heap} (hK : q_K z ad v G U H0) (h1 : (G.2.1 a).1 ≠ 20) (h2 : (G.2.1 a).1 ≠ 50) (h3 : (G.2.1 a).1 ≠ 99) : 32 ≤ a ∧ a < 32 + G.2.2.1 := by
  constructor
  · rcases Nat.lt_or_ge a 32 with q | q
    · rcases hK a q with h | h | h
      · exact absurd h.1 h1
      · exact absurd h.1 h2
      · exact absurd h h3
    · exact q
  · rcases Nat.lt_or_ge a (32 + G.2.2.1) with q | q
    · exact q
    · exact absurd (hW.2.2.1 a q) h3
theorem q_ad_w {a : Nat} (h : 32 ≤ a) : q_ad z ad a = z + (a - 32) := by unfold q_ad; rw [if_neg (by omega)]
theorem q_obj {a ci : Nat} (hW : q_W z ad D cA v G H) {U : State} {H0 : Heap} (hK : q_K z ad v G U H0) (hk : (G.2.1 a).1 = ci) (hc : ci < 12) : 32 ≤ a ∧ a < 32 + G.2.2.1 ∧ t_OB (q_ad z ad a) (D.1 ci) (q_cls ci).2.2 (D.2 ci) H (q_fv z ad v G a) := by
  obtain ⟨h1, h2⟩ := q_in hW hK (a := a) (by omega) (by omega) (by omega)
  refine ⟨h1, h2, ?_⟩
  have h3 := hW.2.1 a h1 h2
  unfold q_cell at h3
  rw [if_pos (by omega)] at h3
  obtain ⟨r, e1, e2⟩ := h3
  rw [hk] at e1 e2
  rw [q_cls_get hc] at e1
  cases e1
  exact e2
theorem q_s_getf (X : q_Cx z ad D cA m d p R s mm args meth c) {i a : Nat} {x : q_I} (hd : decode (q_m m).2.1 pc = .ok (.getfield i, 3)) (hf : q_fok (q_m m).2.2.2.2.1 x i = true) (hk : (G.2.1 a).1 = x.2.2.1) (k : q_At z ad D cA m p l e R s mm args below meth c Q c0 s0 (pc + 3, ls, (if x.2.2.2.2.1 = 0 then .inl (v a x.2.2.2.1) else .inr (.inr (.inl (G.1 a x.2.2.2.1)))) :: st, v, G)) : q_At z ad D cA m p l e R s mm args below meth c Q c0 s0 (pc, ls, .inr (.inr (.inl (some a))) :: st, v, G) := by
  intro H locs LS hW hK hS hL hg hc hs
  simp only [q_fok, Bool.and_eq_true, decide_eq_true_eq] at hf
  obtain ⟨⟨⟨f1, f2⟩, f3⟩, f4⟩ := hf
  obtain ⟨-, -, cell, q1, q2, q3, q4⟩ := q_obj hW hK hk f1
  obtain ⟨hSl, hfc, kC, hkC, hkind⟩ := X.2.2.2.2.2.2.2.2.1.1.1 _ _ (q_cls_get f1)
  obtain ⟨cf, kf, fi, f, hi, hsl⟩ := hSl _ f2
  have kk := k H locs LS hW hK hS hL hg hc hs
  refine W.getf X.1 X.2.1 X.2.2.2.1 (X.2.2.2.2.1 _ (q_at_mem f3)) hi (u_facts hfc hkC (u_lays X.2.2.2.2.1 (q_cl_ok (q_cls_get f1)).2.2.1 f2) hi).1 q1 (by rw [q3]; exact fun h => by cases h) (v := q_fv z ad v G a x.2.2.2.1) (by rw [hsl]; exact q4 _ f2) rfl rfl hd ?_
  have e : q_fv z ad v G a x.2.2.2.1 = q_tv z ad (if x.2.2.2.2.1 = 0 then .inl (v a x.2.2.2.1) else .inr (.inr (.inl (G.1 a x.2.2.2.1)))) := by
    unfold q_fv
    rw [hk]
    by_cases e0 : x.2.2.2.2.1 = 0
    · rw [if_pos (f4.mpr e0), if_pos e0]; rfl
    · rw [if_neg (fun q => e0 (f4.mp q)), if_neg e0]; rfl
  rw [e]
  exact kk
/-- the world behind a write to a cell -/
theorem q_W.put {a : Nat} {v' : q_H} {G' : q_Gr} {H' : Heap} (hW : q_W z ad D cA v G H) (h1 : 32 ≤ a) (hz : H'.size = H.size) (ho : ∀ q, q ≠ q_ad z ad a → H'[q]? = H[q]?) (hs : G'.2 = G.2) (hv : ∀ b, b ≠ a → v' b = v b) (hr : ∀ b, b ≠ a → G'.1 b = G.1 b) (hc : q_cell z ad D cA v' G' a H') : q_W z ad D cA v' G' H' := by
  refine ⟨by rw [hz, hs]; exact hW.1, fun b b1 b2 => ?_, by rw [hs]; exact hW.2.2.1, by rw [hs]; exact hW.2.2.2⟩
  by_cases e : b = a
  · subst e; exact hc
  · rw [hs] at b2
    refine (hW.2.1 b b1 b2).kept (ho _ ?_) (hv b e) (hr b e) (by rw [hs])
    rw [q_ad_w h1, q_ad_w b1]
    omega
theorem q_s_put (X : q_Cx z ad D cA m d p R s mm args meth c) {i a : Nat} {x : q_I} {y : q_V} {v' : q_H} {G' : q_Gr} (hd : decode (q_m m).2.1 pc = .ok (.putfield i, 3)) (hf : q_fok (q_m m).2.2.2.2.1 x i = true) (hfin : ((q_cls x.2.2.1).2.1 x.2.2.2.1).2.2.2 = false ∨ ((q_m m).2.2.2.2.2.2.1 = 2 ∧ ((q_cls x.2.2.1).2.1 x.2.2.2.1).1 = (q_m m).2.2.2.2.1)) (hk : (G.2.1 a).1 = x.2.2.1)
    (hy : (x.2.2.2.2.1 = 0 ∧ ∃ n, y = .inl n ∧ v' = q_up v a x.2.2.2.1 n ∧ G' = G) ∨ (x.2.2.2.2.1 ≠ 0 ∧ ∃ r, y = .inr (.inr (.inl r)) ∧ v' = v ∧ G' = (q_upr G.1 a x.2.2.2.1 r, G.2)))
    (k : q_At z ad D cA m p l e R s mm args below meth c Q c0 s0 (pc + 3, ls, st, v', G')) : q_At z ad D cA m p l e R s mm args below meth c Q c0 s0 (pc, ls, y :: .inr (.inr (.inl (some a))) :: st, v, G) := by
  intro H locs LS hW hK hS hL hg hc hs
  simp only [q_fok, Bool.and_eq_true, decide_eq_true_eq] at hf
  obtain ⟨⟨⟨f1, f2⟩, f3⟩, f4⟩ := hf
  obtain ⟨a1, a2, cell, q1, q2, q3, q4⟩ := q_obj hW hK hk f1
  obtain ⟨hty, hnm, hin, -, hir⟩ := q_cl_ok (q_cls_get f1)
  have hKn := X.2.2.2.2.2.2.2.2.1.1.1 _ _ (q_cls_get f1)
  obtain ⟨hSl, hfc, kC, hkC, hkind⟩ := hKn
  obtain ⟨cf, kf, fi, f, hi, hsl⟩ := hSl _ f2
  have hap : ∀ x' y', x' < (q_cls x.2.2.1).2.2 → y' < (q_cls x.2.2.1).2.2 → x' ≠ y' → (D.2 x.2.2.1) x' ≠ (D.2 x.2.2.1) y' := va_apart (own := (q_m m).2.2.2.2.1) X.2.2.2.2.1 hin (q_ft x.2.2.1) hty hnm X.2.2.2.2.2.2.2.2.1.1 (q_cls_get f1)
  have hlays := u_lays X.2.2.2.2.1 hin f2
  have hst := (u_facts hfc hkC hlays hi).1
  have hnf : narrow (q_ft x.2.2.1 x.2.2.2.1) (q_tv z ad y) = q_tv z ad y ∧ fits (q_ft x.2.2.1 x.2.2.2.1) (q_tv z ad y) = true := by
    rcases hy with ⟨e0, n, rfl, -⟩ | ⟨e0, r, rfl, -⟩
    · rw [f4.mpr e0]; exact ⟨rfl, rfl⟩
    · rcases hir _ f2 with q | q
      · exact absurd (f4.mp q) e0
      · generalize q_ft x.2.2.1 x.2.2.2.1 = ty at q
        cases ty <;> first | (cases q; done) | (cases r <;> exact ⟨rfl, rfl⟩)
  have hd' := hty _ f2
  have hlink := X.2.2.2.2.1 _ (q_at_mem f3)
  have hcell : ∀ H' : Heap, H'[q_ad z ad a]? = some (cell.setSlot f.slot (q_tv z ad y)) → q_cell z ad D cA v' G' a H' := by
    intro H' e1
    have hG : G'.2 = G.2 := by rcases hy with ⟨-, n, -, -, rfl⟩ | ⟨-, r, -, -, rfl⟩ <;> rfl
    unfold q_cell
    rw [hG, hk, if_pos f1]
    refine ⟨_, q_cls_get f1, t_OB.to (V := updV (q_fv z ad v G a) x.2.2.2.1 (q_tv z ad y)) ⟨_, e1, q2, q3, by rw [hsl]; exact t_set q4 hap f2 _⟩ (fun j hj => ?_)⟩
    unfold updV q_fv
    rw [hG, hk]
    by_cases ej : j = x.2.2.2.1
    · rw [if_pos ej]
      subst ej
      rcases hy with ⟨e0, n, rfl, rfl, rfl⟩ | ⟨e0, r, rfl, rfl, rfl⟩
      · rw [if_pos (f4.mpr e0)]; simp [q_up, q_tv]
      · rw [if_neg (fun q => e0 (f4.mp q))]; simp [q_upr, q_tv]
    · rw [if_neg ej]
      rcases hy with ⟨e0, n, rfl, rfl, rfl⟩ | ⟨e0, r, rfl, rfl, rfl⟩
      · simp [q_up, ej]
      · simp [q_upr, ej]
  have hvo : ∀ b, b ≠ a → v' b = v b := by
    intro b hb
    rcases hy with ⟨-, n, -, rfl, -⟩ | ⟨-, r, -, rfl, -⟩
    · funext j; simp [q_up, hb]
    · rfl
  have hro : ∀ b, b ≠ a → G'.1 b = G.1 b := by
    intro b hb
    rcases hy with ⟨-, n, -, -, rfl⟩ | ⟨-, r, -, -, rfl⟩
    · rfl
    · funext j; simp [q_upr, hb]
  have hG : G'.2 = G.2 := by rcases hy with ⟨-, n, -, -, rfl⟩ | ⟨-, r, -, -, rfl⟩ <;> rfl
  have key : ∀ H' : Heap, H'[q_ad z ad a]? = some (cell.setSlot f.slot (q_tv z ad y)) → H'.size = H.size → (∀ q, q ≠ q_ad z ad a → H'[q]? = H[q]?) → W p l e R s mm args below meth c H' (locs ++ [⟨q_ad z ad a, f.slot⟩]) (G.2.2.1 - c0) (G.2.2.2 - s0) Q (F0 mm (pc + 3) LS (st.map (q_tv z ad))) := by
    intro H' e1 e2 e3
    have kk := k H' (locs ++ [⟨q_ad z ad a, f.slot⟩]) LS (hW.put a1 e2 e3 hG hvo hro (hcell H' e1)) (hK.kept (fun b hb => hvo b (by omega)) (fun b _ => by rw [hG])) (hS.put e2 e3 (by rw [q_ad_w a1]; show z ≤ _; omega)) hL hg (by show c0 ≤ G'.2.2.1; rw [hG]; exact hc) (by show s0 ≤ G'.2.2.2; rw [hG]; exact hs)
    have kk : W p l e R s mm args below meth c H' (locs ++ [⟨q_ad z ad a, f.slot⟩]) (G'.2.2.1 - c0) (G'.2.2.2 - s0) Q (F0 mm (pc + 3) LS (st.map (q_tv z ad))) := kk
    rw [hG] at kk
    exact kk
  by_cases hfi : ((q_cls x.2.2.1).2.1 x.2.2.2.1).2.2.2 = false
  · have hlay := X.2.2.2.2.1 _ (hin _ (u_in_lay f2))
    unfold u_lay at hlay
    rw [if_neg (by rw [hfi]; decide)] at hlay
    exact W.putK X.1 X.2.1 (f := f) ⟨X.2.2.2.1, hlink, ⟨_, _, _, hi⟩, hst⟩ (by rw [q2]; exact u_store hfc hkC hkind hlay hi hd' hnf.1 hnf.2) q1 q3 (by rw [hsl]; exact k2_hasslot (q4 _ f2)) rfl rfl hd key
  · obtain ⟨g1, g2⟩ := hfin.resolve_left hfi
    have hlay := X.2.2.2.2.1 _ (hin _ (u_in_lay f2))
    unfold u_lay at hlay
    rw [if_pos (by simpa using hfi)] at hlay
    have hcf : mm.cls = cf := by
      obtain ⟨_, _, c', _, _, _, -, -, hf', -, -, -, hown2, -⟩ := Cond.laysFinal_spec hlay
      have e1 : c' = cf := by have := hi.symm.trans hf'; simp at this; exact this.1.symm
      rw [g2] at hown2
      rw [← e1]; exact Option.some.inj (X.2.2.2.1.symm.trans hown2)
    exact W.putFinK X.1 X.2.1 X.2.2.2.1 hlink hi hst hcf (X.2.2.2.2.2.2.2.1 g1) (by rw [q2]; exact u_fits hfc hkC hkind (Or.inr hlay) hi hd' hnf.1 hnf.2) q1 q3 (by rw [hsl]; exact k2_hasslot (q4 _ f2)) rfl rfl hd key
end QH
