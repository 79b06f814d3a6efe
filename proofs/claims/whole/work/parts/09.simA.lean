
/-! ===== a step of the clean machine is a step of the machine: what leaves the heap as it is ===== -/
def q_Cx (z : Nat) (ad : Nat → Nat) (D : va_G) (cA : Nat → ClassId) (m d : Nat) (p : Program) (R : Room) (s : State) (mm : MethodId) (args : Array Value) (meth : Method) (c : Code) : Prop :=
  p.tables.exec = Jvm.exec ∧ c.code = (q_m m).2.1 ∧ c.maxLocals = (q_m m).2.2.1 ∧ s.vm.findClass (q_m m).2.2.2.2.1 = some mm.cls ∧ (∀ w ∈ q_T, w.before args s = true) ∧ meth.sig.returnType = (q_m m).2.2.2.1 ∧ meth.locks = false ∧ ((q_m m).2.2.2.2.2.2.1 = 2 → meth.name = "<init>") ∧ q_E z ad D cA s s.heap ∧ z ≤ s.heap.size ∧ d + 1 ≤ R.frames ∧ 60 * d + 30 ≤ R.locals
def q_At (z : Nat) (ad : Nat → Nat) (D : va_G) (cA : Nat → ClassId) (m : Nat) (p : Program) (l : Launch) (e : Env) (R : Room) (s : State) (mm : MethodId) (args : Array Value) (below : List Frame) (meth : Method) (c : Code) (Q : State → Prop) (c0 s0 : Nat) (S : q_S) : Prop :=
  ∀ (H : Heap) (locs : List Loc) (LS : Array Slot), q_W z ad D cA S.2.2.2.1 S.2.2.2.2 H → q_K z ad S.2.2.2.1 S.2.2.2.2 s s.heap → va_S (q_A z) s.heap H locs → q_L z ad S.2.1 LS (q_m m).2.2.1 → q_lg m S.2.1 → c0 ≤ S.2.2.2.2.2.2.1 → s0 ≤ S.2.2.2.2.2.2.2 → W p l e R s mm args below meth c H locs (S.2.2.2.2.2.2.1 - c0) (S.2.2.2.2.2.2.2 - s0) Q (F0 mm S.1 LS (S.2.2.1.map (q_tv z ad)))
theorem q_1I_some {st : List q_V} {f : Int → List q_V → Option q_S} {S : q_S} (h : q_1I st f = some S) : ∃ a r, st = .inl a :: r ∧ f a r = some S := by
  unfold q_1I at h; split at h
  · exact ⟨_, _, rfl, h⟩
  · cases h
theorem q_2I_some {st : List q_V} {f : Int → Int → List q_V → Option q_S} {S : q_S} (h : q_2I st f = some S) : ∃ a b r, st = .inl b :: .inl a :: r ∧ f a b r = some S := by
  unfold q_2I at h; split at h
  · exact ⟨_, _, _, rfl, h⟩
  · cases h
theorem q_1L_some {st : List q_V} {f : Int → List q_V → Option q_S} {S : q_S} (h : q_1L st f = some S) : ∃ a r, st = .inr (.inl a) :: r ∧ f a r = some S := by
  unfold q_1L at h; split at h
  · exact ⟨_, _, rfl, h⟩
  · cases h
theorem q_2L_some {st : List q_V} {f : Int → Int → List q_V → Option q_S} {S : q_S} (h : q_2L st f = some S) : ∃ a b r, st = .inr (.inl b) :: .inr (.inl a) :: r ∧ f a b r = some S := by
  unfold q_2L at h; split at h
  · exact ⟨_, _, _, rfl, h⟩
  · cases h
theorem q_LI_some {st : List q_V} {f : Int → Int → List q_V → Option q_S} {S : q_S} (h : q_LI st f = some S) : ∃ a b r, st = .inl b :: .inr (.inl a) :: r ∧ f a b r = some S := by
  unfold q_LI at h; split at h
  · exact ⟨_, _, _, rfl, h⟩
  · cases h
theorem q_1P_some {st : List q_V} {f : Option Nat → List q_V → Option q_S} {S : q_S} (h : q_1P st f = some S) : ∃ a r, st = .inr (.inr (.inl a)) :: r ∧ f a r = some S := by
  unfold q_1P at h; split at h
  · exact ⟨_, _, rfl, h⟩
  · cases h
theorem q_1A_some {st : List q_V} {f : Nat → List q_V → Option q_S} {S : q_S} (h : q_1A st f = some S) : ∃ a r, st = .inr (.inr (.inl (some a))) :: r ∧ f a r = some S := by
  unfold q_1A at h; split at h
  · exact ⟨_, _, rfl, h⟩
  · cases h
theorem q_IA_some {st : List q_V} {f : Nat → Int → List q_V → Option q_S} {S : q_S} (h : q_IA st f = some S) : ∃ a i r, st = .inl i :: .inr (.inr (.inl (some a))) :: r ∧ f a i r = some S := by
  unfold q_IA at h; split at h
  · exact ⟨_, _, _, rfl, h⟩
  · cases h
theorem q_IIA_some {st : List q_V} {f : Nat → Int → Int → List q_V → Option q_S} {S : q_S} (h : q_IIA st f = some S) : ∃ a i x r, st = .inl x :: .inl i :: .inr (.inr (.inl (some a))) :: r ∧ f a i x r = some S := by
  unfold q_IIA at h; split at h
  · exact ⟨_, _, _, _, rfl, h⟩
  · cases h
theorem q_AIA_some {st : List q_V} {f : Nat → Int → Nat → List q_V → Option q_S} {S : q_S} (h : q_AIA st f = some S) : ∃ a i b r, st = .inr (.inr (.inl (some b))) :: .inl i :: .inr (.inr (.inl (some a))) :: r ∧ f a i b r = some S := by
  unfold q_AIA at h; split at h
  · exact ⟨_, _, _, _, rfl, h⟩
  · cases h
theorem q_IO_some {st : List q_V} {f : Nat → Int → List q_V → Option q_S} {S : q_S} (h : q_IO st f = some S) : ∃ a x r, st = .inl x :: .inr (.inr (.inl (some a))) :: r ∧ f a x r = some S := by
  unfold q_IO at h; split at h
  · exact ⟨_, _, _, rfl, h⟩
  · cases h
theorem q_PO_some {st : List q_V} {f : Nat → Option Nat → List q_V → Option q_S} {S : q_S} (h : q_PO st f = some S) : ∃ a x r, st = .inr (.inr (.inl x)) :: .inr (.inr (.inl (some a))) :: r ∧ f a x r = some S := by
  unfold q_PO at h; split at h
  · exact ⟨_, _, _, rfl, h⟩
  · cases h
theorem q_5_some {st : List q_V} {f : Nat → Int → Nat → Int → Int → List q_V → Option q_S} {S : q_S} (h : q_5 st f = some S) : ∃ a i b j n r, st = .inl n :: .inl j :: .inr (.inr (.inl (some b))) :: .inl i :: .inr (.inr (.inl (some a))) :: r ∧ f a i b j n r = some S := by
  unfold q_5 at h; split at h
  · exact ⟨_, _, _, _, _, _, rfl, h⟩
  · cases h
theorem q_lI_some {ls : List q_V} {k : Nat} {f : Int → Option q_S} {S : q_S} (h : q_lI ls k f = some S) : ∃ a, ls[k]? = some (.inl a) ∧ f a = some S := by
  unfold q_lI at h; split at h
  · next e => exact ⟨_, e, h⟩
  · cases h
theorem q_lL_some {ls : List q_V} {k : Nat} {f : Int → Option q_S} {S : q_S} (h : q_lL ls k f = some S) : ∃ a, ls[k]? = some (.inr (.inl a)) ∧ f a = some S := by
  unfold q_lL at h; split at h
  · next e => exact ⟨_, e, h⟩
  · cases h
theorem q_lP_some {ls : List q_V} {k : Nat} {f : Option Nat → Option q_S} {S : q_S} (h : q_lP ls k f = some S) : ∃ a, ls[k]? = some (.inr (.inr (.inl a))) ∧ f a = some S := by
  unfold q_lP at h; split at h
  · next e => exact ⟨_, e, h⟩
  · cases h
theorem q_jmp_some {pc : Nat} {off : Int} {ls st : List q_V} {v : q_H} {G : q_Gr} {S : q_S} (h : q_jmp pc off ls st v G = some S) : ∃ t : Nat, (pc : Int) + off = (t : Int) ∧ S = (t, ls, st, v, G) := by
  unfold q_jmp at h; split at h
  · next e =>
    refine ⟨((pc : Int) + off).toNat, by omega, ?_⟩
    cases h
    rfl
  · cases h
theorem q_lrem (x y : Int64) : x - (x / y) * y = x % y := by
  apply Int64.toInt_inj.mp
  have h1 := Int64.le_toInt (x % y)
  have h2 := Int64.toInt_lt (x % y)
  rw [Int64.toInt_sub, Int64.toInt_mul, Int64.toInt_div, Int.bmod_mul_bmod, Int.sub_bmod_bmod, Int.mul_comm (x.toInt.tdiv y.toInt), ← Int.tmod_def, ← Int64.toInt_mod]
  exact Int.bmod_eq_of_le_mul_two (by omega) (by omega)

theorem q_obj_inst : Cond.instanceMethod objectInit ∈ q_T := by decide +kernel
theorem q_obj_code : Cond.code objectInit ⟨#[0xb1]⟩ 1 none ∈ q_T := by decide +kernel
section QS
variable {z : Nat} {ad : Nat → Nat} {D : va_G} {cA : Nat → ClassId} {m d : Nat} {p : Program} {l : Launch} {e : Env} {R : Room} {s : State} {mm : MethodId} {args : Array Value} {below : List Frame} {meth : Method} {c : Code} {Q : State → Prop} {c0 s0 pc : Nat} {ls st : List q_V} {v : q_H} {G : q_Gr}
theorem q_tv_rf (r : Option Nat) : q_rv z ad r = (match r with | none => .null | some a => .ref (q_ad z ad a)) := by cases r <;> rfl
/-- the locals as the kit's rows want them -/
def q_lv (z : Nat) (ad : Nat → Nat) (ls : List q_V) : List (Nat × Value) := (ls.zipIdx.filter (fun q => decide (q.1 ≠ .inr (.inr (.inr ()))))).map (fun q => (q.2, q_tv z ad q.1))
theorem q_lv_mem {i : Nat} {w : Value} : (i, w) ∈ q_lv z ad ls ↔ ∃ c : q_V, ls[i]? = some c ∧ c ≠ .inr (.inr (.inr ())) ∧ w = q_tv z ad c := by
  unfold q_lv
  simp only [List.mem_map, List.mem_filter, Prod.exists, Prod.mk.injEq, List.mem_zipIdx_iff_getElem?]
  constructor
  · rintro ⟨c, j, ⟨h1, h2⟩, rfl, rfl⟩
    exact ⟨c, h1, by simpa using h2, rfl⟩
  · rintro ⟨c, h1, h2, rfl⟩
    exact ⟨c, i, ⟨h1, by simpa using h2⟩, rfl, rfl⟩
theorem q_L.has {n : Nat} {LS : Array Slot} (h : q_L z ad ls LS n) : lv_has LS n (q_lv z ad ls) := ⟨h.1, h.2.2.1, fun q hq => by
  obtain ⟨c, h1, h2, h3⟩ := q_lv_mem.mp (show (q.1, q.2) ∈ q_lv z ad ls from hq)
  rw [h3]
  exact h.2.2.2 q.1 c h1 h2⟩
theorem q_cat {c : q_V} : (q_tv z ad c).category = 2 ↔ ∃ k, c = .inr (.inl k) := by
  rcases c with k | k | r | u
  · simp [q_tv, Value.category]
  · simp [q_tv, Value.category]
  · cases r <;> simp [q_tv, q_rv, va_rf, Value.category]
  · simp [q_tv, Value.category]
theorem q_contains {L : List Nat} {k : Nat} : L.contains k = true ↔ k ∈ L := List.contains_iff_mem
/-- a store of one word -/
theorem q_L.store1 {n k : Nat} {LS LS' : Array Slot} {y : q_V} (h : q_L z ad ls LS n) (hk : q_sok m k = true) (hg : q_lg m ls) (h' : lv_has LS' n ((k, q_tv z ad y) :: (q_lv z ad ls).filter (fun q => !(q.1 == k) && !(q.1 + 1 == k && q.2.category == 2)))) : q_L z ad (ls.set k y) LS' n := by
  refine ⟨h'.1, by rw [List.length_set]; exact h.2.1, h'.2.1, fun i c hi hc => ?_⟩
  by_cases e : k = i
  · subst e
    rw [List.getElem?_set] at hi
    simp only [if_true] at hi
    split at hi
    · cases hi
      exact h'.2.2 (k, _) List.mem_cons_self
    · cases hi
  · rw [List.getElem?_set_ne e] at hi
    refine h'.2.2 (i, q_tv z ad c) (List.mem_cons_of_mem _ (List.mem_filter.mpr ⟨q_lv_mem.mpr ⟨c, hi, hc, rfl⟩, ?_⟩))
    simp only [Bool.and_eq_true, Bool.not_eq_true', beq_eq_false_iff_ne, Bool.and_eq_false_iff, ne_eq]
    refine ⟨fun q => e q.symm, ?_⟩
    by_cases e2 : i + 1 = k
    · right
      intro h2
      obtain ⟨k2, rfl⟩ := q_cat.mp h2
      have := hg i k2 hi
      simp only [q_sok, Bool.and_eq_true, Bool.not_eq_true', Bool.and_eq_false_iff, decide_eq_true_eq, decide_eq_false_iff_not] at hk
      have hc2 := q_contains.mpr this
      rw [show i = k - 1 by omega] at hc2
      rcases hk.2 with q | q
      · omega
      · rw [hc2] at q; cases q
    · left
      exact e2
theorem q_lg.store1 {k : Nat} {y : q_V} (hg : q_lg m ls) (hy : ∀ a, y ≠ .inr (.inl a)) : q_lg m (ls.set k y) := by
  intro i a hi
  by_cases e : k = i
  · subst e
    rw [List.getElem?_set] at hi
    simp only [if_true] at hi
    split at hi
    · cases hi; exact absurd rfl (hy a)
    · cases hi
  · rw [List.getElem?_set_ne e] at hi
    exact hg i a hi
theorem q_s_iconst (X : q_Cx z ad D cA m d p R s mm args meth c) {a : Int} (hd : decode (q_m m).2.1 pc = .ok (.iconst a, 1)) (k : q_At z ad D cA m p l e R s mm args below meth c Q c0 s0 (pc + 1, ls, .inl a :: st, v, G)) : q_At z ad D cA m p l e R s mm args below meth c Q c0 s0 (pc, ls, st, v, G) := by
  intro H locs LS hW hK hS hL hg hc hs
  refine lv_iconst (v := Int32.ofInt a) X.1 X.2.1 hd rfl ?_
  have := k H locs LS hW hK hS hL hg hc hs
  exact this
theorem q_s_bipush (X : q_Cx z ad D cA m d p R s mm args meth c) {a : Int} (hd : decode (q_m m).2.1 pc = .ok (.bipush a, 2)) (h1 : -128 ≤ a ∧ a ≤ 127) (k : q_At z ad D cA m p l e R s mm args below meth c Q c0 s0 (pc + 2, ls, .inl a :: st, v, G)) : q_At z ad D cA m p l e R s mm args below meth c Q c0 s0 (pc, ls, st, v, G) := by
  intro H locs LS hW hK hS hL hg hc hs
  refine lv_bipush (v := Int32.ofInt a) X.1 X.2.1 hd (Int8.toInt32_ofInt (show (-128 : Int) ≤ a from h1.1) (show a ≤ (127 : Int) from h1.2)) ?_
  have := k H locs LS hW hK hS hL hg hc hs
  exact this
theorem q_s_sipush (X : q_Cx z ad D cA m d p R s mm args meth c) {a : Int} (hd : decode (q_m m).2.1 pc = .ok (.sipush a, 3)) (h1 : -32768 ≤ a ∧ a ≤ 32767) (k : q_At z ad D cA m p l e R s mm args below meth c Q c0 s0 (pc + 3, ls, .inl a :: st, v, G)) : q_At z ad D cA m p l e R s mm args below meth c Q c0 s0 (pc, ls, st, v, G) := by
  intro H locs LS hW hK hS hL hg hc hs
  refine lv_sipush (v := Int32.ofInt a) X.1 X.2.1 hd (Int16.toInt32_ofInt (show (-32768 : Int) ≤ a from h1.1) (show a ≤ (32767 : Int) from h1.2)) ?_
  have := k H locs LS hW hK hS hL hg hc hs
  exact this
theorem q_s_lconst (X : q_Cx z ad D cA m d p R s mm args meth c) {a : Fin 2} (hd : decode (q_m m).2.1 pc = .ok (.lconst a, 1)) (k : q_At z ad D cA m p l e R s mm args below meth c Q c0 s0 (pc + 1, ls, .inr (.inl ((a : Nat) : Int)) :: st, v, G)) : q_At z ad D cA m p l e R s mm args below meth c Q c0 s0 (pc, ls, st, v, G) := by
  intro H locs LS hW hK hS hL hg hc hs
  refine lv_lconst (v := Int64.ofInt ((a : Nat) : Int)) X.1 X.2.1 hd Int64.ofInt_eq_ofNat.symm ?_
  have := k H locs LS hW hK hS hL hg hc hs
  exact this
theorem q_s_null (X : q_Cx z ad D cA m d p R s mm args meth c)  (hd : decode (q_m m).2.1 pc = .ok (.aconst_null, 1)) (k : q_At z ad D cA m p l e R s mm args below meth c Q c0 s0 (pc + 1, ls, .inr (.inr (.inl none)) :: st, v, G)) : q_At z ad D cA m p l e R s mm args below meth c Q c0 s0 (pc, ls, st, v, G) := by
  intro H locs LS hW hK hS hL hg hc hs
  refine lv_null X.1 X.2.1 hd ?_
  have := k H locs LS hW hK hS hL hg hc hs
  exact this
theorem q_s_ldc (X : q_Cx z ad D cA m d p R s mm args meth c) {a : Int} {i h : Nat} (hd : decode (q_m m).2.1 pc = .ok (.ldc i, 2)) (hw : q_at h (.constant (q_m m).2.2.2.2.1 i (Int32.ofInt a)) = true) (k : q_At z ad D cA m p l e R s mm args below meth c Q c0 s0 (pc + 2, ls, .inl a :: st, v, G)) : q_At z ad D cA m p l e R s mm args below meth c Q c0 s0 (pc, ls, st, v, G) := by
  intro H locs LS hW hK hS hL hg hc hs
  refine lv_ldc X.1 X.2.1 X.2.2.2.1 (X.2.2.2.2.1 _ (q_at_mem hw)) hd ?_
  have := k H locs LS hW hK hS hL hg hc hs
  exact this
theorem q_s_ldcw (X : q_Cx z ad D cA m d p R s mm args meth c) {a : Int} {i h : Nat} (hd : decode (q_m m).2.1 pc = .ok (.ldc_w i, 3)) (hw : q_at h (.constant (q_m m).2.2.2.2.1 i (Int32.ofInt a)) = true) (k : q_At z ad D cA m p l e R s mm args below meth c Q c0 s0 (pc + 3, ls, .inl a :: st, v, G)) : q_At z ad D cA m p l e R s mm args below meth c Q c0 s0 (pc, ls, st, v, G) := by
  intro H locs LS hW hK hS hL hg hc hs
  refine lv_ldcw X.1 X.2.1 X.2.2.2.1 (X.2.2.2.2.1 _ (q_at_mem hw)) hd ?_
  have := k H locs LS hW hK hS hL hg hc hs
  exact this
theorem q_s_ldc2 (X : q_Cx z ad D cA m d p R s mm args meth c) {a : Int} {i h : Nat} (hd : decode (q_m m).2.1 pc = .ok (.ldc2_w i, 3)) (hw : q_at h (.constantLong (q_m m).2.2.2.2.1 i (Int64.ofInt a)) = true) (k : q_At z ad D cA m p l e R s mm args below meth c Q c0 s0 (pc + 3, ls, .inr (.inl a) :: st, v, G)) : q_At z ad D cA m p l e R s mm args below meth c Q c0 s0 (pc, ls, st, v, G) := by
  intro H locs LS hW hK hS hL hg hc hs
  refine lv_ldc2 X.1 X.2.1 X.2.2.2.1 (X.2.2.2.2.1 _ (q_at_mem hw)) hd ?_
  have := k H locs LS hW hK hS hL hg hc hs
  exact this
theorem q_s_iload_n (X : q_Cx z ad D cA m d p R s mm args meth c) {a : Int} {i : Fin 4} (hd : decode (q_m m).2.1 pc = .ok (.iload_n i, 1)) (hl : ls[(i : Nat)]? = some (.inl a)) (k : q_At z ad D cA m p l e R s mm args below meth c Q c0 s0 (pc + 1, ls, .inl a :: st, v, G)) : q_At z ad D cA m p l e R s mm args below meth c Q c0 s0 (pc, ls, st, v, G) := by
  intro H locs LS hW hK hS hL hg hc hs
  refine lv_iload_n X.1 X.2.1 hd rfl (hL.2.2.2 i _ hl (fun q => by cases q)) ?_
  have := k H locs LS hW hK hS hL hg hc hs
  exact this
theorem q_s_iload (X : q_Cx z ad D cA m d p R s mm args meth c) {a : Int} {i : Nat} (hd : decode (q_m m).2.1 pc = .ok (.iload i, 2)) (hl : ls[(i : Nat)]? = some (.inl a)) (k : q_At z ad D cA m p l e R s mm args below meth c Q c0 s0 (pc + 2, ls, .inl a :: st, v, G)) : q_At z ad D cA m p l e R s mm args below meth c Q c0 s0 (pc, ls, st, v, G) := by
  intro H locs LS hW hK hS hL hg hc hs
  refine lv_iload X.1 X.2.1 hd (hL.2.2.2 i _ hl (fun q => by cases q)) ?_
  have := k H locs LS hW hK hS hL hg hc hs
  exact this
theorem q_s_lload_n (X : q_Cx z ad D cA m d p R s mm args meth c) {a : Int} {i : Fin 4} (hd : decode (q_m m).2.1 pc = .ok (.lload_n i, 1)) (hl : ls[(i : Nat)]? = some (.inr (.inl a))) (k : q_At z ad D cA m p l e R s mm args below meth c Q c0 s0 (pc + 1, ls, .inr (.inl a) :: st, v, G)) : q_At z ad D cA m p l e R s mm args below meth c Q c0 s0 (pc, ls, st, v, G) := by
  intro H locs LS hW hK hS hL hg hc hs
  refine lv_lload_n X.1 X.2.1 hd rfl (hL.2.2.2 i _ hl (fun q => by cases q)) ?_
  have := k H locs LS hW hK hS hL hg hc hs
  exact this
theorem q_s_lload (X : q_Cx z ad D cA m d p R s mm args meth c) {a : Int} {i : Nat} (hd : decode (q_m m).2.1 pc = .ok (.lload i, 2)) (hl : ls[(i : Nat)]? = some (.inr (.inl a))) (k : q_At z ad D cA m p l e R s mm args below meth c Q c0 s0 (pc + 2, ls, .inr (.inl a) :: st, v, G)) : q_At z ad D cA m p l e R s mm args below meth c Q c0 s0 (pc, ls, st, v, G) := by
  intro H locs LS hW hK hS hL hg hc hs
  refine lv_lload X.1 X.2.1 hd (hL.2.2.2 i _ hl (fun q => by cases q)) ?_
  have := k H locs LS hW hK hS hL hg hc hs
  exact this
theorem q_s_aload_n (X : q_Cx z ad D cA m d p R s mm args meth c) {a : Option Nat} {i : Fin 4} (hd : decode (q_m m).2.1 pc = .ok (.aload_n i, 1)) (hl : ls[(i : Nat)]? = some (.inr (.inr (.inl a)))) (k : q_At z ad D cA m p l e R s mm args below meth c Q c0 s0 (pc + 1, ls, .inr (.inr (.inl a)) :: st, v, G)) : q_At z ad D cA m p l e R s mm args below meth c Q c0 s0 (pc, ls, st, v, G) := by
  intro H locs LS hW hK hS hL hg hc hs
  have := k H locs LS hW hK hS hL hg hc hs
  cases a with
  | none => exact lv_aload_nN X.1 X.2.1 hd rfl (hL.2.2.2 i _ hl (fun q => by cases q)) this
  | some a => exact lv_aload_n X.1 X.2.1 hd rfl (hL.2.2.2 i _ hl (fun q => by cases q)) this
theorem q_s_aload (X : q_Cx z ad D cA m d p R s mm args meth c) {a : Option Nat} {i : Nat} (hd : decode (q_m m).2.1 pc = .ok (.aload i, 2)) (hl : ls[(i : Nat)]? = some (.inr (.inr (.inl a)))) (k : q_At z ad D cA m p l e R s mm args below meth c Q c0 s0 (pc + 2, ls, .inr (.inr (.inl a)) :: st, v, G)) : q_At z ad D cA m p l e R s mm args below meth c Q c0 s0 (pc, ls, st, v, G) := by
  intro H locs LS hW hK hS hL hg hc hs
  have := k H locs LS hW hK hS hL hg hc hs
  cases a with
  | none => exact lv_aloadN X.1 X.2.1 hd (hL.2.2.2 i _ hl (fun q => by cases q)) this
  | some a => exact lv_aload X.1 X.2.1 hd (hL.2.2.2 i _ hl (fun q => by cases q)) this
theorem q_s_istore_n (X : q_Cx z ad D cA m d p R s mm args meth c) {a : Int} {i : Fin 4} (hd : decode (q_m m).2.1 pc = .ok (.istore_n i, 1)) (hk : q_sok m i = true) (k : q_At z ad D cA m p l e R s mm args below meth c Q c0 s0 (pc + 1, ls.set i (.inl a), st, v, G)) : q_At z ad D cA m p l e R s mm args below meth c Q c0 s0 (pc, ls, .inl a :: st, v, G) := by
  intro H locs LS hW hK hS hL hg hc hs
  refine lv_istore_n X.1 X.2.1 hd rfl hL.has (by simp only [q_sok, Bool.and_eq_true, decide_eq_true_eq] at hk; exact hk.1.1) rfl (fun LS' h' => ?_)
  exact k H locs LS' hW hK hS (hL.store1 (y := .inl a) hk hg h') (hg.store1 (fun _ q => by cases q)) hc hs
theorem q_s_istore (X : q_Cx z ad D cA m d p R s mm args meth c) {a : Int} {i : Nat} (hd : decode (q_m m).2.1 pc = .ok (.istore i, 2)) (hk : q_sok m i = true) (k : q_At z ad D cA m p l e R s mm args below meth c Q c0 s0 (pc + 2, ls.set i (.inl a), st, v, G)) : q_At z ad D cA m p l e R s mm args below meth c Q c0 s0 (pc, ls, .inl a :: st, v, G) := by
  intro H locs LS hW hK hS hL hg hc hs
  refine lv_istore X.1 X.2.1 hd hL.has (by simp only [q_sok, Bool.and_eq_true, decide_eq_true_eq] at hk; exact hk.1.1) rfl (fun LS' h' => ?_)
  exact k H locs LS' hW hK hS (hL.store1 (y := .inl a) hk hg h') (hg.store1 (fun _ q => by cases q)) hc hs
theorem q_s_astore_n (X : q_Cx z ad D cA m d p R s mm args meth c) {a : Option Nat} {i : Fin 4} (hd : decode (q_m m).2.1 pc = .ok (.astore_n i, 1)) (hk : q_sok m i = true) (k : q_At z ad D cA m p l e R s mm args below meth c Q c0 s0 (pc + 1, ls.set i (.inr (.inr (.inl a))), st, v, G)) : q_At z ad D cA m p l e R s mm args below meth c Q c0 s0 (pc, ls, .inr (.inr (.inl a)) :: st, v, G) := by
  intro H locs LS hW hK hS hL hg hc hs
  cases a with
  | none =>
    refine lv_astore_nN X.1 X.2.1 hd rfl hL.has (by simp only [q_sok, Bool.and_eq_true, decide_eq_true_eq] at hk; exact hk.1.1) rfl (fun LS' h' => ?_)
    exact k H locs LS' hW hK hS (hL.store1 (y := .inr (.inr (.inl none))) hk hg h') (hg.store1 (fun _ q => by cases q)) hc hs
  | some a =>
    refine lv_astore_n X.1 X.2.1 hd rfl hL.has (by simp only [q_sok, Bool.and_eq_true, decide_eq_true_eq] at hk; exact hk.1.1) rfl (fun LS' h' => ?_)
    exact k H locs LS' hW hK hS (hL.store1 (y := .inr (.inr (.inl (some a)))) hk hg h') (hg.store1 (fun _ q => by cases q)) hc hs
theorem q_s_astore (X : q_Cx z ad D cA m d p R s mm args meth c) {a : Option Nat} {i : Nat} (hd : decode (q_m m).2.1 pc = .ok (.astore i, 2)) (hk : q_sok m i = true) (k : q_At z ad D cA m p l e R s mm args below meth c Q c0 s0 (pc + 2, ls.set i (.inr (.inr (.inl a))), st, v, G)) : q_At z ad D cA m p l e R s mm args below meth c Q c0 s0 (pc, ls, .inr (.inr (.inl a)) :: st, v, G) := by
  intro H locs LS hW hK hS hL hg hc hs
  cases a with
  | none =>
    refine lv_astoreN X.1 X.2.1 hd hL.has (by simp only [q_sok, Bool.and_eq_true, decide_eq_true_eq] at hk; exact hk.1.1) rfl (fun LS' h' => ?_)
    exact k H locs LS' hW hK hS (hL.store1 (y := .inr (.inr (.inl none))) hk hg h') (hg.store1 (fun _ q => by cases q)) hc hs
  | some a =>
    refine lv_astore X.1 X.2.1 hd hL.has (by simp only [q_sok, Bool.and_eq_true, decide_eq_true_eq] at hk; exact hk.1.1) rfl (fun LS' h' => ?_)
    exact k H locs LS' hW hK hS (hL.store1 (y := .inr (.inr (.inl (some a)))) hk hg h') (hg.store1 (fun _ q => by cases q)) hc hs
theorem q_s_iinc (X : q_Cx z ad D cA m d p R s mm args meth c) {a n : Int} {i : Nat} (hd : decode (q_m m).2.1 pc = .ok (.iinc i n, 3)) (hk : q_sok m i = true) (hl : ls[i]? = some (.inl a)) (k : q_At z ad D cA m p l e R s mm args below meth c Q c0 s0 (pc + 3, ls.set i (.inl (a + n)), st, v, G)) : q_At z ad D cA m p l e R s mm args below meth c Q c0 s0 (pc, ls, st, v, G) := by
  intro H locs LS hW hK hS hL hg hc hs
  obtain ⟨j, hj⟩ := List.getElem?_of_mem (q_lv_mem (z := z) (ad := ad).mpr ⟨_, hl, (fun q => by cases q), rfl⟩)
  refine lv_iinc (k := j) (x := Int32.ofInt a) (v := Int32.ofInt (a + n)) X.1 X.2.1 hd hL.has hj (Int32.ofInt_add a n).symm (by simp only [q_sok, Bool.and_eq_true, decide_eq_true_eq] at hk; exact hk.1.1) rfl (fun LS' h' => ?_)
  exact k H locs LS' hW hK hS (hL.store1 (y := .inl (a + n)) hk hg h') (hg.store1 (fun _ q => by cases q)) hc hs
theorem q_s_iadd (X : q_Cx z ad D cA m d p R s mm args meth c) {a b : Int} (hd : decode (q_m m).2.1 pc = .ok (.iadd, 1)) (k : q_At z ad D cA m p l e R s mm args below meth c Q c0 s0 (pc + 1, ls, .inl (a + b) :: st, v, G)) : q_At z ad D cA m p l e R s mm args below meth c Q c0 s0 (pc, ls, .inl b :: .inl a :: st, v, G) := by
  intro H locs LS hW hK hS hL hg hc hs
  refine lv_iadd X.1 X.2.1 hd ?_
  have := k H locs LS hW hK hS hL hg hc hs
  simpa only [q_tv, List.map_cons, Int32.ofInt_add] using this
theorem q_s_isub (X : q_Cx z ad D cA m d p R s mm args meth c) {a b : Int} (hd : decode (q_m m).2.1 pc = .ok (.isub, 1)) (k : q_At z ad D cA m p l e R s mm args below meth c Q c0 s0 (pc + 1, ls, .inl (a - b) :: st, v, G)) : q_At z ad D cA m p l e R s mm args below meth c Q c0 s0 (pc, ls, .inl b :: .inl a :: st, v, G) := by
  intro H locs LS hW hK hS hL hg hc hs
  refine lv_isub X.1 X.2.1 hd ?_
  have := k H locs LS hW hK hS hL hg hc hs
  simpa only [q_tv, List.map_cons, Int32.ofInt_sub] using this
theorem q_s_imul (X : q_Cx z ad D cA m d p R s mm args meth c) {a b : Int} (hd : decode (q_m m).2.1 pc = .ok (.imul, 1)) (k : q_At z ad D cA m p l e R s mm args below meth c Q c0 s0 (pc + 1, ls, .inl (a * b) :: st, v, G)) : q_At z ad D cA m p l e R s mm args below meth c Q c0 s0 (pc, ls, .inl b :: .inl a :: st, v, G) := by
  intro H locs LS hW hK hS hL hg hc hs
  refine lv_imul X.1 X.2.1 hd ?_
  have := k H locs LS hW hK hS hL hg hc hs
  simpa only [q_tv, List.map_cons, Int32.ofInt_mul] using this
theorem q_s_ladd (X : q_Cx z ad D cA m d p R s mm args meth c) {a b : Int} (hd : decode (q_m m).2.1 pc = .ok (.ladd, 1)) (k : q_At z ad D cA m p l e R s mm args below meth c Q c0 s0 (pc + 1, ls, .inr (.inl (a + b)) :: st, v, G)) : q_At z ad D cA m p l e R s mm args below meth c Q c0 s0 (pc, ls, .inr (.inl b) :: .inr (.inl a) :: st, v, G) := by
  intro H locs LS hW hK hS hL hg hc hs
  refine lv_ladd X.1 X.2.1 hd ?_
  have := k H locs LS hW hK hS hL hg hc hs
  simpa only [q_tv, List.map_cons, Int64.ofInt_add] using this
theorem q_s_lmul (X : q_Cx z ad D cA m d p R s mm args meth c) {a b : Int} (hd : decode (q_m m).2.1 pc = .ok (.lmul, 1)) (k : q_At z ad D cA m p l e R s mm args below meth c Q c0 s0 (pc + 1, ls, .inr (.inl (a * b)) :: st, v, G)) : q_At z ad D cA m p l e R s mm args below meth c Q c0 s0 (pc, ls, .inr (.inl b) :: .inr (.inl a) :: st, v, G) := by
  intro H locs LS hW hK hS hL hg hc hs
  refine lv_lmul X.1 X.2.1 hd ?_
  have := k H locs LS hW hK hS hL hg hc hs
  simpa only [q_tv, List.map_cons, Int64.ofInt_mul] using this
theorem q_s_iand (X : q_Cx z ad D cA m d p R s mm args meth c) {a b : Int} (hd : decode (q_m m).2.1 pc = .ok (.iand, 1)) (k : q_At z ad D cA m p l e R s mm args below meth c Q c0 s0 (pc + 1, ls, .inl (Int32.ofInt a &&& Int32.ofInt b).toInt :: st, v, G)) : q_At z ad D cA m p l e R s mm args below meth c Q c0 s0 (pc, ls, .inl b :: .inl a :: st, v, G) := by
  intro H locs LS hW hK hS hL hg hc hs
  refine lv_iand X.1 X.2.1 hd ?_
  have := k H locs LS hW hK hS hL hg hc hs
  simpa only [q_tv, List.map_cons, Int32.ofInt_toInt] using this
theorem q_s_land (X : q_Cx z ad D cA m d p R s mm args meth c) {a b : Int} (hd : decode (q_m m).2.1 pc = .ok (.land, 1)) (k : q_At z ad D cA m p l e R s mm args below meth c Q c0 s0 (pc + 1, ls, .inr (.inl (Int64.ofInt a &&& Int64.ofInt b).toInt) :: st, v, G)) : q_At z ad D cA m p l e R s mm args below meth c Q c0 s0 (pc, ls, .inr (.inl b) :: .inr (.inl a) :: st, v, G) := by
  intro H locs LS hW hK hS hL hg hc hs
  refine lv_land X.1 X.2.1 hd ?_
  have := k H locs LS hW hK hS hL hg hc hs
  simpa only [q_tv, List.map_cons, Int64.ofInt_toInt] using this
theorem q_s_lor (X : q_Cx z ad D cA m d p R s mm args meth c) {a b : Int} (hd : decode (q_m m).2.1 pc = .ok (.lor, 1)) (k : q_At z ad D cA m p l e R s mm args below meth c Q c0 s0 (pc + 1, ls, .inr (.inl (Int64.ofInt a ||| Int64.ofInt b).toInt) :: st, v, G)) : q_At z ad D cA m p l e R s mm args below meth c Q c0 s0 (pc, ls, .inr (.inl b) :: .inr (.inl a) :: st, v, G) := by
  intro H locs LS hW hK hS hL hg hc hs
  refine lv_lor X.1 X.2.1 hd ?_
  have := k H locs LS hW hK hS hL hg hc hs
  simpa only [q_tv, List.map_cons, Int64.ofInt_toInt] using this
theorem q_s_i2b (X : q_Cx z ad D cA m d p R s mm args meth c) {a : Int} (hd : decode (q_m m).2.1 pc = .ok (.i2b, 1)) (k : q_At z ad D cA m p l e R s mm args below meth c Q c0 s0 (pc + 1, ls, .inl (Int32.ofInt a).toInt8.toInt32.toInt :: st, v, G)) : q_At z ad D cA m p l e R s mm args below meth c Q c0 s0 (pc, ls, .inl a :: st, v, G) := by
  intro H locs LS hW hK hS hL hg hc hs
  refine lv_i2b X.1 X.2.1 hd rfl ?_
  have := k H locs LS hW hK hS hL hg hc hs
  simpa only [q_tv, List.map_cons, Int32.ofInt_toInt] using this
theorem q_s_i2s (X : q_Cx z ad D cA m d p R s mm args meth c) {a : Int} (hd : decode (q_m m).2.1 pc = .ok (.i2s, 1)) (k : q_At z ad D cA m p l e R s mm args below meth c Q c0 s0 (pc + 1, ls, .inl (Int32.ofInt a).toInt16.toInt32.toInt :: st, v, G)) : q_At z ad D cA m p l e R s mm args below meth c Q c0 s0 (pc, ls, .inl a :: st, v, G) := by
  intro H locs LS hW hK hS hL hg hc hs
  refine lv_i2s X.1 X.2.1 hd rfl ?_
  have := k H locs LS hW hK hS hL hg hc hs
  simpa only [q_tv, List.map_cons, Int32.ofInt_toInt] using this
theorem q_s_i2l (X : q_Cx z ad D cA m d p R s mm args meth c) {a : Int} (hd : decode (q_m m).2.1 pc = .ok (.i2l, 1)) (h1 : q_inR a) (k : q_At z ad D cA m p l e R s mm args below meth c Q c0 s0 (pc + 1, ls, .inr (.inl a) :: st, v, G)) : q_At z ad D cA m p l e R s mm args below meth c Q c0 s0 (pc, ls, .inl a :: st, v, G) := by
  intro H locs LS hW hK hS hL hg hc hs
  refine lv_i2l (v := Int64.ofInt a) X.1 X.2.1 hd (Int32.toInt64_ofInt (show (-2147483648 : Int) ≤ a from h1.1) (show a ≤ (2147483647 : Int) from h1.2)) ?_
  have := k H locs LS hW hK hS hL hg hc hs
  exact this
theorem q_s_l2i (X : q_Cx z ad D cA m d p R s mm args meth c) {a : Int} (hd : decode (q_m m).2.1 pc = .ok (.l2i, 1)) (k : q_At z ad D cA m p l e R s mm args below meth c Q c0 s0 (pc + 1, ls, .inl a :: st, v, G)) : q_At z ad D cA m p l e R s mm args below meth c Q c0 s0 (pc, ls, .inr (.inl a) :: st, v, G) := by
  intro H locs LS hW hK hS hL hg hc hs
  refine lv_l2i (v := Int32.ofInt a) X.1 X.2.1 hd Int64.toInt32_ofInt ?_
  have := k H locs LS hW hK hS hL hg hc hs
  exact this
theorem q_s_lshl (X : q_Cx z ad D cA m d p R s mm args meth c) {a b : Int} (hd : decode (q_m m).2.1 pc = .ok (.lshl, 1)) (k : q_At z ad D cA m p l e R s mm args below meth c Q c0 s0 (pc + 1, ls, .inr (.inl (Int64.ofInt a <<< ((Int32.ofInt b).toInt64 &&& 63)).toInt) :: st, v, G)) : q_At z ad D cA m p l e R s mm args below meth c Q c0 s0 (pc, ls, .inl b :: .inr (.inl a) :: st, v, G) := by
  intro H locs LS hW hK hS hL hg hc hs
  refine lv_lshl X.1 X.2.1 hd rfl ?_
  have := k H locs LS hW hK hS hL hg hc hs
  simpa only [q_tv, List.map_cons, Int64.ofInt_toInt] using this
theorem q_s_lshr (X : q_Cx z ad D cA m d p R s mm args meth c) {a b : Int} (hd : decode (q_m m).2.1 pc = .ok (.lshr, 1)) (k : q_At z ad D cA m p l e R s mm args below meth c Q c0 s0 (pc + 1, ls, .inr (.inl (Int64.ofInt a >>> ((Int32.ofInt b).toInt64 &&& 63)).toInt) :: st, v, G)) : q_At z ad D cA m p l e R s mm args below meth c Q c0 s0 (pc, ls, .inl b :: .inr (.inl a) :: st, v, G) := by
  intro H locs LS hW hK hS hL hg hc hs
  refine lv_lshr X.1 X.2.1 hd rfl ?_
  have := k H locs LS hW hK hS hL hg hc hs
  simpa only [q_tv, List.map_cons, Int64.ofInt_toInt] using this
theorem q_s_lushr (X : q_Cx z ad D cA m d p R s mm args meth c) {a b : Int} (hd : decode (q_m m).2.1 pc = .ok (.lushr, 1)) (k : q_At z ad D cA m p l e R s mm args below meth c Q c0 s0 (pc + 1, ls, .inr (.inl ((Int64.ofInt a).toUInt64 >>> ((Int32.ofInt b).toInt64.toUInt64 &&& Int64.toUInt64 63)).toInt64.toInt) :: st, v, G)) : q_At z ad D cA m p l e R s mm args below meth c Q c0 s0 (pc, ls, .inl b :: .inr (.inl a) :: st, v, G) := by
  intro H locs LS hW hK hS hL hg hc hs
  refine lv_lushr X.1 X.2.1 hd rfl ?_
  have := k H locs LS hW hK hS hL hg hc hs
  simpa only [q_tv, List.map_cons, Int64.ofInt_toInt] using this
theorem q_s_idiv (X : q_Cx z ad D cA m d p R s mm args meth c) {a b : Int} (hd : decode (q_m m).2.1 pc = .ok (.idiv, 1)) (h1 : q_inR a ∧ 0 < b ∧ b ≤ 2147483647) (k : q_At z ad D cA m p l e R s mm args below meth c Q c0 s0 (pc + 1, ls, .inl (a.tdiv b) :: st, v, G)) : q_At z ad D cA m p l e R s mm args below meth c Q c0 s0 (pc, ls, .inl b :: .inl a :: st, v, G) := by
  intro H locs LS hW hK hS hL hg hc hs
  have hb : q_inR b := ⟨by omega, h1.2.2⟩
  refine lv_idiv X.1 X.2.1 hd (fun q => ?_) ?_
  · rw [show (0 : Int32) = Int32.ofInt 0 from rfl, q_eq32 hb ⟨by decide, by decide⟩] at q
    omega
  have := k H locs LS hW hK hS hL hg hc hs
  rw [show Int32.ofInt a / Int32.ofInt b = Int32.ofInt (a.tdiv b) from (Int32.ofInt_tdiv (show (-2147483648 : Int) ≤ a from h1.1.1) (show a ≤ (2147483647 : Int) from h1.1.2) (show (-2147483648 : Int) ≤ b from hb.1) (show b ≤ (2147483647 : Int) from hb.2)).symm]
  exact this
theorem q_s_irem (X : q_Cx z ad D cA m d p R s mm args meth c) {a b : Int} (hd : decode (q_m m).2.1 pc = .ok (.irem, 1)) (h1 : q_inR a ∧ 0 < b ∧ b ≤ 2147483647) (k : q_At z ad D cA m p l e R s mm args below meth c Q c0 s0 (pc + 1, ls, .inl (a.tmod b) :: st, v, G)) : q_At z ad D cA m p l e R s mm args below meth c Q c0 s0 (pc, ls, .inl b :: .inl a :: st, v, G) := by
  intro H locs LS hW hK hS hL hg hc hs
  have hb : q_inR b := ⟨by omega, h1.2.2⟩
  refine lv_irem X.1 X.2.1 hd (fun q => ?_) ?_
  · rw [show (0 : Int32) = Int32.ofInt 0 from rfl, q_eq32 hb ⟨by decide, by decide⟩] at q
    omega
  have := k H locs LS hW hK hS hL hg hc hs
  rw [irem_eq_mod, show Int32.ofInt a % Int32.ofInt b = Int32.ofInt (a.tmod b) from (Int32.ofInt_tmod (show (-2147483648 : Int) ≤ a from h1.1.1) (show a ≤ (2147483647 : Int) from h1.1.2) (show (-2147483648 : Int) ≤ b from hb.1) (show b ≤ (2147483647 : Int) from hb.2)).symm]
  exact this
theorem q_s_lrem (X : q_Cx z ad D cA m d p R s mm args meth c) {a b : Int} (hd : decode (q_m m).2.1 pc = .ok (.lrem, 1)) (h1 : q_inL a ∧ 0 < b ∧ b ≤ 9223372036854775807) (k : q_At z ad D cA m p l e R s mm args below meth c Q c0 s0 (pc + 1, ls, .inr (.inl (a.tmod b)) :: st, v, G)) : q_At z ad D cA m p l e R s mm args below meth c Q c0 s0 (pc, ls, .inr (.inl b) :: .inr (.inl a) :: st, v, G) := by
  intro H locs LS hW hK hS hL hg hc hs
  have hb : q_inL b := ⟨by omega, h1.2.2⟩
  refine lv_lrem X.1 X.2.1 hd (fun q => ?_) ?_
  · rw [show (0 : Int64) = Int64.ofInt 0 from rfl, q_eq64 hb ⟨by decide, by decide⟩] at q
    omega
  have := k H locs LS hW hK hS hL hg hc hs
  have e1 : Int64.ofInt a - Int64.ofInt a / Int64.ofInt b * Int64.ofInt b = Int64.ofInt (a.tmod b) := by
    rw [show Int64.ofInt (a.tmod b) = Int64.ofInt a % Int64.ofInt b from (Int64.ofInt_tmod (show (-9223372036854775808 : Int) ≤ a from h1.1.1) (show a ≤ (9223372036854775807 : Int) from h1.1.2) (show (-9223372036854775808 : Int) ≤ b from hb.1) (show b ≤ (9223372036854775807 : Int) from hb.2))]
    exact q_lrem _ _
  rw [e1]
  exact this
theorem q_s_lcmp (X : q_Cx z ad D cA m d p R s mm args meth c) {a b : Int} (hd : decode (q_m m).2.1 pc = .ok (.lcmp, 1)) (h1 : q_inL a ∧ q_inL b) (k : q_At z ad D cA m p l e R s mm args below meth c Q c0 s0 (pc + 1, ls, .inl (if b < a then 1 else if a = b then 0 else -1) :: st, v, G)) : q_At z ad D cA m p l e R s mm args below meth c Q c0 s0 (pc, ls, .inr (.inl b) :: .inr (.inl a) :: st, v, G) := by
  intro H locs LS hW hK hS hL hg hc hs
  refine W.lcmp X.1 X.2.1 hd ?_
  have := k H locs LS hW hK hS hL hg hc hs
  have e1 : lg_cmp (Int64.ofInt a) (Int64.ofInt b) = Int32.ofInt (if b < a then 1 else if a = b then 0 else -1) := by
    unfold lg_cmp
    by_cases q : b < a
    · rw [if_pos ((q_lt64 h1.2 h1.1).mpr q), if_pos q]; rfl
    · rw [if_neg (fun z => q ((q_lt64 h1.2 h1.1).mp z)), if_neg q]
      by_cases q2 : a = b
      · rw [if_pos ((q_eq64 h1.1 h1.2).mpr q2), if_pos q2]; rfl
      · rw [if_neg (fun z => q2 ((q_eq64 h1.1 h1.2).mp z)), if_neg q2]; rfl
  rw [e1]
  exact this
theorem q_s_dupI (X : q_Cx z ad D cA m d p R s mm args meth c) {a : Int} (hd : decode (q_m m).2.1 pc = .ok (.dup, 1)) (k : q_At z ad D cA m p l e R s mm args below meth c Q c0 s0 (pc + 1, ls, .inl a :: .inl a :: st, v, G)) : q_At z ad D cA m p l e R s mm args below meth c Q c0 s0 (pc, ls, .inl a :: st, v, G) := by
  intro H locs LS hW hK hS hL hg hc hs
  exact lv_dup X.1 X.2.1 hd rfl (k H locs LS hW hK hS hL hg hc hs)
theorem q_s_dupP (X : q_Cx z ad D cA m d p R s mm args meth c) {a : Option Nat} (hd : decode (q_m m).2.1 pc = .ok (.dup, 1)) (k : q_At z ad D cA m p l e R s mm args below meth c Q c0 s0 (pc + 1, ls, .inr (.inr (.inl a)) :: .inr (.inr (.inl a)) :: st, v, G)) : q_At z ad D cA m p l e R s mm args below meth c Q c0 s0 (pc, ls, .inr (.inr (.inl a)) :: st, v, G) := by
  intro H locs LS hW hK hS hL hg hc hs
  exact lv_dup X.1 X.2.1 hd (by cases a <;> rfl) (k H locs LS hW hK hS hL hg hc hs)
theorem q_s_popI (X : q_Cx z ad D cA m d p R s mm args meth c) {a : Int} (hd : decode (q_m m).2.1 pc = .ok (.pop, 1)) (k : q_At z ad D cA m p l e R s mm args below meth c Q c0 s0 (pc + 1, ls, st, v, G)) : q_At z ad D cA m p l e R s mm args below meth c Q c0 s0 (pc, ls, .inl a :: st, v, G) := by
  intro H locs LS hW hK hS hL hg hc hs
  exact lv_pop X.1 X.2.1 hd rfl (k H locs LS hW hK hS hL hg hc hs)
theorem q_s_popP (X : q_Cx z ad D cA m d p R s mm args meth c) {a : Option Nat} (hd : decode (q_m m).2.1 pc = .ok (.pop, 1)) (k : q_At z ad D cA m p l e R s mm args below meth c Q c0 s0 (pc + 1, ls, st, v, G)) : q_At z ad D cA m p l e R s mm args below meth c Q c0 s0 (pc, ls, .inr (.inr (.inl a)) :: st, v, G) := by
  intro H locs LS hW hK hS hL hg hc hs
  exact lv_pop X.1 X.2.1 hd (by cases a <;> rfl) (k H locs LS hW hK hS hL hg hc hs)
theorem q_s_dup2 (X : q_Cx z ad D cA m d p R s mm args meth c) {i : Int} {a : Nat} (hd : decode (q_m m).2.1 pc = .ok (.dup2, 1)) (k : q_At z ad D cA m p l e R s mm args below meth c Q c0 s0 (pc + 1, ls, .inl i :: .inr (.inr (.inl (some a))) :: .inl i :: .inr (.inr (.inl (some a))) :: st, v, G)) : q_At z ad D cA m p l e R s mm args below meth c Q c0 s0 (pc, ls, .inl i :: .inr (.inr (.inl (some a))) :: st, v, G) := by
  intro H locs LS hW hK hS hL hg hc hs
  exact lv_dup2_11 X.1 X.2.1 hd rfl rfl (k H locs LS hW hK hS hL hg hc hs)
theorem q_s_goto (X : q_Cx z ad D cA m d p R s mm args meth c) {off : Int} {t : Nat} (hd : decode (q_m m).2.1 pc = .ok (.goto off, 3)) (ht : (pc : Int) + off = (t : Int)) (k : q_At z ad D cA m p l e R s mm args below meth c Q c0 s0 (t, ls, st, v, G)) : q_At z ad D cA m p l e R s mm args below meth c Q c0 s0 (pc, ls, st, v, G) := by
  intro H locs LS hW hK hS hL hg hc hs
  exact lv_goto X.1 X.2.1 hd ht (k H locs LS hW hK hS hL hg hc hs)
theorem q_s_ifnull (X : q_Cx z ad D cA m d p R s mm args meth c) {off : Int} {a : Option Nat} {S : q_S} (hd : decode (q_m m).2.1 pc = .ok (.ifnull off, 3)) (h : (if a.isNone then q_jmp pc off ls st v G else some (pc + 3, ls, st, v, G)) = some S) (k : q_At z ad D cA m p l e R s mm args below meth c Q c0 s0 S) : q_At z ad D cA m p l e R s mm args below meth c Q c0 s0 (pc, ls, .inr (.inr (.inl a)) :: st, v, G) := by
  intro H locs LS hW hK hS hL hg hc hs
  cases a with
  | none =>
    obtain ⟨t, ht, rfl⟩ := q_jmp_some h
    exact lv_ifnullN X.1 X.2.1 hd ht (k H locs LS hW hK hS hL hg hc hs)
  | some a =>
    cases h
    exact lv_ifnull X.1 X.2.1 hd (k H locs LS hW hK hS hL hg hc hs)
theorem q_s_ifnonnull (X : q_Cx z ad D cA m d p R s mm args meth c) {off : Int} {a : Option Nat} {S : q_S} (hd : decode (q_m m).2.1 pc = .ok (.ifnonnull off, 3)) (h : (if a.isNone then some (pc + 3, ls, st, v, G) else q_jmp pc off ls st v G) = some S) (k : q_At z ad D cA m p l e R s mm args below meth c Q c0 s0 S) : q_At z ad D cA m p l e R s mm args below meth c Q c0 s0 (pc, ls, .inr (.inr (.inl a)) :: st, v, G) := by
  intro H locs LS hW hK hS hL hg hc hs
  cases a with
  | none =>
    cases h
    exact lv_ifnonnullN X.1 X.2.1 hd (k H locs LS hW hK hS hL hg hc hs)
  | some a =>
    obtain ⟨t, ht, rfl⟩ := q_jmp_some h
    exact lv_ifnonnull X.1 X.2.1 hd ht (k H locs LS hW hK hS hL hg hc hs)
theorem q_cmp_iff {cd : ClassFile.Cond} {a b : Int} : q_cmp cd a b = true ↔ (match cd with | .eq => a = b | .ne => ¬ a = b | .lt => a < b | .ge => b ≤ a | .gt => b < a | .le => a ≤ b) := by
  cases cd <;> simp [q_cmp]
theorem q_br_some {b : Bool} {pc : Nat} {off : Int} {ls st : List q_V} {v : q_H} {G : q_Gr} {S : q_S} (h : q_br b pc off ls st v G = some S) : ∃ t : Nat, (pc : Int) + off = (t : Int) ∧ S = (if b then t else pc + 3, ls, st, v, G) := by
  unfold q_br at h; split at h
  · next e =>
    refine ⟨((pc : Int) + off).toNat, by omega, ?_⟩
    cases h
    rfl
  · cases h
theorem q_s_icmp (X : q_Cx z ad D cA m d p R s mm args meth c) {cd : ClassFile.Cond} {off : Int} {a b : Int} {t : Nat} (hd : decode (q_m m).2.1 pc = .ok (.if_icmp cd off, 3)) (h1 : q_inR a ∧ q_inR b) (ht : (pc : Int) + off = (t : Int)) (k : q_At z ad D cA m p l e R s mm args below meth c Q c0 s0 (if q_cmp cd a b then t else pc + 3, ls, st, v, G)) : q_At z ad D cA m p l e R s mm args below meth c Q c0 s0 (pc, ls, .inl b :: .inl a :: st, v, G) := by
  intro H locs LS hW hK hS hL hg hc hs
  have key : ∀ (P : Prop) (b0 : Bool), (b0 = true ↔ P) → q_cmp cd a b = b0 → (P → W p l e R s mm args below meth c H locs (G.2.2.1 - c0) (G.2.2.2 - s0) Q (F0 mm t LS (st.map (q_tv z ad)))) ∧ (¬ P → W p l e R s mm args below meth c H locs (G.2.2.1 - c0) (G.2.2.2 - s0) Q (F0 mm (pc + 3) LS (st.map (q_tv z ad)))) := by
    intro P b0 hP hb
    rw [hb] at k
    refine ⟨fun q => ?_, fun q => ?_⟩
    · rw [hP.mpr q] at k
      exact k H locs LS hW hK hS hL hg hc hs
    · have e : b0 = false := by cases b0 with | false => rfl | true => exact absurd (hP.mp rfl) q
      rw [e] at k
      exact k H locs LS hW hK hS hL hg hc hs
  cases cd with
  | eq =>
    have kk := key _ _ (q_cmp_iff.trans (Iff.symm (q_eq32 h1.1 h1.2))) rfl
    exact lv_icmp_eq X.1 X.2.1 hd ht kk.1 (kk.2)
  | ne =>
    have kk := key _ _ (q_cmp_iff.trans (Iff.symm (not_congr (q_eq32 h1.1 h1.2)))) rfl
    exact lv_icmp_ne X.1 X.2.1 hd ht kk.1 (fun q => kk.2 (fun z => z q))
  | lt =>
    have kk := key _ _ (q_cmp_iff.trans (Iff.symm (q_lt32 h1.1 h1.2))) rfl
    exact lv_icmp_lt X.1 X.2.1 hd ht kk.1 (kk.2)
  | ge =>
    have kk := key _ _ (q_cmp_iff.trans (Iff.symm (q_le32 h1.2 h1.1))) rfl
    exact lv_icmp_ge X.1 X.2.1 hd ht kk.1 (kk.2)
  | gt =>
    have kk := key _ _ (q_cmp_iff.trans (Iff.symm (q_lt32 h1.2 h1.1))) rfl
    exact lv_icmp_gt X.1 X.2.1 hd ht kk.1 (kk.2)
  | le =>
    have kk := key _ _ (q_cmp_iff.trans (Iff.symm (q_le32 h1.1 h1.2))) rfl
    exact lv_icmp_le X.1 X.2.1 hd ht kk.1 (kk.2)
theorem q_s_if (X : q_Cx z ad D cA m d p R s mm args meth c) {cd : ClassFile.Cond} {off : Int} {a : Int} {t : Nat} (hd : decode (q_m m).2.1 pc = .ok (.ifCond cd off, 3)) (h1 : q_inR a ∧ q_inR 0) (ht : (pc : Int) + off = (t : Int)) (k : q_At z ad D cA m p l e R s mm args below meth c Q c0 s0 (if q_cmp cd a 0 then t else pc + 3, ls, st, v, G)) : q_At z ad D cA m p l e R s mm args below meth c Q c0 s0 (pc, ls, .inl a :: st, v, G) := by
  intro H locs LS hW hK hS hL hg hc hs
  have key : ∀ (P : Prop) (b0 : Bool), (b0 = true ↔ P) → q_cmp cd a 0 = b0 → (P → W p l e R s mm args below meth c H locs (G.2.2.1 - c0) (G.2.2.2 - s0) Q (F0 mm t LS (st.map (q_tv z ad)))) ∧ (¬ P → W p l e R s mm args below meth c H locs (G.2.2.1 - c0) (G.2.2.2 - s0) Q (F0 mm (pc + 3) LS (st.map (q_tv z ad)))) := by
    intro P b0 hP hb
    rw [hb] at k
    refine ⟨fun q => ?_, fun q => ?_⟩
    · rw [hP.mpr q] at k
      exact k H locs LS hW hK hS hL hg hc hs
    · have e : b0 = false := by cases b0 with | false => rfl | true => exact absurd (hP.mp rfl) q
      rw [e] at k
      exact k H locs LS hW hK hS hL hg hc hs
  cases cd with
  | eq =>
    have kk := key _ _ (q_cmp_iff.trans (Iff.symm (q_eq32 h1.1 h1.2))) rfl
    exact lv_if_eq X.1 X.2.1 hd ht kk.1 (kk.2)
  | ne =>
    have kk := key _ _ (q_cmp_iff.trans (Iff.symm (not_congr (q_eq32 h1.1 h1.2)))) rfl
    exact lv_if_ne X.1 X.2.1 hd ht kk.1 (fun q => kk.2 (fun z => z q))
  | lt =>
    have kk := key _ _ (q_cmp_iff.trans (Iff.symm (q_lt32 h1.1 h1.2))) rfl
    exact lv_if_lt X.1 X.2.1 hd ht kk.1 (kk.2)
  | ge =>
    have kk := key _ _ (q_cmp_iff.trans (Iff.symm (q_le32 h1.2 h1.1))) rfl
    exact lv_if_ge X.1 X.2.1 hd ht kk.1 (kk.2)
  | gt =>
    have kk := key _ _ (q_cmp_iff.trans (Iff.symm (q_lt32 h1.2 h1.1))) rfl
    exact lv_if_gt X.1 X.2.1 hd ht kk.1 (kk.2)
  | le =>
    have kk := key _ _ (q_cmp_iff.trans (Iff.symm (q_le32 h1.1 h1.2))) rfl
    exact lv_if_le X.1 X.2.1 hd ht kk.1 (kk.2)
theorem q_s_table (X : q_Cx z ad D cA m d p R s mm args meth c) {dflt lo hi : Int} {offs : Array Int} {len : Nat} {a : Int} {S : q_S} (hd : decode (q_m m).2.1 pc = .ok (.tableswitch dflt lo hi offs, len)) (h1 : q_inR a) (h : (if a < lo ∨ hi < a then q_jmp pc dflt ls st v G else match offs[(a - lo).toNat]? with
    | some off => q_jmp pc off ls st v G
    | none => none) = some S) (k : q_At z ad D cA m p l e R s mm args below meth c Q c0 s0 S) : q_At z ad D cA m p l e R s mm args below meth c Q c0 s0 (pc, ls, .inl a :: st, v, G) := by
  intro H locs LS hW hK hS hL hg hc hs
  have e := q_i32 h1
  by_cases hq : a < lo ∨ hi < a
  · rw [if_pos hq] at h
    obtain ⟨t, ht, rfl⟩ := q_jmp_some h
    exact lv_tableOut X.1 X.2.1 hd (by rw [e]; exact hq) ht (k H locs LS hW hK hS hL hg hc hs)
  · rw [if_neg hq] at h
    split at h
    · next off ho =>
      obtain ⟨t, ht, rfl⟩ := q_jmp_some h
      exact lv_tableIn X.1 X.2.1 hd (by rw [e]; omega) (by rw [e]; omega) (by rw [e]; exact ho) ht (k H locs LS hW hK hS hL hg hc hs)
    · cases h
theorem q_s_ldcS (X : q_Cx z ad D cA m d p R s mm args meth c) {i b : Nat} (hd : decode (q_m m).2.1 pc = .ok (.ldc i, 2)) (hw : (q_m m).2.2.2.2.1 = RX4 ∧ 5 ≤ b ∧ b < 12 ∧ q_sidx.getD (b - 5) 0 = i) (k : q_At z ad D cA m p l e R s mm args below meth c Q c0 s0 (pc + 2, ls, .inr (.inr (.inl (some b))) :: st, v, G)) : q_At z ad D cA m p l e R s mm args below meth c Q c0 s0 (pc, ls, st, v, G) := by
  intro H locs LS hW hK hS hL hg hc hs
  have hR := X.2.2.2.2.2.2.2.2.1.2.2.2.1 (b - 5) (by omega)
  rw [hw.2.2.2, show 5 + (b - 5) = b by omega] at hR
  have hown := X.2.2.2.1
  rw [hw.1] at hown
  have := k H locs LS hW hK hS hL hg hc hs
  refine va_ldcS X.1 X.2.1 hown hR hd ?_
  rw [show ad b = q_ad z ad b by unfold q_ad; rw [if_pos (by omega)]]
  exact this
theorem q_s_gets (X : q_Cx z ad D cA m d p R s mm args meth c) {i h j : Nat} (hd : decode (q_m m).2.1 pc = .ok (.getstatic i, 3)) (hj : j < 4) (hw : q_at h (.fieldLink (q_m m).2.2.2.2.1 i (q_stat.getD j ("", "")).1 (q_stat.getD j ("", "")).2 "[I") = true) (k : q_At z ad D cA m p l e R s mm args below meth c Q c0 s0 (pc + 3, ls, .inr (.inr (.inl (some (j + 1)))) :: st, v, G)) : q_At z ad D cA m p l e R s mm args below meth c Q c0 s0 (pc, ls, st, v, G) := by
  intro H locs LS hW hK hS hL hg hc hs
  have hZ := X.2.2.2.2.2.2.2.2.1.2.2.2.2.1 j hj
  have := k H locs LS hW hK hS hL hg hc hs
  refine va_gets X.1 X.2.1 hZ hS X.2.2.2.1 (X.2.2.2.2.1 _ (q_at_mem hw)) (fun _ q => q) hd ?_
  rw [show ad (1 + j) = q_ad z ad (j + 1) by unfold q_ad; rw [if_pos (by omega), Nat.add_comm]]
  exact this
theorem q_s_objInit (X : q_Cx z ad D cA m d p R s mm args meth c) {i h a : Nat} (hd : decode (q_m m).2.1 pc = .ok (.invokespecial i, 3)) (hw : q_at h (.methodLink (q_m m).2.2.2.2.1 i objectInit) = true) (hr : st.length ≤ 4) (k : q_At z ad D cA m p l e R s mm args below meth c Q c0 s0 (pc + 3, ls, st, v, G)) : q_At z ad D cA m p l e R s mm args below meth c Q c0 s0 (pc, ls, .inr (.inr (.inl (some a))) :: st, v, G) := by
  intro H locs LS hW hK hS hL hg hc hs
  have := k H locs LS hW hK hS hL hg hc hs
  have hcs : ∀ l : List q_V, ((l.map (q_tv z ad)).map fun v => v.category).sum ≤ 2 * l.length := by
    intro l
    induction l with
    | nil => exact Nat.le_refl _
    | cons a l ih =>
      simp only [List.map_cons, List.sum_cons, List.length_cons]
      have := lv_cat (q_tv z ad a)
      omega
  have h8 := hcs st
  refine W.objInit (rest := st.map (q_tv z ad)) X.1 X.2.1 X.2.2.2.1 (X.2.2.2.2.1 _ (q_at_mem hw)) (X.2.2.2.2.1 _ q_obj_inst) (X.2.2.2.2.1 _ q_obj_code) rfl (by rw [X.2.2.1]; exact hL.1) rfl hd (by have := X.2.2.2.2.2.2.2.2.2.2.1; omega) (by have := X.2.2.2.2.2.2.2.2.2.2.2; show 2 * 0 + _ + 12 ≤ _; omega) ?_
  exact this
end QS
