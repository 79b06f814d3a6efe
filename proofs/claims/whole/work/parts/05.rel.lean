/-! ===== numbers ===== -/
theorem q_i32 {a : Int} (h : q_inR a) : (Int32.ofInt a).toInt = a := Int32.toInt_ofInt_of_le (by have := h.1; omega) (by have := h.2; omega)
theorem q_i64 {a : Int} (h : q_inL a) : (Int64.ofInt a).toInt = a := Int64.toInt_ofInt_of_le (by have := h.1; omega) (by have := h.2; omega)
theorem q_eq32 {a b : Int} (ha : q_inR a) (hb : q_inR b) : Int32.ofInt a = Int32.ofInt b ↔ a = b := ⟨fun h => by
  have := congrArg Int32.toInt h
  rwa [q_i32 ha, q_i32 hb] at this, fun h => by rw [h]⟩
theorem q_eq64 {a b : Int} (ha : q_inL a) (hb : q_inL b) : Int64.ofInt a = Int64.ofInt b ↔ a = b := ⟨fun h => by
  have := congrArg Int64.toInt h
  rwa [q_i64 ha, q_i64 hb] at this, fun h => by rw [h]⟩
theorem q_lt32 {a b : Int} (ha : q_inR a) (hb : q_inR b) : Int32.ofInt a < Int32.ofInt b ↔ a < b := by rw [Int32.lt_iff_toInt_lt, q_i32 ha, q_i32 hb]
theorem q_le32 {a b : Int} (ha : q_inR a) (hb : q_inR b) : Int32.ofInt a ≤ Int32.ofInt b ↔ a ≤ b := by rw [Int32.le_iff_toInt_le, q_i32 ha, q_i32 hb]
theorem q_lt64 {a b : Int} (ha : q_inL a) (hb : q_inL b) : Int64.ofInt a < Int64.ofInt b ↔ a < b := by rw [Int64.lt_iff_toInt_lt, q_i64 ha, q_i64 hb]
theorem q_cl {a : Int} (h0 : 0 ≤ a) (h1 : a ≤ 2147483647) : (Int32.ofInt a).toNatClampNeg = a.toNat := Int32.toNatClampNeg_ofInt_of_le (by omega) (by omega)
theorem q_neg {a : Int} (h0 : 0 ≤ a) (h1 : a ≤ 2147483647) : ¬ Int32.ofInt a < 0 := by
  rw [show (0 : Int32) = Int32.ofInt 0 from rfl, q_lt32 ⟨by omega, h1⟩ ⟨by decide, by decide⟩]
  omega
theorem q_vin {i : Int} {n : Nat} (h0 : 0 ≤ i) (h1 : i < n) (hn : n ≤ 2147483647) : vp_in (Int32.ofInt i) n := by
  intro h
  rcases h with h | h
  · exact q_neg h0 (by omega) h
  · rw [q_cl h0 (by omega)] at h
    omega
/-! ===== the clean state against the machine's ===== -/
def q_ad (z : Nat) (ad : Nat → Nat) (a : Nat) : Nat := if a < 32 then ad a else z + (a - 32)
def q_rv (z : Nat) (ad : Nat → Nat) (p : Option Nat) : Value := va_rf (p.map (q_ad z ad))
def q_tv (z : Nat) (ad : Nat → Nat) : q_V → Value
  | .inl k => .int (Int32.ofInt k)
  | .inr (.inl k) => .long (Int64.ofInt k)
  | .inr (.inr (.inl p)) => q_rv z ad p
  | .inr (.inr (.inr _)) => .null
def q_ft (ci k : Nat) : FieldType := (q_fty.getD ci tyX0) k
def q_fv (z : Nat) (ad : Nat → Nat) (v : q_H) (G : q_Gr) (a k : Nat) : Value := if q_ft (G.2.1 a).1 k = .int then .int (Int32.ofInt (v a k)) else q_rv z ad (G.1 a k)
def q_cell (z : Nat) (ad : Nat → Nat) (D : va_G) (cA : Nat → ClassId) (v : q_H) (G : q_Gr) (a : Nat) (H : Heap) : Prop :=
  if (G.2.1 a).1 < 12 then ∃ r : vw_C, vwCl[(G.2.1 a).1]? = some r ∧ t_OB (q_ad z ad a) (D.1 (G.2.1 a).1) r.2.2 (D.2 (G.2.1 a).1) H (q_fv z ad v G a)
  else if (G.2.1 a).1 = 20 ∨ (G.2.1 a).1 = 21 then H[q_ad z ad a]? = some (arrV (cA (G.2.1 a).1) (G.2.1 a).2 (fun j => .int (Int32.ofInt (v a j))))
  else ((G.2.1 a).1 = 30 ∨ (G.2.1 a).1 = 37 ∨ (G.2.1 a).1 = 38) ∧ H[q_ad z ad a]? = some (arrV (cA (G.2.1 a).1) (G.2.1 a).2 (fun j => q_rv z ad (G.1 a j)))
theorem q_cell.kept {z : Nat} {ad : Nat → Nat} {D : va_G} {cA : Nat → ClassId} {v v' : q_H} {G G' : q_Gr} {a : Nat} {H H' : Heap} (h : q_cell z ad D cA v G a H) (hH : H'[q_ad z ad a]? = H[q_ad z ad a]?) (hv : v' a = v a) (hr : G'.1 a = G.1 a) (hs : G'.2.1 a = G.2.1 a) : q_cell z ad D cA v' G' a H' := by
  have hf : q_fv z ad v' G' a = q_fv z ad v G a := by
    funext k
    simp only [q_fv, hv, hr, hs]
  unfold q_cell at h ⊢
  rw [hs, hf]
  split
  · next h1 =>
    rw [if_pos h1] at h
    obtain ⟨r, e1, e2⟩ := h
    exact ⟨r, e1, e2.kept hH⟩
  · next h1 =>
    rw [if_neg h1] at h
    split
    · next h2 =>
      rw [if_pos h2] at h
      rw [hH, hv]
      exact h
    · next h2 =>
      rw [if_neg h2] at h
      rw [hH, hr]
      exact h
/-- the world: every cell that was made is as the clean state has it -/
def q_W (z : Nat) (ad : Nat → Nat) (D : va_G) (cA : Nat → ClassId) (v : q_H) (G : q_Gr) (H : Heap) : Prop :=
  H.size = z + G.2.2.1 ∧ (∀ a, 32 ≤ a → a < 32 + G.2.2.1 → q_cell z ad D cA v G a H) ∧ (∀ a, 32 + G.2.2.1 ≤ a → (G.2.1 a).1 = 99) ∧ ∀ a, (G.2.1 a).2 ≤ 2147483647
abbrev q_A (z : Nat) : Nat → Prop := fun q => z ≤ q
/-- what was there before: arrays of ints, texts -/
def q_K (z : Nat) (ad : Nat → Nat) (v : q_H) (G : q_Gr) (U : State) (H : Heap) : Prop := ∀ a, a < 32 →
  ((G.2.1 a).1 = 20 ∧ va_T .int (ad a) (G.2.1 a).2 (fun j => .int (Int32.ofInt (v a j))) (q_A z) U H) ∨
  ((G.2.1 a).1 = 50 ∧ ∃ b, va_O "java/lang/String" (ad a) (q_A z) U H ∧ va_OF "java/lang/String" "coder" "B" (.int 0) (ad a) (q_A z) U H ∧ va_OF "java/lang/String" "value" "[B" (.ref b) (ad a) (q_A z) U H ∧ va_T .byte b (G.2.1 a).2 (fun j => .int (Int32.ofInt (v a j))) (q_A z) U H ∧ ∀ j, j < (G.2.1 a).2 → 0 ≤ v a j ∧ v a j < 128) ∨
  (G.2.1 a).1 = 99
theorem q_K.kept {z : Nat} {ad : Nat → Nat} {v v' : q_H} {G G' : q_Gr} {U : State} {H : Heap} (h : q_K z ad v G U H) (hv : ∀ a, a < 32 → v' a = v a) (hs : ∀ a, a < 32 → G'.2.1 a = G.2.1 a) : q_K z ad v' G' U H := by
  intro a ha
  rw [hv a ha, hs a ha]
  exact h a ha
abbrev q_tys (cA : Nat → ClassId) : List (ClassId × FieldType) := [(cA 20, .int), (cA 21, .boolean), (cA 30, .object RX0), (cA 37, .object RX7), (cA 38, .object RX8)]
/-- what the tables say, and what statics and texts are -/
def q_E (z : Nat) (ad : Nat → Nat) (D : va_G) (cA : Nat → ClassId) (U : State) (H : Heap) : Prop :=
  va_K D vwCl (q_tys cA) U ∧ (∀ q ∈ q_nest, va_Nw (.methodLinkNest q.1 q.2.1 q.2.2.1 q.2.2.2) U) ∧ (va_AO RX0 U ∧ va_AO RX7 U ∧ va_AO RX8 U) ∧
  (∀ j, j < 7 → vk_R RX4 (q_sidx.getD j 0) (q_stxt.getD j "") (ad (5 + j)) U) ∧ (∀ j, j < 4 → va_Z (q_stat.getD j ("", "")).1 (q_stat.getD j ("", "")).2 "[I" (.ref (ad (1 + j))) (q_A z) U H) ∧
  va_Z "java/lang/String" "COMPACT_STRINGS" "Z" (.int 1) (q_A z) U H ∧ va_Zq "jdk/internal/util/Preconditions" "SIOOBE_FORMATTER" "Ljava/util/function/BiFunction;" (q_A z) U H
/-- the locals -/
def q_L (z : Nat) (ad : Nat → Nat) (ls : List q_V) (LS : Array Slot) (n : Nat) : Prop := LS.size = n ∧ ls.length = n ∧ lv_wf LS ∧ ∀ (i : Nat) (c : q_V), ls[i]? = some c → c ≠ .inr (.inr (.inr ())) → LS[i]? = some (.val (q_tv z ad c))
def q_lgm (m : Nat) : List Nat := q_LG.getD m []
def q_lg (m : Nat) (ls : List q_V) : Prop := ∀ (i : Nat) (k : Int), ls[i]? = some (.inr (.inl k)) → i ∈ q_lgm m
/-! ===== what is checked of the tables, an instruction at a time ===== -/
def q_len : Instr → Nat
  | .bipush _ => 2
  | .sipush _ => 3
  | .ldc _ => 2
  | .ldc_w _ => 3
  | .ldc2_w _ => 3
  | .iload _ => 2
  | .lload _ => 2
  | .aload _ => 2
  | .istore _ => 2
  | .lstore _ => 2
  | .astore _ => 2
  | .iinc _ _ => 3
  | .goto _ => 3
  | .ifCond _ _ => 3
  | .if_icmp _ _ => 3
  | .ifnull _ => 3
  | .ifnonnull _ => 3
  | .getfield _ => 3
  | .putfield _ => 3
  | .getstatic _ => 3
  | .new _ => 3
  | .newarray _ => 2
  | .anewarray _ => 3
  | .invokespecial _ => 3
  | .invokestatic _ => 3
  | .invokevirtual _ => 3
  | _ => 1
def q_cls (ci : Nat) : vw_C := vwCl.getD ci (RX0, TX0, 6)
def q_fok (own : String) (x : q_I) (idx : Nat) : Bool := decide (x.2.2.1 < 12) && decide (x.2.2.2.1 < (q_cls x.2.2.1).2.2) && q_at x.2.2.2.2.2.1 (.fieldLink own idx ((q_cls x.2.2.1).2.1 x.2.2.2.1).1 ((q_cls x.2.2.1).2.1 x.2.2.2.1).2.1 ((q_cls x.2.2.1).2.1 x.2.2.2.1).2.2.1) && decide ((q_ft x.2.2.1 x.2.2.2.1 = .int) ↔ x.2.2.2.2.1 = 0)
/-- a store of one word to local k: no long is there, none just below -/
def q_sok (m k : Nat) : Bool := decide (k < (q_m m).2.2.1) && !(q_lgm m).contains k && !(decide (0 < k) && (q_lgm m).contains (k - 1))
def q_lok (m k : Nat) : Bool := decide (k + 1 < (q_m m).2.2.1) && (q_lgm m).contains k && !(decide (0 < k) && (q_lgm m).contains (k - 1))
/-- a method that is called: its words -/
def q_mok (m : Nat) : Bool := decide (m < 227) && plainName (q_m m).1.cls && decide ((q_m m).1.cls ≠ "java/lang/invoke/MethodHandle") && decide ((q_m m).1.cls ≠ "java/lang/invoke/VarHandle") && decide ((parseMethodDescriptor (q_m m).1.desc).map (fun d => d.parameters.length) = some (q_m m).2.2.2.2.2.1) && decide ((q_m m).2.2.1 ≤ 40) && q_at (q_m m).2.2.2.2.2.2.2.2.1 (.code (q_m m).1 (q_m m).2.1 (q_m m).2.2.1 (q_m m).2.2.2.1) && q_at (q_m m).2.2.2.2.2.2.2.2.2.1 (.initialized (q_m m).1.cls) && decide ((q_m m).1.cls = (q_m m).2.2.2.2.1) &&
  (match (q_m m).2.2.2.2.2.2.1 with
  | 0 => q_at (q_m m).2.2.2.2.2.2.2.2.2.2.1 (.static (q_m m).1)
  | 1 => q_at (q_m m).2.2.2.2.2.2.2.2.2.2.1 (.instanceMethod (q_m m).1) && q_at (q_m m).2.2.2.2.2.2.2.2.2.2.2 (.selects (q_m m).1.cls (q_m m).1 (q_m m).1) && decide ((q_m m).2.2.2.2.2.2.2.1 < 12) && decide ((q_cls (q_m m).2.2.2.2.2.2.2.1).1 = (q_m m).1.cls)
  | 2 => q_at (q_m m).2.2.2.2.2.2.2.2.2.2.1 (.instanceMethod (q_m m).1) && decide ((q_m m).1.name = "<init>") && decide ((q_m m).2.2.2.1 = none)
  | _ => false)
def q_lnk (own : String) (x : q_I) (idx : Nat) (y : MethodName) : Bool := if x.2.2.2.2.1 = 0 then q_at x.2.2.2.2.2.1 (.methodLink own idx y) else decide ((q_nest[x.2.2.2.2.2.1]?).map (fun q => (q.1, q.2.1, q.2.2.1)) = some (own, idx, y))
def q_chkx (m : Nat) (x : q_I) : Bool := match x.1 with
  | .getfield i => q_fok (q_m m).2.2.2.2.1 x i
  | .putfield i => q_fok (q_m m).2.2.2.2.1 x i && (!((q_cls x.2.2.1).2.1 x.2.2.2.1).2.2.2 || (decide ((q_m m).2.2.2.2.2.2.1 = 2) && decide (((q_cls x.2.2.1).2.1 x.2.2.2.1).1 = (q_m m).2.2.2.2.1)))
  | .getstatic i => decide (x.2.2.1 < 4) && q_at x.2.2.2.2.2.1 (.fieldLink (q_m m).2.2.2.2.1 i (q_stat.getD x.2.2.1 ("", "")).1 (q_stat.getD x.2.2.1 ("", "")).2 "[I")
  | .new i => decide (x.2.2.1 < 12) && decide (x.2.2.2.1 = (q_cls x.2.2.1).2.2) && q_at x.2.2.2.2.2.1 (.classLink (q_m m).2.2.2.2.1 i (q_cls x.2.2.1).1)
  | .anewarray i => (decide (x.2.2.1 = 0) || decide (x.2.2.1 = 7) || decide (x.2.2.1 = 8)) && q_at x.2.2.2.2.2.1 (.classLink (q_m m).2.2.2.2.1 i (q_cls x.2.2.1).1)
  | .ldc i => if x.2.2.1 = 0 then q_at x.2.2.2.2.2.1 (.constant (q_m m).2.2.2.2.1 i (Int32.ofInt x.2.2.2.2.2.2)) else decide ((q_m m).2.2.2.2.1 = RX4) && decide (5 ≤ x.2.2.2.1) && decide (x.2.2.2.1 < 12) && decide (q_sidx.getD (x.2.2.2.1 - 5) 0 = i)
  | .ldc_w i => q_at x.2.2.2.2.2.1 (.constant (q_m m).2.2.2.2.1 i (Int32.ofInt x.2.2.2.2.2.2))
  | .ldc2_w i => q_at x.2.2.2.2.2.1 (.constantLong (q_m m).2.2.2.2.1 i (Int64.ofInt x.2.2.2.2.2.2))
  | .istore_n k => q_sok m k
  | .istore k => q_sok m k
  | .astore_n k => q_sok m k
  | .astore k => q_sok m k
  | .iinc k _ => q_sok m k
  | .lstore_n k => q_lok m k
  | .lstore k => q_lok m k
  | .invokespecial i => if x.2.2.1 = 1000 then q_at x.2.2.2.2.2.1 (.methodLink (q_m m).2.2.2.2.1 i objectInit) else q_mok x.2.2.1 && decide ((q_m x.2.2.1).2.2.2.2.2.2.1 = 2) && decide (x.2.2.2.1 = (q_m x.2.2.1).2.2.2.2.2.1 + 1) && q_lnk (q_m m).2.2.2.2.1 x i (q_m x.2.2.1).1
  | .invokestatic i => if x.2.2.1 = 1001 then q_at x.2.2.2.2.2.1 (.methodLink (q_m m).2.2.2.2.1 i arraycopyName) else if x.2.2.1 = 1004 then q_at x.2.2.2.2.2.1 (.methodLink (q_m m).2.2.2.2.1 i Lib.Math.max.name) else if x.2.2.1 = 1005 then q_at x.2.2.2.2.2.1 (.methodLink (q_m m).2.2.2.2.1 i Lib.Math.min.name) else q_mok x.2.2.1 && decide ((q_m x.2.2.1).2.2.2.2.2.2.1 = 0) && decide (x.2.2.2.1 = (q_m x.2.2.1).2.2.2.2.2.1) && q_lnk (q_m m).2.2.2.2.1 x i (q_m x.2.2.1).1
  | .invokevirtual i => if x.2.2.1 = 1002 then decide (x.2.2.2.1 = 1) && q_at x.2.2.2.2.2.1 (.methodLink (q_m m).2.2.2.2.1 i yJ0_length_8abf5) else if x.2.2.1 = 1003 then decide (x.2.2.2.1 = 2) && q_at x.2.2.2.2.2.1 (.methodLink (q_m m).2.2.2.2.1 i yJ0_charAt_5068e) else q_mok x.2.2.1 && decide ((q_m x.2.2.1).2.2.2.2.2.2.1 = 1) && decide (x.2.2.2.1 = (q_m x.2.2.1).2.2.2.2.2.1 + 1) && q_lnk (q_m m).2.2.2.2.1 x i (q_m x.2.2.1).1
  | _ => true
