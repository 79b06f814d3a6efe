/-! ===== THE CLEAN MACHINE: ints are Ints, an object or an array is a row of places; its steps are a function ===== -/
/-- a value: an int, a long, a reference (or null), nothing -/
abbrev q_V : Type := Int ⊕ (Int ⊕ (Option Nat ⊕ Unit))
/-- the ints that cells hold: address, place -/
abbrev q_H : Type := Nat → Nat → Int
/-- the references that cells hold; the cells' shapes (kind, how many places); how many cells, how many places were made -/
abbrev q_Gr : Type := (Nat → Nat → Option Nat) × (Nat → Nat × Nat) × Nat × Nat
abbrev q_S : Type := Nat × List q_V × List q_V × q_H × q_Gr
abbrev q_R : Type := q_V × q_H × q_Gr
abbrev q_inR (a : Int) : Prop := -2147483648 ≤ a ∧ a ≤ 2147483647
abbrev q_inL (a : Int) : Prop := -9223372036854775808 ≤ a ∧ a ≤ 9223372036854775807
def q_up (v : q_H) (a k : Nat) (x : Int) : q_H := fun b j => if b = a ∧ j = k then x else v b j
def q_upr (v : Nat → Nat → Option Nat) (a k : Nat) (x : Option Nat) : Nat → Nat → Option Nat := fun b j => if b = a ∧ j = k then x else v b j
def q_zr (v : q_H) (a : Nat) : q_H := fun b j => if b = a then 0 else v b j
def q_zrr (v : Nat → Nat → Option Nat) (a : Nat) : Nat → Nat → Option Nat := fun b j => if b = a then none else v b j
def q_sh1 (s : Nat → Nat × Nat) (a : Nat) (x : Nat × Nat) : Nat → Nat × Nat := fun b => if b = a then x else s b
/-- n places of a from i on come to b from j on -/
def q_cp (v : q_H) (a i b j n : Nat) : q_H := fun c k => if c = b ∧ j ≤ k ∧ k < j + n then v a (i + (k - j)) else v c k
/-- a new cell -/
def q_mk (G : q_Gr) (kd n : Nat) : q_Gr := (q_zrr G.1 (32 + G.2.2.1), q_sh1 G.2.1 (32 + G.2.2.1) (kd, n), G.2.2.1 + 1, G.2.2.2 + n)
abbrev q_room (G : q_Gr) (n : Nat) : Prop := G.2.2.1 + 1 ≤ 600000 ∧ G.2.2.2 + n ≤ 7302250
def q_code (m pc : Nat) : q_I := (q_C.getD m []).getD pc q_0
def q_1I (st : List q_V) (f : Int → List q_V → Option q_S) : Option q_S := match st with
  | .inl a :: r => f a r
  | _ => none
def q_2I (st : List q_V) (f : Int → Int → List q_V → Option q_S) : Option q_S := match st with
  | .inl b :: .inl a :: r => f a b r
  | _ => none
def q_1L (st : List q_V) (f : Int → List q_V → Option q_S) : Option q_S := match st with
  | .inr (.inl a) :: r => f a r
  | _ => none
def q_2L (st : List q_V) (f : Int → Int → List q_V → Option q_S) : Option q_S := match st with
  | .inr (.inl b) :: .inr (.inl a) :: r => f a b r
  | _ => none
def q_LI (st : List q_V) (f : Int → Int → List q_V → Option q_S) : Option q_S := match st with
  | .inl b :: .inr (.inl a) :: r => f a b r
  | _ => none
def q_1P (st : List q_V) (f : Option Nat → List q_V → Option q_S) : Option q_S := match st with
  | .inr (.inr (.inl p)) :: r => f p r
  | _ => none
def q_1A (st : List q_V) (f : Nat → List q_V → Option q_S) : Option q_S := match st with
  | .inr (.inr (.inl (some a))) :: r => f a r
  | _ => none
/-- an index on top of an array -/
def q_IA (st : List q_V) (f : Nat → Int → List q_V → Option q_S) : Option q_S := match st with
  | .inl i :: .inr (.inr (.inl (some a))) :: r => f a i r
  | _ => none
/-- an int, an index, an array -/
def q_IIA (st : List q_V) (f : Nat → Int → Int → List q_V → Option q_S) : Option q_S := match st with
  | .inl x :: .inl i :: .inr (.inr (.inl (some a))) :: r => f a i x r
  | _ => none
def q_AIA (st : List q_V) (f : Nat → Int → Nat → List q_V → Option q_S) : Option q_S := match st with
  | .inr (.inr (.inl (some b))) :: .inl i :: .inr (.inr (.inl (some a))) :: r => f a i b r
  | _ => none
def q_IO (st : List q_V) (f : Nat → Int → List q_V → Option q_S) : Option q_S := match st with
  | .inl x :: .inr (.inr (.inl (some a))) :: r => f a x r
  | _ => none
def q_PO (st : List q_V) (f : Nat → Option Nat → List q_V → Option q_S) : Option q_S := match st with
  | .inr (.inr (.inl x)) :: .inr (.inr (.inl (some a))) :: r => f a x r
  | _ => none
def q_5 (st : List q_V) (f : Nat → Int → Nat → Int → Int → List q_V → Option q_S) : Option q_S := match st with
  | .inl n :: .inl j :: .inr (.inr (.inl (some b))) :: .inl i :: .inr (.inr (.inl (some a))) :: r => f a i b j n r
  | _ => none
def q_lI (ls : List q_V) (k : Nat) (f : Int → Option q_S) : Option q_S := match ls[k]? with
  | some (.inl a) => f a
  | _ => none
def q_lL (ls : List q_V) (k : Nat) (f : Int → Option q_S) : Option q_S := match ls[k]? with
  | some (.inr (.inl a)) => f a
  | _ => none
def q_lP (ls : List q_V) (k : Nat) (f : Option Nat → Option q_S) : Option q_S := match ls[k]? with
  | some (.inr (.inr (.inl a))) => f a
  | _ => none
def q_cmp (c : ClassFile.Cond) (a b : Int) : Bool := match c with
  | .eq => decide (a = b)
  | .ne => decide (a ≠ b)
  | .lt => decide (a < b)
  | .ge => decide (b ≤ a)
  | .gt => decide (b < a)
  | .le => decide (a ≤ b)
def q_jmp (pc : Nat) (off : Int) (ls st : List q_V) (v : q_H) (G : q_Gr) : Option q_S := if 0 ≤ (pc : Int) + off then some (((pc : Int) + off).toNat, ls, st, v, G) else none
def q_br (b : Bool) (pc : Nat) (off : Int) (ls st : List q_V) (v : q_H) (G : q_Gr) : Option q_S := if 0 ≤ (pc : Int) + off then some (if b then ((pc : Int) + off).toNat else pc + 3, ls, st, v, G) else none
def q_step (x : q_I) (pc : Nat) (ls st : List q_V) (v : q_H) (G : q_Gr) : Option q_S := match x.1 with
  | .iconst k => some (pc + 1, ls, .inl k :: st, v, G)
  | .bipush k => if -128 ≤ k ∧ k ≤ 127 then some (pc + 2, ls, .inl k :: st, v, G) else none
  | .sipush k => if -32768 ≤ k ∧ k ≤ 32767 then some (pc + 3, ls, .inl k :: st, v, G) else none
  | .lconst k => some (pc + 1, ls, .inr (.inl ((k : Nat) : Int)) :: st, v, G)
  | .aconst_null => some (pc + 1, ls, .inr (.inr (.inl none)) :: st, v, G)
  | .ldc _ => if x.2.2.1 = 0 then some (pc + 2, ls, .inl x.2.2.2.2.2.2 :: st, v, G) else some (pc + 2, ls, .inr (.inr (.inl (some x.2.2.2.1))) :: st, v, G)
  | .ldc_w _ => if x.2.2.1 = 0 then some (pc + 3, ls, .inl x.2.2.2.2.2.2 :: st, v, G) else none
  | .ldc2_w _ => some (pc + 3, ls, .inr (.inl x.2.2.2.2.2.2) :: st, v, G)
  | .iload_n k => q_lI ls k fun a => some (pc + 1, ls, .inl a :: st, v, G)
  | .iload k => q_lI ls k fun a => some (pc + 2, ls, .inl a :: st, v, G)
  | .lload_n k => q_lL ls k fun a => some (pc + 1, ls, .inr (.inl a) :: st, v, G)
  | .lload k => q_lL ls k fun a => some (pc + 2, ls, .inr (.inl a) :: st, v, G)
  | .aload_n k => q_lP ls k fun a => some (pc + 1, ls, .inr (.inr (.inl a)) :: st, v, G)
  | .aload k => q_lP ls k fun a => some (pc + 2, ls, .inr (.inr (.inl a)) :: st, v, G)
  | .istore_n k => q_1I st fun a r => some (pc + 1, ls.set k (.inl a), r, v, G)
  | .istore k => q_1I st fun a r => some (pc + 2, ls.set k (.inl a), r, v, G)
  | .lstore_n k => q_1L st fun a r => some (pc + 1, (ls.set k (.inr (.inl a))).set (k + 1) (.inr (.inr (.inr ()))), r, v, G)
  | .lstore k => q_1L st fun a r => some (pc + 2, (ls.set k (.inr (.inl a))).set (k + 1) (.inr (.inr (.inr ()))), r, v, G)
  | .astore_n k => q_1P st fun a r => some (pc + 1, ls.set k (.inr (.inr (.inl a))), r, v, G)
  | .astore k => q_1P st fun a r => some (pc + 2, ls.set k (.inr (.inr (.inl a))), r, v, G)
  | .iinc k c => q_lI ls k fun a => some (pc + 3, ls.set k (.inl (a + c)), st, v, G)
  | .iadd => q_2I st fun a b r => some (pc + 1, ls, .inl (a + b) :: r, v, G)
  | .isub => q_2I st fun a b r => some (pc + 1, ls, .inl (a - b) :: r, v, G)
  | .imul => q_2I st fun a b r => some (pc + 1, ls, .inl (a * b) :: r, v, G)
  | .idiv => q_2I st fun a b r => if q_inR a ∧ 0 < b ∧ b ≤ 2147483647 then some (pc + 1, ls, .inl (a.tdiv b) :: r, v, G) else none
  | .irem => q_2I st fun a b r => if q_inR a ∧ 0 < b ∧ b ≤ 2147483647 then some (pc + 1, ls, .inl (a.tmod b) :: r, v, G) else none
  | .iand => q_2I st fun a b r => some (pc + 1, ls, .inl (Int32.ofInt a &&& Int32.ofInt b).toInt :: r, v, G)
  | .i2b => q_1I st fun a r => some (pc + 1, ls, .inl (Int32.ofInt a).toInt8.toInt32.toInt :: r, v, G)
  | .i2s => q_1I st fun a r => some (pc + 1, ls, .inl (Int32.ofInt a).toInt16.toInt32.toInt :: r, v, G)
  | .i2l => q_1I st fun a r => if q_inR a then some (pc + 1, ls, .inr (.inl a) :: r, v, G) else none
  | .l2i => q_1L st fun a r => some (pc + 1, ls, .inl a :: r, v, G)
  | .ladd => q_2L st fun a b r => some (pc + 1, ls, .inr (.inl (a + b)) :: r, v, G)
  | .lmul => q_2L st fun a b r => some (pc + 1, ls, .inr (.inl (a * b)) :: r, v, G)
  | .lrem => q_2L st fun a b r => if q_inL a ∧ 0 < b ∧ b ≤ 9223372036854775807 then some (pc + 1, ls, .inr (.inl (a.tmod b)) :: r, v, G) else none
  | .land => q_2L st fun a b r => some (pc + 1, ls, .inr (.inl (Int64.ofInt a &&& Int64.ofInt b).toInt) :: r, v, G)
  | .lor => q_2L st fun a b r => some (pc + 1, ls, .inr (.inl (Int64.ofInt a ||| Int64.ofInt b).toInt) :: r, v, G)
  | .lshl => q_LI st fun a b r => some (pc + 1, ls, .inr (.inl (Int64.ofInt a <<< ((Int32.ofInt b).toInt64 &&& 63)).toInt) :: r, v, G)
  | .lshr => q_LI st fun a b r => some (pc + 1, ls, .inr (.inl (Int64.ofInt a >>> ((Int32.ofInt b).toInt64 &&& 63)).toInt) :: r, v, G)
  | .lushr => q_LI st fun a b r => some (pc + 1, ls, .inr (.inl ((Int64.ofInt a).toUInt64 >>> ((Int32.ofInt b).toInt64.toUInt64 &&& Int64.toUInt64 63)).toInt64.toInt) :: r, v, G)
  | .lcmp => q_2L st fun a b r => if q_inL a ∧ q_inL b then some (pc + 1, ls, .inl (if b < a then 1 else if a = b then 0 else -1) :: r, v, G) else none
  | .dup => match st with
    | .inl a :: r => some (pc + 1, ls, .inl a :: .inl a :: r, v, G)
    | .inr (.inr (.inl a)) :: r => some (pc + 1, ls, .inr (.inr (.inl a)) :: .inr (.inr (.inl a)) :: r, v, G)
    | _ => none
  | .pop => match st with
    | .inl _ :: r => some (pc + 1, ls, r, v, G)
    | .inr (.inr (.inl _)) :: r => some (pc + 1, ls, r, v, G)
    | _ => none
  | .dup2 => q_IA st fun a i r => some (pc + 1, ls, .inl i :: .inr (.inr (.inl (some a))) :: .inl i :: .inr (.inr (.inl (some a))) :: r, v, G)
  | .goto off => q_jmp pc off ls st v G
  | .ifCond c off => q_1I st fun a r => if q_inR a then q_br (q_cmp c a 0) pc off ls r v G else none
  | .if_icmp c off => q_2I st fun a b r => if q_inR a ∧ q_inR b then q_br (q_cmp c a b) pc off ls r v G else none
  | .ifnull off => q_1P st fun p r => if p.isNone then q_jmp pc off ls r v G else some (pc + 3, ls, r, v, G)
  | .ifnonnull off => q_1P st fun p r => if p.isNone then some (pc + 3, ls, r, v, G) else q_jmp pc off ls r v G
  | .tableswitch d lo hi offs => q_1I st fun a r => if q_inR a then (if a < lo ∨ hi < a then q_jmp pc d ls r v G else match offs[(a - lo).toNat]? with
    | some off => q_jmp pc off ls r v G
    | none => none) else none
  | .getfield _ => q_1A st fun a r => if (G.2.1 a).1 = x.2.2.1 then (if x.2.2.2.2.1 = 0 then some (pc + 3, ls, .inl (v a x.2.2.2.1) :: r, v, G) else some (pc + 3, ls, .inr (.inr (.inl (G.1 a x.2.2.2.1))) :: r, v, G)) else none
  | .putfield _ => if x.2.2.2.2.1 = 0 then q_IO st fun a y r => if (G.2.1 a).1 = x.2.2.1 then some (pc + 3, ls, r, q_up v a x.2.2.2.1 y, G) else none
    else q_PO st fun a y r => if (G.2.1 a).1 = x.2.2.1 then some (pc + 3, ls, r, v, (q_upr G.1 a x.2.2.2.1 y, G.2)) else none
  | .getstatic _ => some (pc + 3, ls, .inr (.inr (.inl (some (x.2.2.1 + 1)))) :: st, v, G)
  | .iaload => q_IA st fun a i r => if (G.2.1 a).1 = 20 ∧ 0 ≤ i ∧ i < (G.2.1 a).2 then some (pc + 1, ls, .inl (v a i.toNat) :: r, v, G) else none
  | .baload => q_IA st fun a i r => if (G.2.1 a).1 = 21 ∧ 0 ≤ i ∧ i < (G.2.1 a).2 then some (pc + 1, ls, .inl (v a i.toNat) :: r, v, G) else none
  | .aaload => q_IA st fun a i r => if 30 ≤ (G.2.1 a).1 ∧ (G.2.1 a).1 < 42 ∧ 0 ≤ i ∧ i < (G.2.1 a).2 then some (pc + 1, ls, .inr (.inr (.inl (G.1 a i.toNat))) :: r, v, G) else none
  | .iastore => q_IIA st fun a i y r => if (G.2.1 a).1 = 20 ∧ 32 ≤ a ∧ 0 ≤ i ∧ i < (G.2.1 a).2 then some (pc + 1, ls, r, q_up v a i.toNat y, G) else none
  | .bastore => q_IIA st fun a i y r => if (G.2.1 a).1 = 21 ∧ 32 ≤ a ∧ (0 ≤ y ∧ y ≤ 1) ∧ 0 ≤ i ∧ i < (G.2.1 a).2 then some (pc + 1, ls, r, q_up v a i.toNat y, G) else none
  | .aastore => q_AIA st fun a i b r => if (G.2.1 b).1 < 12 ∧ (G.2.1 a).1 = 30 + (G.2.1 b).1 ∧ 0 ≤ i ∧ i < (G.2.1 a).2 then some (pc + 1, ls, r, v, (q_upr G.1 a i.toNat (some b), G.2)) else none
  | .arraylength => q_1A st fun a r => if (G.2.1 a).1 = 20 ∨ (G.2.1 a).1 = 21 then some (pc + 1, ls, .inl ((G.2.1 a).2 : Int) :: r, v, G) else none
  | .new _ => if q_room G x.2.2.2.1 then some (pc + 3, ls, .inr (.inr (.inl (some (32 + G.2.2.1)))) :: st, q_zr v (32 + G.2.2.1), q_mk G x.2.2.1 x.2.2.2.1) else none
  | .newarray t => q_1I st fun n r => if 0 ≤ n ∧ q_room G n.toNat then (match t with
    | .int => some (pc + 2, ls, .inr (.inr (.inl (some (32 + G.2.2.1)))) :: r, q_zr v (32 + G.2.2.1), q_mk G 20 n.toNat)
    | .boolean => some (pc + 2, ls, .inr (.inr (.inl (some (32 + G.2.2.1)))) :: r, q_zr v (32 + G.2.2.1), q_mk G 21 n.toNat)
    | _ => none) else none
  | .anewarray _ => q_1I st fun n r => if 0 ≤ n ∧ q_room G n.toNat then some (pc + 3, ls, .inr (.inr (.inl (some (32 + G.2.2.1)))) :: r, q_zr v (32 + G.2.2.1), q_mk G (30 + x.2.2.1) n.toNat) else none
  | .invokespecial _ => q_1A st fun _ r => if x.2.2.1 = 1000 ∧ r.length ≤ 4 then some (pc + 3, ls, r, v, G) else none
  | .invokestatic _ => if x.2.2.1 = 1004 then q_2I st fun a b r => if q_inR a ∧ q_inR b ∧ r.length ≤ 4 then some (pc + 3, ls, .inl (if a < b then b else a) :: r, v, G) else none
    else if x.2.2.1 = 1005 then q_2I st fun a b r => if q_inR a ∧ q_inR b ∧ r.length ≤ 4 then some (pc + 3, ls, .inl (if b < a then b else a) :: r, v, G) else none
    else q_5 st fun a i b j n r => if x.2.2.1 = 1001 ∧ r.length ≤ 4 ∧ (G.2.1 a).1 = 20 ∧ (G.2.1 b).1 = 20 ∧ 32 ≤ a ∧ 32 ≤ b ∧ 0 ≤ i ∧ 0 ≤ j ∧ 0 ≤ n ∧ i + n ≤ (G.2.1 a).2 ∧ j + n ≤ (G.2.1 b).2 then some (pc + 3, ls, r, q_cp v a i.toNat b j.toNat n.toNat, G) else none
  | _ => none
/-- 1: a call of a method; 2: an end -/
def q_kind (x : q_I) : Nat := match x.1 with
  | .invokevirtual _ => 1
  | .invokespecial _ => if x.2.2.1 = 1000 then 0 else 1
  | .invokestatic _ => if x.2.2.1 = 1001 ∨ x.2.2.1 = 1004 ∨ x.2.2.1 = 1005 then 0 else 1
  | .ireturn => 2
  | .lreturn => 2
  | .areturn => 2
  | .return_ => 2
  | _ => 0
abbrev q_m0 : q_MR := (x, code, 0, none, "", 0, 0, 0, 0, 0, 0, 0)
def q_m (m : Nat) : q_MR := q_M.getD m q_m0
def q_end (m : Nat) (x : q_I) (st : List q_V) (v : q_H) (G : q_Gr) : Option q_R := match x.1, st with
  | .ireturn, [.inl a] => match (q_m m).2.2.2.1 with
    | some .int => some (.inl a, v, G)
    | some .boolean => if 0 ≤ a ∧ a ≤ 1 then some (.inl a, v, G) else none
    | _ => none
  | .lreturn, [.inr (.inl a)] => if (q_m m).2.2.2.1 = some .long then some (.inr (.inl a), v, G) else none
  | .areturn, [.inr (.inr (.inl p))] => match (q_m m).2.2.2.1 with
    | some (.object _) => some (.inr (.inr (.inl p)), v, G)
    | some (.array _) => some (.inr (.inr (.inl p)), v, G)
    | _ => none
  | .return_, [] => if (q_m m).2.2.2.1 = none then some (.inr (.inr (.inr ())), v, G) else none
  | _, _ => none
def q_push (r : q_V) (st : List q_V) : List q_V := match r with
  | .inr (.inr (.inr _)) => st
  | r => r :: st
def q_exec (call : Nat → List q_V → q_H → q_Gr → Option q_R) : Nat → Nat → Nat → List q_V → List q_V → q_H → q_Gr → Option q_R
  | 0, _, _, _, _, _, _ => none
  | n + 1, m, pc, ls, st, v, G => match q_kind (q_code m pc) with
    | 0 => match q_step (q_code m pc) pc ls st v G with
      | some (pc', ls', st', v', G') => q_exec call n m pc' ls' st' v' G'
      | none => none
    | 1 => if (q_code m pc).2.2.2.1 ≤ st.length ∧ (st.drop (q_code m pc).2.2.2.1).length ≤ 4 then
        match call (q_code m pc).2.2.1 (st.take (q_code m pc).2.2.2.1).reverse v G with
        | some (r, v', G') => q_exec call n m (pc + 3) ls (q_push r (st.drop (q_code m pc).2.2.2.1)) v' G'
        | none => none
      else none
    | _ => q_end m (q_code m pc) st v G
/-- the locals of a method at its start: a long takes two -/
def q_ent (as : List q_V) (n : Nat) : List q_V := let l := as.flatMap fun a => match a with
    | .inr (.inl k) => [.inr (.inl k), .inr (.inr (.inr ()))]
    | a => [a]
  l ++ List.replicate (n - l.length) (.inr (.inr (.inr ())))
/-- does the receiver have the method's class -/
def q_rcv (m : Nat) (as : List q_V) (G : q_Gr) : Bool := if (q_m m).2.2.2.2.2.2.1 = 0 then true else match as with
  | .inr (.inr (.inl (some a))) :: _ => (G.2.1 a).1 == (q_m m).2.2.2.2.2.2.2.1
  | _ => false
/-- length() and charAt() of a text that stands in the code -/
def q_str (m : Nat) (as : List q_V) (v : q_H) (G : q_Gr) : Option q_R := match as with
  | [.inr (.inr (.inl (some a)))] => if m = 1002 ∧ (G.2.1 a).1 = 50 then some (.inl ((G.2.1 a).2 : Int), v, G) else none
  | [.inr (.inr (.inl (some a))), .inl k] => if m = 1003 ∧ (G.2.1 a).1 = 50 ∧ 0 ≤ k ∧ k < (G.2.1 a).2 then some (.inl (v a k.toNat), v, G) else none
  | _ => none
/-- longs stand only where the method keeps longs -/
def q_lgB (m : Nat) (ls : List q_V) : Bool := ls.zipIdx.all fun q => match q.1 with
  | .inr (.inl _) => (q_LG.getD m []).contains q.2
  | _ => true
/-- how many words the arguments take -/
def q_wd (as : List q_V) : Nat := (as.flatMap fun a => match a with
  | .inr (.inl k) => [(.inr (.inl k) : q_V), .inr (.inr (.inr ()))]
  | a => [a]).length
def q_run (N : Nat) : Nat → Nat → List q_V → q_H → q_Gr → Option q_R
  | 0, _, _, _, _ => none
  | d + 1, m, as, v, G => if m < 227 then (if q_rcv m as G = true ∧ q_wd as ≤ (q_m m).2.2.1 ∧ q_lgB m (q_ent as (q_m m).2.2.1) = true then q_exec (q_run N d) N m 0 (q_ent as (q_m m).2.2.1) [] v G else none) else if 4 ≤ d then q_str m as v G else none
