/-! ===== bytes and instructions ===== -/
def q_cbyte (b : Nat) (c : ClassFile.Cond) : Nat := match c with
  | .eq => b
  | .ne => b + 1
  | .lt => b + 2
  | .ge => b + 3
  | .gt => b + 4
  | .le => b + 5
def q_enc (i : Instr) (L : List UInt8) : Bool := match i with
  | .aconst_null => match L with
    | a :: _ => a == 1
    | _ => false
  | .iadd => match L with
    | a :: _ => a == 96
    | _ => false
  | .isub => match L with
    | a :: _ => a == 100
    | _ => false
  | .imul => match L with
    | a :: _ => a == 104
    | _ => false
  | .idiv => match L with
    | a :: _ => a == 108
    | _ => false
  | .irem => match L with
    | a :: _ => a == 112
    | _ => false
  | .iand => match L with
    | a :: _ => a == 126
    | _ => false
  | .i2b => match L with
    | a :: _ => a == 145
    | _ => false
  | .i2s => match L with
    | a :: _ => a == 147
    | _ => false
  | .i2l => match L with
    | a :: _ => a == 133
    | _ => false
  | .l2i => match L with
    | a :: _ => a == 136
    | _ => false
  | .ladd => match L with
    | a :: _ => a == 97
    | _ => false
  | .lmul => match L with
    | a :: _ => a == 105
    | _ => false
  | .lrem => match L with
    | a :: _ => a == 113
    | _ => false
  | .land => match L with
    | a :: _ => a == 127
    | _ => false
  | .lor => match L with
    | a :: _ => a == 129
    | _ => false
  | .lshl => match L with
    | a :: _ => a == 121
    | _ => false
  | .lshr => match L with
    | a :: _ => a == 123
    | _ => false
  | .lushr => match L with
    | a :: _ => a == 125
    | _ => false
  | .lcmp => match L with
    | a :: _ => a == 148
    | _ => false
  | .dup => match L with
    | a :: _ => a == 89
    | _ => false
  | .pop => match L with
    | a :: _ => a == 87
    | _ => false
  | .dup2 => match L with
    | a :: _ => a == 92
    | _ => false
  | .iaload => match L with
    | a :: _ => a == 46
    | _ => false
  | .baload => match L with
    | a :: _ => a == 51
    | _ => false
  | .aaload => match L with
    | a :: _ => a == 50
    | _ => false
  | .iastore => match L with
    | a :: _ => a == 79
    | _ => false
  | .bastore => match L with
    | a :: _ => a == 84
    | _ => false
  | .aastore => match L with
    | a :: _ => a == 83
    | _ => false
  | .arraylength => match L with
    | a :: _ => a == 190
    | _ => false
  | .ireturn => match L with
    | a :: _ => a == 172
    | _ => false
  | .lreturn => match L with
    | a :: _ => a == 173
    | _ => false
  | .areturn => match L with
    | a :: _ => a == 176
    | _ => false
  | .return_ => match L with
    | a :: _ => a == 177
    | _ => false
  | .iconst k => match L with
    | a :: _ => decide (-1 ≤ k ∧ k ≤ 5) && decide ((a.toNat : Int) = k + 3)
    | _ => false
  | .lconst k => match L with
    | a :: _ => decide (a.toNat = k + 9)
    | _ => false
  | .iload_n k => match L with
    | a :: _ => decide (a.toNat = k + 26)
    | _ => false
  | .lload_n k => match L with
    | a :: _ => decide (a.toNat = k + 30)
    | _ => false
  | .aload_n k => match L with
    | a :: _ => decide (a.toNat = k + 42)
    | _ => false
  | .istore_n k => match L with
    | a :: _ => decide (a.toNat = k + 59)
    | _ => false
  | .lstore_n k => match L with
    | a :: _ => decide (a.toNat = k + 63)
    | _ => false
  | .astore_n k => match L with
    | a :: _ => decide (a.toNat = k + 75)
    | _ => false
  | .bipush k => match L with
    | a :: b :: _ => a == 16 && decide (Reader.signed 8 b.toNat = k)
    | _ => false
  | .ldc k => match L with
    | a :: b :: _ => a == 18 && decide (b.toNat = k)
    | _ => false
  | .iload k => match L with
    | a :: b :: _ => a == 21 && decide (b.toNat = k)
    | _ => false
  | .lload k => match L with
    | a :: b :: _ => a == 22 && decide (b.toNat = k)
    | _ => false
  | .aload k => match L with
    | a :: b :: _ => a == 25 && decide (b.toNat = k)
    | _ => false
  | .istore k => match L with
    | a :: b :: _ => a == 54 && decide (b.toNat = k)
    | _ => false
  | .lstore k => match L with
    | a :: b :: _ => a == 55 && decide (b.toNat = k)
    | _ => false
  | .astore k => match L with
    | a :: b :: _ => a == 58 && decide (b.toNat = k)
    | _ => false
  | .ldc_w k => match L with
    | a :: b :: c :: _ => a == 19 && decide (b.toNat * 256 + c.toNat = k)
    | _ => false
  | .ldc2_w k => match L with
    | a :: b :: c :: _ => a == 20 && decide (b.toNat * 256 + c.toNat = k)
    | _ => false
  | .getfield k => match L with
    | a :: b :: c :: _ => a == 180 && decide (b.toNat * 256 + c.toNat = k)
    | _ => false
  | .putfield k => match L with
    | a :: b :: c :: _ => a == 181 && decide (b.toNat * 256 + c.toNat = k)
    | _ => false
  | .getstatic k => match L with
    | a :: b :: c :: _ => a == 178 && decide (b.toNat * 256 + c.toNat = k)
    | _ => false
  | .new k => match L with
    | a :: b :: c :: _ => a == 187 && decide (b.toNat * 256 + c.toNat = k)
    | _ => false
  | .anewarray k => match L with
    | a :: b :: c :: _ => a == 189 && decide (b.toNat * 256 + c.toNat = k)
    | _ => false
  | .invokespecial k => match L with
    | a :: b :: c :: _ => a == 183 && decide (b.toNat * 256 + c.toNat = k)
    | _ => false
  | .invokestatic k => match L with
    | a :: b :: c :: _ => a == 184 && decide (b.toNat * 256 + c.toNat = k)
    | _ => false
  | .invokevirtual k => match L with
    | a :: b :: c :: _ => a == 182 && decide (b.toNat * 256 + c.toNat = k)
    | _ => false
  | .goto k => match L with
    | a :: b :: c :: _ => a == 167 && decide (Reader.signed 16 (b.toNat * 256 + c.toNat) = k)
    | _ => false
  | .ifnull k => match L with
    | a :: b :: c :: _ => a == 198 && decide (Reader.signed 16 (b.toNat * 256 + c.toNat) = k)
    | _ => false
  | .ifnonnull k => match L with
    | a :: b :: c :: _ => a == 199 && decide (Reader.signed 16 (b.toNat * 256 + c.toNat) = k)
    | _ => false
  | .sipush k => match L with
    | a :: b :: c :: _ => a == 17 && decide (Reader.signed 16 (b.toNat * 256 + c.toNat) = k)
    | _ => false
  | .ifCond cd k => match L with
    | a :: b :: c :: _ => decide (a.toNat = q_cbyte 153 cd) && decide (Reader.signed 16 (b.toNat * 256 + c.toNat) = k)
    | _ => false
  | .if_icmp cd k => match L with
    | a :: b :: c :: _ => decide (a.toNat = q_cbyte 159 cd) && decide (Reader.signed 16 (b.toNat * 256 + c.toNat) = k)
    | _ => false
  | .iinc k n => match L with
    | a :: b :: c :: _ => a == 132 && decide (b.toNat = k) && decide (Reader.signed 8 c.toNat = n)
    | _ => false
  | .newarray t => match L with
    | a :: b :: _ => a == 188 && ((b == 4 && decide (t = .boolean)) || (b == 10 && decide (t = .int)))
    | _ => false
  | _ => false
/-- every instruction of a row of code stands in the bytes at its place; switches are looked at apart -/
def q_chkT : List q_I → List UInt8 → Bool
  | [], _ => true
  | x :: C, L => (match x.1 with
    | .nop => true
    | .tableswitch _ _ _ _ => true
    | i => q_enc i L) && q_chkT C L.tail
theorem q_chkT_at : ∀ {C : List q_I} {L : List UInt8}, q_chkT C L = true → ∀ {pc : Nat} {x : q_I}, C[pc]? = some x → (match x.1 with
    | .nop => true
    | .tableswitch _ _ _ _ => true
    | i => q_enc i (L.drop pc)) = true
  | [], _, _, pc, x, hx => by simp at hx
  | y :: C, L, h, 0, x, hx => by
    simp only [List.getElem?_cons_zero, Option.some.injEq] at hx
    subst hx
    simp only [q_chkT, Bool.and_eq_true] at h
    exact h.1
  | y :: C, L, h, pc + 1, x, hx => by
    simp only [q_chkT, Bool.and_eq_true] at h
    rw [List.getElem?_cons_succ] at hx
    have := q_chkT_at h.2 hx
    rw [List.drop_tail] at this
    exact this
theorem q_bind {α β : Type} (x : Decoder α) (f : α → Decoder β) {A : ByteArray} {p s : Nat} {a : α} (h : x A p = .ok (a, s)) : (x >>= f) A p = f a A s := by
  show (do let (a, s) ← x A p; f a A s : Except DecodeError (β × Nat)) = _
  rw [h]
  rfl
theorem q_map {α β : Type} (g : α → β) (x : Decoder α) {A : ByteArray} {p s : Nat} {a : α} (h : x A p = .ok (a, s)) : (g <$> x) A p = .ok (g a, s) := by
  show (do let (a, s) ← x A p; .ok (g a, s) : Except DecodeError (β × Nat)) = _
  rw [h]
  rfl
theorem q_u1 {A : ByteArray} {p : Nat} {b : UInt8} {r : List UInt8} (h : A.data.toList.drop p = b :: r) : (Reader.u1 : Decoder Nat) A p = .ok (b.toNat, p + 1) := by
  have h1 : A.data.toList[p]? = some b := by
    have := congrArg (fun l => l[0]?) h
    simpa using this
  have h2 : p < A.data.size := by
    have := (List.getElem?_eq_some_iff.mp h1).1
    simpa using this
  have h3 : A.data[p] = b := by
    have := (List.getElem?_eq_some_iff.mp h1).2
    simpa using this
  have h4 : p < A.size := h2
  have h5 : (A[p]'h4).toNat = b.toNat := by rw [← h3]; rfl
  show (do if h : p < A.size then do set (p + 1); Pure.pure A[p].toNat else MonadExcept.throw (HasTruncated.truncated p) : Decoder Nat) A p = _
  rw [dif_pos h4]
  show Except.ok ((A[p]'h4).toNat, p + 1) = _
  rw [h5]
theorem q_drop1 {L : List UInt8} {p : Nat} {b : UInt8} {r : List UInt8} (h : L.drop p = b :: r) : L.drop (p + 1) = r := by
  rw [← List.tail_drop, h]; rfl

theorem q_u2 {A : ByteArray} {p : Nat} {b c : UInt8} {r : List UInt8} (h : A.data.toList.drop p = b :: c :: r) : (Reader.u2 : Decoder Nat) A p = .ok (b.toNat * 256 + c.toNat, p + 2) :=
  (q_bind Reader.u1 _ (q_u1 h)).trans ((q_bind Reader.u1 _ (q_u1 (q_drop1 h))).trans rfl)
theorem q_decode {A : ByteArray} {pc n : Nat} {i : Instr} (h : Decoder.instr pc A pc = .ok (i, pc + n)) : decode A pc = .ok (i, n) := by
  show (do let (i, n) ← Decoder.instr pc A pc; Pure.pure (i, n - pc) : Except DecodeError (Instr × Nat)) = _
  rw [h]
  show Except.ok (i, pc + n - pc) = _
  rw [Nat.add_sub_cancel_left]

set_option maxRecDepth 100000 in
theorem q_dec_aconst_null {A : ByteArray} {pc : Nat} (h : q_enc (.aconst_null) (A.data.toList.drop pc) = true) : decode A pc = .ok (.aconst_null, 1) := by
  generalize hL : A.data.toList.drop pc = L at h
  match L, h, hL with
  | a :: r, h, e =>
    have : a = 1 := by simpa [q_enc] using h
    subst this
    exact q_decode ((q_bind Reader.u1 _ (q_u1 e)).trans rfl)
set_option maxRecDepth 100000 in
theorem q_dec_iadd {A : ByteArray} {pc : Nat} (h : q_enc (.iadd) (A.data.toList.drop pc) = true) : decode A pc = .ok (.iadd, 1) := by
  generalize hL : A.data.toList.drop pc = L at h
  match L, h, hL with
  | a :: r, h, e =>
    have : a = 96 := by simpa [q_enc] using h
    subst this
    exact q_decode ((q_bind Reader.u1 _ (q_u1 e)).trans rfl)
set_option maxRecDepth 100000 in
theorem q_dec_isub {A : ByteArray} {pc : Nat} (h : q_enc (.isub) (A.data.toList.drop pc) = true) : decode A pc = .ok (.isub, 1) := by
  generalize hL : A.data.toList.drop pc = L at h
  match L, h, hL with
  | a :: r, h, e =>
    have : a = 100 := by simpa [q_enc] using h
    subst this
    exact q_decode ((q_bind Reader.u1 _ (q_u1 e)).trans rfl)
set_option maxRecDepth 100000 in
theorem q_dec_imul {A : ByteArray} {pc : Nat} (h : q_enc (.imul) (A.data.toList.drop pc) = true) : decode A pc = .ok (.imul, 1) := by
  generalize hL : A.data.toList.drop pc = L at h
  match L, h, hL with
  | a :: r, h, e =>
    have : a = 104 := by simpa [q_enc] using h
    subst this
    exact q_decode ((q_bind Reader.u1 _ (q_u1 e)).trans rfl)
set_option maxRecDepth 100000 in
theorem q_dec_idiv {A : ByteArray} {pc : Nat} (h : q_enc (.idiv) (A.data.toList.drop pc) = true) : decode A pc = .ok (.idiv, 1) := by
  generalize hL : A.data.toList.drop pc = L at h
  match L, h, hL with
  | a :: r, h, e =>
    have : a = 108 := by simpa [q_enc] using h
    subst this
    exact q_decode ((q_bind Reader.u1 _ (q_u1 e)).trans rfl)
set_option maxRecDepth 100000 in
theorem q_dec_irem {A : ByteArray} {pc : Nat} (h : q_enc (.irem) (A.data.toList.drop pc) = true) : decode A pc = .ok (.irem, 1) := by
  generalize hL : A.data.toList.drop pc = L at h
  match L, h, hL with
  | a :: r, h, e =>
    have : a = 112 := by simpa [q_enc] using h
    subst this
    exact q_decode ((q_bind Reader.u1 _ (q_u1 e)).trans rfl)
set_option maxRecDepth 100000 in
theorem q_dec_iand {A : ByteArray} {pc : Nat} (h : q_enc (.iand) (A.data.toList.drop pc) = true) : decode A pc = .ok (.iand, 1) := by
  generalize hL : A.data.toList.drop pc = L at h
  match L, h, hL with
  | a :: r, h, e =>
    have : a = 126 := by simpa [q_enc] using h
    subst this
    exact q_decode ((q_bind Reader.u1 _ (q_u1 e)).trans rfl)
set_option maxRecDepth 100000 in
theorem q_dec_i2b {A : ByteArray} {pc : Nat} (h : q_enc (.i2b) (A.data.toList.drop pc) = true) : decode A pc = .ok (.i2b, 1) := by
  generalize hL : A.data.toList.drop pc = L at h
  match L, h, hL with
  | a :: r, h, e =>
    have : a = 145 := by simpa [q_enc] using h
    subst this
    exact q_decode ((q_bind Reader.u1 _ (q_u1 e)).trans rfl)
set_option maxRecDepth 100000 in
theorem q_dec_i2s {A : ByteArray} {pc : Nat} (h : q_enc (.i2s) (A.data.toList.drop pc) = true) : decode A pc = .ok (.i2s, 1) := by
  generalize hL : A.data.toList.drop pc = L at h
  match L, h, hL with
  | a :: r, h, e =>
    have : a = 147 := by simpa [q_enc] using h
    subst this
    exact q_decode ((q_bind Reader.u1 _ (q_u1 e)).trans rfl)
set_option maxRecDepth 100000 in
theorem q_dec_i2l {A : ByteArray} {pc : Nat} (h : q_enc (.i2l) (A.data.toList.drop pc) = true) : decode A pc = .ok (.i2l, 1) := by
  generalize hL : A.data.toList.drop pc = L at h
  match L, h, hL with
  | a :: r, h, e =>
    have : a = 133 := by simpa [q_enc] using h
    subst this
    exact q_decode ((q_bind Reader.u1 _ (q_u1 e)).trans rfl)
set_option maxRecDepth 100000 in
theorem q_dec_l2i {A : ByteArray} {pc : Nat} (h : q_enc (.l2i) (A.data.toList.drop pc) = true) : decode A pc = .ok (.l2i, 1) := by
  generalize hL : A.data.toList.drop pc = L at h
  match L, h, hL with
  | a :: r, h, e =>
    have : a = 136 := by simpa [q_enc] using h
    subst this
    exact q_decode ((q_bind Reader.u1 _ (q_u1 e)).trans rfl)
set_option maxRecDepth 100000 in
theorem q_dec_ladd {A : ByteArray} {pc : Nat} (h : q_enc (.ladd) (A.data.toList.drop pc) = true) : decode A pc = .ok (.ladd, 1) := by
  generalize hL : A.data.toList.drop pc = L at h
  match L, h, hL with
  | a :: r, h, e =>
    have : a = 97 := by simpa [q_enc] using h
    subst this
    exact q_decode ((q_bind Reader.u1 _ (q_u1 e)).trans rfl)
set_option maxRecDepth 100000 in
theorem q_dec_lmul {A : ByteArray} {pc : Nat} (h : q_enc (.lmul) (A.data.toList.drop pc) = true) : decode A pc = .ok (.lmul, 1) := by
  generalize hL : A.data.toList.drop pc = L at h
  match L, h, hL with
  | a :: r, h, e =>
    have : a = 105 := by simpa [q_enc] using h
    subst this
    exact q_decode ((q_bind Reader.u1 _ (q_u1 e)).trans rfl)
set_option maxRecDepth 100000 in
theorem q_dec_lrem {A : ByteArray} {pc : Nat} (h : q_enc (.lrem) (A.data.toList.drop pc) = true) : decode A pc = .ok (.lrem, 1) := by
  generalize hL : A.data.toList.drop pc = L at h
  match L, h, hL with
  | a :: r, h, e =>
    have : a = 113 := by simpa [q_enc] using h
    subst this
    exact q_decode ((q_bind Reader.u1 _ (q_u1 e)).trans rfl)
set_option maxRecDepth 100000 in
theorem q_dec_land {A : ByteArray} {pc : Nat} (h : q_enc (.land) (A.data.toList.drop pc) = true) : decode A pc = .ok (.land, 1) := by
  generalize hL : A.data.toList.drop pc = L at h
  match L, h, hL with
  | a :: r, h, e =>
    have : a = 127 := by simpa [q_enc] using h
    subst this
    exact q_decode ((q_bind Reader.u1 _ (q_u1 e)).trans rfl)
set_option maxRecDepth 100000 in
theorem q_dec_lor {A : ByteArray} {pc : Nat} (h : q_enc (.lor) (A.data.toList.drop pc) = true) : decode A pc = .ok (.lor, 1) := by
  generalize hL : A.data.toList.drop pc = L at h
  match L, h, hL with
  | a :: r, h, e =>
    have : a = 129 := by simpa [q_enc] using h
    subst this
    exact q_decode ((q_bind Reader.u1 _ (q_u1 e)).trans rfl)
set_option maxRecDepth 100000 in
theorem q_dec_lshl {A : ByteArray} {pc : Nat} (h : q_enc (.lshl) (A.data.toList.drop pc) = true) : decode A pc = .ok (.lshl, 1) := by
  generalize hL : A.data.toList.drop pc = L at h
  match L, h, hL with
  | a :: r, h, e =>
    have : a = 121 := by simpa [q_enc] using h
    subst this
    exact q_decode ((q_bind Reader.u1 _ (q_u1 e)).trans rfl)
set_option maxRecDepth 100000 in
theorem q_dec_lshr {A : ByteArray} {pc : Nat} (h : q_enc (.lshr) (A.data.toList.drop pc) = true) : decode A pc = .ok (.lshr, 1) := by
  generalize hL : A.data.toList.drop pc = L at h
  match L, h, hL with
  | a :: r, h, e =>
    have : a = 123 := by simpa [q_enc] using h
    subst this
    exact q_decode ((q_bind Reader.u1 _ (q_u1 e)).trans rfl)
set_option maxRecDepth 100000 in
theorem q_dec_lushr {A : ByteArray} {pc : Nat} (h : q_enc (.lushr) (A.data.toList.drop pc) = true) : decode A pc = .ok (.lushr, 1) := by
  generalize hL : A.data.toList.drop pc = L at h
  match L, h, hL with
  | a :: r, h, e =>
    have : a = 125 := by simpa [q_enc] using h
    subst this
    exact q_decode ((q_bind Reader.u1 _ (q_u1 e)).trans rfl)
set_option maxRecDepth 100000 in
theorem q_dec_lcmp {A : ByteArray} {pc : Nat} (h : q_enc (.lcmp) (A.data.toList.drop pc) = true) : decode A pc = .ok (.lcmp, 1) := by
  generalize hL : A.data.toList.drop pc = L at h
  match L, h, hL with
  | a :: r, h, e =>
    have : a = 148 := by simpa [q_enc] using h
    subst this
    exact q_decode ((q_bind Reader.u1 _ (q_u1 e)).trans rfl)
set_option maxRecDepth 100000 in
theorem q_dec_dup {A : ByteArray} {pc : Nat} (h : q_enc (.dup) (A.data.toList.drop pc) = true) : decode A pc = .ok (.dup, 1) := by
  generalize hL : A.data.toList.drop pc = L at h
  match L, h, hL with
  | a :: r, h, e =>
    have : a = 89 := by simpa [q_enc] using h
    subst this
    exact q_decode ((q_bind Reader.u1 _ (q_u1 e)).trans rfl)
set_option maxRecDepth 100000 in
theorem q_dec_pop {A : ByteArray} {pc : Nat} (h : q_enc (.pop) (A.data.toList.drop pc) = true) : decode A pc = .ok (.pop, 1) := by
  generalize hL : A.data.toList.drop pc = L at h
  match L, h, hL with
  | a :: r, h, e =>
    have : a = 87 := by simpa [q_enc] using h
    subst this
    exact q_decode ((q_bind Reader.u1 _ (q_u1 e)).trans rfl)
set_option maxRecDepth 100000 in
theorem q_dec_dup2 {A : ByteArray} {pc : Nat} (h : q_enc (.dup2) (A.data.toList.drop pc) = true) : decode A pc = .ok (.dup2, 1) := by
  generalize hL : A.data.toList.drop pc = L at h
  match L, h, hL with
  | a :: r, h, e =>
    have : a = 92 := by simpa [q_enc] using h
    subst this
    exact q_decode ((q_bind Reader.u1 _ (q_u1 e)).trans rfl)
set_option maxRecDepth 100000 in
theorem q_dec_iaload {A : ByteArray} {pc : Nat} (h : q_enc (.iaload) (A.data.toList.drop pc) = true) : decode A pc = .ok (.iaload, 1) := by
  generalize hL : A.data.toList.drop pc = L at h
  match L, h, hL with
  | a :: r, h, e =>
    have : a = 46 := by simpa [q_enc] using h
    subst this
    exact q_decode ((q_bind Reader.u1 _ (q_u1 e)).trans rfl)
set_option maxRecDepth 100000 in
theorem q_dec_baload {A : ByteArray} {pc : Nat} (h : q_enc (.baload) (A.data.toList.drop pc) = true) : decode A pc = .ok (.baload, 1) := by
  generalize hL : A.data.toList.drop pc = L at h
  match L, h, hL with
  | a :: r, h, e =>
    have : a = 51 := by simpa [q_enc] using h
    subst this
    exact q_decode ((q_bind Reader.u1 _ (q_u1 e)).trans rfl)
set_option maxRecDepth 100000 in
theorem q_dec_aaload {A : ByteArray} {pc : Nat} (h : q_enc (.aaload) (A.data.toList.drop pc) = true) : decode A pc = .ok (.aaload, 1) := by
  generalize hL : A.data.toList.drop pc = L at h
  match L, h, hL with
  | a :: r, h, e =>
    have : a = 50 := by simpa [q_enc] using h
    subst this
    exact q_decode ((q_bind Reader.u1 _ (q_u1 e)).trans rfl)
set_option maxRecDepth 100000 in
theorem q_dec_iastore {A : ByteArray} {pc : Nat} (h : q_enc (.iastore) (A.data.toList.drop pc) = true) : decode A pc = .ok (.iastore, 1) := by
  generalize hL : A.data.toList.drop pc = L at h
  match L, h, hL with
  | a :: r, h, e =>
    have : a = 79 := by simpa [q_enc] using h
    subst this
    exact q_decode ((q_bind Reader.u1 _ (q_u1 e)).trans rfl)
set_option maxRecDepth 100000 in
theorem q_dec_bastore {A : ByteArray} {pc : Nat} (h : q_enc (.bastore) (A.data.toList.drop pc) = true) : decode A pc = .ok (.bastore, 1) := by
  generalize hL : A.data.toList.drop pc = L at h
  match L, h, hL with
  | a :: r, h, e =>
    have : a = 84 := by simpa [q_enc] using h
    subst this
    exact q_decode ((q_bind Reader.u1 _ (q_u1 e)).trans rfl)
set_option maxRecDepth 100000 in
theorem q_dec_aastore {A : ByteArray} {pc : Nat} (h : q_enc (.aastore) (A.data.toList.drop pc) = true) : decode A pc = .ok (.aastore, 1) := by
  generalize hL : A.data.toList.drop pc = L at h
  match L, h, hL with
  | a :: r, h, e =>
    have : a = 83 := by simpa [q_enc] using h
    subst this
    exact q_decode ((q_bind Reader.u1 _ (q_u1 e)).trans rfl)
set_option maxRecDepth 100000 in
theorem q_dec_arraylength {A : ByteArray} {pc : Nat} (h : q_enc (.arraylength) (A.data.toList.drop pc) = true) : decode A pc = .ok (.arraylength, 1) := by
  generalize hL : A.data.toList.drop pc = L at h
  match L, h, hL with
  | a :: r, h, e =>
    have : a = 190 := by simpa [q_enc] using h
    subst this
    exact q_decode ((q_bind Reader.u1 _ (q_u1 e)).trans rfl)
set_option maxRecDepth 100000 in
theorem q_dec_ireturn {A : ByteArray} {pc : Nat} (h : q_enc (.ireturn) (A.data.toList.drop pc) = true) : decode A pc = .ok (.ireturn, 1) := by
  generalize hL : A.data.toList.drop pc = L at h
  match L, h, hL with
  | a :: r, h, e =>
    have : a = 172 := by simpa [q_enc] using h
    subst this
    exact q_decode ((q_bind Reader.u1 _ (q_u1 e)).trans rfl)
set_option maxRecDepth 100000 in
theorem q_dec_lreturn {A : ByteArray} {pc : Nat} (h : q_enc (.lreturn) (A.data.toList.drop pc) = true) : decode A pc = .ok (.lreturn, 1) := by
  generalize hL : A.data.toList.drop pc = L at h
  match L, h, hL with
  | a :: r, h, e =>
    have : a = 173 := by simpa [q_enc] using h
    subst this
    exact q_decode ((q_bind Reader.u1 _ (q_u1 e)).trans rfl)
set_option maxRecDepth 100000 in
theorem q_dec_areturn {A : ByteArray} {pc : Nat} (h : q_enc (.areturn) (A.data.toList.drop pc) = true) : decode A pc = .ok (.areturn, 1) := by
  generalize hL : A.data.toList.drop pc = L at h
  match L, h, hL with
  | a :: r, h, e =>
    have : a = 176 := by simpa [q_enc] using h
    subst this
    exact q_decode ((q_bind Reader.u1 _ (q_u1 e)).trans rfl)
set_option maxRecDepth 100000 in
theorem q_dec_return_ {A : ByteArray} {pc : Nat} (h : q_enc (.return_) (A.data.toList.drop pc) = true) : decode A pc = .ok (.return_, 1) := by
  generalize hL : A.data.toList.drop pc = L at h
  match L, h, hL with
  | a :: r, h, e =>
    have : a = 177 := by simpa [q_enc] using h
    subst this
    exact q_decode ((q_bind Reader.u1 _ (q_u1 e)).trans rfl)
set_option maxRecDepth 100000 in
theorem q_dec_iconst {A : ByteArray} {pc : Nat} {k : Int} (h : q_enc (.iconst k) (A.data.toList.drop pc) = true) : decode A pc = .ok (.iconst k, 1) := by
  generalize hL : A.data.toList.drop pc = L at h
  match L, h, hL with
  | a :: r, h, e =>
    simp only [q_enc, Bool.and_eq_true, decide_eq_true_eq] at h
    obtain ⟨⟨h1, h2⟩, h3⟩ := h
    rcases (show k = -1 ∨ k = 0 ∨ k = 1 ∨ k = 2 ∨ k = 3 ∨ k = 4 ∨ k = 5 by omega) with rfl | rfl | rfl | rfl | rfl | rfl | rfl
    · have : a = 2 := UInt8.toNat_inj.mp (by show a.toNat = 2; omega)
      subst this
      exact q_decode ((q_bind Reader.u1 _ (q_u1 e)).trans rfl)
    · have : a = 3 := UInt8.toNat_inj.mp (by show a.toNat = 3; omega)
      subst this
      exact q_decode ((q_bind Reader.u1 _ (q_u1 e)).trans rfl)
    · have : a = 4 := UInt8.toNat_inj.mp (by show a.toNat = 4; omega)
      subst this
      exact q_decode ((q_bind Reader.u1 _ (q_u1 e)).trans rfl)
    · have : a = 5 := UInt8.toNat_inj.mp (by show a.toNat = 5; omega)
      subst this
      exact q_decode ((q_bind Reader.u1 _ (q_u1 e)).trans rfl)
    · have : a = 6 := UInt8.toNat_inj.mp (by show a.toNat = 6; omega)
      subst this
      exact q_decode ((q_bind Reader.u1 _ (q_u1 e)).trans rfl)
    · have : a = 7 := UInt8.toNat_inj.mp (by show a.toNat = 7; omega)
      subst this
      exact q_decode ((q_bind Reader.u1 _ (q_u1 e)).trans rfl)
    · have : a = 8 := UInt8.toNat_inj.mp (by show a.toNat = 8; omega)
      subst this
      exact q_decode ((q_bind Reader.u1 _ (q_u1 e)).trans rfl)
set_option maxRecDepth 100000 in
theorem q_dec_lconst {A : ByteArray} {pc : Nat} {k : Fin 2} (h : q_enc (.lconst k) (A.data.toList.drop pc) = true) : decode A pc = .ok (.lconst k, 1) := by
  generalize hL : A.data.toList.drop pc = L at h
  match L, h, hL with
  | a :: r, h, e =>
    simp only [q_enc, decide_eq_true_eq] at h
    match k, h with
    | ⟨0, _⟩, h =>
      have : a = 9 := UInt8.toNat_inj.mp h
      subst this
      exact q_decode ((q_bind Reader.u1 _ (q_u1 e)).trans rfl)
    | ⟨1, _⟩, h =>
      have : a = 10 := UInt8.toNat_inj.mp h
      subst this
      exact q_decode ((q_bind Reader.u1 _ (q_u1 e)).trans rfl)
set_option maxRecDepth 100000 in
theorem q_dec_iload_n {A : ByteArray} {pc : Nat} {k : Fin 4} (h : q_enc (.iload_n k) (A.data.toList.drop pc) = true) : decode A pc = .ok (.iload_n k, 1) := by
  generalize hL : A.data.toList.drop pc = L at h
  match L, h, hL with
  | a :: r, h, e =>
    simp only [q_enc, decide_eq_true_eq] at h
    match k, h with
    | ⟨0, _⟩, h =>
      have : a = 26 := UInt8.toNat_inj.mp h
      subst this
      exact q_decode ((q_bind Reader.u1 _ (q_u1 e)).trans rfl)
    | ⟨1, _⟩, h =>
      have : a = 27 := UInt8.toNat_inj.mp h
      subst this
      exact q_decode ((q_bind Reader.u1 _ (q_u1 e)).trans rfl)
    | ⟨2, _⟩, h =>
      have : a = 28 := UInt8.toNat_inj.mp h
      subst this
      exact q_decode ((q_bind Reader.u1 _ (q_u1 e)).trans rfl)
    | ⟨3, _⟩, h =>
      have : a = 29 := UInt8.toNat_inj.mp h
      subst this
      exact q_decode ((q_bind Reader.u1 _ (q_u1 e)).trans rfl)
set_option maxRecDepth 100000 in
theorem q_dec_lload_n {A : ByteArray} {pc : Nat} {k : Fin 4} (h : q_enc (.lload_n k) (A.data.toList.drop pc) = true) : decode A pc = .ok (.lload_n k, 1) := by
  generalize hL : A.data.toList.drop pc = L at h
  match L, h, hL with
  | a :: r, h, e =>
    simp only [q_enc, decide_eq_true_eq] at h
    match k, h with
    | ⟨0, _⟩, h =>
      have : a = 30 := UInt8.toNat_inj.mp h
      subst this
      exact q_decode ((q_bind Reader.u1 _ (q_u1 e)).trans rfl)
    | ⟨1, _⟩, h =>
      have : a = 31 := UInt8.toNat_inj.mp h
      subst this
      exact q_decode ((q_bind Reader.u1 _ (q_u1 e)).trans rfl)
    | ⟨2, _⟩, h =>
      have : a = 32 := UInt8.toNat_inj.mp h
      subst this
      exact q_decode ((q_bind Reader.u1 _ (q_u1 e)).trans rfl)
    | ⟨3, _⟩, h =>
      have : a = 33 := UInt8.toNat_inj.mp h
      subst this
      exact q_decode ((q_bind Reader.u1 _ (q_u1 e)).trans rfl)
set_option maxRecDepth 100000 in
theorem q_dec_aload_n {A : ByteArray} {pc : Nat} {k : Fin 4} (h : q_enc (.aload_n k) (A.data.toList.drop pc) = true) : decode A pc = .ok (.aload_n k, 1) := by
  generalize hL : A.data.toList.drop pc = L at h
  match L, h, hL with
  | a :: r, h, e =>
    simp only [q_enc, decide_eq_true_eq] at h
    match k, h with
    | ⟨0, _⟩, h =>
      have : a = 42 := UInt8.toNat_inj.mp h
      subst this
      exact q_decode ((q_bind Reader.u1 _ (q_u1 e)).trans rfl)
    | ⟨1, _⟩, h =>
      have : a = 43 := UInt8.toNat_inj.mp h
      subst this
      exact q_decode ((q_bind Reader.u1 _ (q_u1 e)).trans rfl)
    | ⟨2, _⟩, h =>
      have : a = 44 := UInt8.toNat_inj.mp h
      subst this
      exact q_decode ((q_bind Reader.u1 _ (q_u1 e)).trans rfl)
    | ⟨3, _⟩, h =>
      have : a = 45 := UInt8.toNat_inj.mp h
      subst this
      exact q_decode ((q_bind Reader.u1 _ (q_u1 e)).trans rfl)
set_option maxRecDepth 100000 in
theorem q_dec_istore_n {A : ByteArray} {pc : Nat} {k : Fin 4} (h : q_enc (.istore_n k) (A.data.toList.drop pc) = true) : decode A pc = .ok (.istore_n k, 1) := by
  generalize hL : A.data.toList.drop pc = L at h
  match L, h, hL with
  | a :: r, h, e =>
    simp only [q_enc, decide_eq_true_eq] at h
    match k, h with
    | ⟨0, _⟩, h =>
      have : a = 59 := UInt8.toNat_inj.mp h
      subst this
      exact q_decode ((q_bind Reader.u1 _ (q_u1 e)).trans rfl)
    | ⟨1, _⟩, h =>
      have : a = 60 := UInt8.toNat_inj.mp h
      subst this
      exact q_decode ((q_bind Reader.u1 _ (q_u1 e)).trans rfl)
    | ⟨2, _⟩, h =>
      have : a = 61 := UInt8.toNat_inj.mp h
      subst this
      exact q_decode ((q_bind Reader.u1 _ (q_u1 e)).trans rfl)
    | ⟨3, _⟩, h =>
      have : a = 62 := UInt8.toNat_inj.mp h
      subst this
      exact q_decode ((q_bind Reader.u1 _ (q_u1 e)).trans rfl)
set_option maxRecDepth 100000 in
theorem q_dec_lstore_n {A : ByteArray} {pc : Nat} {k : Fin 4} (h : q_enc (.lstore_n k) (A.data.toList.drop pc) = true) : decode A pc = .ok (.lstore_n k, 1) := by
  generalize hL : A.data.toList.drop pc = L at h
  match L, h, hL with
  | a :: r, h, e =>
    simp only [q_enc, decide_eq_true_eq] at h
    match k, h with
    | ⟨0, _⟩, h =>
      have : a = 63 := UInt8.toNat_inj.mp h
      subst this
      exact q_decode ((q_bind Reader.u1 _ (q_u1 e)).trans rfl)
    | ⟨1, _⟩, h =>
      have : a = 64 := UInt8.toNat_inj.mp h
      subst this
      exact q_decode ((q_bind Reader.u1 _ (q_u1 e)).trans rfl)
    | ⟨2, _⟩, h =>
      have : a = 65 := UInt8.toNat_inj.mp h
      subst this
      exact q_decode ((q_bind Reader.u1 _ (q_u1 e)).trans rfl)
    | ⟨3, _⟩, h =>
      have : a = 66 := UInt8.toNat_inj.mp h
      subst this
      exact q_decode ((q_bind Reader.u1 _ (q_u1 e)).trans rfl)
set_option maxRecDepth 100000 in
theorem q_dec_astore_n {A : ByteArray} {pc : Nat} {k : Fin 4} (h : q_enc (.astore_n k) (A.data.toList.drop pc) = true) : decode A pc = .ok (.astore_n k, 1) := by
  generalize hL : A.data.toList.drop pc = L at h
  match L, h, hL with
  | a :: r, h, e =>
    simp only [q_enc, decide_eq_true_eq] at h
    match k, h with
    | ⟨0, _⟩, h =>
      have : a = 75 := UInt8.toNat_inj.mp h
      subst this
      exact q_decode ((q_bind Reader.u1 _ (q_u1 e)).trans rfl)
    | ⟨1, _⟩, h =>
      have : a = 76 := UInt8.toNat_inj.mp h
      subst this
      exact q_decode ((q_bind Reader.u1 _ (q_u1 e)).trans rfl)
    | ⟨2, _⟩, h =>
      have : a = 77 := UInt8.toNat_inj.mp h
      subst this
      exact q_decode ((q_bind Reader.u1 _ (q_u1 e)).trans rfl)
    | ⟨3, _⟩, h =>
      have : a = 78 := UInt8.toNat_inj.mp h
      subst this
      exact q_decode ((q_bind Reader.u1 _ (q_u1 e)).trans rfl)
set_option maxRecDepth 100000 in
theorem q_dec_bipush {A : ByteArray} {pc : Nat} {k : Int} (h : q_enc (.bipush k) (A.data.toList.drop pc) = true) : decode A pc = .ok (.bipush k, 2) := by
  generalize hL : A.data.toList.drop pc = L at h
  match L, h, hL with
  | a :: b :: r, h, e =>
    simp only [q_enc, Bool.and_eq_true, beq_iff_eq, decide_eq_true_eq] at h
    obtain ⟨rfl, rfl⟩ := h
    exact q_decode ((q_bind Reader.u1 _ (q_u1 e)).trans ((q_bind Reader.s1 _ (q_map _ _ (q_u1 (q_drop1 e)))).trans rfl))
set_option maxRecDepth 100000 in
theorem q_dec_ldc {A : ByteArray} {pc : Nat} {k : Nat} (h : q_enc (.ldc k) (A.data.toList.drop pc) = true) : decode A pc = .ok (.ldc k, 2) := by
  generalize hL : A.data.toList.drop pc = L at h
  match L, h, hL with
  | a :: b :: r, h, e =>
    simp only [q_enc, Bool.and_eq_true, beq_iff_eq, decide_eq_true_eq] at h
    obtain ⟨rfl, rfl⟩ := h
    exact q_decode ((q_bind Reader.u1 _ (q_u1 e)).trans ((q_bind Reader.u1 _ (q_u1 (q_drop1 e))).trans rfl))
set_option maxRecDepth 100000 in
theorem q_dec_iload {A : ByteArray} {pc : Nat} {k : Nat} (h : q_enc (.iload k) (A.data.toList.drop pc) = true) : decode A pc = .ok (.iload k, 2) := by
  generalize hL : A.data.toList.drop pc = L at h
  match L, h, hL with
  | a :: b :: r, h, e =>
    simp only [q_enc, Bool.and_eq_true, beq_iff_eq, decide_eq_true_eq] at h
    obtain ⟨rfl, rfl⟩ := h
    exact q_decode ((q_bind Reader.u1 _ (q_u1 e)).trans ((q_bind Reader.u1 _ (q_u1 (q_drop1 e))).trans rfl))
set_option maxRecDepth 100000 in
theorem q_dec_lload {A : ByteArray} {pc : Nat} {k : Nat} (h : q_enc (.lload k) (A.data.toList.drop pc) = true) : decode A pc = .ok (.lload k, 2) := by
  generalize hL : A.data.toList.drop pc = L at h
  match L, h, hL with
  | a :: b :: r, h, e =>
    simp only [q_enc, Bool.and_eq_true, beq_iff_eq, decide_eq_true_eq] at h
    obtain ⟨rfl, rfl⟩ := h
    exact q_decode ((q_bind Reader.u1 _ (q_u1 e)).trans ((q_bind Reader.u1 _ (q_u1 (q_drop1 e))).trans rfl))
set_option maxRecDepth 100000 in
theorem q_dec_aload {A : ByteArray} {pc : Nat} {k : Nat} (h : q_enc (.aload k) (A.data.toList.drop pc) = true) : decode A pc = .ok (.aload k, 2) := by
  generalize hL : A.data.toList.drop pc = L at h
  match L, h, hL with
  | a :: b :: r, h, e =>
    simp only [q_enc, Bool.and_eq_true, beq_iff_eq, decide_eq_true_eq] at h
    obtain ⟨rfl, rfl⟩ := h
    exact q_decode ((q_bind Reader.u1 _ (q_u1 e)).trans ((q_bind Reader.u1 _ (q_u1 (q_drop1 e))).trans rfl))
set_option maxRecDepth 100000 in
theorem q_dec_istore {A : ByteArray} {pc : Nat} {k : Nat} (h : q_enc (.istore k) (A.data.toList.drop pc) = true) : decode A pc = .ok (.istore k, 2) := by
  generalize hL : A.data.toList.drop pc = L at h
  match L, h, hL with
  | a :: b :: r, h, e =>
    simp only [q_enc, Bool.and_eq_true, beq_iff_eq, decide_eq_true_eq] at h
    obtain ⟨rfl, rfl⟩ := h
    exact q_decode ((q_bind Reader.u1 _ (q_u1 e)).trans ((q_bind Reader.u1 _ (q_u1 (q_drop1 e))).trans rfl))
set_option maxRecDepth 100000 in
theorem q_dec_lstore {A : ByteArray} {pc : Nat} {k : Nat} (h : q_enc (.lstore k) (A.data.toList.drop pc) = true) : decode A pc = .ok (.lstore k, 2) := by
  generalize hL : A.data.toList.drop pc = L at h
  match L, h, hL with
  | a :: b :: r, h, e =>
    simp only [q_enc, Bool.and_eq_true, beq_iff_eq, decide_eq_true_eq] at h
    obtain ⟨rfl, rfl⟩ := h
    exact q_decode ((q_bind Reader.u1 _ (q_u1 e)).trans ((q_bind Reader.u1 _ (q_u1 (q_drop1 e))).trans rfl))
set_option maxRecDepth 100000 in
theorem q_dec_astore {A : ByteArray} {pc : Nat} {k : Nat} (h : q_enc (.astore k) (A.data.toList.drop pc) = true) : decode A pc = .ok (.astore k, 2) := by
  generalize hL : A.data.toList.drop pc = L at h
  match L, h, hL with
  | a :: b :: r, h, e =>
    simp only [q_enc, Bool.and_eq_true, beq_iff_eq, decide_eq_true_eq] at h
    obtain ⟨rfl, rfl⟩ := h
    exact q_decode ((q_bind Reader.u1 _ (q_u1 e)).trans ((q_bind Reader.u1 _ (q_u1 (q_drop1 e))).trans rfl))
set_option maxRecDepth 100000 in
theorem q_dec_ldc_w {A : ByteArray} {pc : Nat} {k : Nat} (h : q_enc (.ldc_w k) (A.data.toList.drop pc) = true) : decode A pc = .ok (.ldc_w k, 3) := by
  generalize hL : A.data.toList.drop pc = L at h
  match L, h, hL with
  | a :: b :: c :: r, h, e =>
    simp only [q_enc, Bool.and_eq_true, beq_iff_eq, decide_eq_true_eq] at h
    obtain ⟨rfl, rfl⟩ := h
    exact q_decode ((q_bind Reader.u1 _ (q_u1 e)).trans ((q_bind Reader.u2 _ (q_u2 (q_drop1 e))).trans rfl))
set_option maxRecDepth 100000 in
theorem q_dec_ldc2_w {A : ByteArray} {pc : Nat} {k : Nat} (h : q_enc (.ldc2_w k) (A.data.toList.drop pc) = true) : decode A pc = .ok (.ldc2_w k, 3) := by
  generalize hL : A.data.toList.drop pc = L at h
  match L, h, hL with
  | a :: b :: c :: r, h, e =>
    simp only [q_enc, Bool.and_eq_true, beq_iff_eq, decide_eq_true_eq] at h
    obtain ⟨rfl, rfl⟩ := h
    exact q_decode ((q_bind Reader.u1 _ (q_u1 e)).trans ((q_bind Reader.u2 _ (q_u2 (q_drop1 e))).trans rfl))
set_option maxRecDepth 100000 in
theorem q_dec_getfield {A : ByteArray} {pc : Nat} {k : Nat} (h : q_enc (.getfield k) (A.data.toList.drop pc) = true) : decode A pc = .ok (.getfield k, 3) := by
  generalize hL : A.data.toList.drop pc = L at h
  match L, h, hL with
  | a :: b :: c :: r, h, e =>
    simp only [q_enc, Bool.and_eq_true, beq_iff_eq, decide_eq_true_eq] at h
    obtain ⟨rfl, rfl⟩ := h
    exact q_decode ((q_bind Reader.u1 _ (q_u1 e)).trans ((q_bind Reader.u2 _ (q_u2 (q_drop1 e))).trans rfl))
set_option maxRecDepth 100000 in
theorem q_dec_putfield {A : ByteArray} {pc : Nat} {k : Nat} (h : q_enc (.putfield k) (A.data.toList.drop pc) = true) : decode A pc = .ok (.putfield k, 3) := by
  generalize hL : A.data.toList.drop pc = L at h
  match L, h, hL with
  | a :: b :: c :: r, h, e =>
    simp only [q_enc, Bool.and_eq_true, beq_iff_eq, decide_eq_true_eq] at h
    obtain ⟨rfl, rfl⟩ := h
    exact q_decode ((q_bind Reader.u1 _ (q_u1 e)).trans ((q_bind Reader.u2 _ (q_u2 (q_drop1 e))).trans rfl))
set_option maxRecDepth 100000 in
theorem q_dec_getstatic {A : ByteArray} {pc : Nat} {k : Nat} (h : q_enc (.getstatic k) (A.data.toList.drop pc) = true) : decode A pc = .ok (.getstatic k, 3) := by
  generalize hL : A.data.toList.drop pc = L at h
  match L, h, hL with
  | a :: b :: c :: r, h, e =>
    simp only [q_enc, Bool.and_eq_true, beq_iff_eq, decide_eq_true_eq] at h
    obtain ⟨rfl, rfl⟩ := h
    exact q_decode ((q_bind Reader.u1 _ (q_u1 e)).trans ((q_bind Reader.u2 _ (q_u2 (q_drop1 e))).trans rfl))
set_option maxRecDepth 100000 in
theorem q_dec_new {A : ByteArray} {pc : Nat} {k : Nat} (h : q_enc (.new k) (A.data.toList.drop pc) = true) : decode A pc = .ok (.new k, 3) := by
  generalize hL : A.data.toList.drop pc = L at h
  match L, h, hL with
  | a :: b :: c :: r, h, e =>
    simp only [q_enc, Bool.and_eq_true, beq_iff_eq, decide_eq_true_eq] at h
    obtain ⟨rfl, rfl⟩ := h
    exact q_decode ((q_bind Reader.u1 _ (q_u1 e)).trans ((q_bind Reader.u2 _ (q_u2 (q_drop1 e))).trans rfl))
set_option maxRecDepth 100000 in
theorem q_dec_anewarray {A : ByteArray} {pc : Nat} {k : Nat} (h : q_enc (.anewarray k) (A.data.toList.drop pc) = true) : decode A pc = .ok (.anewarray k, 3) := by
  generalize hL : A.data.toList.drop pc = L at h
  match L, h, hL with
  | a :: b :: c :: r, h, e =>
    simp only [q_enc, Bool.and_eq_true, beq_iff_eq, decide_eq_true_eq] at h
    obtain ⟨rfl, rfl⟩ := h
    exact q_decode ((q_bind Reader.u1 _ (q_u1 e)).trans ((q_bind Reader.u2 _ (q_u2 (q_drop1 e))).trans rfl))
set_option maxRecDepth 100000 in
theorem q_dec_invokespecial {A : ByteArray} {pc : Nat} {k : Nat} (h : q_enc (.invokespecial k) (A.data.toList.drop pc) = true) : decode A pc = .ok (.invokespecial k, 3) := by
  generalize hL : A.data.toList.drop pc = L at h
  match L, h, hL with
  | a :: b :: c :: r, h, e =>
    simp only [q_enc, Bool.and_eq_true, beq_iff_eq, decide_eq_true_eq] at h
    obtain ⟨rfl, rfl⟩ := h
    exact q_decode ((q_bind Reader.u1 _ (q_u1 e)).trans ((q_bind Reader.u2 _ (q_u2 (q_drop1 e))).trans rfl))
set_option maxRecDepth 100000 in
theorem q_dec_invokestatic {A : ByteArray} {pc : Nat} {k : Nat} (h : q_enc (.invokestatic k) (A.data.toList.drop pc) = true) : decode A pc = .ok (.invokestatic k, 3) := by
  generalize hL : A.data.toList.drop pc = L at h
  match L, h, hL with
  | a :: b :: c :: r, h, e =>
    simp only [q_enc, Bool.and_eq_true, beq_iff_eq, decide_eq_true_eq] at h
    obtain ⟨rfl, rfl⟩ := h
    exact q_decode ((q_bind Reader.u1 _ (q_u1 e)).trans ((q_bind Reader.u2 _ (q_u2 (q_drop1 e))).trans rfl))
set_option maxRecDepth 100000 in
theorem q_dec_invokevirtual {A : ByteArray} {pc : Nat} {k : Nat} (h : q_enc (.invokevirtual k) (A.data.toList.drop pc) = true) : decode A pc = .ok (.invokevirtual k, 3) := by
  generalize hL : A.data.toList.drop pc = L at h
  match L, h, hL with
  | a :: b :: c :: r, h, e =>
    simp only [q_enc, Bool.and_eq_true, beq_iff_eq, decide_eq_true_eq] at h
    obtain ⟨rfl, rfl⟩ := h
    exact q_decode ((q_bind Reader.u1 _ (q_u1 e)).trans ((q_bind Reader.u2 _ (q_u2 (q_drop1 e))).trans rfl))
set_option maxRecDepth 100000 in
theorem q_dec_goto {A : ByteArray} {pc : Nat} {k : Int} (h : q_enc (.goto k) (A.data.toList.drop pc) = true) : decode A pc = .ok (.goto k, 3) := by
  generalize hL : A.data.toList.drop pc = L at h
  match L, h, hL with
  | a :: b :: c :: r, h, e =>
    simp only [q_enc, Bool.and_eq_true, beq_iff_eq, decide_eq_true_eq] at h
    obtain ⟨rfl, rfl⟩ := h
    exact q_decode ((q_bind Reader.u1 _ (q_u1 e)).trans ((q_bind Reader.s2 _ (q_map _ _ (q_u2 (q_drop1 e)))).trans rfl))
set_option maxRecDepth 100000 in
theorem q_dec_ifnull {A : ByteArray} {pc : Nat} {k : Int} (h : q_enc (.ifnull k) (A.data.toList.drop pc) = true) : decode A pc = .ok (.ifnull k, 3) := by
  generalize hL : A.data.toList.drop pc = L at h
  match L, h, hL with
  | a :: b :: c :: r, h, e =>
    simp only [q_enc, Bool.and_eq_true, beq_iff_eq, decide_eq_true_eq] at h
    obtain ⟨rfl, rfl⟩ := h
    exact q_decode ((q_bind Reader.u1 _ (q_u1 e)).trans ((q_bind Reader.s2 _ (q_map _ _ (q_u2 (q_drop1 e)))).trans rfl))
set_option maxRecDepth 100000 in
theorem q_dec_ifnonnull {A : ByteArray} {pc : Nat} {k : Int} (h : q_enc (.ifnonnull k) (A.data.toList.drop pc) = true) : decode A pc = .ok (.ifnonnull k, 3) := by
  generalize hL : A.data.toList.drop pc = L at h
  match L, h, hL with
  | a :: b :: c :: r, h, e =>
    simp only [q_enc, Bool.and_eq_true, beq_iff_eq, decide_eq_true_eq] at h
    obtain ⟨rfl, rfl⟩ := h
    exact q_decode ((q_bind Reader.u1 _ (q_u1 e)).trans ((q_bind Reader.s2 _ (q_map _ _ (q_u2 (q_drop1 e)))).trans rfl))
set_option maxRecDepth 100000 in
theorem q_dec_sipush {A : ByteArray} {pc : Nat} {k : Int} (h : q_enc (.sipush k) (A.data.toList.drop pc) = true) : decode A pc = .ok (.sipush k, 3) := by
  generalize hL : A.data.toList.drop pc = L at h
  match L, h, hL with
  | a :: b :: c :: r, h, e =>
    simp only [q_enc, Bool.and_eq_true, beq_iff_eq, decide_eq_true_eq] at h
    obtain ⟨rfl, rfl⟩ := h
    exact q_decode ((q_bind Reader.u1 _ (q_u1 e)).trans ((q_bind Reader.s2 _ (q_map _ _ (q_u2 (q_drop1 e)))).trans rfl))
set_option maxRecDepth 100000 in
theorem q_dec_ifCond {A : ByteArray} {pc : Nat} {cd : ClassFile.Cond} {k : Int} (h : q_enc (.ifCond cd k) (A.data.toList.drop pc) = true) : decode A pc = .ok (.ifCond cd k, 3) := by
  generalize hL : A.data.toList.drop pc = L at h
  match L, h, hL with
  | a :: b :: c :: r, h, e =>
    simp only [q_enc, Bool.and_eq_true, decide_eq_true_eq] at h
    obtain ⟨h1, rfl⟩ := h
    cases cd with
    | eq =>
      have : a = 153 := UInt8.toNat_inj.mp h1
      subst this
      exact q_decode ((q_bind Reader.u1 _ (q_u1 e)).trans ((q_bind Reader.s2 _ (q_map _ _ (q_u2 (q_drop1 e)))).trans rfl))
    | ne =>
      have : a = 154 := UInt8.toNat_inj.mp h1
      subst this
      exact q_decode ((q_bind Reader.u1 _ (q_u1 e)).trans ((q_bind Reader.s2 _ (q_map _ _ (q_u2 (q_drop1 e)))).trans rfl))
    | lt =>
      have : a = 155 := UInt8.toNat_inj.mp h1
      subst this
      exact q_decode ((q_bind Reader.u1 _ (q_u1 e)).trans ((q_bind Reader.s2 _ (q_map _ _ (q_u2 (q_drop1 e)))).trans rfl))
    | ge =>
      have : a = 156 := UInt8.toNat_inj.mp h1
      subst this
      exact q_decode ((q_bind Reader.u1 _ (q_u1 e)).trans ((q_bind Reader.s2 _ (q_map _ _ (q_u2 (q_drop1 e)))).trans rfl))
    | gt =>
      have : a = 157 := UInt8.toNat_inj.mp h1
      subst this
      exact q_decode ((q_bind Reader.u1 _ (q_u1 e)).trans ((q_bind Reader.s2 _ (q_map _ _ (q_u2 (q_drop1 e)))).trans rfl))
    | le =>
      have : a = 158 := UInt8.toNat_inj.mp h1
      subst this
      exact q_decode ((q_bind Reader.u1 _ (q_u1 e)).trans ((q_bind Reader.s2 _ (q_map _ _ (q_u2 (q_drop1 e)))).trans rfl))
set_option maxRecDepth 100000 in
theorem q_dec_if_icmp {A : ByteArray} {pc : Nat} {cd : ClassFile.Cond} {k : Int} (h : q_enc (.if_icmp cd k) (A.data.toList.drop pc) = true) : decode A pc = .ok (.if_icmp cd k, 3) := by
  generalize hL : A.data.toList.drop pc = L at h
  match L, h, hL with
  | a :: b :: c :: r, h, e =>
    simp only [q_enc, Bool.and_eq_true, decide_eq_true_eq] at h
    obtain ⟨h1, rfl⟩ := h
    cases cd with
    | eq =>
      have : a = 159 := UInt8.toNat_inj.mp h1
      subst this
      exact q_decode ((q_bind Reader.u1 _ (q_u1 e)).trans ((q_bind Reader.s2 _ (q_map _ _ (q_u2 (q_drop1 e)))).trans rfl))
    | ne =>
      have : a = 160 := UInt8.toNat_inj.mp h1
      subst this
      exact q_decode ((q_bind Reader.u1 _ (q_u1 e)).trans ((q_bind Reader.s2 _ (q_map _ _ (q_u2 (q_drop1 e)))).trans rfl))
    | lt =>
      have : a = 161 := UInt8.toNat_inj.mp h1
      subst this
      exact q_decode ((q_bind Reader.u1 _ (q_u1 e)).trans ((q_bind Reader.s2 _ (q_map _ _ (q_u2 (q_drop1 e)))).trans rfl))
    | ge =>
      have : a = 162 := UInt8.toNat_inj.mp h1
      subst this
      exact q_decode ((q_bind Reader.u1 _ (q_u1 e)).trans ((q_bind Reader.s2 _ (q_map _ _ (q_u2 (q_drop1 e)))).trans rfl))
    | gt =>
      have : a = 163 := UInt8.toNat_inj.mp h1
      subst this
      exact q_decode ((q_bind Reader.u1 _ (q_u1 e)).trans ((q_bind Reader.s2 _ (q_map _ _ (q_u2 (q_drop1 e)))).trans rfl))
    | le =>
      have : a = 164 := UInt8.toNat_inj.mp h1
      subst this
      exact q_decode ((q_bind Reader.u1 _ (q_u1 e)).trans ((q_bind Reader.s2 _ (q_map _ _ (q_u2 (q_drop1 e)))).trans rfl))
set_option maxRecDepth 100000 in
theorem q_dec_iinc {A : ByteArray} {pc : Nat} {k : Nat} {n : Int} (h : q_enc (.iinc k n) (A.data.toList.drop pc) = true) : decode A pc = .ok (.iinc k n, 3) := by
  generalize hL : A.data.toList.drop pc = L at h
  match L, h, hL with
  | a :: b :: c :: r, h, e =>
    simp only [q_enc, Bool.and_eq_true, beq_iff_eq, decide_eq_true_eq] at h
    obtain ⟨⟨rfl, rfl⟩, rfl⟩ := h
    exact q_decode ((q_bind Reader.u1 _ (q_u1 e)).trans ((q_bind Reader.u1 _ (q_u1 (q_drop1 e))).trans ((q_bind Reader.s1 _ (q_map _ _ (q_u1 (q_drop1 (q_drop1 e))))).trans rfl)))
set_option maxRecDepth 100000 in
theorem q_dec_newarray {A : ByteArray} {pc : Nat} {t : ArrayType} (h : q_enc (.newarray t) (A.data.toList.drop pc) = true) : decode A pc = .ok (.newarray t, 2) := by
  generalize hL : A.data.toList.drop pc = L at h
  match L, h, hL with
  | a :: b :: r, h, e =>
    simp only [q_enc, Bool.and_eq_true, Bool.or_eq_true, beq_iff_eq, decide_eq_true_eq] at h
    obtain ⟨rfl, ⟨rfl, rfl⟩ | ⟨rfl, rfl⟩⟩ := h
    · exact q_decode ((q_bind Reader.u1 _ (q_u1 e)).trans ((q_bind Reader.u1 _ (q_u1 (q_drop1 e))).trans rfl))
    · exact q_decode ((q_bind Reader.u1 _ (q_u1 e)).trans ((q_bind Reader.u1 _ (q_u1 (q_drop1 e))).trans rfl))
