/-! ===== the tables are as the code and the words have it ===== -/
theorem q_dec_all {i : Instr} {A : ByteArray} {pc : Nat} (h : q_enc i (A.data.toList.drop pc) = true) : decode A pc = .ok (i, q_len i) := by
  cases i with
  | aconst_null => exact q_dec_aconst_null h
  | iadd => exact q_dec_iadd h
  | isub => exact q_dec_isub h
  | imul => exact q_dec_imul h
  | idiv => exact q_dec_idiv h
  | irem => exact q_dec_irem h
  | iand => exact q_dec_iand h
  | i2b => exact q_dec_i2b h
  | i2s => exact q_dec_i2s h
  | i2l => exact q_dec_i2l h
  | l2i => exact q_dec_l2i h
  | ladd => exact q_dec_ladd h
  | lmul => exact q_dec_lmul h
  | lrem => exact q_dec_lrem h
  | land => exact q_dec_land h
  | lor => exact q_dec_lor h
  | lshl => exact q_dec_lshl h
  | lshr => exact q_dec_lshr h
  | lushr => exact q_dec_lushr h
  | lcmp => exact q_dec_lcmp h
  | dup => exact q_dec_dup h
  | pop => exact q_dec_pop h
  | dup2 => exact q_dec_dup2 h
  | iaload => exact q_dec_iaload h
  | baload => exact q_dec_baload h
  | aaload => exact q_dec_aaload h
  | iastore => exact q_dec_iastore h
  | bastore => exact q_dec_bastore h
  | aastore => exact q_dec_aastore h
  | arraylength => exact q_dec_arraylength h
  | ireturn => exact q_dec_ireturn h
  | lreturn => exact q_dec_lreturn h
  | areturn => exact q_dec_areturn h
  | return_ => exact q_dec_return_ h
  | iload_n x => exact q_dec_iload_n h
  | lload_n x => exact q_dec_lload_n h
  | aload_n x => exact q_dec_aload_n h
  | istore_n x => exact q_dec_istore_n h
  | lstore_n x => exact q_dec_lstore_n h
  | astore_n x => exact q_dec_astore_n h
  | ldc x => exact q_dec_ldc h
  | iload x => exact q_dec_iload h
  | lload x => exact q_dec_lload h
  | aload x => exact q_dec_aload h
  | istore x => exact q_dec_istore h
  | lstore x => exact q_dec_lstore h
  | astore x => exact q_dec_astore h
  | ldc_w x => exact q_dec_ldc_w h
  | ldc2_w x => exact q_dec_ldc2_w h
  | getfield x => exact q_dec_getfield h
  | putfield x => exact q_dec_putfield h
  | getstatic x => exact q_dec_getstatic h
  | new x => exact q_dec_new h
  | anewarray x => exact q_dec_anewarray h
  | invokespecial x => exact q_dec_invokespecial h
  | invokestatic x => exact q_dec_invokestatic h
  | invokevirtual x => exact q_dec_invokevirtual h
  | goto x => exact q_dec_goto h
  | ifnull x => exact q_dec_ifnull h
  | ifnonnull x => exact q_dec_ifnonnull h
  | sipush x => exact q_dec_sipush h
  | iconst x => exact q_dec_iconst h
  | lconst x => exact q_dec_lconst h
  | bipush x => exact q_dec_bipush h
  | newarray x => exact q_dec_newarray h
  | ifCond x y => exact q_dec_ifCond h
  | if_icmp x y => exact q_dec_if_icmp h
  | iinc x y => exact q_dec_iinc h
  | _ => exact absurd h (by simp [q_enc])
def q_chkM (m : Nat) : Bool := q_chkT (q_C.getD m []) (q_m m).2.1.data.toList && (q_C.getD m []).all (q_chkx m)
theorem q_chk_0 : ∀ m, 0 ≤ m → m < 23 → q_chkM m = true := by
  have h : (List.range 23).all (fun i => q_chkM (0 + i)) = true := by decide +kernel
  intro m h1 h2
  have := List.all_eq_true.mp h (m - 0) (List.mem_range.mpr (by omega))
  rwa [show 0 + (m - 0) = m by omega] at this
theorem q_chk_1 : ∀ m, 23 ≤ m → m < 34 → q_chkM m = true := by
  have h : (List.range 11).all (fun i => q_chkM (23 + i)) = true := by decide +kernel
  intro m h1 h2
  have := List.all_eq_true.mp h (m - 23) (List.mem_range.mpr (by omega))
  rwa [show 23 + (m - 23) = m by omega] at this
theorem q_chk_2 : ∀ m, 34 ≤ m → m < 55 → q_chkM m = true := by
  have h : (List.range 21).all (fun i => q_chkM (34 + i)) = true := by decide +kernel
  intro m h1 h2
  have := List.all_eq_true.mp h (m - 34) (List.mem_range.mpr (by omega))
  rwa [show 34 + (m - 34) = m by omega] at this
theorem q_chk_3 : ∀ m, 55 ≤ m → m < 69 → q_chkM m = true := by
  have h : (List.range 14).all (fun i => q_chkM (55 + i)) = true := by decide +kernel
  intro m h1 h2
  have := List.all_eq_true.mp h (m - 55) (List.mem_range.mpr (by omega))
  rwa [show 55 + (m - 55) = m by omega] at this
theorem q_chk_4 : ∀ m, 69 ≤ m → m < 89 → q_chkM m = true := by
  have h : (List.range 20).all (fun i => q_chkM (69 + i)) = true := by decide +kernel
  intro m h1 h2
  have := List.all_eq_true.mp h (m - 69) (List.mem_range.mpr (by omega))
  rwa [show 69 + (m - 69) = m by omega] at this
theorem q_chk_5 : ∀ m, 89 ≤ m → m < 115 → q_chkM m = true := by
  have h : (List.range 26).all (fun i => q_chkM (89 + i)) = true := by decide +kernel
  intro m h1 h2
  have := List.all_eq_true.mp h (m - 89) (List.mem_range.mpr (by omega))
  rwa [show 89 + (m - 89) = m by omega] at this
theorem q_chk_6 : ∀ m, 115 ≤ m → m < 127 → q_chkM m = true := by
  have h : (List.range 12).all (fun i => q_chkM (115 + i)) = true := by decide +kernel
  intro m h1 h2
  have := List.all_eq_true.mp h (m - 115) (List.mem_range.mpr (by omega))
  rwa [show 115 + (m - 115) = m by omega] at this
theorem q_chk_7 : ∀ m, 127 ≤ m → m < 140 → q_chkM m = true := by
  have h : (List.range 13).all (fun i => q_chkM (127 + i)) = true := by decide +kernel
  intro m h1 h2
  have := List.all_eq_true.mp h (m - 127) (List.mem_range.mpr (by omega))
  rwa [show 127 + (m - 127) = m by omega] at this
theorem q_chk_8 : ∀ m, 140 ≤ m → m < 156 → q_chkM m = true := by
  have h : (List.range 16).all (fun i => q_chkM (140 + i)) = true := by decide +kernel
  intro m h1 h2
  have := List.all_eq_true.mp h (m - 140) (List.mem_range.mpr (by omega))
  rwa [show 140 + (m - 140) = m by omega] at this
theorem q_chk_9 : ∀ m, 156 ≤ m → m < 167 → q_chkM m = true := by
  have h : (List.range 11).all (fun i => q_chkM (156 + i)) = true := by decide +kernel
  intro m h1 h2
  have := List.all_eq_true.mp h (m - 156) (List.mem_range.mpr (by omega))
  rwa [show 156 + (m - 156) = m by omega] at this
theorem q_chk_10 : ∀ m, 167 ≤ m → m < 176 → q_chkM m = true := by
  have h : (List.range 9).all (fun i => q_chkM (167 + i)) = true := by decide +kernel
  intro m h1 h2
  have := List.all_eq_true.mp h (m - 167) (List.mem_range.mpr (by omega))
  rwa [show 167 + (m - 167) = m by omega] at this
theorem q_chk_11 : ∀ m, 176 ≤ m → m < 188 → q_chkM m = true := by
  have h : (List.range 12).all (fun i => q_chkM (176 + i)) = true := by decide +kernel
  intro m h1 h2
  have := List.all_eq_true.mp h (m - 176) (List.mem_range.mpr (by omega))
  rwa [show 176 + (m - 176) = m by omega] at this
theorem q_chk_12 : ∀ m, 188 ≤ m → m < 198 → q_chkM m = true := by
  have h : (List.range 10).all (fun i => q_chkM (188 + i)) = true := by decide +kernel
  intro m h1 h2
  have := List.all_eq_true.mp h (m - 188) (List.mem_range.mpr (by omega))
  rwa [show 188 + (m - 188) = m by omega] at this
theorem q_chk_13 : ∀ m, 198 ≤ m → m < 203 → q_chkM m = true := by
  have h : (List.range 5).all (fun i => q_chkM (198 + i)) = true := by decide +kernel
  intro m h1 h2
  have := List.all_eq_true.mp h (m - 198) (List.mem_range.mpr (by omega))
  rwa [show 198 + (m - 198) = m by omega] at this
theorem q_chk_14 : ∀ m, 203 ≤ m → m < 208 → q_chkM m = true := by
  have h : (List.range 5).all (fun i => q_chkM (203 + i)) = true := by decide +kernel
  intro m h1 h2
  have := List.all_eq_true.mp h (m - 203) (List.mem_range.mpr (by omega))
  rwa [show 203 + (m - 203) = m by omega] at this
theorem q_chk_15 : ∀ m, 208 ≤ m → m < 213 → q_chkM m = true := by
  have h : (List.range 5).all (fun i => q_chkM (208 + i)) = true := by decide +kernel
  intro m h1 h2
  have := List.all_eq_true.mp h (m - 208) (List.mem_range.mpr (by omega))
  rwa [show 208 + (m - 208) = m by omega] at this
theorem q_chk_16 : ∀ m, 213 ≤ m → m < 225 → q_chkM m = true := by
  have h : (List.range 12).all (fun i => q_chkM (213 + i)) = true := by decide +kernel
  intro m h1 h2
  have := List.all_eq_true.mp h (m - 213) (List.mem_range.mpr (by omega))
  rwa [show 213 + (m - 213) = m by omega] at this
theorem q_chk_18 : ∀ m, 226 ≤ m → m < 227 → q_chkM m = true := by
  have h : (List.range 1).all (fun i => q_chkM (226 + i)) = true := by decide +kernel
  intro m h1 h2
  have := List.all_eq_true.mp h (m - 226) (List.mem_range.mpr (by omega))
  rwa [show 226 + (m - 226) = m by omega] at this
