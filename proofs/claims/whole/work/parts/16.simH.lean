
/-! ===== a run of the clean machine is a run of the machine ===== -/
section QX
variable {z : Nat} {ad : Nat → Nat} {D : va_G} {cA : Nat → ClassId} {m d : Nat} {p : Program} {l : Launch} {e : Env} {R : Room} {s : State} {mm : MethodId} {args : Array Value} {below : List Frame} {meth : Method} {c : Code} {Q : State → Prop} {c0 s0 pc : Nat} {ls st : List q_V} {v : q_H} {G : q_Gr}
theorem q_sim_str (X : q_Cx z ad D cA m d p R s mm args meth c) (hm : m < 227) {x : q_I} {as : List q_V} {r : q_V} {v' : q_H} {G' : q_Gr} (hx : q_code m pc = x) (hk : q_kind x = 1) (hn : x.2.2.2.1 ≤ st.length) (h4 : (st.drop x.2.2.2.1).length ≤ 4) (has : as = (st.take x.2.2.2.1).reverse) (hd5 : 5 ≤ d) (hlt : ¬ x.2.2.1 < 227) (hs1 : q_str x.2.2.1 as v G = some (r, v', G')) (hR : G'.2.2.1 ≤ c0 + R.cells ∧ G'.2.2.2 ≤ s0 + R.slots)
    (k : q_At z ad D cA m p l e R s mm args below meth c Q c0 s0 (pc + 3, ls, q_push r (st.drop x.2.2.2.1), v', G')) : q_At z ad D cA m p l e R s mm args below meth c Q c0 s0 (pc, ls, st, v, G) := by
  obtain ⟨rfl, rfl⟩ := q_str_same hs1
  intro H locs LS hW hK hS hL hg hc hs
  dsimp only at hW hK hL hg hc hs ⊢
  have kk := k H locs LS hW hK hS hL hg hc hs
  dsimp only at kk
  rw [q_push_rt] at kk
  have hx0 : x ≠ q_0 := fun q => by rw [q] at hk; cases hk
  have hchk := q_chkx_ok hm hx hx0
  have h8 := q_cats (z := z) (ad := ad) (st.drop x.2.2.2.1)
  have hst : st.map (q_tv z ad) = (as.map (q_tv z ad)).reverse ++ (st.drop x.2.2.2.1).map (q_tv z ad) := by
    rw [has, List.map_reverse, List.reverse_reverse, ← List.map_append, List.take_append_drop]
  have hlen : as.length = x.2.2.2.1 := by rw [has, List.length_reverse, List.length_take]; omega
  have hFix : CallFix p mm c (q_m m).2.1 (q_m m).2.2.1 s args q_T (q_m m).2.2.2.2.1 := ⟨X.1, X.2.1, X.2.2.1, X.2.2.2.1, X.2.2.2.2.1⟩
  have hw8 : 2 * (F0 mm pc LS (st.map (q_tv z ad))).monitorRoom + (((st.drop x.2.2.2.1).map (q_tv z ad)).map fun v => v.category).sum ≤ 8 := by show 2 * 0 + _ ≤ 8; omega
  have e1 := X.2.2.2.2.2.2.2.2.2.2.1
  have e2 := X.2.2.2.2.2.2.2.2.2.2.2
  have hE := X.2.2.2.2.2.2.2.2.1
  have hts := X.2.2.2.2.1
  rw [hst] at hw8 ⊢
  obtain ⟨ins, n, x1, x2, x3, x4, xi⟩ := x
  dsimp only at hlen hw8 kk hs1 hlt ⊢
  cases ins with
  | invokevirtual idx =>
    have hd := q_dec_ok hm hx (fun q => by cases q) (fun _ _ _ _ q => by cases q)
    have txt : ∀ a : Nat, (G'.2.1 a).1 = 50 → a < 32 ∧ q_ad z ad a = ad a := by
      intro a ha
      have : a < 32 := by
        rcases Nat.lt_or_ge a 32 with q | q
        · exact q
        · rcases Nat.lt_or_ge a (32 + G'.2.2.1) with q2 | q2
          · have h3 := hW.2.1 a q q2
            unfold q_cell at h3
            rw [if_neg (by omega), if_neg (by omega)] at h3
            omega
          · have := hW.2.2.1 a q2; omega
      exact ⟨this, by unfold q_ad; rw [if_pos this]⟩
    unfold q_str at hs1
    split at hs1
    · next a =>
      split at hs1
      · next h1 =>
        cases hs1
        obtain ⟨ha, ea⟩ := txt a h1.2
        simp only [q_chkx, if_pos h1.1, Bool.and_eq_true, decide_eq_true_eq] at hchk
        rcases hK a ha with ⟨q, -⟩ | ⟨-, b, t1, t2, t3, t4, t5⟩ | q
        · omega
        · have hM := q_c_len l z (ad a) b (G'.2.1 a).2 (v' a) (hW.2.2.2 a)
          have hq := fun a => hS.2.1 a
          rw [show (List.map (q_tv z ad) [.inr (.inr (.inl (some a)))]).reverse ++ List.map (q_tv z ad) (List.drop x2 st) = ([] : List Value).reverse ++ .ref (ad a) :: List.map (q_tv z ad) (List.drop x2 st) by show Value.ref (q_ad z ad a) :: _ = _; rw [ea]; rfl]
          refine q_afterp (va_runV (Ts := q_T) (C := RJ0) (As := []) (rest := (st.drop x2).map (q_tv z ad)) hFix hM ⟨callB_of 0 hts q_jg_len rfl rfl rfl (hts _ q_j_len.2) (hts _ (q_at_mem hchk.2)) (by decide +kernel) ⟨by show 1 + 1 ≤ R.frames; omega, by show 8 + (1 + 11) + 30 * 1 ≤ R.locals; omega⟩, hts _ q_js_len.1, hts _ q_js_len.2⟩ ⟨?_, ?_, ?_⟩ rfl rfl hL.1 rfl hw8 hd (by show G'.2.2.1 - c0 + 0 ≤ _ ∧ _; omega)) kk
          · exact fun a U g mk q => ⟨q.1, q.2.1.moved (U := U.calling g mk a) (Vm.Alike.refl U.vm), q.2.2.1.moved (U := U.calling g mk a) (Vm.Alike.refl U.vm), q.2.2.2.1.moved (U := U.calling g mk a) (Vm.Alike.refl U.vm), q.2.2.2.2.1.moved (U := U.calling g mk a) (Vm.Alike.refl U.vm), q.2.2.2.2.2.1.moved (U := U.calling g mk a) (Vm.Alike.refl U.vm), q.2.2.2.2.2.2.moved (U := U.calling g mk a) (Vm.Alike.refl U.vm)⟩
          · obtain ⟨cell, g1, g2, g3, g4⟩ := t1.kept hS.2.1
            exact ⟨cell, g1, g2, g3⟩
          · exact fun U hU hWm => ⟨rfl, by rw [hU]; exact (t1.moved hWm.alike).kept hS.2.1, by rw [hU]; exact (t2.moved hWm.alike).kept hS.2.1, by rw [hU]; exact (t3.moved hWm.alike).kept hS.2.1, by rw [hU]; exact (t4.moved hWm.alike).kept hS.2.1, by rw [hU]; exact (hE.2.2.2.2.2.1.moved hWm.alike).kept hS.2.1, by rw [hU]; exact (hE.2.2.2.2.2.2.moved hWm.alike).kept hS.2.1⟩
        · omega
      · cases hs1
    · next a j =>
      split at hs1
      · next h1 =>
        cases hs1
        obtain ⟨ha, ea⟩ := txt a h1.2.1
        have hne : ¬ x1 = 1002 := by omega
        simp only [q_chkx, if_neg hne, if_pos h1.1, Bool.and_eq_true, decide_eq_true_eq] at hchk
        rcases hK a ha with ⟨q, -⟩ | ⟨-, b, t1, t2, t3, t4, t5⟩ | q
        · omega
        · have hM := q_c_chr l z (ad a) b (G'.2.1 a).2 (v' a) j h1.2.2.1 h1.2.2.2 (hW.2.2.2 a) (t5 j.toNat (by omega))
          rw [show (List.map (q_tv z ad) [.inr (.inr (.inl (some a))), .inl j]).reverse ++ List.map (q_tv z ad) (List.drop x2 st) = ([.int (Int32.ofInt j)] : List Value).reverse ++ .ref (ad a) :: List.map (q_tv z ad) (List.drop x2 st) by show Value.int (Int32.ofInt j) :: Value.ref (q_ad z ad a) :: _ = _; rw [ea]; rfl]
          refine q_afterp (va_runV (Ts := q_T) (C := RJ0) (As := [.int (Int32.ofInt j)]) (rest := (st.drop x2).map (q_tv z ad)) hFix hM ⟨callB_of 1 hts q_jg_chr rfl rfl rfl (hts _ q_j_chr.2) (hts _ (q_at_mem hchk.2)) (by decide +kernel) ⟨by show 3 + 1 ≤ R.frames; omega, by show 8 + (2 + 11) + 30 * 3 ≤ R.locals; omega⟩, hts _ q_js_chr.1, hts _ q_js_chr.2⟩ ⟨?_, ?_, ?_⟩ rfl rfl hL.1 rfl hw8 hd (by show G'.2.2.1 - c0 + 0 ≤ _ ∧ _; omega)) kk
          · exact fun a U g mk q => ⟨q.1, q.2.1.moved (U := U.calling g mk a) (Vm.Alike.refl U.vm), q.2.2.1.moved (U := U.calling g mk a) (Vm.Alike.refl U.vm), q.2.2.2.1.moved (U := U.calling g mk a) (Vm.Alike.refl U.vm), q.2.2.2.2.1.moved (U := U.calling g mk a) (Vm.Alike.refl U.vm), q.2.2.2.2.2.1.moved (U := U.calling g mk a) (Vm.Alike.refl U.vm), q.2.2.2.2.2.2.moved (U := U.calling g mk a) (Vm.Alike.refl U.vm)⟩
          · obtain ⟨cell, g1, g2, g3, g4⟩ := t1.kept hS.2.1
            exact ⟨cell, g1, g2, g3⟩
          · exact fun U hU hWm => ⟨rfl, by rw [hU]; exact (t1.moved hWm.alike).kept hS.2.1, by rw [hU]; exact (t2.moved hWm.alike).kept hS.2.1, by rw [hU]; exact (t3.moved hWm.alike).kept hS.2.1, by rw [hU]; exact (t4.moved hWm.alike).kept hS.2.1, by rw [hU]; exact (hE.2.2.2.2.2.1.moved hWm.alike).kept hS.2.1, by rw [hU]; exact (hE.2.2.2.2.2.2.moved hWm.alike).kept hS.2.1⟩
        · omega
      · cases hs1
    · cases hs1
  | invokestatic idx =>
    exfalso
    unfold q_str at hs1
    have h1 : ¬ x1 = 1001 := by simp only [q_kind] at hk; split at hk <;> omega
    have h2 : ¬ x1 = 1004 := by simp only [q_kind] at hk; split at hk <;> omega
    have h3 : ¬ x1 = 1005 := by simp only [q_kind] at hk; split at hk <;> omega
    simp only [q_chkx, if_neg h1, if_neg h2, if_neg h3, q_mok, Bool.and_eq_true, decide_eq_true_eq] at hchk
    exact hlt hchk.1.1.1.1.1.1.1.1.1.1.1.1
  | invokespecial idx =>
    exfalso
    have h1 : ¬ x1 = 1000 := by simp only [q_kind] at hk; split at hk <;> omega
    simp only [q_chkx, if_neg h1, q_mok, Bool.and_eq_true, decide_eq_true_eq] at hchk
    exact hlt hchk.1.1.1.1.1.1.1.1.1.1.1.1
  | _ => cases hk
/-- what is known of the methods that are called -/
def q_Ok (l : Launch) (d N : Nat) : Prop := ∀ (m : Nat) (as : List q_V) (v : q_H) (G : q_Gr) (r : q_V) (v' : q_H) (G' : q_Gr), m < 227 → q_run N (d + 1) m as v G = some (r, v', G') → ∀ (z : Nat) (ad : Nat → Nat) (D : va_G) (cA : Nat → ClassId), Met l (q_m m).1 (q_ws m) (q_rm d (G'.2.2.1 - G.2.2.1) (G'.2.2.2 - G.2.2.2)) (q_Pc z ad D cA as v G) (q_Qc z ad D cA r v' G') (G'.2.2.1 - G.2.2.1) (G'.2.2.2 - G.2.2.2) (q_A z)
theorem q_run_rcv {N d m : Nat} {as : List q_V} {v v' : q_H} {G G' : q_Gr} {r : q_V} (h : q_run N (d + 1) m as v G = some (r, v', G')) (hm : m < 227) : q_rcv m as G = true := by
  simp only [q_run, if_pos hm] at h
  split at h
  · next q => exact q.1
  · cases h
theorem q_exec_sim {N : Nat} (X : q_Cx z ad D cA m d p R s mm args meth c) (hm : m < 227) (hOk : ∀ d2, d = d2 + 1 → q_Ok l d2 N) {rF : q_V} {vF : q_H} {GF : q_Gr} (hR : GF.2.2.1 ≤ c0 + R.cells ∧ GF.2.2.2 ≤ s0 + R.slots)
    (hret : ∀ (pc : Nat) (ls st : List q_V) (v : q_H) (G : q_Gr), q_kind (q_code m pc) ≠ 0 ∧ q_kind (q_code m pc) ≠ 1 → q_end m (q_code m pc) st v G = some (rF, vF, GF) → q_At z ad D cA m p l e R s mm args below meth c Q c0 s0 (pc, ls, st, v, G)) :
    ∀ (n pc : Nat) (ls st : List q_V) (v : q_H) (G : q_Gr), q_exec (q_run N d) n m pc ls st v G = some (rF, vF, GF) → q_At z ad D cA m p l e R s mm args below meth c Q c0 s0 (pc, ls, st, v, G) := by
  intro n
  induction n with
  | zero => intro pc ls st v G h; cases h
  | succ n ih =>
    intro pc ls st v G h
    simp only [q_exec] at h
    split at h
    · next hk =>
      split at h
      · next S1 S2 S3 S4 S5 hs =>
        have h2 := q_exec_mono (q_run_mono N d) _ _ _ _ _ _ _ _ _ _ h
        exact q_sim_step X hm hs (by dsimp only; omega) (ih _ _ _ _ _ h)
      · cases h
    · next hk =>
      split at h
      · next hn =>
        split at h
        · next r1 v1 G1 hc =>
          have h1 := q_run_mono N d _ _ _ _ _ _ _ hc
          have h2 := q_exec_mono (q_run_mono N d) _ _ _ _ _ _ _ _ _ _ h
          have kk := ih _ _ _ _ _ h
          cases hd : d with
          | zero => rw [hd] at hc; cases hc
          | succ d2 =>
            have hc' := hc
            rw [hd] at hc'
            by_cases hlt : (q_code m pc).2.2.1 < 227
            · exact q_sim_call (i := 0) X hm rfl hk rfl hlt hn.1 hn.2 rfl (q_run_rcv hc' hlt) hd (Nat.add_sub_cancel' h1.1) (Nat.add_sub_cancel' h1.2) (hOk d2 hd _ _ _ _ _ _ _ hlt hc' z ad D cA) (q_run_const N d _ _ _ _ _ _ _ hc) (by omega) kk
            · have hs : 4 ≤ d2 ∧ q_str (q_code m pc).2.2.1 (st.take (q_code m pc).2.2.2.1).reverse v G = some (r1, v1, G1) := by
                simp only [q_run, if_neg hlt] at hc'
                split at hc'
                · next q => exact ⟨q, hc'⟩
                · cases hc'
              exact q_sim_str X hm rfl hk hn.1 hn.2 rfl (by omega) hlt hs.2 (by omega) kk
        · cases h
      · cases h
    · next h0 h1 => exact hret pc ls st v G ⟨h0, h1⟩ h
end QX

theorem q_ok_of (l : Launch) (N d : Nat) (hOk : ∀ d2, d = d2 + 1 → q_Ok l d2 N) : q_Ok l d N := by
  intro m as v G r v' G' hm h z ad D cA
  have hmono := q_run_mono N (d + 1) _ _ _ _ _ _ _ h
  simp only [q_run, if_pos hm] at h
  split at h
  · next hq =>
    obtain ⟨hrc, hwd, hlg⟩ := hq
    obtain ⟨hpl, hcl, hin⟩ := q_meth hm
    refine Met.ofW (cc := (q_m m).2.1) (maxL := (q_m m).2.2.1) (ret := (q_m m).2.2.2.1) hpl rfl ?_
    intro p e s mm args below meth c s₁ B hml hv
    obtain ⟨rfl, hW, hK, hE⟩ := hv
    have hts0 := atoms_spec (ws := q_ws m) B.pre
    have hown : s.vm.findClass (q_m m).1.cls = some mm.cls := findClass_of_methodNamed B.named
    rw [hcl] at hown
    have X : q_Cx z ad D cA m d p (q_rm d (G'.2.2.1 - G.2.2.1) (G'.2.2.2 - G.2.2.2)) s mm (as.map (q_tv z ad)).toArray meth c := ⟨B.exec, B.bytes, hml, hown, fun w hw => hts0 w (List.mem_cons_of_mem _ hw), B.returns, B.notSynchronized, fun hk => ((name_of_methodNamed B.named B.method).1).trans (hin hk), hE, by rw [hW.1]; exact Nat.le_add_right _ _, Nat.le_refl _, Nat.le_refl _⟩
    rw [lg_entry_eq]
    have key := q_exec_sim (l := l) (e := e) (below := below) (Q := MQ below (q_Qc z ad D cA r v' G') (as.map (q_tv z ad)).toArray s (G'.2.2.1 - G.2.2.1) (G'.2.2.2 - G.2.2.2) (q_A z)) (c0 := G.2.2.1) (s0 := G.2.2.2) X hm hOk (by show _ ≤ G.2.2.1 + (G'.2.2.1 - G.2.2.1) ∧ _ ≤ G.2.2.2 + (G'.2.2.2 - G.2.2.2); omega) (fun pc ls st v1 G1 hk he => q_sim_end X hm hk he) N 0 _ _ _ _ h
    have := key s.heap [] _ hW hK va_S.rf (q_entry as hwd) (q_lgB_lg hlg) (Nat.le_refl _) (Nat.le_refl _)
    rw [Nat.sub_self, Nat.sub_self] at this
    exact this
  · cases h
theorem q_ok_all (l : Launch) (N : Nat) : ∀ d, q_Ok l d N := by
  intro d
  induction d with
  | zero =>
    intro m as v G r v' G' hm h z ad D cA
    exact q_ok_of l N 0 (fun d2 h => by cases h) m as v G r v' G' hm h z ad D cA
  | succ d ih =>
    intro m as v G r v' G' hm h z ad D cA
    exact q_ok_of l N (d + 1) (fun d2 h => by cases h; exact ih) m as v G r v' G' hm h z ad D cA
