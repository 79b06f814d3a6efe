section
variable {L i : Nat} {xs : Nat → Int} {v : q_H} {G : q_Gr} {Q : q_V → q_H → q_Gr → Prop}
theorem law_sheet (hI : Inv v G) (hC : csI v) (hk : q_lk G) (h0 : G.2.1 0 = (20, L)) (hx : ∀ k, v 0 k = xs k) (hr : ∀ k, -2147483648 ≤ xs k ∧ xs k ≤ 2147483647) (hi : i + 6 ≤ L) (hL : L ≤ 3072) (hm : G.2.2.1 + 12 ≤ 600000 ∧ G.2.2.2 + 72 ≤ 7302250) (nx : ∀ v2 G2, Inv v2 G2 → G2.2.2.1 ≤ G.2.2.1 + 12 → G2.2.2.2 ≤ G.2.2.2 + 72 → q_lw v G v2 G2 → q_wp 40 225 1010 [.inr (.inr (.inl (some 0))), .inr (.inr (.inl (some 32))), .inr (.inr (.inl (some 137))), .inl i] [] v2 G2 Q) : q_wp 40 225 152 [.inr (.inr (.inl (some 0))), .inr (.inr (.inl (some 32))), .inr (.inr (.inl (some 137))), .inl i] [] v G Q := by
  have t1 : ((i : Int) + 1).toNat = i + 1 := by omega
  have t2 : ((i : Int) + 2).toNat = i + 2 := by omega
  have t3 : ((i : Int) + 3).toNat = i + 3 := by omega
  have t4 : ((i : Int) + 4).toNat = i + 4 := by omega
  have t5 : ((i : Int) + 5).toNat = i + 5 := by omega
  have r1 := hr (i + 1)
  have r2 := hr (i + 2)
  have key : q_call 40 118 [.inr (.inr (.inl (some 32))), .inl (xs (i + 1)), .inl (xs (i + 2)), .inl (xs (i + 3))] v G (fun r v' G' => q_wp 40 225 171 [.inr (.inr (.inl (some 0))), .inr (.inr (.inl (some 32))), .inr (.inr (.inl (some 137))), .inl i] (q_push r []) v' G' Q) := by
    refine q_call_mono (twin_mid hk (op_sheet (d := 32) hI (hr _) (hr _) (hr _))) (fun r v1 G1 hh => ?_)
    obtain ⟨l1, z, hz, z1, z2, h⟩ := hh
    subst hz
    have g0 : G1.2.1 0 = (20, L) := by rw [(l1 0 (by decide)).2, h0]
    have x0 : ∀ k, v1 0 k = xs k := fun k => by rw [(l1 0 (by decide)).1, hx]
    have key2 : q_call 40 155 [.inr (.inr (.inl (some 137))), .inl (xs (i + 1)), .inl (xs (i + 2)), .inl (xs (i + 3))] v1 G1 (fun r v' G' => q_wp 40 225 190 [.inr (.inr (.inl (some 0))), .inr (.inr (.inl (some 32))), .inr (.inr (.inl (some 137))), .inl i] (q_push r [.inl z]) v' G' Q) := by
      refine q_call_mono h (fun r2 v2 G2 hh => ?_)
      obtain ⟨hz2, p1, p2, p3, p4⟩ := hh
      subst hz2
      have fin := nx v2 G2 p1 p2 p3 p4
      clear nx h hI hC
      simp only [e_225_190, q_push_I, q_push_L, q_push_P, q_push_U, if_true]
      repeat' first | (refine And.intro ?_ ?_) | exact True.intro | omega | assumption | rfl
    clear nx h hI hC
    simp only [e_225_171, e_225_172, e_225_173, e_225_174, e_225_175, e_225_176, e_225_177, e_225_178, e_225_179, e_225_180, e_225_181, e_225_182, e_225_183, e_225_184, e_225_185, e_225_186, e_225_187, q_push_I, q_push_L, q_push_P, q_push_U, g0, x0, t1, t2, t3, t4, t5]
    repeat' first | exact key2 | (refine And.intro ?_ ?_) | exact True.intro | omega | rfl
  clear nx hI hC
  simp only [e_225_152, e_225_153, e_225_154, e_225_155, e_225_156, e_225_157, e_225_158, e_225_159, e_225_160, e_225_161, e_225_162, e_225_163, e_225_164, e_225_165, e_225_166, e_225_167, e_225_168, h0, hx, t1, t2, t3, t4, t5]
  repeat' first | exact key | (refine And.intro ?_ ?_) | exact True.intro | omega | rfl
theorem law_set (hI : Inv v G) (hC : csI v) (hk : q_lk G) (h0 : G.2.1 0 = (20, L)) (hx : ∀ k, v 0 k = xs k) (hr : ∀ k, -2147483648 ≤ xs k ∧ xs k ≤ 2147483647) (hi : i + 6 ≤ L) (hL : L ≤ 3072) (hm : G.2.2.1 + 12 ≤ 600000 ∧ G.2.2.2 + 72 ≤ 7302250) (nx : ∀ v2 G2, Inv v2 G2 → G2.2.2.1 ≤ G.2.2.1 + 12 → G2.2.2.2 ≤ G.2.2.2 + 72 → q_lw v G v2 G2 → q_wp 40 225 1010 [.inr (.inr (.inl (some 0))), .inr (.inr (.inl (some 32))), .inr (.inr (.inl (some 137))), .inl i] [] v2 G2 Q) : q_wp 40 225 195 [.inr (.inr (.inl (some 0))), .inr (.inr (.inl (some 32))), .inr (.inr (.inl (some 137))), .inl i] [] v G Q := by
  have t1 : ((i : Int) + 1).toNat = i + 1 := by omega
  have t2 : ((i : Int) + 2).toNat = i + 2 := by omega
  have t3 : ((i : Int) + 3).toNat = i + 3 := by omega
  have t4 : ((i : Int) + 4).toNat = i + 4 := by omega
  have t5 : ((i : Int) + 5).toNat = i + 5 := by omega
  have r1 := hr (i + 1)
  have r2 := hr (i + 2)
  have key : q_call 40 119 [.inr (.inr (.inl (some 32))), .inl (xs (i + 1)), .inl (xs (i + 2)), .inl (xs (i + 3))] v G (fun r v' G' => q_wp 40 225 214 [.inr (.inr (.inl (some 0))), .inr (.inr (.inl (some 32))), .inr (.inr (.inl (some 137))), .inl i] (q_push r []) v' G' Q) := by
    refine q_call_mono (twin_mid hk (op_set (d := 32) hI (hr _) (hr _) (hr _))) (fun r v1 G1 hh => ?_)
    obtain ⟨l1, z, hz, z1, z2, h⟩ := hh
    subst hz
    have g0 : G1.2.1 0 = (20, L) := by rw [(l1 0 (by decide)).2, h0]
    have x0 : ∀ k, v1 0 k = xs k := fun k => by rw [(l1 0 (by decide)).1, hx]
    have key2 : q_call 40 156 [.inr (.inr (.inl (some 137))), .inl (xs (i + 1)), .inl (xs (i + 2)), .inl (xs (i + 3))] v1 G1 (fun r v' G' => q_wp 40 225 233 [.inr (.inr (.inl (some 0))), .inr (.inr (.inl (some 32))), .inr (.inr (.inl (some 137))), .inl i] (q_push r [.inl z]) v' G' Q) := by
      refine q_call_mono h (fun r2 v2 G2 hh => ?_)
      obtain ⟨hz2, p1, p2, p3, p4⟩ := hh
      subst hz2
      have fin := nx v2 G2 p1 p2 p3 p4
      clear nx h hI hC
      simp only [e_225_233, q_push_I, q_push_L, q_push_P, q_push_U, if_true]
      repeat' first | (refine And.intro ?_ ?_) | exact True.intro | omega | assumption | rfl
    clear nx h hI hC
    simp only [e_225_214, e_225_215, e_225_216, e_225_217, e_225_218, e_225_219, e_225_220, e_225_221, e_225_222, e_225_223, e_225_224, e_225_225, e_225_226, e_225_227, e_225_228, e_225_229, e_225_230, q_push_I, q_push_L, q_push_P, q_push_U, g0, x0, t1, t2, t3, t4, t5]
    repeat' first | exact key2 | (refine And.intro ?_ ?_) | exact True.intro | omega | rfl
  clear nx hI hC
  simp only [e_225_195, e_225_196, e_225_197, e_225_198, e_225_199, e_225_200, e_225_201, e_225_202, e_225_203, e_225_204, e_225_205, e_225_206, e_225_207, e_225_208, e_225_209, e_225_210, e_225_211, h0, hx, t1, t2, t3, t4, t5]
  repeat' first | exact key | (refine And.intro ?_ ?_) | exact True.intro | omega | rfl
theorem law_copy (hI : Inv v G) (hC : csI v) (hk : q_lk G) (h0 : G.2.1 0 = (20, L)) (hx : ∀ k, v 0 k = xs k) (hr : ∀ k, -2147483648 ≤ xs k ∧ xs k ≤ 2147483647) (hi : i + 6 ≤ L) (hL : L ≤ 3072) (hm : G.2.2.1 + 12 ≤ 600000 ∧ G.2.2.2 + 72 ≤ 7302250) (nx : ∀ v2 G2, Inv v2 G2 → G2.2.2.1 ≤ G.2.2.1 + 12 → G2.2.2.2 ≤ G.2.2.2 + 72 → q_lw v G v2 G2 → q_wp 40 225 1010 [.inr (.inr (.inl (some 0))), .inr (.inr (.inl (some 32))), .inr (.inr (.inl (some 137))), .inl i] [] v2 G2 Q) : q_wp 40 225 238 [.inr (.inr (.inl (some 0))), .inr (.inr (.inl (some 32))), .inr (.inr (.inl (some 137))), .inl i] [] v G Q := by
  have t1 : ((i : Int) + 1).toNat = i + 1 := by omega
  have t2 : ((i : Int) + 2).toNat = i + 2 := by omega
  have t3 : ((i : Int) + 3).toNat = i + 3 := by omega
  have t4 : ((i : Int) + 4).toNat = i + 4 := by omega
  have t5 : ((i : Int) + 5).toNat = i + 5 := by omega
  have r1 := hr (i + 1)
  have r2 := hr (i + 2)
  have key : q_call 40 120 [.inr (.inr (.inl (some 32))), .inl (xs (i + 1)), .inl (xs (i + 2)), .inl (xs (i + 3)), .inl (xs (i + 4)), .inl (xs (i + 5))] v G (fun r v' G' => q_wp 40 225 267 [.inr (.inr (.inl (some 0))), .inr (.inr (.inl (some 32))), .inr (.inr (.inl (some 137))), .inl i] (q_push r []) v' G' Q) := by
    refine q_call_mono (twin_mid hk (op_copy (d := 32) hI (hr _) (hr _) (hr _) (hr _) (hr _))) (fun r v1 G1 hh => ?_)
    obtain ⟨l1, z, hz, z1, z2, h⟩ := hh
    subst hz
    have g0 : G1.2.1 0 = (20, L) := by rw [(l1 0 (by decide)).2, h0]
    have x0 : ∀ k, v1 0 k = xs k := fun k => by rw [(l1 0 (by decide)).1, hx]
    have key2 : q_call 40 157 [.inr (.inr (.inl (some 137))), .inl (xs (i + 1)), .inl (xs (i + 2)), .inl (xs (i + 3)), .inl (xs (i + 4)), .inl (xs (i + 5))] v1 G1 (fun r v' G' => q_wp 40 225 296 [.inr (.inr (.inl (some 0))), .inr (.inr (.inl (some 32))), .inr (.inr (.inl (some 137))), .inl i] (q_push r [.inl z]) v' G' Q) := by
      refine q_call_mono h (fun r2 v2 G2 hh => ?_)
      obtain ⟨hz2, p1, p2, p3, p4⟩ := hh
      subst hz2
      have fin := nx v2 G2 p1 p2 p3 p4
      clear nx h hI hC
      simp only [e_225_296, q_push_I, q_push_L, q_push_P, q_push_U, if_true]
      repeat' first | (refine And.intro ?_ ?_) | exact True.intro | omega | assumption | rfl
    clear nx h hI hC
    simp only [e_225_267, e_225_268, e_225_269, e_225_270, e_225_271, e_225_272, e_225_273, e_225_274, e_225_275, e_225_276, e_225_277, e_225_278, e_225_279, e_225_280, e_225_281, e_225_282, e_225_283, e_225_284, e_225_285, e_225_286, e_225_287, e_225_288, e_225_289, e_225_290, e_225_291, e_225_292, e_225_293, q_push_I, q_push_L, q_push_P, q_push_U, g0, x0, t1, t2, t3, t4, t5]
    repeat' first | exact key2 | (refine And.intro ?_ ?_) | exact True.intro | omega | rfl
  clear nx hI hC
  simp only [e_225_238, e_225_239, e_225_240, e_225_241, e_225_242, e_225_243, e_225_244, e_225_245, e_225_246, e_225_247, e_225_248, e_225_249, e_225_250, e_225_251, e_225_252, e_225_253, e_225_254, e_225_255, e_225_256, e_225_257, e_225_258, e_225_259, e_225_260, e_225_261, e_225_262, e_225_263, e_225_264, h0, hx, t1, t2, t3, t4, t5]
  repeat' first | exact key | (refine And.intro ?_ ?_) | exact True.intro | omega | rfl
theorem law_drop (hI : Inv v G) (hC : csI v) (hk : q_lk G) (h0 : G.2.1 0 = (20, L)) (hx : ∀ k, v 0 k = xs k) (hr : ∀ k, -2147483648 ≤ xs k ∧ xs k ≤ 2147483647) (hi : i + 6 ≤ L) (hL : L ≤ 3072) (hm : G.2.2.1 + 12 ≤ 600000 ∧ G.2.2.2 + 72 ≤ 7302250) (nx : ∀ v2 G2, Inv v2 G2 → G2.2.2.1 ≤ G.2.2.1 + 12 → G2.2.2.2 ≤ G.2.2.2 + 72 → q_lw v G v2 G2 → q_wp 40 225 1010 [.inr (.inr (.inl (some 0))), .inr (.inr (.inl (some 32))), .inr (.inr (.inl (some 137))), .inl i] [] v2 G2 Q) : q_wp 40 225 301 [.inr (.inr (.inl (some 0))), .inr (.inr (.inl (some 32))), .inr (.inr (.inl (some 137))), .inl i] [] v G Q := by
  have t1 : ((i : Int) + 1).toNat = i + 1 := by omega
  have t2 : ((i : Int) + 2).toNat = i + 2 := by omega
  have t3 : ((i : Int) + 3).toNat = i + 3 := by omega
  have t4 : ((i : Int) + 4).toNat = i + 4 := by omega
  have t5 : ((i : Int) + 5).toNat = i + 5 := by omega
  have r1 := hr (i + 1)
  have r2 := hr (i + 2)
  have key : q_call 40 121 [.inr (.inr (.inl (some 32))), .inl (xs (i + 1))] v G (fun r v' G' => q_wp 40 225 310 [.inr (.inr (.inl (some 0))), .inr (.inr (.inl (some 32))), .inr (.inr (.inl (some 137))), .inl i] (q_push r []) v' G' Q) := by
    refine q_call_mono (twin_mid hk (op_drop (d := 32) hI (hr _))) (fun r v1 G1 hh => ?_)
    obtain ⟨l1, z, hz, z1, z2, h⟩ := hh
    subst hz
    have g0 : G1.2.1 0 = (20, L) := by rw [(l1 0 (by decide)).2, h0]
    have x0 : ∀ k, v1 0 k = xs k := fun k => by rw [(l1 0 (by decide)).1, hx]
    have key2 : q_call 40 158 [.inr (.inr (.inl (some 137))), .inl (xs (i + 1))] v1 G1 (fun r v' G' => q_wp 40 225 319 [.inr (.inr (.inl (some 0))), .inr (.inr (.inl (some 32))), .inr (.inr (.inl (some 137))), .inl i] (q_push r [.inl z]) v' G' Q) := by
      refine q_call_mono h (fun r2 v2 G2 hh => ?_)
      obtain ⟨hz2, p1, p2, p3, p4⟩ := hh
      subst hz2
      have fin := nx v2 G2 p1 p2 p3 p4
      clear nx h hI hC
      simp only [e_225_319, q_push_I, q_push_L, q_push_P, q_push_U, if_true]
      repeat' first | (refine And.intro ?_ ?_) | exact True.intro | omega | assumption | rfl
    clear nx h hI hC
    simp only [e_225_310, e_225_311, e_225_312, e_225_313, e_225_314, e_225_315, e_225_316, q_push_I, q_push_L, q_push_P, q_push_U, g0, x0, t1, t2, t3, t4, t5]
    repeat' first | exact key2 | (refine And.intro ?_ ?_) | exact True.intro | omega | rfl
  clear nx hI hC
  simp only [e_225_301, e_225_302, e_225_303, e_225_304, e_225_305, e_225_306, e_225_307, h0, hx, t1, t2, t3, t4, t5]
  repeat' first | exact key | (refine And.intro ?_ ?_) | exact True.intro | omega | rfl
theorem law_put (hI : Inv v G) (hC : csI v) (hk : q_lk G) (h0 : G.2.1 0 = (20, L)) (hx : ∀ k, v 0 k = xs k) (hr : ∀ k, -2147483648 ≤ xs k ∧ xs k ≤ 2147483647) (hi : i + 6 ≤ L) (hL : L ≤ 3072) (hm : G.2.2.1 + 12 ≤ 600000 ∧ G.2.2.2 + 72 ≤ 7302250) (nx : ∀ v2 G2, Inv v2 G2 → G2.2.2.1 ≤ G.2.2.1 + 12 → G2.2.2.2 ≤ G.2.2.2 + 72 → q_lw v G v2 G2 → q_wp 40 225 1010 [.inr (.inr (.inl (some 0))), .inr (.inr (.inl (some 32))), .inr (.inr (.inl (some 137))), .inl i] [] v2 G2 Q) : q_wp 40 225 324 [.inr (.inr (.inl (some 0))), .inr (.inr (.inl (some 32))), .inr (.inr (.inl (some 137))), .inl i] [] v G Q := by
  have t1 : ((i : Int) + 1).toNat = i + 1 := by omega
  have t2 : ((i : Int) + 2).toNat = i + 2 := by omega
  have t3 : ((i : Int) + 3).toNat = i + 3 := by omega
  have t4 : ((i : Int) + 4).toNat = i + 4 := by omega
  have t5 : ((i : Int) + 5).toNat = i + 5 := by omega
  have r1 := hr (i + 1)
  have r2 := hr (i + 2)
  have key : q_call 40 122 [.inr (.inr (.inl (some 32))), .inl (xs (i + 1)), .inl (xs (i + 2)), .inl (xs (i + 3))] v G (fun r v' G' => q_wp 40 225 343 [.inr (.inr (.inl (some 0))), .inr (.inr (.inl (some 32))), .inr (.inr (.inl (some 137))), .inl i] (q_push r []) v' G' Q) := by
    refine q_call_mono (twin_mid hk (op_put (d := 32) hI (hr _) (hr _) (hr _))) (fun r v1 G1 hh => ?_)
    obtain ⟨l1, z, hz, z1, z2, h⟩ := hh
    subst hz
    have g0 : G1.2.1 0 = (20, L) := by rw [(l1 0 (by decide)).2, h0]
    have x0 : ∀ k, v1 0 k = xs k := fun k => by rw [(l1 0 (by decide)).1, hx]
    have key2 : q_call 40 163 [.inr (.inr (.inl (some 137))), .inl (xs (i + 1)), .inl (xs (i + 2)), .inl (xs (i + 3))] v1 G1 (fun r v' G' => q_wp 40 225 362 [.inr (.inr (.inl (some 0))), .inr (.inr (.inl (some 32))), .inr (.inr (.inl (some 137))), .inl i] (q_push r [.inl z]) v' G' Q) := by
      refine q_call_mono h (fun r2 v2 G2 hh => ?_)
      obtain ⟨hz2, p1, p2, p3, p4⟩ := hh
      subst hz2
      have fin := nx v2 G2 p1 p2 p3 p4
      clear nx h hI hC
      simp only [e_225_362, q_push_I, q_push_L, q_push_P, q_push_U, if_true]
      repeat' first | (refine And.intro ?_ ?_) | exact True.intro | omega | assumption | rfl
    clear nx h hI hC
    simp only [e_225_343, e_225_344, e_225_345, e_225_346, e_225_347, e_225_348, e_225_349, e_225_350, e_225_351, e_225_352, e_225_353, e_225_354, e_225_355, e_225_356, e_225_357, e_225_358, e_225_359, q_push_I, q_push_L, q_push_P, q_push_U, g0, x0, t1, t2, t3, t4, t5]
    repeat' first | exact key2 | (refine And.intro ?_ ?_) | exact True.intro | omega | rfl
  clear nx hI hC
  simp only [e_225_324, e_225_325, e_225_326, e_225_327, e_225_328, e_225_329, e_225_330, e_225_331, e_225_332, e_225_333, e_225_334, e_225_335, e_225_336, e_225_337, e_225_338, e_225_339, e_225_340, h0, hx, t1, t2, t3, t4, t5]
  repeat' first | exact key | (refine And.intro ?_ ?_) | exact True.intro | omega | rfl
theorem law_take (hI : Inv v G) (hC : csI v) (hk : q_lk G) (h0 : G.2.1 0 = (20, L)) (hx : ∀ k, v 0 k = xs k) (hr : ∀ k, -2147483648 ≤ xs k ∧ xs k ≤ 2147483647) (hi : i + 6 ≤ L) (hL : L ≤ 3072) (hm : G.2.2.1 + 12 ≤ 600000 ∧ G.2.2.2 + 72 ≤ 7302250) (nx : ∀ v2 G2, Inv v2 G2 → G2.2.2.1 ≤ G.2.2.1 + 12 → G2.2.2.2 ≤ G.2.2.2 + 72 → q_lw v G v2 G2 → q_wp 40 225 1010 [.inr (.inr (.inl (some 0))), .inr (.inr (.inl (some 32))), .inr (.inr (.inl (some 137))), .inl i] [] v2 G2 Q) : q_wp 40 225 367 [.inr (.inr (.inl (some 0))), .inr (.inr (.inl (some 32))), .inr (.inr (.inl (some 137))), .inl i] [] v G Q := by
  have t1 : ((i : Int) + 1).toNat = i + 1 := by omega
  have t2 : ((i : Int) + 2).toNat = i + 2 := by omega
  have t3 : ((i : Int) + 3).toNat = i + 3 := by omega
  have t4 : ((i : Int) + 4).toNat = i + 4 := by omega
  have t5 : ((i : Int) + 5).toNat = i + 5 := by omega
  have r1 := hr (i + 1)
  have r2 := hr (i + 2)
  have key : q_call 40 123 [.inr (.inr (.inl (some 32))), .inl (xs (i + 1)), .inl (xs (i + 2))] v G (fun r v' G' => q_wp 40 225 381 [.inr (.inr (.inl (some 0))), .inr (.inr (.inl (some 32))), .inr (.inr (.inl (some 137))), .inl i] (q_push r []) v' G' Q) := by
    refine q_call_mono (twin_mid hk (op_take (d := 32) hI (hr _) (hr _))) (fun r v1 G1 hh => ?_)
    obtain ⟨l1, z, hz, z1, z2, h⟩ := hh
    subst hz
    have g0 : G1.2.1 0 = (20, L) := by rw [(l1 0 (by decide)).2, h0]
    have x0 : ∀ k, v1 0 k = xs k := fun k => by rw [(l1 0 (by decide)).1, hx]
    have key2 : q_call 40 164 [.inr (.inr (.inl (some 137))), .inl (xs (i + 1)), .inl (xs (i + 2))] v1 G1 (fun r v' G' => q_wp 40 225 395 [.inr (.inr (.inl (some 0))), .inr (.inr (.inl (some 32))), .inr (.inr (.inl (some 137))), .inl i] (q_push r [.inl z]) v' G' Q) := by
      refine q_call_mono h (fun r2 v2 G2 hh => ?_)
      obtain ⟨hz2, p1, p2, p3, p4⟩ := hh
      subst hz2
      have fin := nx v2 G2 p1 p2 p3 p4
      clear nx h hI hC
      simp only [e_225_395, q_push_I, q_push_L, q_push_P, q_push_U, if_true]
      repeat' first | (refine And.intro ?_ ?_) | exact True.intro | omega | assumption | rfl
    clear nx h hI hC
    simp only [e_225_381, e_225_382, e_225_383, e_225_384, e_225_385, e_225_386, e_225_387, e_225_388, e_225_389, e_225_390, e_225_391, e_225_392, q_push_I, q_push_L, q_push_P, q_push_U, g0, x0, t1, t2, t3, t4, t5]
    repeat' first | exact key2 | (refine And.intro ?_ ?_) | exact True.intro | omega | rfl
  clear nx hI hC
  simp only [e_225_367, e_225_368, e_225_369, e_225_370, e_225_371, e_225_372, e_225_373, e_225_374, e_225_375, e_225_376, e_225_377, e_225_378, h0, hx, t1, t2, t3, t4, t5]
  repeat' first | exact key | (refine And.intro ?_ ?_) | exact True.intro | omega | rfl
theorem law_told (hI : Inv v G) (hC : csI v) (hk : q_lk G) (h0 : G.2.1 0 = (20, L)) (hx : ∀ k, v 0 k = xs k) (hr : ∀ k, -2147483648 ≤ xs k ∧ xs k ≤ 2147483647) (hi : i + 6 ≤ L) (hL : L ≤ 3072) (hm : G.2.2.1 + 12 ≤ 600000 ∧ G.2.2.2 + 72 ≤ 7302250) (nx : ∀ v2 G2, Inv v2 G2 → G2.2.2.1 ≤ G.2.2.1 + 12 → G2.2.2.2 ≤ G.2.2.2 + 72 → q_lw v G v2 G2 → q_wp 40 225 1010 [.inr (.inr (.inl (some 0))), .inr (.inr (.inl (some 32))), .inr (.inr (.inl (some 137))), .inl i] [] v2 G2 Q) : q_wp 40 225 400 [.inr (.inr (.inl (some 0))), .inr (.inr (.inl (some 32))), .inr (.inr (.inl (some 137))), .inl i] [] v G Q := by
  have t1 : ((i : Int) + 1).toNat = i + 1 := by omega
  have t2 : ((i : Int) + 2).toNat = i + 2 := by omega
  have t3 : ((i : Int) + 3).toNat = i + 3 := by omega
  have t4 : ((i : Int) + 4).toNat = i + 4 := by omega
  have t5 : ((i : Int) + 5).toNat = i + 5 := by omega
  have r1 := hr (i + 1)
  have r2 := hr (i + 2)
  have key : q_call 40 124 [.inr (.inr (.inl (some 32))), .inl (xs (i + 1)), .inl (xs (i + 2))] v G (fun r v' G' => q_wp 40 225 414 [.inr (.inr (.inl (some 0))), .inr (.inr (.inl (some 32))), .inr (.inr (.inl (some 137))), .inl i] (q_push r []) v' G' Q) := by
    refine q_call_mono (twin_mid hk (op_told (d := 32) hI (hr _) (hr _))) (fun r v1 G1 hh => ?_)
    obtain ⟨l1, z, hz, z1, z2, h⟩ := hh
    subst hz
    have g0 : G1.2.1 0 = (20, L) := by rw [(l1 0 (by decide)).2, h0]
    have x0 : ∀ k, v1 0 k = xs k := fun k => by rw [(l1 0 (by decide)).1, hx]
    have key2 : q_call 40 169 [.inr (.inr (.inl (some 137))), .inl (xs (i + 1)), .inl (xs (i + 2))] v1 G1 (fun r v' G' => q_wp 40 225 428 [.inr (.inr (.inl (some 0))), .inr (.inr (.inl (some 32))), .inr (.inr (.inl (some 137))), .inl i] (q_push r [.inl z]) v' G' Q) := by
      refine q_call_mono h (fun r2 v2 G2 hh => ?_)
      obtain ⟨hz2, p1, p2, p3, p4⟩ := hh
      subst hz2
      have fin := nx v2 G2 p1 p2 p3 p4
      clear nx h hI hC
      simp only [e_225_428, q_push_I, q_push_L, q_push_P, q_push_U, if_true]
      repeat' first | (refine And.intro ?_ ?_) | exact True.intro | omega | assumption | rfl
    clear nx h hI hC
    simp only [e_225_414, e_225_415, e_225_416, e_225_417, e_225_418, e_225_419, e_225_420, e_225_421, e_225_422, e_225_423, e_225_424, e_225_425, q_push_I, q_push_L, q_push_P, q_push_U, g0, x0, t1, t2, t3, t4, t5]
    repeat' first | exact key2 | (refine And.intro ?_ ?_) | exact True.intro | omega | rfl
  clear nx hI hC
  simp only [e_225_400, e_225_401, e_225_402, e_225_403, e_225_404, e_225_405, e_225_406, e_225_407, e_225_408, e_225_409, e_225_410, e_225_411, h0, hx, t1, t2, t3, t4, t5]
  repeat' first | exact key | (refine And.intro ?_ ?_) | exact True.intro | omega | rfl
theorem law_round (hI : Inv v G) (hC : csI v) (hk : q_lk G) (h0 : G.2.1 0 = (20, L)) (hx : ∀ k, v 0 k = xs k) (hr : ∀ k, -2147483648 ≤ xs k ∧ xs k ≤ 2147483647) (hi : i + 6 ≤ L) (hL : L ≤ 3072) (hm : G.2.2.1 + 12 ≤ 600000 ∧ G.2.2.2 + 72 ≤ 7302250) (nx : ∀ v2 G2, Inv v2 G2 → G2.2.2.1 ≤ G.2.2.1 + 12 → G2.2.2.2 ≤ G.2.2.2 + 72 → q_lw v G v2 G2 → q_wp 40 225 1010 [.inr (.inr (.inl (some 0))), .inr (.inr (.inl (some 32))), .inr (.inr (.inl (some 137))), .inl i] [] v2 G2 Q) : q_wp 40 225 433 [.inr (.inr (.inl (some 0))), .inr (.inr (.inl (some 32))), .inr (.inr (.inl (some 137))), .inl i] [] v G Q := by
  have t1 : ((i : Int) + 1).toNat = i + 1 := by omega
  have t2 : ((i : Int) + 2).toNat = i + 2 := by omega
  have t3 : ((i : Int) + 3).toNat = i + 3 := by omega
  have t4 : ((i : Int) + 4).toNat = i + 4 := by omega
  have t5 : ((i : Int) + 5).toNat = i + 5 := by omega
  have r1 := hr (i + 1)
  have r2 := hr (i + 2)
  have key : q_call 40 125 [.inr (.inr (.inl (some 32)))] v G (fun r v' G' => q_wp 40 225 437 [.inr (.inr (.inl (some 0))), .inr (.inr (.inl (some 32))), .inr (.inr (.inl (some 137))), .inl i] (q_push r []) v' G' Q) := by
    refine q_call_mono (twin_mid hk (op_round (d := 32) hI)) (fun r v1 G1 hh => ?_)
    obtain ⟨l1, z, hz, z1, z2, h⟩ := hh
    subst hz
    have g0 : G1.2.1 0 = (20, L) := by rw [(l1 0 (by decide)).2, h0]
    have x0 : ∀ k, v1 0 k = xs k := fun k => by rw [(l1 0 (by decide)).1, hx]
    have key2 : q_call 40 170 [.inr (.inr (.inl (some 137)))] v1 G1 (fun r v' G' => q_wp 40 225 441 [.inr (.inr (.inl (some 0))), .inr (.inr (.inl (some 32))), .inr (.inr (.inl (some 137))), .inl i] (q_push r [.inl z]) v' G' Q) := by
      refine q_call_mono h (fun r2 v2 G2 hh => ?_)
      obtain ⟨hz2, p1, p2, p3, p4⟩ := hh
      subst hz2
      have fin := nx v2 G2 p1 p2 p3 p4
      clear nx h hI hC
      simp only [e_225_441, q_push_I, q_push_L, q_push_P, q_push_U, if_true]
      repeat' first | (refine And.intro ?_ ?_) | exact True.intro | omega | assumption | rfl
    clear nx h hI hC
    simp only [e_225_437, e_225_438, q_push_I, q_push_L, q_push_P, q_push_U, g0, x0, t1, t2, t3, t4, t5]
    repeat' first | exact key2 | (refine And.intro ?_ ?_) | exact True.intro | omega | rfl
  clear nx hI hC
  simp only [e_225_433, e_225_434, h0, hx, t1, t2, t3, t4, t5]
  repeat' first | exact key | (refine And.intro ?_ ?_) | exact True.intro | omega | rfl
theorem law_seal (hI : Inv v G) (hC : csI v) (hk : q_lk G) (h0 : G.2.1 0 = (20, L)) (hx : ∀ k, v 0 k = xs k) (hr : ∀ k, -2147483648 ≤ xs k ∧ xs k ≤ 2147483647) (hi : i + 6 ≤ L) (hL : L ≤ 3072) (hm : G.2.2.1 + 12 ≤ 600000 ∧ G.2.2.2 + 72 ≤ 7302250) (nx : ∀ v2 G2, Inv v2 G2 → G2.2.2.1 ≤ G.2.2.1 + 12 → G2.2.2.2 ≤ G.2.2.2 + 72 → q_lw v G v2 G2 → q_wp 40 225 1010 [.inr (.inr (.inl (some 0))), .inr (.inr (.inl (some 32))), .inr (.inr (.inl (some 137))), .inl i] [] v2 G2 Q) : q_wp 40 225 446 [.inr (.inr (.inl (some 0))), .inr (.inr (.inl (some 32))), .inr (.inr (.inl (some 137))), .inl i] [] v G Q := by
  have t1 : ((i : Int) + 1).toNat = i + 1 := by omega
  have t2 : ((i : Int) + 2).toNat = i + 2 := by omega
  have t3 : ((i : Int) + 3).toNat = i + 3 := by omega
  have t4 : ((i : Int) + 4).toNat = i + 4 := by omega
  have t5 : ((i : Int) + 5).toNat = i + 5 := by omega
  have r1 := hr (i + 1)
  have r2 := hr (i + 2)
  have key : q_call 40 126 [.inr (.inr (.inl (some 32))), .inl (xs (i + 1)), .inl (xs (i + 2))] v G (fun r v' G' => q_wp 40 225 460 [.inr (.inr (.inl (some 0))), .inr (.inr (.inl (some 32))), .inr (.inr (.inl (some 137))), .inl i] (q_push r []) v' G' Q) := by
    refine q_call_mono (twin_mid hk (op_seal (d := 32) hI (hr _) (hr _))) (fun r v1 G1 hh => ?_)
    obtain ⟨l1, z, hz, z1, z2, h⟩ := hh
    subst hz
    have g0 : G1.2.1 0 = (20, L) := by rw [(l1 0 (by decide)).2, h0]
    have x0 : ∀ k, v1 0 k = xs k := fun k => by rw [(l1 0 (by decide)).1, hx]
    have key2 : q_call 40 171 [.inr (.inr (.inl (some 137))), .inl (xs (i + 1)), .inl (xs (i + 2))] v1 G1 (fun r v' G' => q_wp 40 225 474 [.inr (.inr (.inl (some 0))), .inr (.inr (.inl (some 32))), .inr (.inr (.inl (some 137))), .inl i] (q_push r [.inl z]) v' G' Q) := by
      refine q_call_mono h (fun r2 v2 G2 hh => ?_)
      obtain ⟨hz2, p1, p2, p3, p4⟩ := hh
      subst hz2
      have fin := nx v2 G2 p1 p2 p3 p4
      clear nx h hI hC
      simp only [e_225_474, q_push_I, q_push_L, q_push_P, q_push_U, if_true]
      repeat' first | (refine And.intro ?_ ?_) | exact True.intro | omega | assumption | rfl
    clear nx h hI hC
    simp only [e_225_460, e_225_461, e_225_462, e_225_463, e_225_464, e_225_465, e_225_466, e_225_467, e_225_468, e_225_469, e_225_470, e_225_471, q_push_I, q_push_L, q_push_P, q_push_U, g0, x0, t1, t2, t3, t4, t5]
    repeat' first | exact key2 | (refine And.intro ?_ ?_) | exact True.intro | omega | rfl
  clear nx hI hC
  simp only [e_225_446, e_225_447, e_225_448, e_225_449, e_225_450, e_225_451, e_225_452, e_225_453, e_225_454, e_225_455, e_225_456, e_225_457, h0, hx, t1, t2, t3, t4, t5]
  repeat' first | exact key | (refine And.intro ?_ ?_) | exact True.intro | omega | rfl
theorem law_feed (hI : Inv v G) (hC : csI v) (hk : q_lk G) (h0 : G.2.1 0 = (20, L)) (hx : ∀ k, v 0 k = xs k) (hr : ∀ k, -2147483648 ≤ xs k ∧ xs k ≤ 2147483647) (hi : i + 6 ≤ L) (hL : L ≤ 3072) (hm : G.2.2.1 + 12 ≤ 600000 ∧ G.2.2.2 + 72 ≤ 7302250) (nx : ∀ v2 G2, Inv v2 G2 → G2.2.2.1 ≤ G.2.2.1 + 12 → G2.2.2.2 ≤ G.2.2.2 + 72 → q_lw v G v2 G2 → q_wp 40 225 1010 [.inr (.inr (.inl (some 0))), .inr (.inr (.inl (some 32))), .inr (.inr (.inl (some 137))), .inl i] [] v2 G2 Q) : q_wp 40 225 479 [.inr (.inr (.inl (some 0))), .inr (.inr (.inl (some 32))), .inr (.inr (.inl (some 137))), .inl i] [] v G Q := by
  have t1 : ((i : Int) + 1).toNat = i + 1 := by omega
  have t2 : ((i : Int) + 2).toNat = i + 2 := by omega
  have t3 : ((i : Int) + 3).toNat = i + 3 := by omega
  have t4 : ((i : Int) + 4).toNat = i + 4 := by omega
  have t5 : ((i : Int) + 5).toNat = i + 5 := by omega
  have r1 := hr (i + 1)
  have r2 := hr (i + 2)
  have key : q_call 40 127 [.inr (.inr (.inl (some 32))), .inr (.inl ((Int64.ofInt (Int64.ofInt (xs (i + 1)) <<< ((Int32.ofInt 32).toInt64 &&& 63)).toInt ||| Int64.ofInt (Int64.ofInt (xs (i + 2)) &&& Int64.ofInt 4294967295).toInt).toInt)), .inl (xs (i + 3))] v G (fun r v' G' => q_wp 40 225 508 [.inr (.inr (.inl (some 0))), .inr (.inr (.inl (some 32))), .inr (.inr (.inl (some 137))), .inl i] (q_push r []) v' G' Q) := by
    refine q_call_mono (twin_mid hk (op_feed (d := 32) hI (hr _))) (fun r v1 G1 hh => ?_)
    obtain ⟨l1, z, hz, z1, z2, h⟩ := hh
    subst hz
    have g0 : G1.2.1 0 = (20, L) := by rw [(l1 0 (by decide)).2, h0]
    have x0 : ∀ k, v1 0 k = xs k := fun k => by rw [(l1 0 (by decide)).1, hx]
    have key2 : q_call 40 172 [.inr (.inr (.inl (some 137))), .inr (.inl ((Int64.ofInt (Int64.ofInt (xs (i + 1)) <<< ((Int32.ofInt 32).toInt64 &&& 63)).toInt ||| Int64.ofInt (Int64.ofInt (xs (i + 2)) &&& Int64.ofInt 4294967295).toInt).toInt)), .inl (xs (i + 3))] v1 G1 (fun r v' G' => q_wp 40 225 537 [.inr (.inr (.inl (some 0))), .inr (.inr (.inl (some 32))), .inr (.inr (.inl (some 137))), .inl i] (q_push r [.inl z]) v' G' Q) := by
      refine q_call_mono h (fun r2 v2 G2 hh => ?_)
      obtain ⟨hz2, p1, p2, p3, p4⟩ := hh
      subst hz2
      have fin := nx v2 G2 p1 p2 p3 p4
      clear nx h hI hC
      simp only [e_225_537, q_push_I, q_push_L, q_push_P, q_push_U, if_true]
      repeat' first | (refine And.intro ?_ ?_) | exact True.intro | omega | assumption | rfl
    clear nx h hI hC
    simp only [e_225_508, e_225_509, e_225_510, e_225_511, e_225_512, e_225_513, e_225_514, e_225_515, e_225_517, e_225_518, e_225_519, e_225_520, e_225_521, e_225_522, e_225_523, e_225_524, e_225_527, e_225_528, e_225_529, e_225_530, e_225_531, e_225_532, e_225_533, e_225_534, q_push_I, q_push_L, q_push_P, q_push_U, g0, x0, t1, t2, t3, t4, t5]
    repeat' first | exact key2 | (refine And.intro ?_ ?_) | exact True.intro | omega | rfl
  clear nx hI hC
  simp only [e_225_479, e_225_480, e_225_481, e_225_482, e_225_483, e_225_484, e_225_485, e_225_486, e_225_488, e_225_489, e_225_490, e_225_491, e_225_492, e_225_493, e_225_494, e_225_495, e_225_498, e_225_499, e_225_500, e_225_501, e_225_502, e_225_503, e_225_504, e_225_505, h0, hx, t1, t2, t3, t4, t5]
  repeat' first | exact key | (refine And.intro ?_ ?_) | exact True.intro | omega | rfl
theorem law_plan (hI : Inv v G) (hC : csI v) (hk : q_lk G) (h0 : G.2.1 0 = (20, L)) (hx : ∀ k, v 0 k = xs k) (hr : ∀ k, -2147483648 ≤ xs k ∧ xs k ≤ 2147483647) (hi : i + 6 ≤ L) (hL : L ≤ 3072) (hm : G.2.2.1 + 12 ≤ 600000 ∧ G.2.2.2 + 72 ≤ 7302250) (nx : ∀ v2 G2, Inv v2 G2 → G2.2.2.1 ≤ G.2.2.1 + 12 → G2.2.2.2 ≤ G.2.2.2 + 72 → q_lw v G v2 G2 → q_wp 40 225 1010 [.inr (.inr (.inl (some 0))), .inr (.inr (.inl (some 32))), .inr (.inr (.inl (some 137))), .inl i] [] v2 G2 Q) : q_wp 40 225 542 [.inr (.inr (.inl (some 0))), .inr (.inr (.inl (some 32))), .inr (.inr (.inl (some 137))), .inl i] [] v G Q := by
  have t1 : ((i : Int) + 1).toNat = i + 1 := by omega
  have t2 : ((i : Int) + 2).toNat = i + 2 := by omega
  have t3 : ((i : Int) + 3).toNat = i + 3 := by omega
  have t4 : ((i : Int) + 4).toNat = i + 4 := by omega
  have t5 : ((i : Int) + 5).toNat = i + 5 := by omega
  have r1 := hr (i + 1)
  have r2 := hr (i + 2)
  have key : q_call 40 128 [.inr (.inr (.inl (some 32)))] v G (fun r v' G' => q_wp 40 225 546 [.inr (.inr (.inl (some 0))), .inr (.inr (.inl (some 32))), .inr (.inr (.inl (some 137))), .inl i] (q_push r []) v' G' Q) := by
    refine q_call_mono (twin_mid hk (op_plan (d := 30) hI hC hm)) (fun r v1 G1 hh => ?_)
    obtain ⟨l1, z, hz, z1, z2, h⟩ := hh
    subst hz
    have g0 : G1.2.1 0 = (20, L) := by rw [(l1 0 (by decide)).2, h0]
    have x0 : ∀ k, v1 0 k = xs k := fun k => by rw [(l1 0 (by decide)).1, hx]
    have key2 : q_call 40 183 [.inr (.inr (.inl (some 137)))] v1 G1 (fun r v' G' => q_wp 40 225 550 [.inr (.inr (.inl (some 0))), .inr (.inr (.inl (some 32))), .inr (.inr (.inl (some 137))), .inl i] (q_push r [.inl z]) v' G' Q) := by
      refine q_call_mono h (fun r2 v2 G2 hh => ?_)
      obtain ⟨hz2, p1, p2, p3, p4⟩ := hh
      subst hz2
      have fin := nx v2 G2 p1 p2 p3 p4
      clear nx h hI hC
      simp only [e_225_550, q_push_I, q_push_L, q_push_P, q_push_U, if_true]
      repeat' first | (refine And.intro ?_ ?_) | exact True.intro | omega | assumption | rfl
    clear nx h hI hC
    simp only [e_225_546, e_225_547, q_push_I, q_push_L, q_push_P, q_push_U, g0, x0, t1, t2, t3, t4, t5]
    repeat' first | exact key2 | (refine And.intro ?_ ?_) | exact True.intro | omega | rfl
  clear nx hI hC
  simp only [e_225_542, e_225_543, h0, hx, t1, t2, t3, t4, t5]
  repeat' first | exact key | (refine And.intro ?_ ?_) | exact True.intro | omega | rfl
theorem law_fault (hI : Inv v G) (hC : csI v) (hk : q_lk G) (h0 : G.2.1 0 = (20, L)) (hx : ∀ k, v 0 k = xs k) (hr : ∀ k, -2147483648 ≤ xs k ∧ xs k ≤ 2147483647) (hi : i + 6 ≤ L) (hL : L ≤ 3072) (hm : G.2.2.1 + 12 ≤ 600000 ∧ G.2.2.2 + 72 ≤ 7302250) (nx : ∀ v2 G2, Inv v2 G2 → G2.2.2.1 ≤ G.2.2.1 + 12 → G2.2.2.2 ≤ G.2.2.2 + 72 → q_lw v G v2 G2 → q_wp 40 225 1010 [.inr (.inr (.inl (some 0))), .inr (.inr (.inl (some 32))), .inr (.inr (.inl (some 137))), .inl i] [] v2 G2 Q) : q_wp 40 225 555 [.inr (.inr (.inl (some 0))), .inr (.inr (.inl (some 32))), .inr (.inr (.inl (some 137))), .inl i] [] v G Q := by
  have t1 : ((i : Int) + 1).toNat = i + 1 := by omega
  have t2 : ((i : Int) + 2).toNat = i + 2 := by omega
  have t3 : ((i : Int) + 3).toNat = i + 3 := by omega
  have t4 : ((i : Int) + 4).toNat = i + 4 := by omega
  have t5 : ((i : Int) + 5).toNat = i + 5 := by omega
  have r1 := hr (i + 1)
  have r2 := hr (i + 2)
  have key : q_call 40 129 [.inr (.inr (.inl (some 32)))] v G (fun r v' G' => q_wp 40 225 559 [.inr (.inr (.inl (some 0))), .inr (.inr (.inl (some 32))), .inr (.inr (.inl (some 137))), .inl i] (q_push r []) v' G' Q) := by
    refine q_call_mono (twin_mid hk (op_fault (d := 32) hI)) (fun r v1 G1 hh => ?_)
    obtain ⟨l1, z, hz, z1, z2, h⟩ := hh
    subst hz
    have g0 : G1.2.1 0 = (20, L) := by rw [(l1 0 (by decide)).2, h0]
    have x0 : ∀ k, v1 0 k = xs k := fun k => by rw [(l1 0 (by decide)).1, hx]
    have key2 : q_call 40 184 [.inr (.inr (.inl (some 137)))] v1 G1 (fun r v' G' => q_wp 40 225 563 [.inr (.inr (.inl (some 0))), .inr (.inr (.inl (some 32))), .inr (.inr (.inl (some 137))), .inl i] (q_push r [.inl z]) v' G' Q) := by
      refine q_call_mono h (fun r2 v2 G2 hh => ?_)
      obtain ⟨hz2, p1, p2, p3, p4⟩ := hh
      subst hz2
      have fin := nx v2 G2 p1 p2 p3 p4
      clear nx h hI hC
      simp only [e_225_563, q_push_I, q_push_L, q_push_P, q_push_U, if_true]
      repeat' first | (refine And.intro ?_ ?_) | exact True.intro | omega | assumption | rfl
    clear nx h hI hC
    simp only [e_225_559, e_225_560, q_push_I, q_push_L, q_push_P, q_push_U, g0, x0, t1, t2, t3, t4, t5]
    repeat' first | exact key2 | (refine And.intro ?_ ?_) | exact True.intro | omega | rfl
  clear nx hI hC
  simp only [e_225_555, e_225_556, h0, hx, t1, t2, t3, t4, t5]
  repeat' first | exact key | (refine And.intro ?_ ?_) | exact True.intro | omega | rfl
theorem law_proof (hI : Inv v G) (hC : csI v) (hk : q_lk G) (h0 : G.2.1 0 = (20, L)) (hx : ∀ k, v 0 k = xs k) (hr : ∀ k, -2147483648 ≤ xs k ∧ xs k ≤ 2147483647) (hi : i + 6 ≤ L) (hL : L ≤ 3072) (hm : G.2.2.1 + 12 ≤ 600000 ∧ G.2.2.2 + 72 ≤ 7302250) (nx : ∀ v2 G2, Inv v2 G2 → G2.2.2.1 ≤ G.2.2.1 + 12 → G2.2.2.2 ≤ G.2.2.2 + 72 → q_lw v G v2 G2 → q_wp 40 225 1010 [.inr (.inr (.inl (some 0))), .inr (.inr (.inl (some 32))), .inr (.inr (.inl (some 137))), .inl i] [] v2 G2 Q) : q_wp 40 225 568 [.inr (.inr (.inl (some 0))), .inr (.inr (.inl (some 32))), .inr (.inr (.inl (some 137))), .inl i] [] v G Q := by
  have t1 : ((i : Int) + 1).toNat = i + 1 := by omega
  have t2 : ((i : Int) + 2).toNat = i + 2 := by omega
  have t3 : ((i : Int) + 3).toNat = i + 3 := by omega
  have t4 : ((i : Int) + 4).toNat = i + 4 := by omega
  have t5 : ((i : Int) + 5).toNat = i + 5 := by omega
  have r1 := hr (i + 1)
  have r2 := hr (i + 2)
  have key : q_call 40 130 [.inr (.inr (.inl (some 32))), .inl (xs (i + 1)), .inl (xs (i + 2))] v G (fun r v' G' => q_wp 40 225 582 [.inr (.inr (.inl (some 0))), .inr (.inr (.inl (some 32))), .inr (.inr (.inl (some 137))), .inl i] (q_push r []) v' G' Q) := by
    refine q_call_mono (twin_mid hk (op_proof (d := 32) hI (hr _) (hr _))) (fun r v1 G1 hh => ?_)
    obtain ⟨l1, z, hz, z1, z2, h⟩ := hh
    subst hz
    have g0 : G1.2.1 0 = (20, L) := by rw [(l1 0 (by decide)).2, h0]
    have x0 : ∀ k, v1 0 k = xs k := fun k => by rw [(l1 0 (by decide)).1, hx]
    have key2 : q_call 40 194 [.inr (.inr (.inl (some 137))), .inl (xs (i + 1)), .inl (xs (i + 2))] v1 G1 (fun r v' G' => q_wp 40 225 596 [.inr (.inr (.inl (some 0))), .inr (.inr (.inl (some 32))), .inr (.inr (.inl (some 137))), .inl i] (q_push r [.inl z]) v' G' Q) := by
      refine q_call_mono h (fun r2 v2 G2 hh => ?_)
      obtain ⟨hz2, p1, p2, p3, p4⟩ := hh
      subst hz2
      have fin := nx v2 G2 p1 p2 p3 p4
      clear nx h hI hC
      simp only [e_225_596, q_push_I, q_push_L, q_push_P, q_push_U, if_true]
      repeat' first | (refine And.intro ?_ ?_) | exact True.intro | omega | assumption | rfl
    clear nx h hI hC
    simp only [e_225_582, e_225_583, e_225_584, e_225_585, e_225_586, e_225_587, e_225_588, e_225_589, e_225_590, e_225_591, e_225_592, e_225_593, q_push_I, q_push_L, q_push_P, q_push_U, g0, x0, t1, t2, t3, t4, t5]
    repeat' first | exact key2 | (refine And.intro ?_ ?_) | exact True.intro | omega | rfl
  clear nx hI hC
  simp only [e_225_568, e_225_569, e_225_570, e_225_571, e_225_572, e_225_573, e_225_574, e_225_575, e_225_576, e_225_577, e_225_578, e_225_579, h0, hx, t1, t2, t3, t4, t5]
  repeat' first | exact key | (refine And.intro ?_ ?_) | exact True.intro | omega | rfl
theorem law_answer (hI : Inv v G) (hC : csI v) (hk : q_lk G) (h0 : G.2.1 0 = (20, L)) (hx : ∀ k, v 0 k = xs k) (hr : ∀ k, -2147483648 ≤ xs k ∧ xs k ≤ 2147483647) (hi : i + 6 ≤ L) (hL : L ≤ 3072) (hm : G.2.2.1 + 12 ≤ 600000 ∧ G.2.2.2 + 72 ≤ 7302250) (nx : ∀ v2 G2, Inv v2 G2 → G2.2.2.1 ≤ G.2.2.1 + 12 → G2.2.2.2 ≤ G.2.2.2 + 72 → q_lw v G v2 G2 → q_wp 40 225 1010 [.inr (.inr (.inl (some 0))), .inr (.inr (.inl (some 32))), .inr (.inr (.inl (some 137))), .inl i] [] v2 G2 Q) : q_wp 40 225 601 [.inr (.inr (.inl (some 0))), .inr (.inr (.inl (some 32))), .inr (.inr (.inl (some 137))), .inl i] [] v G Q := by
  have t1 : ((i : Int) + 1).toNat = i + 1 := by omega
  have t2 : ((i : Int) + 2).toNat = i + 2 := by omega
  have t3 : ((i : Int) + 3).toNat = i + 3 := by omega
  have t4 : ((i : Int) + 4).toNat = i + 4 := by omega
  have t5 : ((i : Int) + 5).toNat = i + 5 := by omega
  have r1 := hr (i + 1)
  have r2 := hr (i + 2)
  have key : q_call 40 131 [.inr (.inr (.inl (some 32))), .inl (xs (i + 1)), .inl (xs (i + 2))] v G (fun r v' G' => q_wp 40 225 615 [.inr (.inr (.inl (some 0))), .inr (.inr (.inl (some 32))), .inr (.inr (.inl (some 137))), .inl i] (q_push r []) v' G' Q) := by
    refine q_call_mono (twin_mid hk (op_answer (d := 32) hI hC (hr _) (hr _))) (fun r v1 G1 hh => ?_)
    obtain ⟨l1, z, hz, z1, z2, h⟩ := hh
    subst hz
    have g0 : G1.2.1 0 = (20, L) := by rw [(l1 0 (by decide)).2, h0]
    have x0 : ∀ k, v1 0 k = xs k := fun k => by rw [(l1 0 (by decide)).1, hx]
    have key2 : q_call 40 199 [.inr (.inr (.inl (some 137))), .inl (xs (i + 1)), .inl (xs (i + 2))] v1 G1 (fun r v' G' => q_wp 40 225 629 [.inr (.inr (.inl (some 0))), .inr (.inr (.inl (some 32))), .inr (.inr (.inl (some 137))), .inl i] (q_push r [.inl z]) v' G' Q) := by
      refine q_call_mono h (fun r2 v2 G2 hh => ?_)
      obtain ⟨hz2, p1, p2, p3, p4⟩ := hh
      subst hz2
      have fin := nx v2 G2 p1 p2 p3 p4
      clear nx h hI hC
      simp only [e_225_629, q_push_I, q_push_L, q_push_P, q_push_U, if_true]
      repeat' first | (refine And.intro ?_ ?_) | exact True.intro | omega | assumption | rfl
    clear nx h hI hC
    simp only [e_225_615, e_225_616, e_225_617, e_225_618, e_225_619, e_225_620, e_225_621, e_225_622, e_225_623, e_225_624, e_225_625, e_225_626, q_push_I, q_push_L, q_push_P, q_push_U, g0, x0, t1, t2, t3, t4, t5]
    repeat' first | exact key2 | (refine And.intro ?_ ?_) | exact True.intro | omega | rfl
  clear nx hI hC
  simp only [e_225_601, e_225_602, e_225_603, e_225_604, e_225_605, e_225_606, e_225_607, e_225_608, e_225_609, e_225_610, e_225_611, e_225_612, h0, hx, t1, t2, t3, t4, t5]
  repeat' first | exact key | (refine And.intro ?_ ?_) | exact True.intro | omega | rfl
theorem law_write (hI : Inv v G) (hC : csI v) (hk : q_lk G) (h0 : G.2.1 0 = (20, L)) (hx : ∀ k, v 0 k = xs k) (hr : ∀ k, -2147483648 ≤ xs k ∧ xs k ≤ 2147483647) (hi : i + 6 ≤ L) (hL : L ≤ 3072) (hm : G.2.2.1 + 12 ≤ 600000 ∧ G.2.2.2 + 72 ≤ 7302250) (nx : ∀ v2 G2, Inv v2 G2 → G2.2.2.1 ≤ G.2.2.1 + 12 → G2.2.2.2 ≤ G.2.2.2 + 72 → q_lw v G v2 G2 → q_wp 40 225 1010 [.inr (.inr (.inl (some 0))), .inr (.inr (.inl (some 32))), .inr (.inr (.inl (some 137))), .inl i] [] v2 G2 Q) : q_wp 40 225 634 [.inr (.inr (.inl (some 0))), .inr (.inr (.inl (some 32))), .inr (.inr (.inl (some 137))), .inl i] [] v G Q := by
  have t1 : ((i : Int) + 1).toNat = i + 1 := by omega
  have t2 : ((i : Int) + 2).toNat = i + 2 := by omega
  have t3 : ((i : Int) + 3).toNat = i + 3 := by omega
  have t4 : ((i : Int) + 4).toNat = i + 4 := by omega
  have t5 : ((i : Int) + 5).toNat = i + 5 := by omega
  have r1 := hr (i + 1)
  have r2 := hr (i + 2)
  have key : q_call 40 132 [.inr (.inr (.inl (some 32))), .inl (xs (i + 1)), .inl (xs (i + 2)), .inl (xs (i + 3))] v G (fun r v' G' => q_wp 40 225 653 [.inr (.inr (.inl (some 0))), .inr (.inr (.inl (some 32))), .inr (.inr (.inl (some 137))), .inl i] (q_push r []) v' G' Q) := by
    refine q_call_mono (twin_mid hk (op_write (d := 32) hI (hr _) (hr _) (hr _))) (fun r v1 G1 hh => ?_)
    obtain ⟨l1, z, hz, z1, z2, h⟩ := hh
    subst hz
    have g0 : G1.2.1 0 = (20, L) := by rw [(l1 0 (by decide)).2, h0]
    have x0 : ∀ k, v1 0 k = xs k := fun k => by rw [(l1 0 (by decide)).1, hx]
    have key2 : q_call 40 195 [.inr (.inr (.inl (some 137))), .inl (xs (i + 1)), .inl (xs (i + 2)), .inl (xs (i + 3))] v1 G1 (fun r v' G' => q_wp 40 225 672 [.inr (.inr (.inl (some 0))), .inr (.inr (.inl (some 32))), .inr (.inr (.inl (some 137))), .inl i] (q_push r [.inl z]) v' G' Q) := by
      refine q_call_mono h (fun r2 v2 G2 hh => ?_)
      obtain ⟨hz2, p1, p2, p3, p4⟩ := hh
      subst hz2
      have fin := nx v2 G2 p1 p2 p3 p4
      clear nx h hI hC
      simp only [e_225_672, q_push_I, q_push_L, q_push_P, q_push_U, if_true]
      repeat' first | (refine And.intro ?_ ?_) | exact True.intro | omega | assumption | rfl
    clear nx h hI hC
    simp only [e_225_653, e_225_654, e_225_655, e_225_656, e_225_657, e_225_658, e_225_659, e_225_660, e_225_661, e_225_662, e_225_663, e_225_664, e_225_665, e_225_666, e_225_667, e_225_668, e_225_669, q_push_I, q_push_L, q_push_P, q_push_U, g0, x0, t1, t2, t3, t4, t5]
    repeat' first | exact key2 | (refine And.intro ?_ ?_) | exact True.intro | omega | rfl
  clear nx hI hC
  simp only [e_225_634, e_225_635, e_225_636, e_225_637, e_225_638, e_225_639, e_225_640, e_225_641, e_225_642, e_225_643, e_225_644, e_225_645, e_225_646, e_225_647, e_225_648, e_225_649, e_225_650, h0, hx, t1, t2, t3, t4, t5]
  repeat' first | exact key | (refine And.intro ?_ ?_) | exact True.intro | omega | rfl
theorem law_check (hI : Inv v G) (hC : csI v) (hk : q_lk G) (h0 : G.2.1 0 = (20, L)) (hx : ∀ k, v 0 k = xs k) (hr : ∀ k, -2147483648 ≤ xs k ∧ xs k ≤ 2147483647) (hi : i + 6 ≤ L) (hL : L ≤ 3072) (hm : G.2.2.1 + 12 ≤ 600000 ∧ G.2.2.2 + 72 ≤ 7302250) (nx : ∀ v2 G2, Inv v2 G2 → G2.2.2.1 ≤ G.2.2.1 + 12 → G2.2.2.2 ≤ G.2.2.2 + 72 → q_lw v G v2 G2 → q_wp 40 225 1010 [.inr (.inr (.inl (some 0))), .inr (.inr (.inl (some 32))), .inr (.inr (.inl (some 137))), .inl i] [] v2 G2 Q) : q_wp 40 225 677 [.inr (.inr (.inl (some 0))), .inr (.inr (.inl (some 32))), .inr (.inr (.inl (some 137))), .inl i] [] v G Q := by
  have t1 : ((i : Int) + 1).toNat = i + 1 := by omega
  have t2 : ((i : Int) + 2).toNat = i + 2 := by omega
  have t3 : ((i : Int) + 3).toNat = i + 3 := by omega
  have t4 : ((i : Int) + 4).toNat = i + 4 := by omega
  have t5 : ((i : Int) + 5).toNat = i + 5 := by omega
  have r1 := hr (i + 1)
  have r2 := hr (i + 2)
  have key : q_call 40 133 [.inr (.inr (.inl (some 32))), .inl (xs (i + 1)), .inl (xs (i + 2)), .inl (xs (i + 3)), .inl (xs (i + 4)), .inl (xs (i + 5))] v G (fun r v' G' => q_wp 40 225 706 [.inr (.inr (.inl (some 0))), .inr (.inr (.inl (some 32))), .inr (.inr (.inl (some 137))), .inl i] (q_push r []) v' G' Q) := by
    refine q_call_mono (twin_mid hk (op_check (d := 24) hI (hr _) (hr _) (hr _) (hr _) (hr _))) (fun r v1 G1 hh => ?_)
    obtain ⟨l1, z, hz, z1, z2, h⟩ := hh
    subst hz
    have g0 : G1.2.1 0 = (20, L) := by rw [(l1 0 (by decide)).2, h0]
    have x0 : ∀ k, v1 0 k = xs k := fun k => by rw [(l1 0 (by decide)).1, hx]
    have key2 : q_call 40 210 [.inr (.inr (.inl (some 137))), .inl (xs (i + 1)), .inl (xs (i + 2)), .inl (xs (i + 3)), .inl (xs (i + 4)), .inl (xs (i + 5))] v1 G1 (fun r v' G' => q_wp 40 225 735 [.inr (.inr (.inl (some 0))), .inr (.inr (.inl (some 32))), .inr (.inr (.inl (some 137))), .inl i] (q_push r [.inl z]) v' G' Q) := by
      refine q_call_mono h (fun r2 v2 G2 hh => ?_)
      obtain ⟨hz2, p1, p2, p3, p4⟩ := hh
      subst hz2
      have fin := nx v2 G2 p1 p2 p3 p4
      clear nx h hI hC
      simp only [e_225_735, q_push_I, q_push_L, q_push_P, q_push_U, if_true]
      repeat' first | (refine And.intro ?_ ?_) | exact True.intro | omega | assumption | rfl
    clear nx h hI hC
    simp only [e_225_706, e_225_707, e_225_708, e_225_709, e_225_710, e_225_711, e_225_712, e_225_713, e_225_714, e_225_715, e_225_716, e_225_717, e_225_718, e_225_719, e_225_720, e_225_721, e_225_722, e_225_723, e_225_724, e_225_725, e_225_726, e_225_727, e_225_728, e_225_729, e_225_730, e_225_731, e_225_732, q_push_I, q_push_L, q_push_P, q_push_U, g0, x0, t1, t2, t3, t4, t5]
    repeat' first | exact key2 | (refine And.intro ?_ ?_) | exact True.intro | omega | rfl
  clear nx hI hC
  simp only [e_225_677, e_225_678, e_225_679, e_225_680, e_225_681, e_225_682, e_225_683, e_225_684, e_225_685, e_225_686, e_225_687, e_225_688, e_225_689, e_225_690, e_225_691, e_225_692, e_225_693, e_225_694, e_225_695, e_225_696, e_225_697, e_225_698, e_225_699, e_225_700, e_225_701, e_225_702, e_225_703, h0, hx, t1, t2, t3, t4, t5]
  repeat' first | exact key | (refine And.intro ?_ ?_) | exact True.intro | omega | rfl
theorem law_why (hI : Inv v G) (hC : csI v) (hk : q_lk G) (h0 : G.2.1 0 = (20, L)) (hx : ∀ k, v 0 k = xs k) (hr : ∀ k, -2147483648 ≤ xs k ∧ xs k ≤ 2147483647) (hi : i + 6 ≤ L) (hL : L ≤ 3072) (hm : G.2.2.1 + 12 ≤ 600000 ∧ G.2.2.2 + 72 ≤ 7302250) (nx : ∀ v2 G2, Inv v2 G2 → G2.2.2.1 ≤ G.2.2.1 + 12 → G2.2.2.2 ≤ G.2.2.2 + 72 → q_lw v G v2 G2 → q_wp 40 225 1010 [.inr (.inr (.inl (some 0))), .inr (.inr (.inl (some 32))), .inr (.inr (.inl (some 137))), .inl i] [] v2 G2 Q) : q_wp 40 225 740 [.inr (.inr (.inl (some 0))), .inr (.inr (.inl (some 32))), .inr (.inr (.inl (some 137))), .inl i] [] v G Q := by
  have t1 : ((i : Int) + 1).toNat = i + 1 := by omega
  have t2 : ((i : Int) + 2).toNat = i + 2 := by omega
  have t3 : ((i : Int) + 3).toNat = i + 3 := by omega
  have t4 : ((i : Int) + 4).toNat = i + 4 := by omega
  have t5 : ((i : Int) + 5).toNat = i + 5 := by omega
  have r1 := hr (i + 1)
  have r2 := hr (i + 2)
  have key : q_call 40 134 [.inr (.inr (.inl (some 32)))] v G (fun r v' G' => q_wp 40 225 744 [.inr (.inr (.inl (some 0))), .inr (.inr (.inl (some 32))), .inr (.inr (.inl (some 137))), .inl i] (q_push r []) v' G' Q) := by
    refine q_call_mono (twin_mid hk (op_why (d := 32) hI)) (fun r v1 G1 hh => ?_)
    obtain ⟨l1, z, hz, z1, z2, h⟩ := hh
    subst hz
    have g0 : G1.2.1 0 = (20, L) := by rw [(l1 0 (by decide)).2, h0]
    have x0 : ∀ k, v1 0 k = xs k := fun k => by rw [(l1 0 (by decide)).1, hx]
    have key2 : q_call 40 211 [.inr (.inr (.inl (some 137)))] v1 G1 (fun r v' G' => q_wp 40 225 748 [.inr (.inr (.inl (some 0))), .inr (.inr (.inl (some 32))), .inr (.inr (.inl (some 137))), .inl i] (q_push r [.inl z]) v' G' Q) := by
      refine q_call_mono h (fun r2 v2 G2 hh => ?_)
      obtain ⟨hz2, p1, p2, p3, p4⟩ := hh
      subst hz2
      have fin := nx v2 G2 p1 p2 p3 p4
      clear nx h hI hC
      simp only [e_225_748, q_push_I, q_push_L, q_push_P, q_push_U, if_true]
      repeat' first | (refine And.intro ?_ ?_) | exact True.intro | omega | assumption | rfl
    clear nx h hI hC
    simp only [e_225_744, e_225_745, q_push_I, q_push_L, q_push_P, q_push_U, g0, x0, t1, t2, t3, t4, t5]
    repeat' first | exact key2 | (refine And.intro ?_ ?_) | exact True.intro | omega | rfl
  clear nx hI hC
  simp only [e_225_740, e_225_741, h0, hx, t1, t2, t3, t4, t5]
  repeat' first | exact key | (refine And.intro ?_ ?_) | exact True.intro | omega | rfl
theorem law_read (hI : Inv v G) (hC : csI v) (hk : q_lk G) (h0 : G.2.1 0 = (20, L)) (hx : ∀ k, v 0 k = xs k) (hr : ∀ k, -2147483648 ≤ xs k ∧ xs k ≤ 2147483647) (hi : i + 6 ≤ L) (hL : L ≤ 3072) (hm : G.2.2.1 + 12 ≤ 600000 ∧ G.2.2.2 + 72 ≤ 7302250) (nx : ∀ v2 G2, Inv v2 G2 → G2.2.2.1 ≤ G.2.2.1 + 12 → G2.2.2.2 ≤ G.2.2.2 + 72 → q_lw v G v2 G2 → q_wp 40 225 1010 [.inr (.inr (.inl (some 0))), .inr (.inr (.inl (some 32))), .inr (.inr (.inl (some 137))), .inl i] [] v2 G2 Q) : q_wp 40 225 753 [.inr (.inr (.inl (some 0))), .inr (.inr (.inl (some 32))), .inr (.inr (.inl (some 137))), .inl i] [] v G Q := by
  have t1 : ((i : Int) + 1).toNat = i + 1 := by omega
  have t2 : ((i : Int) + 2).toNat = i + 2 := by omega
  have t3 : ((i : Int) + 3).toNat = i + 3 := by omega
  have t4 : ((i : Int) + 4).toNat = i + 4 := by omega
  have t5 : ((i : Int) + 5).toNat = i + 5 := by omega
  have r1 := hr (i + 1)
  have r2 := hr (i + 2)
  have key : q_call 40 135 [.inr (.inr (.inl (some 32))), .inl (xs (i + 1))] v G (fun r v' G' => q_wp 40 225 762 [.inr (.inr (.inl (some 0))), .inr (.inr (.inl (some 32))), .inr (.inr (.inl (some 137))), .inl i] (q_push r []) v' G' Q) := by
    refine q_call_mono (twin_mid hk (op_read (d := 32) hI (hr _))) (fun r v1 G1 hh => ?_)
    obtain ⟨l1, z, hz, z1, z2, h⟩ := hh
    subst hz
    have g0 : G1.2.1 0 = (20, L) := by rw [(l1 0 (by decide)).2, h0]
    have x0 : ∀ k, v1 0 k = xs k := fun k => by rw [(l1 0 (by decide)).1, hx]
    have key2 : q_call 40 212 [.inr (.inr (.inl (some 137))), .inl (xs (i + 1))] v1 G1 (fun r v' G' => q_wp 40 225 771 [.inr (.inr (.inl (some 0))), .inr (.inr (.inl (some 32))), .inr (.inr (.inl (some 137))), .inl i] (q_push r [.inl z]) v' G' Q) := by
      refine q_call_mono h (fun r2 v2 G2 hh => ?_)
      obtain ⟨hz2, p1, p2, p3, p4⟩ := hh
      subst hz2
      have fin := nx v2 G2 p1 p2 p3 p4
      clear nx h hI hC
      simp only [e_225_771, q_push_I, q_push_L, q_push_P, q_push_U, if_true]
      repeat' first | (refine And.intro ?_ ?_) | exact True.intro | omega | assumption | rfl
    clear nx h hI hC
    simp only [e_225_762, e_225_763, e_225_764, e_225_765, e_225_766, e_225_767, e_225_768, q_push_I, q_push_L, q_push_P, q_push_U, g0, x0, t1, t2, t3, t4, t5]
    repeat' first | exact key2 | (refine And.intro ?_ ?_) | exact True.intro | omega | rfl
  clear nx hI hC
  simp only [e_225_753, e_225_754, e_225_755, e_225_756, e_225_757, e_225_758, e_225_759, h0, hx, t1, t2, t3, t4, t5]
  repeat' first | exact key | (refine And.intro ?_ ?_) | exact True.intro | omega | rfl
theorem law_fewer (hI : Inv v G) (hC : csI v) (hk : q_lk G) (h0 : G.2.1 0 = (20, L)) (hx : ∀ k, v 0 k = xs k) (hr : ∀ k, -2147483648 ≤ xs k ∧ xs k ≤ 2147483647) (hi : i + 6 ≤ L) (hL : L ≤ 3072) (hm : G.2.2.1 + 12 ≤ 600000 ∧ G.2.2.2 + 72 ≤ 7302250) (nx : ∀ v2 G2, Inv v2 G2 → G2.2.2.1 ≤ G.2.2.1 + 12 → G2.2.2.2 ≤ G.2.2.2 + 72 → q_lw v G v2 G2 → q_wp 40 225 1010 [.inr (.inr (.inl (some 0))), .inr (.inr (.inl (some 32))), .inr (.inr (.inl (some 137))), .inl i] [] v2 G2 Q) : q_wp 40 225 776 [.inr (.inr (.inl (some 0))), .inr (.inr (.inl (some 32))), .inr (.inr (.inl (some 137))), .inl i] [] v G Q := by
  have t1 : ((i : Int) + 1).toNat = i + 1 := by omega
  have t2 : ((i : Int) + 2).toNat = i + 2 := by omega
  have t3 : ((i : Int) + 3).toNat = i + 3 := by omega
  have t4 : ((i : Int) + 4).toNat = i + 4 := by omega
  have t5 : ((i : Int) + 5).toNat = i + 5 := by omega
  have r1 := hr (i + 1)
  have r2 := hr (i + 2)
  have key : q_call 40 136 [.inr (.inr (.inl (some 32))), .inl (xs (i + 1)), .inl (xs (i + 2)), .inl (xs (i + 3)), .inl (xs (i + 4))] v G (fun r v' G' => q_wp 40 225 800 [.inr (.inr (.inl (some 0))), .inr (.inr (.inl (some 32))), .inr (.inr (.inl (some 137))), .inl i] (q_push r []) v' G' Q) := by
    refine q_call_mono (twin_mid hk (op_fewer (d := 32) hI hm (hr _) (hr _) (hr _) (hr _))) (fun r v1 G1 hh => ?_)
    obtain ⟨l1, z, hz, z1, z2, h⟩ := hh
    subst hz
    have g0 : G1.2.1 0 = (20, L) := by rw [(l1 0 (by decide)).2, h0]
    have x0 : ∀ k, v1 0 k = xs k := fun k => by rw [(l1 0 (by decide)).1, hx]
    have key2 : q_call 40 196 [.inr (.inr (.inl (some 137))), .inl (xs (i + 1)), .inl (xs (i + 2)), .inl (xs (i + 3)), .inl (xs (i + 4))] v1 G1 (fun r v' G' => q_wp 40 225 824 [.inr (.inr (.inl (some 0))), .inr (.inr (.inl (some 32))), .inr (.inr (.inl (some 137))), .inl i] (q_push r [.inl z]) v' G' Q) := by
      refine q_call_mono h (fun r2 v2 G2 hh => ?_)
      obtain ⟨hz2, p1, p2, p3, p4⟩ := hh
      subst hz2
      have fin := nx v2 G2 p1 p2 p3 p4
      clear nx h hI hC
      simp only [e_225_824, q_push_I, q_push_L, q_push_P, q_push_U, if_true]
      repeat' first | (refine And.intro ?_ ?_) | exact True.intro | omega | assumption | rfl
    clear nx h hI hC
    simp only [e_225_800, e_225_801, e_225_802, e_225_803, e_225_804, e_225_805, e_225_806, e_225_807, e_225_808, e_225_809, e_225_810, e_225_811, e_225_812, e_225_813, e_225_814, e_225_815, e_225_816, e_225_817, e_225_818, e_225_819, e_225_820, e_225_821, q_push_I, q_push_L, q_push_P, q_push_U, g0, x0, t1, t2, t3, t4, t5]
    repeat' first | exact key2 | (refine And.intro ?_ ?_) | exact True.intro | omega | rfl
  clear nx hI hC
  simp only [e_225_776, e_225_777, e_225_778, e_225_779, e_225_780, e_225_781, e_225_782, e_225_783, e_225_784, e_225_785, e_225_786, e_225_787, e_225_788, e_225_789, e_225_790, e_225_791, e_225_792, e_225_793, e_225_794, e_225_795, e_225_796, e_225_797, h0, hx, t1, t2, t3, t4, t5]
  repeat' first | exact key | (refine And.intro ?_ ?_) | exact True.intro | omega | rfl
theorem law_forged (hI : Inv v G) (hC : csI v) (hk : q_lk G) (h0 : G.2.1 0 = (20, L)) (hx : ∀ k, v 0 k = xs k) (hr : ∀ k, -2147483648 ≤ xs k ∧ xs k ≤ 2147483647) (hi : i + 6 ≤ L) (hL : L ≤ 3072) (hm : G.2.2.1 + 12 ≤ 600000 ∧ G.2.2.2 + 72 ≤ 7302250) (nx : ∀ v2 G2, Inv v2 G2 → G2.2.2.1 ≤ G.2.2.1 + 12 → G2.2.2.2 ≤ G.2.2.2 + 72 → q_lw v G v2 G2 → q_wp 40 225 1010 [.inr (.inr (.inl (some 0))), .inr (.inr (.inl (some 32))), .inr (.inr (.inl (some 137))), .inl i] [] v2 G2 Q) : q_wp 40 225 829 [.inr (.inr (.inl (some 0))), .inr (.inr (.inl (some 32))), .inr (.inr (.inl (some 137))), .inl i] [] v G Q := by
  have t1 : ((i : Int) + 1).toNat = i + 1 := by omega
  have t2 : ((i : Int) + 2).toNat = i + 2 := by omega
  have t3 : ((i : Int) + 3).toNat = i + 3 := by omega
  have t4 : ((i : Int) + 4).toNat = i + 4 := by omega
  have t5 : ((i : Int) + 5).toNat = i + 5 := by omega
  have r1 := hr (i + 1)
  have r2 := hr (i + 2)
  have key : q_call 40 137 [.inr (.inr (.inl (some 32))), .inl (xs (i + 1)), .inl (xs (i + 2))] v G (fun r v' G' => q_wp 40 225 843 [.inr (.inr (.inl (some 0))), .inr (.inr (.inl (some 32))), .inr (.inr (.inl (some 137))), .inl i] (q_push r []) v' G' Q) := by
    refine q_call_mono (twin_mid hk (op_forged (d := 24) hI (hr _) (hr _))) (fun r v1 G1 hh => ?_)
    obtain ⟨l1, z, hz, z1, z2, h⟩ := hh
    subst hz
    have g0 : G1.2.1 0 = (20, L) := by rw [(l1 0 (by decide)).2, h0]
    have x0 : ∀ k, v1 0 k = xs k := fun k => by rw [(l1 0 (by decide)).1, hx]
    have key2 : q_call 40 213 [.inr (.inr (.inl (some 137))), .inl (xs (i + 1)), .inl (xs (i + 2))] v1 G1 (fun r v' G' => q_wp 40 225 857 [.inr (.inr (.inl (some 0))), .inr (.inr (.inl (some 32))), .inr (.inr (.inl (some 137))), .inl i] (q_push r [.inl z]) v' G' Q) := by
      refine q_call_mono h (fun r2 v2 G2 hh => ?_)
      obtain ⟨hz2, p1, p2, p3, p4⟩ := hh
      subst hz2
      have fin := nx v2 G2 p1 p2 p3 p4
      clear nx h hI hC
      simp only [e_225_857, q_push_I, q_push_L, q_push_P, q_push_U, if_true]
      repeat' first | (refine And.intro ?_ ?_) | exact True.intro | omega | assumption | rfl
    clear nx h hI hC
    simp only [e_225_843, e_225_844, e_225_845, e_225_846, e_225_847, e_225_848, e_225_849, e_225_850, e_225_851, e_225_852, e_225_853, e_225_854, q_push_I, q_push_L, q_push_P, q_push_U, g0, x0, t1, t2, t3, t4, t5]
    repeat' first | exact key2 | (refine And.intro ?_ ?_) | exact True.intro | omega | rfl
  clear nx hI hC
  simp only [e_225_829, e_225_830, e_225_831, e_225_832, e_225_833, e_225_834, e_225_835, e_225_836, e_225_837, e_225_838, e_225_839, e_225_840, h0, hx, t1, t2, t3, t4, t5]
  repeat' first | exact key | (refine And.intro ?_ ?_) | exact True.intro | omega | rfl
theorem law_kind (hI : Inv v G) (hC : csI v) (hk : q_lk G) (h0 : G.2.1 0 = (20, L)) (hx : ∀ k, v 0 k = xs k) (hr : ∀ k, -2147483648 ≤ xs k ∧ xs k ≤ 2147483647) (hi : i + 6 ≤ L) (hL : L ≤ 3072) (hm : G.2.2.1 + 12 ≤ 600000 ∧ G.2.2.2 + 72 ≤ 7302250) (nx : ∀ v2 G2, Inv v2 G2 → G2.2.2.1 ≤ G.2.2.1 + 12 → G2.2.2.2 ≤ G.2.2.2 + 72 → q_lw v G v2 G2 → q_wp 40 225 1010 [.inr (.inr (.inl (some 0))), .inr (.inr (.inl (some 32))), .inr (.inr (.inl (some 137))), .inl i] [] v2 G2 Q) : q_wp 40 225 862 [.inr (.inr (.inl (some 0))), .inr (.inr (.inl (some 32))), .inr (.inr (.inl (some 137))), .inl i] [] v G Q := by
  have t1 : ((i : Int) + 1).toNat = i + 1 := by omega
  have t2 : ((i : Int) + 2).toNat = i + 2 := by omega
  have t3 : ((i : Int) + 3).toNat = i + 3 := by omega
  have t4 : ((i : Int) + 4).toNat = i + 4 := by omega
  have t5 : ((i : Int) + 5).toNat = i + 5 := by omega
  have r1 := hr (i + 1)
  have r2 := hr (i + 2)
  have key : q_call 40 138 [.inr (.inr (.inl (some 32))), .inl (xs (i + 1))] v G (fun r v' G' => q_wp 40 225 871 [.inr (.inr (.inl (some 0))), .inr (.inr (.inl (some 32))), .inr (.inr (.inl (some 137))), .inl i] (q_push r []) v' G' Q) := by
    refine q_call_mono (twin_mid hk (op_kind (d := 32) hI hC (hr _))) (fun r v1 G1 hh => ?_)
    obtain ⟨l1, z, hz, z1, z2, h⟩ := hh
    subst hz
    have g0 : G1.2.1 0 = (20, L) := by rw [(l1 0 (by decide)).2, h0]
    have x0 : ∀ k, v1 0 k = xs k := fun k => by rw [(l1 0 (by decide)).1, hx]
    have key2 : q_call 40 216 [.inr (.inr (.inl (some 137))), .inl (xs (i + 1))] v1 G1 (fun r v' G' => q_wp 40 225 880 [.inr (.inr (.inl (some 0))), .inr (.inr (.inl (some 32))), .inr (.inr (.inl (some 137))), .inl i] (q_push r [.inl z]) v' G' Q) := by
      refine q_call_mono h (fun r2 v2 G2 hh => ?_)
      obtain ⟨hz2, p1, p2, p3, p4⟩ := hh
      subst hz2
      have fin := nx v2 G2 p1 p2 p3 p4
      clear nx h hI hC
      simp only [e_225_880, q_push_I, q_push_L, q_push_P, q_push_U, if_true]
      repeat' first | (refine And.intro ?_ ?_) | exact True.intro | omega | assumption | rfl
    clear nx h hI hC
    simp only [e_225_871, e_225_872, e_225_873, e_225_874, e_225_875, e_225_876, e_225_877, q_push_I, q_push_L, q_push_P, q_push_U, g0, x0, t1, t2, t3, t4, t5]
    repeat' first | exact key2 | (refine And.intro ?_ ?_) | exact True.intro | omega | rfl
  clear nx hI hC
  simp only [e_225_862, e_225_863, e_225_864, e_225_865, e_225_866, e_225_867, e_225_868, h0, hx, t1, t2, t3, t4, t5]
  repeat' first | exact key | (refine And.intro ?_ ?_) | exact True.intro | omega | rfl
theorem law_as (hI : Inv v G) (hC : csI v) (hk : q_lk G) (h0 : G.2.1 0 = (20, L)) (hx : ∀ k, v 0 k = xs k) (hr : ∀ k, -2147483648 ≤ xs k ∧ xs k ≤ 2147483647) (hi : i + 6 ≤ L) (hL : L ≤ 3072) (hm : G.2.2.1 + 12 ≤ 600000 ∧ G.2.2.2 + 72 ≤ 7302250) (nx : ∀ v2 G2, Inv v2 G2 → G2.2.2.1 ≤ G.2.2.1 + 12 → G2.2.2.2 ≤ G.2.2.2 + 72 → q_lw v G v2 G2 → q_wp 40 225 1010 [.inr (.inr (.inl (some 0))), .inr (.inr (.inl (some 32))), .inr (.inr (.inl (some 137))), .inl i] [] v2 G2 Q) : q_wp 40 225 885 [.inr (.inr (.inl (some 0))), .inr (.inr (.inl (some 32))), .inr (.inr (.inl (some 137))), .inl i] [] v G Q := by
  have t1 : ((i : Int) + 1).toNat = i + 1 := by omega
  have t2 : ((i : Int) + 2).toNat = i + 2 := by omega
  have t3 : ((i : Int) + 3).toNat = i + 3 := by omega
  have t4 : ((i : Int) + 4).toNat = i + 4 := by omega
  have t5 : ((i : Int) + 5).toNat = i + 5 := by omega
  have r1 := hr (i + 1)
  have r2 := hr (i + 2)
  have key : q_call 40 139 [.inr (.inr (.inl (some 32))), .inl (xs (i + 1)), .inl (xs (i + 2))] v G (fun r v' G' => q_wp 40 225 899 [.inr (.inr (.inl (some 0))), .inr (.inr (.inl (some 32))), .inr (.inr (.inl (some 137))), .inl i] (q_push r []) v' G' Q) := by
    refine q_call_mono (twin_mid hk (op_as (d := 32) hI hC (hr _) (hr _))) (fun r v1 G1 hh => ?_)
    obtain ⟨l1, z, hz, z1, z2, h⟩ := hh
    subst hz
    have g0 : G1.2.1 0 = (20, L) := by rw [(l1 0 (by decide)).2, h0]
    have x0 : ∀ k, v1 0 k = xs k := fun k => by rw [(l1 0 (by decide)).1, hx]
    have key2 : q_call 40 217 [.inr (.inr (.inl (some 137))), .inl (xs (i + 1)), .inl (xs (i + 2))] v1 G1 (fun r v' G' => q_wp 40 225 913 [.inr (.inr (.inl (some 0))), .inr (.inr (.inl (some 32))), .inr (.inr (.inl (some 137))), .inl i] (q_push r [.inl z]) v' G' Q) := by
      refine q_call_mono h (fun r2 v2 G2 hh => ?_)
      obtain ⟨hz2, p1, p2, p3, p4⟩ := hh
      subst hz2
      have fin := nx v2 G2 p1 p2 p3 p4
      clear nx h hI hC
      simp only [e_225_913, q_push_I, q_push_L, q_push_P, q_push_U, if_true]
      repeat' first | (refine And.intro ?_ ?_) | exact True.intro | omega | assumption | rfl
    clear nx h hI hC
    simp only [e_225_899, e_225_900, e_225_901, e_225_902, e_225_903, e_225_904, e_225_905, e_225_906, e_225_907, e_225_908, e_225_909, e_225_910, q_push_I, q_push_L, q_push_P, q_push_U, g0, x0, t1, t2, t3, t4, t5]
    repeat' first | exact key2 | (refine And.intro ?_ ?_) | exact True.intro | omega | rfl
  clear nx hI hC
  simp only [e_225_885, e_225_886, e_225_887, e_225_888, e_225_889, e_225_890, e_225_891, e_225_892, e_225_893, e_225_894, e_225_895, e_225_896, h0, hx, t1, t2, t3, t4, t5]
  repeat' first | exact key | (refine And.intro ?_ ?_) | exact True.intro | omega | rfl
theorem law_ask (hI : Inv v G) (hC : csI v) (hk : q_lk G) (h0 : G.2.1 0 = (20, L)) (hx : ∀ k, v 0 k = xs k) (hr : ∀ k, -2147483648 ≤ xs k ∧ xs k ≤ 2147483647) (hi : i + 6 ≤ L) (hL : L ≤ 3072) (hm : G.2.2.1 + 12 ≤ 600000 ∧ G.2.2.2 + 72 ≤ 7302250) (nx : ∀ v2 G2, Inv v2 G2 → G2.2.2.1 ≤ G.2.2.1 + 12 → G2.2.2.2 ≤ G.2.2.2 + 72 → q_lw v G v2 G2 → q_wp 40 225 1010 [.inr (.inr (.inl (some 0))), .inr (.inr (.inl (some 32))), .inr (.inr (.inl (some 137))), .inl i] [] v2 G2 Q) : q_wp 40 225 918 [.inr (.inr (.inl (some 0))), .inr (.inr (.inl (some 32))), .inr (.inr (.inl (some 137))), .inl i] [] v G Q := by
  have t1 : ((i : Int) + 1).toNat = i + 1 := by omega
  have t2 : ((i : Int) + 2).toNat = i + 2 := by omega
  have t3 : ((i : Int) + 3).toNat = i + 3 := by omega
  have t4 : ((i : Int) + 4).toNat = i + 4 := by omega
  have t5 : ((i : Int) + 5).toNat = i + 5 := by omega
  have r1 := hr (i + 1)
  have r2 := hr (i + 2)
  have key : q_call 40 140 [.inr (.inr (.inl (some 32))), .inl (xs (i + 1)), .inl (xs (i + 2))] v G (fun r v' G' => q_wp 40 225 932 [.inr (.inr (.inl (some 0))), .inr (.inr (.inl (some 32))), .inr (.inr (.inl (some 137))), .inl i] (q_push r []) v' G' Q) := by
    refine q_call_mono (twin_mid hk (op_ask (d := 32) hI hC (hr _) (hr _))) (fun r v1 G1 hh => ?_)
    obtain ⟨l1, z, hz, z1, z2, h⟩ := hh
    subst hz
    have g0 : G1.2.1 0 = (20, L) := by rw [(l1 0 (by decide)).2, h0]
    have x0 : ∀ k, v1 0 k = xs k := fun k => by rw [(l1 0 (by decide)).1, hx]
    have key2 : q_call 40 221 [.inr (.inr (.inl (some 137))), .inl (xs (i + 1)), .inl (xs (i + 2))] v1 G1 (fun r v' G' => q_wp 40 225 946 [.inr (.inr (.inl (some 0))), .inr (.inr (.inl (some 32))), .inr (.inr (.inl (some 137))), .inl i] (q_push r [.inl z]) v' G' Q) := by
      refine q_call_mono h (fun r2 v2 G2 hh => ?_)
      obtain ⟨hz2, p1, p2, p3, p4⟩ := hh
      subst hz2
      have fin := nx v2 G2 p1 p2 p3 p4
      clear nx h hI hC
      simp only [e_225_946, q_push_I, q_push_L, q_push_P, q_push_U, if_true]
      repeat' first | (refine And.intro ?_ ?_) | exact True.intro | omega | assumption | rfl
    clear nx h hI hC
    simp only [e_225_932, e_225_933, e_225_934, e_225_935, e_225_936, e_225_937, e_225_938, e_225_939, e_225_940, e_225_941, e_225_942, e_225_943, q_push_I, q_push_L, q_push_P, q_push_U, g0, x0, t1, t2, t3, t4, t5]
    repeat' first | exact key2 | (refine And.intro ?_ ?_) | exact True.intro | omega | rfl
  clear nx hI hC
  simp only [e_225_918, e_225_919, e_225_920, e_225_921, e_225_922, e_225_923, e_225_924, e_225_925, e_225_926, e_225_927, e_225_928, e_225_929, h0, hx, t1, t2, t3, t4, t5]
  repeat' first | exact key | (refine And.intro ?_ ?_) | exact True.intro | omega | rfl
theorem law_trace (hI : Inv v G) (hC : csI v) (hk : q_lk G) (h0 : G.2.1 0 = (20, L)) (hx : ∀ k, v 0 k = xs k) (hr : ∀ k, -2147483648 ≤ xs k ∧ xs k ≤ 2147483647) (hi : i + 6 ≤ L) (hL : L ≤ 3072) (hm : G.2.2.1 + 12 ≤ 600000 ∧ G.2.2.2 + 72 ≤ 7302250) (nx : ∀ v2 G2, Inv v2 G2 → G2.2.2.1 ≤ G.2.2.1 + 12 → G2.2.2.2 ≤ G.2.2.2 + 72 → q_lw v G v2 G2 → q_wp 40 225 1010 [.inr (.inr (.inl (some 0))), .inr (.inr (.inl (some 32))), .inr (.inr (.inl (some 137))), .inl i] [] v2 G2 Q) : q_wp 40 225 951 [.inr (.inr (.inl (some 0))), .inr (.inr (.inl (some 32))), .inr (.inr (.inl (some 137))), .inl i] [] v G Q := by
  have t1 : ((i : Int) + 1).toNat = i + 1 := by omega
  have t2 : ((i : Int) + 2).toNat = i + 2 := by omega
  have t3 : ((i : Int) + 3).toNat = i + 3 := by omega
  have t4 : ((i : Int) + 4).toNat = i + 4 := by omega
  have t5 : ((i : Int) + 5).toNat = i + 5 := by omega
  have r1 := hr (i + 1)
  have r2 := hr (i + 2)
  have key : q_call 40 141 [.inr (.inr (.inl (some 32))), .inl (xs (i + 1))] v G (fun r v' G' => q_wp 40 225 960 [.inr (.inr (.inl (some 0))), .inr (.inr (.inl (some 32))), .inr (.inr (.inl (some 137))), .inl i] (q_push r []) v' G' Q) := by
    refine q_call_mono (twin_mid hk (op_trace (d := 32) hI (hr _))) (fun r v1 G1 hh => ?_)
    obtain ⟨l1, z, hz, z1, z2, h⟩ := hh
    subst hz
    have g0 : G1.2.1 0 = (20, L) := by rw [(l1 0 (by decide)).2, h0]
    have x0 : ∀ k, v1 0 k = xs k := fun k => by rw [(l1 0 (by decide)).1, hx]
    have key2 : q_call 40 222 [.inr (.inr (.inl (some 137))), .inl (xs (i + 1))] v1 G1 (fun r v' G' => q_wp 40 225 969 [.inr (.inr (.inl (some 0))), .inr (.inr (.inl (some 32))), .inr (.inr (.inl (some 137))), .inl i] (q_push r [.inl z]) v' G' Q) := by
      refine q_call_mono h (fun r2 v2 G2 hh => ?_)
      obtain ⟨hz2, p1, p2, p3, p4⟩ := hh
      subst hz2
      have fin := nx v2 G2 p1 p2 p3 p4
      clear nx h hI hC
      simp only [e_225_969, q_push_I, q_push_L, q_push_P, q_push_U, if_true]
      repeat' first | (refine And.intro ?_ ?_) | exact True.intro | omega | assumption | rfl
    clear nx h hI hC
    simp only [e_225_960, e_225_961, e_225_962, e_225_963, e_225_964, e_225_965, e_225_966, q_push_I, q_push_L, q_push_P, q_push_U, g0, x0, t1, t2, t3, t4, t5]
    repeat' first | exact key2 | (refine And.intro ?_ ?_) | exact True.intro | omega | rfl
  clear nx hI hC
  simp only [e_225_951, e_225_952, e_225_953, e_225_954, e_225_955, e_225_956, e_225_957, h0, hx, t1, t2, t3, t4, t5]
  repeat' first | exact key | (refine And.intro ?_ ?_) | exact True.intro | omega | rfl
theorem law_count (hI : Inv v G) (hC : csI v) (hk : q_lk G) (h0 : G.2.1 0 = (20, L)) (hx : ∀ k, v 0 k = xs k) (hr : ∀ k, -2147483648 ≤ xs k ∧ xs k ≤ 2147483647) (hi : i + 6 ≤ L) (hL : L ≤ 3072) (hm : G.2.2.1 + 12 ≤ 600000 ∧ G.2.2.2 + 72 ≤ 7302250) (nx : ∀ v2 G2, Inv v2 G2 → G2.2.2.1 ≤ G.2.2.1 + 12 → G2.2.2.2 ≤ G.2.2.2 + 72 → q_lw v G v2 G2 → q_wp 40 225 1010 [.inr (.inr (.inl (some 0))), .inr (.inr (.inl (some 32))), .inr (.inr (.inl (some 137))), .inl i] [] v2 G2 Q) : q_wp 40 225 974 [.inr (.inr (.inl (some 0))), .inr (.inr (.inl (some 32))), .inr (.inr (.inl (some 137))), .inl i] [] v G Q := by
  have t1 : ((i : Int) + 1).toNat = i + 1 := by omega
  have t2 : ((i : Int) + 2).toNat = i + 2 := by omega
  have t3 : ((i : Int) + 3).toNat = i + 3 := by omega
  have t4 : ((i : Int) + 4).toNat = i + 4 := by omega
  have t5 : ((i : Int) + 5).toNat = i + 5 := by omega
  have r1 := hr (i + 1)
  have r2 := hr (i + 2)
  have key : q_call 40 142 [.inr (.inr (.inl (some 32))), .inl (xs (i + 1))] v G (fun r v' G' => q_wp 40 225 983 [.inr (.inr (.inl (some 0))), .inr (.inr (.inl (some 32))), .inr (.inr (.inl (some 137))), .inl i] (q_push r []) v' G' Q) := by
    refine q_call_mono (twin_mid hk (op_count (d := 32) hI hC (hr _))) (fun r v1 G1 hh => ?_)
    obtain ⟨l1, z, hz, z1, z2, h⟩ := hh
    subst hz
    have g0 : G1.2.1 0 = (20, L) := by rw [(l1 0 (by decide)).2, h0]
    have x0 : ∀ k, v1 0 k = xs k := fun k => by rw [(l1 0 (by decide)).1, hx]
    have key2 : q_call 40 223 [.inr (.inr (.inl (some 137))), .inl (xs (i + 1))] v1 G1 (fun r v' G' => q_wp 40 225 992 [.inr (.inr (.inl (some 0))), .inr (.inr (.inl (some 32))), .inr (.inr (.inl (some 137))), .inl i] (q_push r [.inl z]) v' G' Q) := by
      refine q_call_mono h (fun r2 v2 G2 hh => ?_)
      obtain ⟨hz2, p1, p2, p3, p4⟩ := hh
      subst hz2
      have fin := nx v2 G2 p1 p2 p3 p4
      clear nx h hI hC
      simp only [e_225_992, q_push_I, q_push_L, q_push_P, q_push_U, if_true]
      repeat' first | (refine And.intro ?_ ?_) | exact True.intro | omega | assumption | rfl
    clear nx h hI hC
    simp only [e_225_983, e_225_984, e_225_985, e_225_986, e_225_987, e_225_988, e_225_989, q_push_I, q_push_L, q_push_P, q_push_U, g0, x0, t1, t2, t3, t4, t5]
    repeat' first | exact key2 | (refine And.intro ?_ ?_) | exact True.intro | omega | rfl
  clear nx hI hC
  simp only [e_225_974, e_225_975, e_225_976, e_225_977, e_225_978, e_225_979, e_225_980, h0, hx, t1, t2, t3, t4, t5]
  repeat' first | exact key | (refine And.intro ?_ ?_) | exact True.intro | omega | rfl
theorem law_status (hI : Inv v G) (hC : csI v) (hk : q_lk G) (h0 : G.2.1 0 = (20, L)) (hx : ∀ k, v 0 k = xs k) (hr : ∀ k, -2147483648 ≤ xs k ∧ xs k ≤ 2147483647) (hi : i + 6 ≤ L) (hL : L ≤ 3072) (hm : G.2.2.1 + 12 ≤ 600000 ∧ G.2.2.2 + 72 ≤ 7302250) (nx : ∀ v2 G2, Inv v2 G2 → G2.2.2.1 ≤ G.2.2.1 + 12 → G2.2.2.2 ≤ G.2.2.2 + 72 → q_lw v G v2 G2 → q_wp 40 225 1010 [.inr (.inr (.inl (some 0))), .inr (.inr (.inl (some 32))), .inr (.inr (.inl (some 137))), .inl i] [] v2 G2 Q) : q_wp 40 225 997 [.inr (.inr (.inl (some 0))), .inr (.inr (.inl (some 32))), .inr (.inr (.inl (some 137))), .inl i] [] v G Q := by
  have t1 : ((i : Int) + 1).toNat = i + 1 := by omega
  have t2 : ((i : Int) + 2).toNat = i + 2 := by omega
  have t3 : ((i : Int) + 3).toNat = i + 3 := by omega
  have t4 : ((i : Int) + 4).toNat = i + 4 := by omega
  have t5 : ((i : Int) + 5).toNat = i + 5 := by omega
  have r1 := hr (i + 1)
  have r2 := hr (i + 2)
  have key : q_call 40 143 [.inr (.inr (.inl (some 32)))] v G (fun r v' G' => q_wp 40 225 1001 [.inr (.inr (.inl (some 0))), .inr (.inr (.inl (some 32))), .inr (.inr (.inl (some 137))), .inl i] (q_push r []) v' G' Q) := by
    refine q_call_mono (twin_mid hk (op_status (d := 32) hI)) (fun r v1 G1 hh => ?_)
    obtain ⟨l1, z, hz, z1, z2, h⟩ := hh
    subst hz
    have g0 : G1.2.1 0 = (20, L) := by rw [(l1 0 (by decide)).2, h0]
    have x0 : ∀ k, v1 0 k = xs k := fun k => by rw [(l1 0 (by decide)).1, hx]
    have key2 : q_call 40 224 [.inr (.inr (.inl (some 137)))] v1 G1 (fun r v' G' => q_wp 40 225 1005 [.inr (.inr (.inl (some 0))), .inr (.inr (.inl (some 32))), .inr (.inr (.inl (some 137))), .inl i] (q_push r [.inl z]) v' G' Q) := by
      refine q_call_mono h (fun r2 v2 G2 hh => ?_)
      obtain ⟨hz2, p1, p2, p3, p4⟩ := hh
      subst hz2
      have fin := nx v2 G2 p1 p2 p3 p4
      clear nx h hI hC
      simp only [e_225_1005, q_push_I, q_push_L, q_push_P, q_push_U, if_true]
      repeat' first | (refine And.intro ?_ ?_) | exact True.intro | omega | assumption | rfl
    clear nx h hI hC
    simp only [e_225_1001, e_225_1002, q_push_I, q_push_L, q_push_P, q_push_U, g0, x0, t1, t2, t3, t4, t5]
    repeat' first | exact key2 | (refine And.intro ?_ ?_) | exact True.intro | omega | rfl
  clear nx hI hC
  simp only [e_225_997, e_225_998, h0, hx, t1, t2, t3, t4, t5]
  repeat' first | exact key | (refine And.intro ?_ ?_) | exact True.intro | omega | rfl
end
