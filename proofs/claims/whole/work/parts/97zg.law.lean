
/-! the law: a call for each of its cases -/
abbrev i32 (z : Int) : Prop := -2147483648 ≤ z ∧ z < 2147483648
/-- the next turn of the law's loop -/
def LNX (m t0 b L : Nat) (xi : Nat → Int) (k : Nat) (X : QM) (pc : Nat) : Prop := ∃ X2, JI m t0 (k + 1) X2 ∧ q_kd X2 b = (7, L) ∧ (∀ j, q_fv X2 b j = qi (xi j)) ∧ ∀ P : QP, Rr (q_C 1000) mL_law (pc, [some (qr b), some (qr t0), some (qr m), some (qi (7 * (k : Int)))], [], X) P = Rr (q_C 1000) mL_law (18, [some (qr b), some (qr t0), some (qr m), some (qi (7 * ((k + 1 : Nat) : Int)))], [], X2) P
section LAW
variable {m t0 b L k ic ir : Nat} {X : QM} {xi : Nat → Int} {as : List CV}
theorem STP_use (h : JI m t0 k X) (hbt : b < t0) (hkb : q_kd X b = (7, L)) (hs : ∀ j, q_fv X b j = qi (xi j)) (hT : STP m t0 k X ic ir as) : ∃ v X1 X2, i32 v ∧ (∀ P : QP, q_T 1000 ic (qr t0 :: as) X P = P (some (qi v)) X1) ∧ (∀ P : QP, q_T 1000 ir (qr m :: as) X1 P = P (some (qi v)) X2) ∧ JI m t0 (k + 1) X2 ∧ (q_kd X1 b = (7, L) ∧ ∀ j, q_fv X1 b j = qi (xi j)) ∧ (q_kd X2 b = (7, L) ∧ ∀ j, q_fv X2 b j = qi (xi j)) ∧ q_kd X t0 = (1, 12) ∧ q_kd X1 m = (1, 13) := by
  obtain ⟨v, X1, X2, hv, hc, hr, hJ, hf, hK, hf1⟩ := hT
  obtain ⟨S, g, cN, cT, c, e1, c1, L1, e2, c2, L2, e3, c3, eP, cP, cR, f, l0, W0, J, J2, ms, hs', lr, hl, tl, pp, hX, -⟩ := h
  have hw : q_wf X := hX.1.2.1
  have bl : b < q_top X := hw.lt (by rw [hkb]; simp)
  have g0 : g 0 = t0 := hX.2.2.2.2.2.2.2.2.1
  have nb : ¬ t0 ≤ b := by omega
  refine ⟨v, X1, X2, hv, fun P => T_of hc P, fun P => T_of hr P, hJ, ⟨by rw [hf1.2.2.1 b bl, hkb], fun j => by rw [hf1.2.2.2 b bl nb j, hs]⟩, ⟨by rw [hf.2.2.1 b bl, hkb], fun j => by rw [hf.2.2.2 b bl nb j, hs]⟩, ?_, hK.1⟩
  have := hX.1.2.2.2.2.1.1
  rw [g0] at this
  exact this
end LAW
section LAWC
variable {m t0 b L k : Nat} {X : QM} {xi : Nat → Int}

theorem lw_feed (h : JI m t0 k X) (hk : k ≤ 511) (hbt : b < t0) (hkb : q_kd X b = (7, L)) (hs : ∀ j, q_fv X b j = qi (xi j)) (hL : 7 * k + 7 ≤ L) (hx : ∀ j, i32 (xi j)) : LNX m t0 b L xi k X 160 := by
  obtain ⟨v, X1, X2, ⟨v1, v2⟩, tc, tr, hJ, ⟨k1, s1⟩, ⟨k2, s2⟩, k12, k13⟩ := STP_use h hbt hkb hs (J_feed h hk (hx (7 * (k : Int) + 1).toNat) (hx (7 * (k : Int) + 2).toNat) (hx (7 * (k : Int) + 3).toNat) (hx (7 * (k : Int) + 4).toNat) (hx (7 * (k : Int) + 5).toNat) (hx (7 * (k : Int) + 6).toNat))
  have b1 : (q_kd X b).1 = 7 := by rw [hkb]
  have b2 : ((q_kd X b).2 : Int) = L := by rw [hkb]
  have b3 : (q_kd X1 b).1 = 7 := by rw [k1]
  have b4 : ((q_kd X1 b).2 : Int) = L := by rw [k1]
  have e7 : 7 * ((k + 1 : Nat) : Int) = 7 * (k : Int) + 7 := by omega
  refine ⟨X2, hJ, k2, s2, fun P => ?_⟩
  rw [e7]
  simp (disch := first | assumption | exact bI_lo | exact bI_hi | exact bI_01 | (show (List.map q_wd _).sum ≤ 8; with_unfolding_all exact Nat.le_of_ble_eq_true rfl) | omega) only [kL_law_160, kL_law_161, kL_law_162, kL_law_163, kL_law_164, kL_law_165, kL_law_166, kL_law_167, kL_law_168, kL_law_169, kL_law_170, kL_law_171, kL_law_172, kL_law_173, kL_law_174, kL_law_175, kL_law_176, kL_law_177, kL_law_178, kL_law_179, kL_law_180, kL_law_181, kL_law_182, kL_law_183, kL_law_184, kL_law_185, kL_law_186, kL_law_187, kL_law_188, kL_law_190, kL_law_191, kL_law_192E, kL_law_195, kL_law_196, kL_law_197, kL_law_198, kL_law_199, kL_law_200, kL_law_201, kL_law_202, kL_law_203, kL_law_204, kL_law_205, kL_law_206, kL_law_207, kL_law_208, kL_law_209, kL_law_210, kL_law_211, kL_law_212, kL_law_213, kL_law_214, kL_law_215, kL_law_216, kL_law_217, kL_law_218, kL_law_219, kL_law_220, kL_law_221, kL_law_222, kL_law_223, kL_law_225, kL_law_226, kL_law_227E, kL_law_230, kL_law_1036, kL_law_1039, q_cut_i, q_cut_r, q_cut_l, q_cut_n, q_psh_n, q_psh_s, bI_eq0, ite_not, ↓if_pos, ↓if_neg, ↓ite_bI_t, ↓ite_bI_f, hs, s1, tc, tr, eq_self, if_true]
theorem lw_found (h : JI m t0 k X) (hk : k ≤ 511) (hbt : b < t0) (hkb : q_kd X b = (7, L)) (hs : ∀ j, q_fv X b j = qi (xi j)) (hL : 7 * k + 7 ≤ L) (hx : ∀ j, i32 (xi j)) : LNX m t0 b L xi k X 235 := by
  obtain ⟨v, X1, X2, ⟨v1, v2⟩, tc, tr, hJ, ⟨k1, s1⟩, ⟨k2, s2⟩, k12, k13⟩ := STP_use h hbt hkb hs (J_found h hk (hx (7 * (k : Int) + 1).toNat) (hx (7 * (k : Int) + 2).toNat) (hx (7 * (k : Int) + 3).toNat))
  have b1 : (q_kd X b).1 = 7 := by rw [hkb]
  have b2 : ((q_kd X b).2 : Int) = L := by rw [hkb]
  have b3 : (q_kd X1 b).1 = 7 := by rw [k1]
  have b4 : ((q_kd X1 b).2 : Int) = L := by rw [k1]
  have e7 : 7 * ((k + 1 : Nat) : Int) = 7 * (k : Int) + 7 := by omega
  refine ⟨X2, hJ, k2, s2, fun P => ?_⟩
  rw [e7]
  simp (disch := first | assumption | exact bI_lo | exact bI_hi | exact bI_01 | (show (List.map q_wd _).sum ≤ 8; with_unfolding_all exact Nat.le_of_ble_eq_true rfl) | omega) only [kL_law_235, kL_law_236, kL_law_237, kL_law_238, kL_law_239, kL_law_240, kL_law_241, kL_law_242, kL_law_243, kL_law_244, kL_law_245, kL_law_246, kL_law_247, kL_law_248, kL_law_249, kL_law_250, kL_law_251E, kL_law_254, kL_law_255, kL_law_256, kL_law_257, kL_law_258, kL_law_259, kL_law_260, kL_law_261, kL_law_262, kL_law_263, kL_law_264, kL_law_265, kL_law_266, kL_law_267, kL_law_268, kL_law_269, kL_law_270E, kL_law_273, kL_law_1036, kL_law_1039, q_cut_i, q_cut_r, q_cut_l, q_cut_n, q_psh_n, q_psh_s, bI_eq0, ite_not, ↓if_pos, ↓if_neg, ↓ite_bI_t, ↓ite_bI_f, hs, s1, tc, tr, eq_self, if_true]
theorem lw_rename (h : JI m t0 k X) (hk : k ≤ 511) (hbt : b < t0) (hkb : q_kd X b = (7, L)) (hs : ∀ j, q_fv X b j = qi (xi j)) (hL : 7 * k + 7 ≤ L) (hx : ∀ j, i32 (xi j)) : LNX m t0 b L xi k X 278 := by
  obtain ⟨v, X1, X2, ⟨v1, v2⟩, tc, tr, hJ, ⟨k1, s1⟩, ⟨k2, s2⟩, k12, k13⟩ := STP_use h hbt hkb hs (J_rename h hk (hx (7 * (k : Int) + 1).toNat) (hx (7 * (k : Int) + 2).toNat))
  have b1 : (q_kd X b).1 = 7 := by rw [hkb]
  have b2 : ((q_kd X b).2 : Int) = L := by rw [hkb]
  have b3 : (q_kd X1 b).1 = 7 := by rw [k1]
  have b4 : ((q_kd X1 b).2 : Int) = L := by rw [k1]
  have e7 : 7 * ((k + 1 : Nat) : Int) = 7 * (k : Int) + 7 := by omega
  refine ⟨X2, hJ, k2, s2, fun P => ?_⟩
  rw [e7]
  simp (disch := first | assumption | exact bI_lo | exact bI_hi | exact bI_01 | (show (List.map q_wd _).sum ≤ 8; with_unfolding_all exact Nat.le_of_ble_eq_true rfl) | omega) only [kL_law_278, kL_law_279, kL_law_280, kL_law_281, kL_law_282, kL_law_283, kL_law_284, kL_law_285, kL_law_286, kL_law_287, kL_law_288, kL_law_289E, kL_law_292, kL_law_293, kL_law_294, kL_law_295, kL_law_296, kL_law_297, kL_law_298, kL_law_299, kL_law_300, kL_law_301, kL_law_302, kL_law_303E, kL_law_306, kL_law_1036, kL_law_1039, q_cut_i, q_cut_r, q_cut_l, q_cut_n, q_psh_n, q_psh_s, bI_eq0, ite_not, ↓if_pos, ↓if_neg, ↓ite_bI_t, ↓ite_bI_f, hs, s1, tc, tr, eq_self, if_true]
theorem lw_move (h : JI m t0 k X) (hk : k ≤ 511) (hbt : b < t0) (hkb : q_kd X b = (7, L)) (hs : ∀ j, q_fv X b j = qi (xi j)) (hL : 7 * k + 7 ≤ L) (hx : ∀ j, i32 (xi j)) : LNX m t0 b L xi k X 311 := by
  obtain ⟨v, X1, X2, ⟨v1, v2⟩, tc, tr, hJ, ⟨k1, s1⟩, ⟨k2, s2⟩, k12, k13⟩ := STP_use h hbt hkb hs (J_move h hk (hx (7 * (k : Int) + 1).toNat) (hx (7 * (k : Int) + 2).toNat) (hx (7 * (k : Int) + 3).toNat))
  have b1 : (q_kd X b).1 = 7 := by rw [hkb]
  have b2 : ((q_kd X b).2 : Int) = L := by rw [hkb]
  have b3 : (q_kd X1 b).1 = 7 := by rw [k1]
  have b4 : ((q_kd X1 b).2 : Int) = L := by rw [k1]
  have e7 : 7 * ((k + 1 : Nat) : Int) = 7 * (k : Int) + 7 := by omega
  refine ⟨X2, hJ, k2, s2, fun P => ?_⟩
  rw [e7]
  simp (disch := first | assumption | exact bI_lo | exact bI_hi | exact bI_01 | (show (List.map q_wd _).sum ≤ 8; with_unfolding_all exact Nat.le_of_ble_eq_true rfl) | omega) only [kL_law_311, kL_law_312, kL_law_313, kL_law_314, kL_law_315, kL_law_316, kL_law_317, kL_law_318, kL_law_319, kL_law_320, kL_law_321, kL_law_322, kL_law_323, kL_law_324, kL_law_325, kL_law_326, kL_law_327E, kL_law_330, kL_law_331, kL_law_332, kL_law_333, kL_law_334, kL_law_335, kL_law_336, kL_law_337, kL_law_338, kL_law_339, kL_law_340, kL_law_341, kL_law_342, kL_law_343, kL_law_344, kL_law_345, kL_law_346E, kL_law_349, kL_law_1036, kL_law_1039, q_cut_i, q_cut_r, q_cut_l, q_cut_n, q_psh_n, q_psh_s, bI_eq0, ite_not, ↓if_pos, ↓if_neg, ↓ite_bI_t, ↓ite_bI_f, hs, s1, tc, tr, eq_self, if_true]
theorem lw_split (h : JI m t0 k X) (hk : k ≤ 511) (hbt : b < t0) (hkb : q_kd X b = (7, L)) (hs : ∀ j, q_fv X b j = qi (xi j)) (hL : 7 * k + 7 ≤ L) (hx : ∀ j, i32 (xi j)) : LNX m t0 b L xi k X 354 := by
  obtain ⟨v, X1, X2, ⟨v1, v2⟩, tc, tr, hJ, ⟨k1, s1⟩, ⟨k2, s2⟩, k12, k13⟩ := STP_use h hbt hkb hs (J_split h hk (hx (7 * (k : Int) + 1).toNat) (hx (7 * (k : Int) + 2).toNat))
  have b1 : (q_kd X b).1 = 7 := by rw [hkb]
  have b2 : ((q_kd X b).2 : Int) = L := by rw [hkb]
  have b3 : (q_kd X1 b).1 = 7 := by rw [k1]
  have b4 : ((q_kd X1 b).2 : Int) = L := by rw [k1]
  have e7 : 7 * ((k + 1 : Nat) : Int) = 7 * (k : Int) + 7 := by omega
  refine ⟨X2, hJ, k2, s2, fun P => ?_⟩
  rw [e7]
  simp (disch := first | assumption | exact bI_lo | exact bI_hi | exact bI_01 | (show (List.map q_wd _).sum ≤ 8; with_unfolding_all exact Nat.le_of_ble_eq_true rfl) | omega) only [kL_law_354, kL_law_355, kL_law_356, kL_law_357, kL_law_358, kL_law_359, kL_law_360, kL_law_361, kL_law_362, kL_law_363, kL_law_364, kL_law_365E, kL_law_368, kL_law_369, kL_law_370, kL_law_371, kL_law_372, kL_law_373, kL_law_374, kL_law_375, kL_law_376, kL_law_377, kL_law_378, kL_law_379E, kL_law_382, kL_law_1036, kL_law_1039, q_cut_i, q_cut_r, q_cut_l, q_cut_n, q_psh_n, q_psh_s, bI_eq0, ite_not, ↓if_pos, ↓if_neg, ↓ite_bI_t, ↓ite_bI_f, hs, s1, tc, tr, eq_self, if_true]
theorem lw_merge (h : JI m t0 k X) (hk : k ≤ 511) (hbt : b < t0) (hkb : q_kd X b = (7, L)) (hs : ∀ j, q_fv X b j = qi (xi j)) (hL : 7 * k + 7 ≤ L) (hx : ∀ j, i32 (xi j)) : LNX m t0 b L xi k X 387 := by
  obtain ⟨v, X1, X2, ⟨v1, v2⟩, tc, tr, hJ, ⟨k1, s1⟩, ⟨k2, s2⟩, k12, k13⟩ := STP_use h hbt hkb hs (J_merge h hk (hx (7 * (k : Int) + 1).toNat) (hx (7 * (k : Int) + 2).toNat) (hx (7 * (k : Int) + 3).toNat))
  have b1 : (q_kd X b).1 = 7 := by rw [hkb]
  have b2 : ((q_kd X b).2 : Int) = L := by rw [hkb]
  have b3 : (q_kd X1 b).1 = 7 := by rw [k1]
  have b4 : ((q_kd X1 b).2 : Int) = L := by rw [k1]
  have e7 : 7 * ((k + 1 : Nat) : Int) = 7 * (k : Int) + 7 := by omega
  refine ⟨X2, hJ, k2, s2, fun P => ?_⟩
  rw [e7]
  simp (disch := first | assumption | exact bI_lo | exact bI_hi | exact bI_01 | (show (List.map q_wd _).sum ≤ 8; with_unfolding_all exact Nat.le_of_ble_eq_true rfl) | omega) only [kL_law_387, kL_law_388, kL_law_389, kL_law_390, kL_law_391, kL_law_392, kL_law_393, kL_law_394, kL_law_395, kL_law_396, kL_law_397, kL_law_398, kL_law_399, kL_law_400, kL_law_401, kL_law_402, kL_law_403E, kL_law_406, kL_law_407, kL_law_408, kL_law_409, kL_law_410, kL_law_411, kL_law_412, kL_law_413, kL_law_414, kL_law_415, kL_law_416, kL_law_417, kL_law_418, kL_law_419, kL_law_420, kL_law_421, kL_law_422E, kL_law_425, kL_law_1036, kL_law_1039, q_cut_i, q_cut_r, q_cut_l, q_cut_n, q_psh_n, q_psh_s, bI_eq0, ite_not, ↓if_pos, ↓if_neg, ↓ite_bI_t, ↓ite_bI_f, hs, s1, tc, tr, eq_self, if_true]
theorem lw_close (h : JI m t0 k X) (hk : k ≤ 511) (hbt : b < t0) (hkb : q_kd X b = (7, L)) (hs : ∀ j, q_fv X b j = qi (xi j)) (hL : 7 * k + 7 ≤ L) (hx : ∀ j, i32 (xi j)) : LNX m t0 b L xi k X 430 := by
  obtain ⟨v, X1, X2, ⟨v1, v2⟩, tc, tr, hJ, ⟨k1, s1⟩, ⟨k2, s2⟩, k12, k13⟩ := STP_use h hbt hkb hs (J_close h hk (hx (7 * (k : Int) + 1).toNat) (hx (7 * (k : Int) + 2).toNat))
  have b1 : (q_kd X b).1 = 7 := by rw [hkb]
  have b2 : ((q_kd X b).2 : Int) = L := by rw [hkb]
  have b3 : (q_kd X1 b).1 = 7 := by rw [k1]
  have b4 : ((q_kd X1 b).2 : Int) = L := by rw [k1]
  have e7 : 7 * ((k + 1 : Nat) : Int) = 7 * (k : Int) + 7 := by omega
  refine ⟨X2, hJ, k2, s2, fun P => ?_⟩
  rw [e7]
  simp (disch := first | assumption | exact bI_lo | exact bI_hi | exact bI_01 | (show (List.map q_wd _).sum ≤ 8; with_unfolding_all exact Nat.le_of_ble_eq_true rfl) | omega) only [kL_law_430, kL_law_431, kL_law_432, kL_law_433, kL_law_434, kL_law_435, kL_law_436, kL_law_437, kL_law_438, kL_law_439, kL_law_440, kL_law_441E, kL_law_444, kL_law_445, kL_law_446, kL_law_447, kL_law_448, kL_law_449, kL_law_450, kL_law_451, kL_law_452, kL_law_453, kL_law_454, kL_law_455E, kL_law_458, kL_law_1036, kL_law_1039, q_cut_i, q_cut_r, q_cut_l, q_cut_n, q_psh_n, q_psh_s, bI_eq0, ite_not, ↓if_pos, ↓if_neg, ↓ite_bI_t, ↓ite_bI_f, hs, s1, tc, tr, eq_self, if_true]
theorem lw_run (h : JI m t0 k X) (hk : k ≤ 511) (hbt : b < t0) (hkb : q_kd X b = (7, L)) (hs : ∀ j, q_fv X b j = qi (xi j)) (hL : 7 * k + 7 ≤ L) (hx : ∀ j, i32 (xi j)) : LNX m t0 b L xi k X 463 := by
  obtain ⟨v, X1, X2, ⟨v1, v2⟩, tc, tr, hJ, ⟨k1, s1⟩, ⟨k2, s2⟩, k12, k13⟩ := STP_use h hbt hkb hs (J_run h hk )
  have b1 : (q_kd X b).1 = 7 := by rw [hkb]
  have b2 : ((q_kd X b).2 : Int) = L := by rw [hkb]
  have b3 : (q_kd X1 b).1 = 7 := by rw [k1]
  have b4 : ((q_kd X1 b).2 : Int) = L := by rw [k1]
  have e7 : 7 * ((k + 1 : Nat) : Int) = 7 * (k : Int) + 7 := by omega
  refine ⟨X2, hJ, k2, s2, fun P => ?_⟩
  rw [e7]
  simp (disch := first | assumption | exact bI_lo | exact bI_hi | exact bI_01 | (show (List.map q_wd _).sum ≤ 8; with_unfolding_all exact Nat.le_of_ble_eq_true rfl) | omega) only [kL_law_463, kL_law_464E, kL_law_467, kL_law_468E, kL_law_471, kL_law_1036, kL_law_1039, q_cut_i, q_cut_r, q_cut_l, q_cut_n, q_psh_n, q_psh_s, bI_eq0, ite_not, ↓if_pos, ↓if_neg, ↓ite_bI_t, ↓ite_bI_f, hs, s1, tc, tr, eq_self, if_true]
theorem lw_reason (h : JI m t0 k X) (hk : k ≤ 511) (hbt : b < t0) (hkb : q_kd X b = (7, L)) (hs : ∀ j, q_fv X b j = qi (xi j)) (hL : 7 * k + 7 ≤ L) (hx : ∀ j, i32 (xi j)) : LNX m t0 b L xi k X 476 := by
  obtain ⟨v, X1, X2, ⟨v1, v2⟩, tc, tr, hJ, ⟨k1, s1⟩, ⟨k2, s2⟩, k12, k13⟩ := STP_use h hbt hkb hs (J_reason h hk )
  have b1 : (q_kd X b).1 = 7 := by rw [hkb]
  have b2 : ((q_kd X b).2 : Int) = L := by rw [hkb]
  have b3 : (q_kd X1 b).1 = 7 := by rw [k1]
  have b4 : ((q_kd X1 b).2 : Int) = L := by rw [k1]
  have e7 : 7 * ((k + 1 : Nat) : Int) = 7 * (k : Int) + 7 := by omega
  refine ⟨X2, hJ, k2, s2, fun P => ?_⟩
  rw [e7]
  simp (disch := first | assumption | exact bI_lo | exact bI_hi | exact bI_01 | (show (List.map q_wd _).sum ≤ 8; with_unfolding_all exact Nat.le_of_ble_eq_true rfl) | omega) only [kL_law_476, kL_law_477E, kL_law_480, kL_law_481E, kL_law_484, kL_law_1036, kL_law_1039, q_cut_i, q_cut_r, q_cut_l, q_cut_n, q_psh_n, q_psh_s, bI_eq0, ite_not, ↓if_pos, ↓if_neg, ↓ite_bI_t, ↓ite_bI_f, hs, s1, tc, tr, eq_self, if_true]
theorem lw_on (h : JI m t0 k X) (hk : k ≤ 511) (hbt : b < t0) (hkb : q_kd X b = (7, L)) (hs : ∀ j, q_fv X b j = qi (xi j)) (hL : 7 * k + 7 ≤ L) (hx : ∀ j, i32 (xi j)) : LNX m t0 b L xi k X 489 := by
  obtain ⟨v, X1, X2, ⟨v1, v2⟩, tc, tr, hJ, ⟨k1, s1⟩, ⟨k2, s2⟩, k12, k13⟩ := STP_use h hbt hkb hs (J_on h hk (hx (7 * (k : Int) + 1).toNat) (hx (7 * (k : Int) + 2).toNat) (hx (7 * (k : Int) + 3).toNat))
  have b1 : (q_kd X b).1 = 7 := by rw [hkb]
  have b2 : ((q_kd X b).2 : Int) = L := by rw [hkb]
  have b3 : (q_kd X1 b).1 = 7 := by rw [k1]
  have b4 : ((q_kd X1 b).2 : Int) = L := by rw [k1]
  have e7 : 7 * ((k + 1 : Nat) : Int) = 7 * (k : Int) + 7 := by omega
  refine ⟨X2, hJ, k2, s2, fun P => ?_⟩
  rw [e7]
  simp (disch := first | assumption | exact bI_lo | exact bI_hi | exact bI_01 | (show (List.map q_wd _).sum ≤ 8; with_unfolding_all exact Nat.le_of_ble_eq_true rfl) | omega) only [kL_law_489, kL_law_490, kL_law_491, kL_law_492, kL_law_493, kL_law_494, kL_law_495, kL_law_496, kL_law_497, kL_law_498, kL_law_499, kL_law_500, kL_law_501, kL_law_502, kL_law_503, kL_law_504, kL_law_505E, kL_law_508, kL_law_509, kL_law_510, kL_law_511, kL_law_512, kL_law_513, kL_law_514, kL_law_515, kL_law_516, kL_law_517, kL_law_518, kL_law_519, kL_law_520, kL_law_521, kL_law_522, kL_law_523, kL_law_524E, kL_law_527, kL_law_1036, kL_law_1039, q_cut_i, q_cut_r, q_cut_l, q_cut_n, q_psh_n, q_psh_s, bI_eq0, ite_not, ↓if_pos, ↓if_neg, ↓ite_bI_t, ↓ite_bI_f, hs, s1, tc, tr, eq_self, if_true]
theorem lw_of (h : JI m t0 k X) (hk : k ≤ 511) (hbt : b < t0) (hkb : q_kd X b = (7, L)) (hs : ∀ j, q_fv X b j = qi (xi j)) (hL : 7 * k + 7 ≤ L) (hx : ∀ j, i32 (xi j)) : LNX m t0 b L xi k X 532 := by
  obtain ⟨v, X1, X2, ⟨v1, v2⟩, tc, tr, hJ, ⟨k1, s1⟩, ⟨k2, s2⟩, k12, k13⟩ := STP_use h hbt hkb hs (J_of h hk (hx (7 * (k : Int) + 1).toNat) (hx (7 * (k : Int) + 2).toNat))
  have b1 : (q_kd X b).1 = 7 := by rw [hkb]
  have b2 : ((q_kd X b).2 : Int) = L := by rw [hkb]
  have b3 : (q_kd X1 b).1 = 7 := by rw [k1]
  have b4 : ((q_kd X1 b).2 : Int) = L := by rw [k1]
  have e7 : 7 * ((k + 1 : Nat) : Int) = 7 * (k : Int) + 7 := by omega
  refine ⟨X2, hJ, k2, s2, fun P => ?_⟩
  rw [e7]
  simp (disch := first | assumption | exact bI_lo | exact bI_hi | exact bI_01 | (show (List.map q_wd _).sum ≤ 8; with_unfolding_all exact Nat.le_of_ble_eq_true rfl) | omega) only [kL_law_532, kL_law_533, kL_law_534, kL_law_535, kL_law_536, kL_law_537, kL_law_538, kL_law_539, kL_law_540, kL_law_541, kL_law_542, kL_law_543E, kL_law_546, kL_law_547, kL_law_548, kL_law_549, kL_law_550, kL_law_551, kL_law_552, kL_law_553, kL_law_554, kL_law_555, kL_law_556, kL_law_557E, kL_law_560, kL_law_1036, kL_law_1039, q_cut_i, q_cut_r, q_cut_l, q_cut_n, q_psh_n, q_psh_s, bI_eq0, ite_not, ↓if_pos, ↓if_neg, ↓ite_bI_t, ↓ite_bI_f, hs, s1, tc, tr, eq_self, if_true]
theorem lw_event (h : JI m t0 k X) (hk : k ≤ 511) (hbt : b < t0) (hkb : q_kd X b = (7, L)) (hs : ∀ j, q_fv X b j = qi (xi j)) (hL : 7 * k + 7 ≤ L) (hx : ∀ j, i32 (xi j)) : LNX m t0 b L xi k X 565 := by
  obtain ⟨v, X1, X2, ⟨v1, v2⟩, tc, tr, hJ, ⟨k1, s1⟩, ⟨k2, s2⟩, k12, k13⟩ := STP_use h hbt hkb hs (J_event h hk (hx (7 * (k : Int) + 1).toNat) (hx (7 * (k : Int) + 2).toNat) (hx (7 * (k : Int) + 3).toNat))
  have b1 : (q_kd X b).1 = 7 := by rw [hkb]
  have b2 : ((q_kd X b).2 : Int) = L := by rw [hkb]
  have b3 : (q_kd X1 b).1 = 7 := by rw [k1]
  have b4 : ((q_kd X1 b).2 : Int) = L := by rw [k1]
  have e7 : 7 * ((k + 1 : Nat) : Int) = 7 * (k : Int) + 7 := by omega
  refine ⟨X2, hJ, k2, s2, fun P => ?_⟩
  rw [e7]
  simp (disch := first | assumption | exact bI_lo | exact bI_hi | exact bI_01 | (show (List.map q_wd _).sum ≤ 8; with_unfolding_all exact Nat.le_of_ble_eq_true rfl) | omega) only [kL_law_565, kL_law_566, kL_law_567, kL_law_568, kL_law_569, kL_law_570, kL_law_571, kL_law_572, kL_law_573, kL_law_574, kL_law_575, kL_law_576, kL_law_577, kL_law_578, kL_law_579, kL_law_580, kL_law_581E, kL_law_584, kL_law_585, kL_law_586, kL_law_587, kL_law_588, kL_law_589, kL_law_590, kL_law_591, kL_law_592, kL_law_593, kL_law_594, kL_law_595, kL_law_596, kL_law_597, kL_law_598, kL_law_599, kL_law_600E, kL_law_603, kL_law_1036, kL_law_1039, q_cut_i, q_cut_r, q_cut_l, q_cut_n, q_psh_n, q_psh_s, bI_eq0, ite_not, ↓if_pos, ↓if_neg, ↓ite_bI_t, ↓ite_bI_f, hs, s1, tc, tr, eq_self, if_true]
theorem lw_again (h : JI m t0 k X) (hk : k ≤ 511) (hbt : b < t0) (hkb : q_kd X b = (7, L)) (hs : ∀ j, q_fv X b j = qi (xi j)) (hL : 7 * k + 7 ≤ L) (hx : ∀ j, i32 (xi j)) : LNX m t0 b L xi k X 608 := by
  obtain ⟨v, X1, X2, ⟨v1, v2⟩, tc, tr, hJ, ⟨k1, s1⟩, ⟨k2, s2⟩, k12, k13⟩ := STP_use h hbt hkb hs (J_again h hk (hx (7 * (k : Int) + 1).toNat) (hx (7 * (k : Int) + 2).toNat))
  have b1 : (q_kd X b).1 = 7 := by rw [hkb]
  have b2 : ((q_kd X b).2 : Int) = L := by rw [hkb]
  have b3 : (q_kd X1 b).1 = 7 := by rw [k1]
  have b4 : ((q_kd X1 b).2 : Int) = L := by rw [k1]
  have e7 : 7 * ((k + 1 : Nat) : Int) = 7 * (k : Int) + 7 := by omega
  refine ⟨X2, hJ, k2, s2, fun P => ?_⟩
  rw [e7]
  simp (disch := first | assumption | exact bI_lo | exact bI_hi | exact bI_01 | (show (List.map q_wd _).sum ≤ 8; with_unfolding_all exact Nat.le_of_ble_eq_true rfl) | omega) only [kL_law_608, kL_law_609, kL_law_610, kL_law_611, kL_law_612, kL_law_613, kL_law_614, kL_law_615, kL_law_616, kL_law_617, kL_law_618, kL_law_619E, kL_law_622, kL_law_623, kL_law_624, kL_law_625, kL_law_626, kL_law_627, kL_law_628, kL_law_629, kL_law_630, kL_law_631, kL_law_632, kL_law_633E, kL_law_636, kL_law_1036, kL_law_1039, q_cut_i, q_cut_r, q_cut_l, q_cut_n, q_psh_n, q_psh_s, bI_eq0, ite_not, ↓if_pos, ↓if_neg, ↓ite_bI_t, ↓ite_bI_f, hs, s1, tc, tr, eq_self, if_true]
theorem lw_lookup (h : JI m t0 k X) (hk : k ≤ 511) (hbt : b < t0) (hkb : q_kd X b = (7, L)) (hs : ∀ j, q_fv X b j = qi (xi j)) (hL : 7 * k + 7 ≤ L) (hx : ∀ j, i32 (xi j)) : LNX m t0 b L xi k X 641 := by
  obtain ⟨v, X1, X2, ⟨v1, v2⟩, tc, tr, hJ, ⟨k1, s1⟩, ⟨k2, s2⟩, k12, k13⟩ := STP_use h hbt hkb hs (J_lookup h hk (hx (7 * (k : Int) + 1).toNat) (hx (7 * (k : Int) + 2).toNat))
  have b1 : (q_kd X b).1 = 7 := by rw [hkb]
  have b2 : ((q_kd X b).2 : Int) = L := by rw [hkb]
  have b3 : (q_kd X1 b).1 = 7 := by rw [k1]
  have b4 : ((q_kd X1 b).2 : Int) = L := by rw [k1]
  have e7 : 7 * ((k + 1 : Nat) : Int) = 7 * (k : Int) + 7 := by omega
  refine ⟨X2, hJ, k2, s2, fun P => ?_⟩
  rw [e7]
  simp (disch := first | assumption | exact bI_lo | exact bI_hi | exact bI_01 | (show (List.map q_wd _).sum ≤ 8; with_unfolding_all exact Nat.le_of_ble_eq_true rfl) | omega) only [kL_law_641, kL_law_642, kL_law_643, kL_law_644, kL_law_645, kL_law_646, kL_law_647, kL_law_648, kL_law_649, kL_law_650, kL_law_651, kL_law_652E, kL_law_655, kL_law_656, kL_law_657, kL_law_658, kL_law_659, kL_law_660, kL_law_661, kL_law_662, kL_law_663, kL_law_664, kL_law_665, kL_law_666E, kL_law_669, kL_law_1036, kL_law_1039, q_cut_i, q_cut_r, q_cut_l, q_cut_n, q_psh_n, q_psh_s, bI_eq0, ite_not, ↓if_pos, ↓if_neg, ↓ite_bI_t, ↓ite_bI_f, hs, s1, tc, tr, eq_self, if_true]
theorem lw_sought (h : JI m t0 k X) (hk : k ≤ 511) (hbt : b < t0) (hkb : q_kd X b = (7, L)) (hs : ∀ j, q_fv X b j = qi (xi j)) (hL : 7 * k + 7 ≤ L) (hx : ∀ j, i32 (xi j)) : LNX m t0 b L xi k X 674 := by
  obtain ⟨v, X1, X2, ⟨v1, v2⟩, tc, tr, hJ, ⟨k1, s1⟩, ⟨k2, s2⟩, k12, k13⟩ := STP_use h hbt hkb hs (J_sought h hk (hx (7 * (k : Int) + 1).toNat))
  have b1 : (q_kd X b).1 = 7 := by rw [hkb]
  have b2 : ((q_kd X b).2 : Int) = L := by rw [hkb]
  have b3 : (q_kd X1 b).1 = 7 := by rw [k1]
  have b4 : ((q_kd X1 b).2 : Int) = L := by rw [k1]
  have e7 : 7 * ((k + 1 : Nat) : Int) = 7 * (k : Int) + 7 := by omega
  refine ⟨X2, hJ, k2, s2, fun P => ?_⟩
  rw [e7]
  simp (disch := first | assumption | exact bI_lo | exact bI_hi | exact bI_01 | (show (List.map q_wd _).sum ≤ 8; with_unfolding_all exact Nat.le_of_ble_eq_true rfl) | omega) only [kL_law_674, kL_law_675, kL_law_676, kL_law_677, kL_law_678, kL_law_679, kL_law_680E, kL_law_683, kL_law_684, kL_law_685, kL_law_686, kL_law_687, kL_law_688, kL_law_689E, kL_law_692, kL_law_1036, kL_law_1039, q_cut_i, q_cut_r, q_cut_l, q_cut_n, q_psh_n, q_psh_s, bI_eq0, ite_not, ↓if_pos, ↓if_neg, ↓ite_bI_t, ↓ite_bI_f, hs, s1, tc, tr, eq_self, if_true]
theorem lw_filter (h : JI m t0 k X) (hk : k ≤ 511) (hbt : b < t0) (hkb : q_kd X b = (7, L)) (hs : ∀ j, q_fv X b j = qi (xi j)) (hL : 7 * k + 7 ≤ L) (hx : ∀ j, i32 (xi j)) : LNX m t0 b L xi k X 697 := by
  obtain ⟨v, X1, X2, ⟨v1, v2⟩, tc, tr, hJ, ⟨k1, s1⟩, ⟨k2, s2⟩, k12, k13⟩ := STP_use h hbt hkb hs (J_filter h hk (hx (7 * (k : Int) + 1).toNat) (hx (7 * (k : Int) + 2).toNat))
  have b1 : (q_kd X b).1 = 7 := by rw [hkb]
  have b2 : ((q_kd X b).2 : Int) = L := by rw [hkb]
  have b3 : (q_kd X1 b).1 = 7 := by rw [k1]
  have b4 : ((q_kd X1 b).2 : Int) = L := by rw [k1]
  have e7 : 7 * ((k + 1 : Nat) : Int) = 7 * (k : Int) + 7 := by omega
  refine ⟨X2, hJ, k2, s2, fun P => ?_⟩
  rw [e7]
  simp (disch := first | assumption | exact bI_lo | exact bI_hi | exact bI_01 | (show (List.map q_wd _).sum ≤ 8; with_unfolding_all exact Nat.le_of_ble_eq_true rfl) | omega) only [kL_law_697, kL_law_698, kL_law_699, kL_law_700, kL_law_701, kL_law_702, kL_law_703, kL_law_704, kL_law_705, kL_law_706, kL_law_707, kL_law_708E, kL_law_711, kL_law_712, kL_law_713, kL_law_714, kL_law_715, kL_law_716, kL_law_717, kL_law_718, kL_law_719, kL_law_720, kL_law_721, kL_law_722E, kL_law_725, kL_law_1036, kL_law_1039, q_cut_i, q_cut_r, q_cut_l, q_cut_n, q_psh_n, q_psh_s, bI_eq0, ite_not, ↓if_pos, ↓if_neg, ↓ite_bI_t, ↓ite_bI_f, hs, s1, tc, tr, eq_self, if_true]
theorem lw_join (h : JI m t0 k X) (hk : k ≤ 511) (hbt : b < t0) (hkb : q_kd X b = (7, L)) (hs : ∀ j, q_fv X b j = qi (xi j)) (hL : 7 * k + 7 ≤ L) (hx : ∀ j, i32 (xi j)) : LNX m t0 b L xi k X 730 := by
  obtain ⟨v, X1, X2, ⟨v1, v2⟩, tc, tr, hJ, ⟨k1, s1⟩, ⟨k2, s2⟩, k12, k13⟩ := STP_use h hbt hkb hs (J_join h hk (hx (7 * (k : Int) + 1).toNat) (hx (7 * (k : Int) + 2).toNat) (hx (7 * (k : Int) + 3).toNat))
  have b1 : (q_kd X b).1 = 7 := by rw [hkb]
  have b2 : ((q_kd X b).2 : Int) = L := by rw [hkb]
  have b3 : (q_kd X1 b).1 = 7 := by rw [k1]
  have b4 : ((q_kd X1 b).2 : Int) = L := by rw [k1]
  have e7 : 7 * ((k + 1 : Nat) : Int) = 7 * (k : Int) + 7 := by omega
  refine ⟨X2, hJ, k2, s2, fun P => ?_⟩
  rw [e7]
  simp (disch := first | assumption | exact bI_lo | exact bI_hi | exact bI_01 | (show (List.map q_wd _).sum ≤ 8; with_unfolding_all exact Nat.le_of_ble_eq_true rfl) | omega) only [kL_law_730, kL_law_731, kL_law_732, kL_law_733, kL_law_734, kL_law_735, kL_law_736, kL_law_737, kL_law_738, kL_law_739, kL_law_740, kL_law_741, kL_law_742, kL_law_743, kL_law_744, kL_law_745, kL_law_746E, kL_law_749, kL_law_750, kL_law_751, kL_law_752, kL_law_753, kL_law_754, kL_law_755, kL_law_756, kL_law_757, kL_law_758, kL_law_759, kL_law_760, kL_law_761, kL_law_762, kL_law_763, kL_law_764, kL_law_765E, kL_law_768, kL_law_1036, kL_law_1039, q_cut_i, q_cut_r, q_cut_l, q_cut_n, q_psh_n, q_psh_s, bI_eq0, ite_not, ↓if_pos, ↓if_neg, ↓ite_bI_t, ↓ite_bI_f, hs, s1, tc, tr, eq_self, if_true]
theorem lw_drop (h : JI m t0 k X) (hk : k ≤ 511) (hbt : b < t0) (hkb : q_kd X b = (7, L)) (hs : ∀ j, q_fv X b j = qi (xi j)) (hL : 7 * k + 7 ≤ L) (hx : ∀ j, i32 (xi j)) : LNX m t0 b L xi k X 773 := by
  obtain ⟨v, X1, X2, ⟨v1, v2⟩, tc, tr, hJ, ⟨k1, s1⟩, ⟨k2, s2⟩, k12, k13⟩ := STP_use h hbt hkb hs (J_drop h hk (hx (7 * (k : Int) + 1).toNat))
  have b1 : (q_kd X b).1 = 7 := by rw [hkb]
  have b2 : ((q_kd X b).2 : Int) = L := by rw [hkb]
  have b3 : (q_kd X1 b).1 = 7 := by rw [k1]
  have b4 : ((q_kd X1 b).2 : Int) = L := by rw [k1]
  have e7 : 7 * ((k + 1 : Nat) : Int) = 7 * (k : Int) + 7 := by omega
  refine ⟨X2, hJ, k2, s2, fun P => ?_⟩
  rw [e7]
  simp (disch := first | assumption | exact bI_lo | exact bI_hi | exact bI_01 | (show (List.map q_wd _).sum ≤ 8; with_unfolding_all exact Nat.le_of_ble_eq_true rfl) | omega) only [kL_law_773, kL_law_774, kL_law_775, kL_law_776, kL_law_777, kL_law_778, kL_law_779E, kL_law_782, kL_law_783, kL_law_784, kL_law_785, kL_law_786, kL_law_787, kL_law_788E, kL_law_791, kL_law_1036, kL_law_1039, q_cut_i, q_cut_r, q_cut_l, q_cut_n, q_psh_n, q_psh_s, bI_eq0, ite_not, ↓if_pos, ↓if_neg, ↓ite_bI_t, ↓ite_bI_f, hs, s1, tc, tr, eq_self, if_true]
theorem lw_fits (h : JI m t0 k X) (hk : k ≤ 511) (hbt : b < t0) (hkb : q_kd X b = (7, L)) (hs : ∀ j, q_fv X b j = qi (xi j)) (hL : 7 * k + 7 ≤ L) (hx : ∀ j, i32 (xi j)) : LNX m t0 b L xi k X 796 := by
  obtain ⟨v, X1, X2, ⟨v1, v2⟩, tc, tr, hJ, ⟨k1, s1⟩, ⟨k2, s2⟩, k12, k13⟩ := STP_use h hbt hkb hs (J_fits h hk (hx (7 * (k : Int) + 1).toNat) (hx (7 * (k : Int) + 2).toNat))
  have b1 : (q_kd X b).1 = 7 := by rw [hkb]
  have b2 : ((q_kd X b).2 : Int) = L := by rw [hkb]
  have b3 : (q_kd X1 b).1 = 7 := by rw [k1]
  have b4 : ((q_kd X1 b).2 : Int) = L := by rw [k1]
  have e7 : 7 * ((k + 1 : Nat) : Int) = 7 * (k : Int) + 7 := by omega
  refine ⟨X2, hJ, k2, s2, fun P => ?_⟩
  rw [e7]
  simp (disch := first | assumption | exact bI_lo | exact bI_hi | exact bI_01 | (show (List.map q_wd _).sum ≤ 8; with_unfolding_all exact Nat.le_of_ble_eq_true rfl) | omega) only [kL_law_796, kL_law_797, kL_law_798, kL_law_799, kL_law_800, kL_law_801, kL_law_802, kL_law_803, kL_law_804, kL_law_805, kL_law_806, kL_law_807E, kL_law_810, kL_law_811, kL_law_812, kL_law_813, kL_law_814, kL_law_815, kL_law_816, kL_law_817, kL_law_818, kL_law_819, kL_law_820, kL_law_821E, kL_law_824, kL_law_1036, kL_law_1039, q_cut_i, q_cut_r, q_cut_l, q_cut_n, q_psh_n, q_psh_s, bI_eq0, ite_not, ↓if_pos, ↓if_neg, ↓ite_bI_t, ↓ite_bI_f, hs, s1, tc, tr, eq_self, if_true]
theorem lw_write (h : JI m t0 k X) (hk : k ≤ 511) (hbt : b < t0) (hkb : q_kd X b = (7, L)) (hs : ∀ j, q_fv X b j = qi (xi j)) (hL : 7 * k + 7 ≤ L) (hx : ∀ j, i32 (xi j)) : LNX m t0 b L xi k X 829 := by
  obtain ⟨v, X1, X2, ⟨v1, v2⟩, tc, tr, hJ, ⟨k1, s1⟩, ⟨k2, s2⟩, k12, k13⟩ := STP_use h hbt hkb hs (J_write h hk (hx (7 * (k : Int) + 1).toNat))
  have b1 : (q_kd X b).1 = 7 := by rw [hkb]
  have b2 : ((q_kd X b).2 : Int) = L := by rw [hkb]
  have b3 : (q_kd X1 b).1 = 7 := by rw [k1]
  have b4 : ((q_kd X1 b).2 : Int) = L := by rw [k1]
  have e7 : 7 * ((k + 1 : Nat) : Int) = 7 * (k : Int) + 7 := by omega
  refine ⟨X2, hJ, k2, s2, fun P => ?_⟩
  rw [e7]
  simp (disch := first | assumption | exact bI_lo | exact bI_hi | exact bI_01 | (show (List.map q_wd _).sum ≤ 8; with_unfolding_all exact Nat.le_of_ble_eq_true rfl) | omega) only [kL_law_829, kL_law_830, kL_law_831, kL_law_832, kL_law_833, kL_law_834, kL_law_835E, kL_law_838, kL_law_839, kL_law_840, kL_law_841, kL_law_842, kL_law_843, kL_law_844E, kL_law_847, kL_law_1036, kL_law_1039, q_cut_i, q_cut_r, q_cut_l, q_cut_n, q_psh_n, q_psh_s, bI_eq0, ite_not, ↓if_pos, ↓if_neg, ↓ite_bI_t, ↓ite_bI_f, hs, s1, tc, tr, eq_self, if_true]
theorem lw_paper (h : JI m t0 k X) (hk : k ≤ 511) (hbt : b < t0) (hkb : q_kd X b = (7, L)) (hs : ∀ j, q_fv X b j = qi (xi j)) (hL : 7 * k + 7 ≤ L) (hx : ∀ j, i32 (xi j)) : LNX m t0 b L xi k X 852 := by
  obtain ⟨v, X1, X2, ⟨v1, v2⟩, tc, tr, hJ, ⟨k1, s1⟩, ⟨k2, s2⟩, k12, k13⟩ := STP_use h hbt hkb hs (J_paper h hk (hx (7 * (k : Int) + 1).toNat))
  have b1 : (q_kd X b).1 = 7 := by rw [hkb]
  have b2 : ((q_kd X b).2 : Int) = L := by rw [hkb]
  have b3 : (q_kd X1 b).1 = 7 := by rw [k1]
  have b4 : ((q_kd X1 b).2 : Int) = L := by rw [k1]
  have e7 : 7 * ((k + 1 : Nat) : Int) = 7 * (k : Int) + 7 := by omega
  refine ⟨X2, hJ, k2, s2, fun P => ?_⟩
  rw [e7]
  simp (disch := first | assumption | exact bI_lo | exact bI_hi | exact bI_01 | (show (List.map q_wd _).sum ≤ 8; with_unfolding_all exact Nat.le_of_ble_eq_true rfl) | omega) only [kL_law_852, kL_law_853, kL_law_854, kL_law_855, kL_law_856, kL_law_857, kL_law_858E, kL_law_861, kL_law_862, kL_law_863, kL_law_864, kL_law_865, kL_law_866, kL_law_867E, kL_law_870, kL_law_1036, kL_law_1039, q_cut_i, q_cut_r, q_cut_l, q_cut_n, q_psh_n, q_psh_s, bI_eq0, ite_not, ↓if_pos, ↓if_neg, ↓ite_bI_t, ↓ite_bI_f, hs, s1, tc, tr, eq_self, if_true]
theorem lw_changed (h : JI m t0 k X) (hk : k ≤ 511) (hbt : b < t0) (hkb : q_kd X b = (7, L)) (hs : ∀ j, q_fv X b j = qi (xi j)) (hL : 7 * k + 7 ≤ L) (hx : ∀ j, i32 (xi j)) : LNX m t0 b L xi k X 875 := by
  obtain ⟨v, X1, X2, ⟨v1, v2⟩, tc, tr, hJ, ⟨k1, s1⟩, ⟨k2, s2⟩, k12, k13⟩ := STP_use h hbt hkb hs (J_changed h hk (hx (7 * (k : Int) + 1).toNat) (hx (7 * (k : Int) + 2).toNat))
  have b1 : (q_kd X b).1 = 7 := by rw [hkb]
  have b2 : ((q_kd X b).2 : Int) = L := by rw [hkb]
  have b3 : (q_kd X1 b).1 = 7 := by rw [k1]
  have b4 : ((q_kd X1 b).2 : Int) = L := by rw [k1]
  have e7 : 7 * ((k + 1 : Nat) : Int) = 7 * (k : Int) + 7 := by omega
  refine ⟨X2, hJ, k2, s2, fun P => ?_⟩
  rw [e7]
  simp (disch := first | assumption | exact bI_lo | exact bI_hi | exact bI_01 | (show (List.map q_wd _).sum ≤ 8; with_unfolding_all exact Nat.le_of_ble_eq_true rfl) | omega) only [kL_law_875, kL_law_876, kL_law_877, kL_law_878, kL_law_879, kL_law_880, kL_law_881, kL_law_882, kL_law_883, kL_law_884, kL_law_885, kL_law_886E, kL_law_889, kL_law_890, kL_law_891, kL_law_892, kL_law_893, kL_law_894, kL_law_895, kL_law_896, kL_law_897, kL_law_898, kL_law_899, kL_law_900E, kL_law_903, kL_law_1036, kL_law_1039, q_cut_i, q_cut_r, q_cut_l, q_cut_n, q_psh_n, q_psh_s, bI_eq0, ite_not, ↓if_pos, ↓if_neg, ↓ite_bI_t, ↓ite_bI_f, hs, s1, tc, tr, eq_self, if_true]
theorem lw_longest (h : JI m t0 k X) (hk : k ≤ 511) (hbt : b < t0) (hkb : q_kd X b = (7, L)) (hs : ∀ j, q_fv X b j = qi (xi j)) (hL : 7 * k + 7 ≤ L) (hx : ∀ j, i32 (xi j)) : LNX m t0 b L xi k X 908 := by
  obtain ⟨v, X1, X2, ⟨v1, v2⟩, tc, tr, hJ, ⟨k1, s1⟩, ⟨k2, s2⟩, k12, k13⟩ := STP_use h hbt hkb hs (J_longest h hk (hx (7 * (k : Int) + 1).toNat) (hx (7 * (k : Int) + 2).toNat))
  have b1 : (q_kd X b).1 = 7 := by rw [hkb]
  have b2 : ((q_kd X b).2 : Int) = L := by rw [hkb]
  have b3 : (q_kd X1 b).1 = 7 := by rw [k1]
  have b4 : ((q_kd X1 b).2 : Int) = L := by rw [k1]
  have e7 : 7 * ((k + 1 : Nat) : Int) = 7 * (k : Int) + 7 := by omega
  refine ⟨X2, hJ, k2, s2, fun P => ?_⟩
  rw [e7]
  simp (disch := first | assumption | exact bI_lo | exact bI_hi | exact bI_01 | (show (List.map q_wd _).sum ≤ 8; with_unfolding_all exact Nat.le_of_ble_eq_true rfl) | omega) only [kL_law_908, kL_law_909, kL_law_910, kL_law_911, kL_law_912, kL_law_913, kL_law_914, kL_law_915, kL_law_916, kL_law_917, kL_law_918, kL_law_919E, kL_law_922, kL_law_923, kL_law_924, kL_law_925, kL_law_926, kL_law_927, kL_law_928, kL_law_929, kL_law_930, kL_law_931, kL_law_932, kL_law_933E, kL_law_936, kL_law_1036, kL_law_1039, q_cut_i, q_cut_r, q_cut_l, q_cut_n, q_psh_n, q_psh_s, bI_eq0, ite_not, ↓if_pos, ↓if_neg, ↓ite_bI_t, ↓ite_bI_f, hs, s1, tc, tr, eq_self, if_true]
theorem lw_account (h : JI m t0 k X) (hk : k ≤ 511) (hbt : b < t0) (hkb : q_kd X b = (7, L)) (hs : ∀ j, q_fv X b j = qi (xi j)) (hL : 7 * k + 7 ≤ L) (hx : ∀ j, i32 (xi j)) : LNX m t0 b L xi k X 941 := by
  obtain ⟨v, X1, X2, ⟨v1, v2⟩, tc, tr, hJ, ⟨k1, s1⟩, ⟨k2, s2⟩, k12, k13⟩ := STP_use h hbt hkb hs (J_account h hk (hx (7 * (k : Int) + 1).toNat) (hx (7 * (k : Int) + 2).toNat))
  have b1 : (q_kd X b).1 = 7 := by rw [hkb]
  have b2 : ((q_kd X b).2 : Int) = L := by rw [hkb]
  have b3 : (q_kd X1 b).1 = 7 := by rw [k1]
  have b4 : ((q_kd X1 b).2 : Int) = L := by rw [k1]
  have e7 : 7 * ((k + 1 : Nat) : Int) = 7 * (k : Int) + 7 := by omega
  refine ⟨X2, hJ, k2, s2, fun P => ?_⟩
  rw [e7]
  simp (disch := first | assumption | exact bI_lo | exact bI_hi | exact bI_01 | (show (List.map q_wd _).sum ≤ 8; with_unfolding_all exact Nat.le_of_ble_eq_true rfl) | omega) only [kL_law_941, kL_law_942, kL_law_943, kL_law_944, kL_law_945, kL_law_946, kL_law_947, kL_law_948, kL_law_949, kL_law_950, kL_law_951, kL_law_952E, kL_law_955, kL_law_956, kL_law_957, kL_law_958, kL_law_959, kL_law_960, kL_law_961, kL_law_962, kL_law_963, kL_law_964, kL_law_965, kL_law_966E, kL_law_969, kL_law_1036, kL_law_1039, q_cut_i, q_cut_r, q_cut_l, q_cut_n, q_psh_n, q_psh_s, bI_eq0, ite_not, ↓if_pos, ↓if_neg, ↓ite_bI_t, ↓ite_bI_f, hs, s1, tc, tr, eq_self, if_true]
theorem lw_back (h : JI m t0 k X) (hk : k ≤ 511) (hbt : b < t0) (hkb : q_kd X b = (7, L)) (hs : ∀ j, q_fv X b j = qi (xi j)) (hL : 7 * k + 7 ≤ L) (hx : ∀ j, i32 (xi j)) : LNX m t0 b L xi k X 974 := by
  obtain ⟨v, X1, X2, ⟨v1, v2⟩, tc, tr, hJ, ⟨k1, s1⟩, ⟨k2, s2⟩, k12, k13⟩ := STP_use h hbt hkb hs (J_back h hk )
  have b1 : (q_kd X b).1 = 7 := by rw [hkb]
  have b2 : ((q_kd X b).2 : Int) = L := by rw [hkb]
  have b3 : (q_kd X1 b).1 = 7 := by rw [k1]
  have b4 : ((q_kd X1 b).2 : Int) = L := by rw [k1]
  have e7 : 7 * ((k + 1 : Nat) : Int) = 7 * (k : Int) + 7 := by omega
  refine ⟨X2, hJ, k2, s2, fun P => ?_⟩
  rw [e7]
  simp (disch := first | assumption | exact bI_lo | exact bI_hi | exact bI_01 | (show (List.map q_wd _).sum ≤ 8; with_unfolding_all exact Nat.le_of_ble_eq_true rfl) | omega) only [kL_law_974, kL_law_975E, kL_law_978, kL_law_979E, kL_law_982, kL_law_1036, kL_law_1039, q_cut_i, q_cut_r, q_cut_l, q_cut_n, q_psh_n, q_psh_s, bI_eq0, ite_not, ↓if_pos, ↓if_neg, ↓ite_bI_t, ↓ite_bI_f, hs, s1, tc, tr, eq_self, if_true]
theorem lw_image (h : JI m t0 k X) (hk : k ≤ 511) (hbt : b < t0) (hkb : q_kd X b = (7, L)) (hs : ∀ j, q_fv X b j = qi (xi j)) (hL : 7 * k + 7 ≤ L) (hx : ∀ j, i32 (xi j)) : LNX m t0 b L xi k X 987 := by
  obtain ⟨v, X1, X2, ⟨v1, v2⟩, tc, tr, hJ, ⟨k1, s1⟩, ⟨k2, s2⟩, k12, k13⟩ := STP_use h hbt hkb hs (J_image h hk )
  have b1 : (q_kd X b).1 = 7 := by rw [hkb]
  have b2 : ((q_kd X b).2 : Int) = L := by rw [hkb]
  have b3 : (q_kd X1 b).1 = 7 := by rw [k1]
  have b4 : ((q_kd X1 b).2 : Int) = L := by rw [k1]
  have e7 : 7 * ((k + 1 : Nat) : Int) = 7 * (k : Int) + 7 := by omega
  refine ⟨X2, hJ, k2, s2, fun P => ?_⟩
  rw [e7]
  simp (disch := first | assumption | exact bI_lo | exact bI_hi | exact bI_01 | (show (List.map q_wd _).sum ≤ 8; with_unfolding_all exact Nat.le_of_ble_eq_true rfl) | omega) only [kL_law_987, kL_law_988E, kL_law_991, kL_law_992E, kL_law_995, kL_law_1036, kL_law_1039, q_cut_i, q_cut_r, q_cut_l, q_cut_n, q_psh_n, q_psh_s, bI_eq0, ite_not, ↓if_pos, ↓if_neg, ↓ite_bI_t, ↓ite_bI_f, hs, s1, tc, tr, eq_self, if_true]
theorem lw_undo (h : JI m t0 k X) (hk : k ≤ 511) (hbt : b < t0) (hkb : q_kd X b = (7, L)) (hs : ∀ j, q_fv X b j = qi (xi j)) (hL : 7 * k + 7 ≤ L) (hx : ∀ j, i32 (xi j)) : LNX m t0 b L xi k X 1000 := by
  obtain ⟨v, X1, X2, ⟨v1, v2⟩, tc, tr, hJ, ⟨k1, s1⟩, ⟨k2, s2⟩, k12, k13⟩ := STP_use h hbt hkb hs (J_undo h hk )
  have b1 : (q_kd X b).1 = 7 := by rw [hkb]
  have b2 : ((q_kd X b).2 : Int) = L := by rw [hkb]
  have b3 : (q_kd X1 b).1 = 7 := by rw [k1]
  have b4 : ((q_kd X1 b).2 : Int) = L := by rw [k1]
  have e7 : 7 * ((k + 1 : Nat) : Int) = 7 * (k : Int) + 7 := by omega
  refine ⟨X2, hJ, k2, s2, fun P => ?_⟩
  rw [e7]
  simp (disch := first | assumption | exact bI_lo | exact bI_hi | exact bI_01 | (show (List.map q_wd _).sum ≤ 8; with_unfolding_all exact Nat.le_of_ble_eq_true rfl) | omega) only [kL_law_1000, kL_law_1001E, kL_law_1004, kL_law_1005E, kL_law_1008, kL_law_1036, kL_law_1039, q_cut_i, q_cut_r, q_cut_l, q_cut_n, q_psh_n, q_psh_s, bI_eq0, ite_not, ↓if_pos, ↓if_neg, ↓ite_bI_t, ↓ite_bI_f, hs, s1, tc, tr, eq_self, if_true]
theorem lw_count (h : JI m t0 k X) (hk : k ≤ 511) (hbt : b < t0) (hkb : q_kd X b = (7, L)) (hs : ∀ j, q_fv X b j = qi (xi j)) (hL : 7 * k + 7 ≤ L) (hx : ∀ j, i32 (xi j)) : LNX m t0 b L xi k X 1013 := by
  obtain ⟨v, X1, X2, ⟨v1, v2⟩, tc, tr, hJ, ⟨k1, s1⟩, ⟨k2, s2⟩, k12, k13⟩ := STP_use h hbt hkb hs (J_count h hk (hx (7 * (k : Int) + 1).toNat))
  have b1 : (q_kd X b).1 = 7 := by rw [hkb]
  have b2 : ((q_kd X b).2 : Int) = L := by rw [hkb]
  have b3 : (q_kd X1 b).1 = 7 := by rw [k1]
  have b4 : ((q_kd X1 b).2 : Int) = L := by rw [k1]
  have e7 : 7 * ((k + 1 : Nat) : Int) = 7 * (k : Int) + 7 := by omega
  refine ⟨X2, hJ, k2, s2, fun P => ?_⟩
  rw [e7]
  simp (disch := first | assumption | exact bI_lo | exact bI_hi | exact bI_01 | (show (List.map q_wd _).sum ≤ 8; with_unfolding_all exact Nat.le_of_ble_eq_true rfl) | omega) only [kL_law_1013, kL_law_1014, kL_law_1015, kL_law_1016, kL_law_1017, kL_law_1018, kL_law_1019E, kL_law_1022, kL_law_1023, kL_law_1024, kL_law_1025, kL_law_1026, kL_law_1027, kL_law_1028E, kL_law_1031, kL_law_1036, kL_law_1039, q_cut_i, q_cut_r, q_cut_l, q_cut_n, q_psh_n, q_psh_s, bI_eq0, ite_not, ↓if_pos, ↓if_neg, ↓ite_bI_t, ↓ite_bI_f, hs, s1, tc, tr, eq_self, if_true]
end LAWC
theorem q_and_R (a b : Int) : -2147483648 ≤ q_and a b ∧ q_and a b < 2147483648 := by
  have h1 := (Int32.ofInt a &&& Int32.ofInt b).le_toInt
  have h2 := (Int32.ofInt a &&& Int32.ofInt b).toInt_lt
  unfold q_and
  exact ⟨h1, h2⟩
