/-! the law, one operation -/
section
variable (L : Nat) (mu : RV) (p : Nat → Nat)
theorem lw_0 (h : Rel mu p) (i : Nat) (hi : i + 5 ≤ L) (hL : L ≤ 2560) : ∃ mu1 p1, Rel mu1 p1 ∧ zsem 20 192 176 [.inr (some SC), .inr (some 0), .inr (some 105), .inl (nI i)] [] (HH L mu p) = zsem 20 192 992 [.inr (some SC), .inr (some 0), .inr (some 105), .inl (nI i)] [] (HH L mu1 p1) := by
  obtain ⟨v, mu1, p1, mu2, e1, e2, h2⟩ := op_addCard 14 L mu p h (mu SC (i + 1)) (mu SC (i + 2))
  have hs := hh_sc e1
  try simp only [Nat.reduceAdd] at e1 e2
  refine ⟨mu2, p1, h2, ?_⟩
  simp (disch := first | omega | assumption) only [e192_176, e192_177, e192_178, e192_179, e192_180, h192_181, e192_182, e192_183, e192_184, e192_185, h192_186, h192_187, e192_190, e192_191, e192_192, e192_193, e192_194, h192_195, e192_196, e192_197, e192_198, e192_199, h192_200, h192_201, e192_204, e192_207, e192_208, Option.bind_some, Option.toList_some, Option.toList_none, List.cons_append, List.nil_append, nI_ltc, nI_lec, nI_eqc, nI_ne5, n5_ne, n5_lt, bI_0, bI_1, nI_add, pk_mul, if_pos, if_neg, ite_not, if_true, if_false, not_true_eq_false, not_false_eq_true, true_and, false_and, and_true, and_false, Nat.reduceAdd, Nat.reduceMul, e1, hs, e2]
theorem lw_1 (h : Rel mu p) (i : Nat) (hi : i + 5 ≤ L) (hL : L ≤ 2560) : ∃ mu1 p1, Rel mu1 p1 ∧ zsem 20 192 209 [.inr (some SC), .inr (some 0), .inr (some 105), .inl (nI i)] [] (HH L mu p) = zsem 20 192 992 [.inr (some SC), .inr (some 0), .inr (some 105), .inl (nI i)] [] (HH L mu1 p1) := by
  obtain ⟨v, mu1, p1, mu2, e1, e2, h2⟩ := op_addBridge 14 L mu p h (mu SC (i + 1)) (mu SC (i + 2))
  have hs := hh_sc e1
  try simp only [Nat.reduceAdd] at e1 e2
  refine ⟨mu2, p1, h2, ?_⟩
  simp (disch := first | omega | assumption) only [e192_209, e192_210, e192_211, e192_212, e192_213, h192_214, e192_215, e192_216, e192_217, e192_218, h192_219, h192_220, e192_223, e192_224, e192_225, e192_226, e192_227, h192_228, e192_229, e192_230, e192_231, e192_232, h192_233, h192_234, e192_237, e192_240, e192_241, Option.bind_some, Option.toList_some, Option.toList_none, List.cons_append, List.nil_append, nI_ltc, nI_lec, nI_eqc, nI_ne5, n5_ne, n5_lt, bI_0, bI_1, nI_add, pk_mul, if_pos, if_neg, ite_not, if_true, if_false, not_true_eq_false, not_false_eq_true, true_and, false_and, and_true, and_false, Nat.reduceAdd, Nat.reduceMul, e1, hs, e2]
theorem lw_2 (h : Rel mu p) (i : Nat) (hi : i + 5 ≤ L) (hL : L ≤ 2560) : ∃ mu1 p1, Rel mu1 p1 ∧ zsem 20 192 242 [.inr (some SC), .inr (some 0), .inr (some 105), .inl (nI i)] [] (HH L mu p) = zsem 20 192 992 [.inr (some SC), .inr (some 0), .inr (some 105), .inl (nI i)] [] (HH L mu1 p1) := by
  obtain ⟨v, mu1, p1, mu2, e1, e2, h2⟩ := op_setRegion 14 L mu p h (mu SC (i + 1)) (mu SC (i + 2)) (mu SC (i + 3)) (mu SC (i + 4))
  have hs := hh_sc e1
  try simp only [Nat.reduceAdd] at e1 e2
  refine ⟨mu2, p1, h2, ?_⟩
  simp (disch := first | omega | assumption) only [e192_242, e192_243, e192_244, e192_245, e192_246, h192_247, e192_248, e192_249, e192_250, e192_251, h192_252, e192_253, e192_254, e192_255, e192_256, h192_257, e192_258, e192_259, e192_260, e192_261, h192_262, h192_263, e192_266, e192_267, e192_268, e192_269, e192_270, h192_271, e192_272, e192_273, e192_274, e192_275, h192_276, e192_277, e192_278, e192_279, e192_280, h192_281, e192_282, e192_283, e192_284, e192_285, h192_286, h192_287, e192_290, e192_293, e192_294, Option.bind_some, Option.toList_some, Option.toList_none, List.cons_append, List.nil_append, nI_ltc, nI_lec, nI_eqc, nI_ne5, n5_ne, n5_lt, bI_0, bI_1, nI_add, pk_mul, if_pos, if_neg, ite_not, if_true, if_false, not_true_eq_false, not_false_eq_true, true_and, false_and, and_true, and_false, Nat.reduceAdd, Nat.reduceMul, e1, hs, e2]
theorem lw_3 (h : Rel mu p) (i : Nat) (hi : i + 5 ≤ L) (hL : L ≤ 2560) : ∃ mu1 p1, Rel mu1 p1 ∧ zsem 20 192 295 [.inr (some SC), .inr (some 0), .inr (some 105), .inl (nI i)] [] (HH L mu p) = zsem 20 192 992 [.inr (some SC), .inr (some 0), .inr (some 105), .inl (nI i)] [] (HH L mu1 p1) := by
  obtain ⟨v, mu1, p1, mu2, e1, e2, h2⟩ := op_setReserve 15 L mu p h (mu SC (i + 1)) (mu SC (i + 2)) (mu SC (i + 3))
  have hs := hh_sc e1
  try simp only [Nat.reduceAdd] at e1 e2
  refine ⟨mu2, p1, h2, ?_⟩
  simp (disch := first | omega | assumption) only [e192_295, e192_296, e192_297, e192_298, e192_299, h192_300, e192_301, e192_302, e192_303, e192_304, h192_305, e192_306, e192_307, e192_308, e192_309, h192_310, h192_311, e192_314, e192_315, e192_316, e192_317, e192_318, h192_319, e192_320, e192_321, e192_322, e192_323, h192_324, e192_325, e192_326, e192_327, e192_328, h192_329, h192_330, e192_333, e192_336, e192_337, Option.bind_some, Option.toList_some, Option.toList_none, List.cons_append, List.nil_append, nI_ltc, nI_lec, nI_eqc, nI_ne5, n5_ne, n5_lt, bI_0, bI_1, nI_add, pk_mul, if_pos, if_neg, ite_not, if_true, if_false, not_true_eq_false, not_false_eq_true, true_and, false_and, and_true, and_false, Nat.reduceAdd, Nat.reduceMul, e1, hs, e2]
theorem lw_4 (h : Rel mu p) (i : Nat) (hi : i + 5 ≤ L) (hL : L ≤ 2560) : ∃ mu1 p1, Rel mu1 p1 ∧ zsem 20 192 338 [.inr (some SC), .inr (some 0), .inr (some 105), .inl (nI i)] [] (HH L mu p) = zsem 20 192 992 [.inr (some SC), .inr (some 0), .inr (some 105), .inl (nI i)] [] (HH L mu1 p1) := by
  obtain ⟨v, mu1, p1, mu2, e1, e2, h2⟩ := op_setGap 17 L mu p h (mu SC (i + 1))
  have hs := hh_sc e1
  try simp only [Nat.reduceAdd] at e1 e2
  refine ⟨mu2, p1, h2, ?_⟩
  simp (disch := first | omega | assumption) only [e192_338, e192_339, e192_340, e192_341, e192_342, h192_343, h192_344, e192_347, e192_348, e192_349, e192_350, e192_351, h192_352, h192_353, e192_356, e192_359, e192_360, Option.bind_some, Option.toList_some, Option.toList_none, List.cons_append, List.nil_append, nI_ltc, nI_lec, nI_eqc, nI_ne5, n5_ne, n5_lt, bI_0, bI_1, nI_add, pk_mul, if_pos, if_neg, ite_not, if_true, if_false, not_true_eq_false, not_false_eq_true, true_and, false_and, and_true, and_false, Nat.reduceAdd, Nat.reduceMul, e1, hs, e2]
theorem lw_5 (h : Rel mu p) (i : Nat) (hi : i + 5 ≤ L) (hL : L ≤ 2560) : ∃ mu1 p1, Rel mu1 p1 ∧ zsem 20 192 361 [.inr (some SC), .inr (some 0), .inr (some 105), .inl (nI i)] [] (HH L mu p) = zsem 20 192 992 [.inr (some SC), .inr (some 0), .inr (some 105), .inl (nI i)] [] (HH L mu1 p1) := by
  obtain ⟨v, mu1, p1, mu2, e1, e2, h2⟩ := op_pull 15 L mu p h (mu SC (i + 1))
  have hs := hh_sc e1
  try simp only [Nat.reduceAdd] at e1 e2
  refine ⟨mu2, p1, h2, ?_⟩
  simp (disch := first | omega | assumption) only [e192_361, e192_362, e192_363, e192_364, e192_365, h192_366, h192_367, e192_370, e192_371, e192_372, e192_373, e192_374, h192_375, h192_376, e192_379, e192_382, e192_383, Option.bind_some, Option.toList_some, Option.toList_none, List.cons_append, List.nil_append, nI_ltc, nI_lec, nI_eqc, nI_ne5, n5_ne, n5_lt, bI_0, bI_1, nI_add, pk_mul, if_pos, if_neg, ite_not, if_true, if_false, not_true_eq_false, not_false_eq_true, true_and, false_and, and_true, and_false, Nat.reduceAdd, Nat.reduceMul, e1, hs, e2]
theorem lw_6 (h : Rel mu p) (i : Nat) (hi : i + 5 ≤ L) (hL : L ≤ 2560) : ∃ mu1 p1, Rel mu1 p1 ∧ zsem 20 192 384 [.inr (some SC), .inr (some 0), .inr (some 105), .inl (nI i)] [] (HH L mu p) = zsem 20 192 992 [.inr (some SC), .inr (some 0), .inr (some 105), .inl (nI i)] [] (HH L mu1 p1) := by
  obtain ⟨v, mu1, p1, mu2, e1, e2, h2⟩ := op_enumerate 11 L mu p h 
  have hs := hh_sc e1
  try simp only [Nat.reduceAdd] at e1 e2
  refine ⟨mu2, p1, h2, ?_⟩
  simp (disch := first | omega | assumption) only [e192_384, h192_385, e192_388, h192_389, e192_392, e192_395, e192_396, Option.bind_some, Option.toList_some, Option.toList_none, List.cons_append, List.nil_append, nI_ltc, nI_lec, nI_eqc, nI_ne5, n5_ne, n5_lt, bI_0, bI_1, nI_add, pk_mul, if_pos, if_neg, ite_not, if_true, if_false, not_true_eq_false, not_false_eq_true, true_and, false_and, and_true, and_false, Nat.reduceAdd, Nat.reduceMul, e1, hs, e2]
theorem lw_7 (h : Rel mu p) (i : Nat) (hi : i + 5 ≤ L) (hL : L ≤ 2560) : ∃ mu1 p1, Rel mu1 p1 ∧ zsem 20 192 397 [.inr (some SC), .inr (some 0), .inr (some 105), .inl (nI i)] [] (HH L mu p) = zsem 20 192 992 [.inr (some SC), .inr (some 0), .inr (some 105), .inl (nI i)] [] (HH L mu1 p1) := by
  obtain ⟨v, mu1, p1, mu2, e1, e2, h2⟩ := op_attach 12 L mu p h (mu SC (i + 1))
  have hs := hh_sc e1
  try simp only [Nat.reduceAdd] at e1 e2
  refine ⟨mu2, p1, h2, ?_⟩
  simp (disch := first | omega | assumption) only [e192_397, e192_398, e192_399, e192_400, e192_401, h192_402, h192_403, e192_406, e192_407, e192_408, e192_409, e192_410, h192_411, h192_412, e192_415, e192_418, e192_419, Option.bind_some, Option.toList_some, Option.toList_none, List.cons_append, List.nil_append, nI_ltc, nI_lec, nI_eqc, nI_ne5, n5_ne, n5_lt, bI_0, bI_1, nI_add, pk_mul, if_pos, if_neg, ite_not, if_true, if_false, not_true_eq_false, not_false_eq_true, true_and, false_and, and_true, and_false, Nat.reduceAdd, Nat.reduceMul, e1, hs, e2]
theorem lw_8 (h : Rel mu p) (i : Nat) (hi : i + 5 ≤ L) (hL : L ≤ 2560) : ∃ mu1 p1, Rel mu1 p1 ∧ zsem 20 192 420 [.inr (some SC), .inr (some 0), .inr (some 105), .inl (nI i)] [] (HH L mu p) = zsem 20 192 992 [.inr (some SC), .inr (some 0), .inr (some 105), .inl (nI i)] [] (HH L mu1 p1) := by
  obtain ⟨v, mu1, p1, mu2, e1, e2, h2⟩ := op_detach 15 L mu p h (mu SC (i + 1))
  have hs := hh_sc e1
  try simp only [Nat.reduceAdd] at e1 e2
  refine ⟨mu2, p1, h2, ?_⟩
  simp (disch := first | omega | assumption) only [e192_420, e192_421, e192_422, e192_423, e192_424, h192_425, h192_426, e192_429, e192_430, e192_431, e192_432, e192_433, h192_434, h192_435, e192_438, e192_441, e192_442, Option.bind_some, Option.toList_some, Option.toList_none, List.cons_append, List.nil_append, nI_ltc, nI_lec, nI_eqc, nI_ne5, n5_ne, n5_lt, bI_0, bI_1, nI_add, pk_mul, if_pos, if_neg, ite_not, if_true, if_false, not_true_eq_false, not_false_eq_true, true_and, false_and, and_true, and_false, Nat.reduceAdd, Nat.reduceMul, e1, hs, e2]
theorem lw_9 (h : Rel mu p) (i : Nat) (hi : i + 5 ≤ L) (hL : L ≤ 2560) : ∃ mu1 p1, Rel mu1 p1 ∧ zsem 20 192 443 [.inr (some SC), .inr (some 0), .inr (some 105), .inl (nI i)] [] (HH L mu p) = zsem 20 192 992 [.inr (some SC), .inr (some 0), .inr (some 105), .inl (nI i)] [] (HH L mu1 p1) := by
  obtain ⟨v, mu1, p1, mu2, e1, e2, h2⟩ := op_append 17 L mu p h (mu SC (i + 1))
  have hs := hh_sc e1
  try simp only [Nat.reduceAdd] at e1 e2
  refine ⟨mu2, p1, h2, ?_⟩
  simp (disch := first | omega | assumption) only [e192_443, e192_444, e192_445, e192_446, e192_447, h192_448, h192_449, e192_452, e192_453, e192_454, e192_455, e192_456, h192_457, h192_458, e192_461, e192_464, e192_465, Option.bind_some, Option.toList_some, Option.toList_none, List.cons_append, List.nil_append, nI_ltc, nI_lec, nI_eqc, nI_ne5, n5_ne, n5_lt, bI_0, bI_1, nI_add, pk_mul, if_pos, if_neg, ite_not, if_true, if_false, not_true_eq_false, not_false_eq_true, true_and, false_and, and_true, and_false, Nat.reduceAdd, Nat.reduceMul, e1, hs, e2]
theorem lw_10 (h : Rel mu p) (i : Nat) (hi : i + 5 ≤ L) (hL : L ≤ 2560) : ∃ mu1 p1, Rel mu1 p1 ∧ zsem 20 192 466 [.inr (some SC), .inr (some 0), .inr (some 105), .inl (nI i)] [] (HH L mu p) = zsem 20 192 992 [.inr (some SC), .inr (some 0), .inr (some 105), .inl (nI i)] [] (HH L mu1 p1) := by
  obtain ⟨v, mu1, p1, mu2, e1, e2, h2⟩ := op_clearText 19 L mu p h 
  have hs := hh_sc e1
  try simp only [Nat.reduceAdd] at e1 e2
  refine ⟨mu2, p1, h2, ?_⟩
  simp (disch := first | omega | assumption) only [e192_466, h192_467, e192_470, h192_471, e192_474, e192_477, e192_478, Option.bind_some, Option.toList_some, Option.toList_none, List.cons_append, List.nil_append, nI_ltc, nI_lec, nI_eqc, nI_ne5, n5_ne, n5_lt, bI_0, bI_1, nI_add, pk_mul, if_pos, if_neg, ite_not, if_true, if_false, not_true_eq_false, not_false_eq_true, true_and, false_and, and_true, and_false, Nat.reduceAdd, Nat.reduceMul, e1, hs, e2]
theorem lw_11 (h : Rel mu p) (i : Nat) (hi : i + 5 ≤ L) (hL : L ≤ 2560) : ∃ mu1 p1, Rel mu1 p1 ∧ zsem 20 192 479 [.inr (some SC), .inr (some 0), .inr (some 105), .inl (nI i)] [] (HH L mu p) = zsem 20 192 992 [.inr (some SC), .inr (some 0), .inr (some 105), .inl (nI i)] [] (HH L mu1 p1) := by
  obtain ⟨v, mu1, p1, mu2, e1, e2, h2⟩ := op_fault 14 L mu p h 
  have hs := hh_sc e1
  try simp only [Nat.reduceAdd] at e1 e2
  refine ⟨mu2, p1, h2, ?_⟩
  simp (disch := first | omega | assumption) only [e192_479, h192_480, e192_483, h192_484, e192_487, e192_490, e192_491, Option.bind_some, Option.toList_some, Option.toList_none, List.cons_append, List.nil_append, nI_ltc, nI_lec, nI_eqc, nI_ne5, n5_ne, n5_lt, bI_0, bI_1, nI_add, pk_mul, if_pos, if_neg, ite_not, if_true, if_false, not_true_eq_false, not_false_eq_true, true_and, false_and, and_true, and_false, Nat.reduceAdd, Nat.reduceMul, e1, hs, e2]
theorem lw_12 (h : Rel mu p) (i : Nat) (hi : i + 5 ≤ L) (hL : L ≤ 2560) : ∃ mu1 p1, Rel mu1 p1 ∧ zsem 20 192 492 [.inr (some SC), .inr (some 0), .inr (some 105), .inl (nI i)] [] (HH L mu p) = zsem 20 192 992 [.inr (some SC), .inr (some 0), .inr (some 105), .inl (nI i)] [] (HH L mu1 p1) := by
  obtain ⟨v, mu1, p1, mu2, e1, e2, h2⟩ := op_load 13 L mu p h 
  have hs := hh_sc e1
  try simp only [Nat.reduceAdd] at e1 e2
  refine ⟨mu2, p1, h2, ?_⟩
  simp (disch := first | omega | assumption) only [e192_492, h192_493, e192_496, h192_497, e192_500, e192_503, e192_504, Option.bind_some, Option.toList_some, Option.toList_none, List.cons_append, List.nil_append, nI_ltc, nI_lec, nI_eqc, nI_ne5, n5_ne, n5_lt, bI_0, bI_1, nI_add, pk_mul, if_pos, if_neg, ite_not, if_true, if_false, not_true_eq_false, not_false_eq_true, true_and, false_and, and_true, and_false, Nat.reduceAdd, Nat.reduceMul, e1, hs, e2]
theorem lw_13 (h : Rel mu p) (i : Nat) (hi : i + 5 ≤ L) (hL : L ≤ 2560) : ∃ mu1 p1, Rel mu1 p1 ∧ zsem 20 192 505 [.inr (some SC), .inr (some 0), .inr (some 105), .inl (nI i)] [] (HH L mu p) = zsem 20 192 992 [.inr (some SC), .inr (some 0), .inr (some 105), .inl (nI i)] [] (HH L mu1 p1) := by
  obtain ⟨v, mu1, p1, mu2, e1, e2, h2⟩ := op_undo 17 L mu p h 
  have hs := hh_sc e1
  try simp only [Nat.reduceAdd] at e1 e2
  refine ⟨mu2, p1, h2, ?_⟩
  simp (disch := first | omega | assumption) only [e192_505, h192_506, e192_509, h192_510, e192_513, e192_516, e192_517, Option.bind_some, Option.toList_some, Option.toList_none, List.cons_append, List.nil_append, nI_ltc, nI_lec, nI_eqc, nI_ne5, n5_ne, n5_lt, bI_0, bI_1, nI_add, pk_mul, if_pos, if_neg, ite_not, if_true, if_false, not_true_eq_false, not_false_eq_true, true_and, false_and, and_true, and_false, Nat.reduceAdd, Nat.reduceMul, e1, hs, e2]
theorem lw_14 (h : Rel mu p) (i : Nat) (hi : i + 5 ≤ L) (hL : L ≤ 2560) : ∃ mu1 p1, Rel mu1 p1 ∧ zsem 20 192 518 [.inr (some SC), .inr (some 0), .inr (some 105), .inl (nI i)] [] (HH L mu p) = zsem 20 192 992 [.inr (some SC), .inr (some 0), .inr (some 105), .inl (nI i)] [] (HH L mu1 p1) := by
  obtain ⟨v, mu1, p1, mu2, e1, e2, h2⟩ := op_save 16 L mu p h 
  have hs := hh_sc e1
  try simp only [Nat.reduceAdd] at e1 e2
  refine ⟨mu2, p1, h2, ?_⟩
  simp (disch := first | omega | assumption) only [e192_518, h192_519, e192_522, h192_523, e192_526, e192_529, e192_530, Option.bind_some, Option.toList_some, Option.toList_none, List.cons_append, List.nil_append, nI_ltc, nI_lec, nI_eqc, nI_ne5, n5_ne, n5_lt, bI_0, bI_1, nI_add, pk_mul, if_pos, if_neg, ite_not, if_true, if_false, not_true_eq_false, not_false_eq_true, true_and, false_and, and_true, and_false, Nat.reduceAdd, Nat.reduceMul, e1, hs, e2]
theorem lw_15 (h : Rel mu p) (i : Nat) (hi : i + 5 ≤ L) (hL : L ≤ 2560) : ∃ mu1 p1, Rel mu1 p1 ∧ zsem 20 192 531 [.inr (some SC), .inr (some 0), .inr (some 105), .inl (nI i)] [] (HH L mu p) = zsem 20 192 992 [.inr (some SC), .inr (some 0), .inr (some 105), .inl (nI i)] [] (HH L mu1 p1) := by
  obtain ⟨v, mu1, p1, mu2, e1, e2, h2⟩ := op_restore 16 L mu p h 
  have hs := hh_sc e1
  try simp only [Nat.reduceAdd] at e1 e2
  refine ⟨mu2, p1, h2, ?_⟩
  simp (disch := first | omega | assumption) only [e192_531, h192_532, e192_535, h192_536, e192_539, e192_542, e192_543, Option.bind_some, Option.toList_some, Option.toList_none, List.cons_append, List.nil_append, nI_ltc, nI_lec, nI_eqc, nI_ne5, n5_ne, n5_lt, bI_0, bI_1, nI_add, pk_mul, if_pos, if_neg, ite_not, if_true, if_false, not_true_eq_false, not_false_eq_true, true_and, false_and, and_true, and_false, Nat.reduceAdd, Nat.reduceMul, e1, hs, e2]
theorem lw_16 (h : Rel mu p) (i : Nat) (hi : i + 5 ≤ L) (hL : L ≤ 2560) : ∃ mu1 p1, Rel mu1 p1 ∧ zsem 20 192 544 [.inr (some SC), .inr (some 0), .inr (some 105), .inl (nI i)] [] (HH L mu p) = zsem 20 192 992 [.inr (some SC), .inr (some 0), .inr (some 105), .inl (nI i)] [] (HH L mu1 p1) := by
  obtain ⟨v, mu1, p1, mu2, e1, e2, h2⟩ := op_devices 16 L mu p h 
  have hs := hh_sc e1
  try simp only [Nat.reduceAdd] at e1 e2
  refine ⟨mu2, p1, h2, ?_⟩
  simp (disch := first | omega | assumption) only [e192_544, h192_545, e192_548, h192_549, e192_552, e192_555, e192_556, Option.bind_some, Option.toList_some, Option.toList_none, List.cons_append, List.nil_append, nI_ltc, nI_lec, nI_eqc, nI_ne5, n5_ne, n5_lt, bI_0, bI_1, nI_add, pk_mul, if_pos, if_neg, ite_not, if_true, if_false, not_true_eq_false, not_false_eq_true, true_and, false_and, and_true, and_false, Nat.reduceAdd, Nat.reduceMul, e1, hs, e2]
theorem lw_17 (h : Rel mu p) (i : Nat) (hi : i + 5 ≤ L) (hL : L ≤ 2560) : ∃ mu1 p1, Rel mu1 p1 ∧ zsem 20 192 557 [.inr (some SC), .inr (some 0), .inr (some 105), .inl (nI i)] [] (HH L mu p) = zsem 20 192 992 [.inr (some SC), .inr (some 0), .inr (some 105), .inl (nI i)] [] (HH L mu1 p1) := by
  obtain ⟨v, mu1, p1, mu2, e1, e2, h2⟩ := op_bridges 16 L mu p h 
  have hs := hh_sc e1
  try simp only [Nat.reduceAdd] at e1 e2
  refine ⟨mu2, p1, h2, ?_⟩
  simp (disch := first | omega | assumption) only [e192_557, h192_558, e192_561, h192_562, e192_565, e192_568, e192_569, Option.bind_some, Option.toList_some, Option.toList_none, List.cons_append, List.nil_append, nI_ltc, nI_lec, nI_eqc, nI_ne5, n5_ne, n5_lt, bI_0, bI_1, nI_add, pk_mul, if_pos, if_neg, ite_not, if_true, if_false, not_true_eq_false, not_false_eq_true, true_and, false_and, and_true, and_false, Nat.reduceAdd, Nat.reduceMul, e1, hs, e2]
theorem lw_18 (h : Rel mu p) (i : Nat) (hi : i + 5 ≤ L) (hL : L ≤ 2560) : ∃ mu1 p1, Rel mu1 p1 ∧ zsem 20 192 570 [.inr (some SC), .inr (some 0), .inr (some 105), .inl (nI i)] [] (HH L mu p) = zsem 20 192 992 [.inr (some SC), .inr (some 0), .inr (some 105), .inl (nI i)] [] (HH L mu1 p1) := by
  obtain ⟨v, mu1, p1, mu2, e1, e2, h2⟩ := op_deviceIn 15 L mu p h (mu SC (i + 1)) (mu SC (i + 2))
  have hs := hh_sc e1
  try simp only [Nat.reduceAdd] at e1 e2
  refine ⟨mu2, p1, h2, ?_⟩
  simp (disch := first | omega | assumption) only [e192_570, e192_571, e192_572, e192_573, e192_574, h192_575, e192_576, e192_577, e192_578, e192_579, h192_580, h192_581, e192_584, e192_585, e192_586, e192_587, e192_588, h192_589, e192_590, e192_591, e192_592, e192_593, h192_594, h192_595, e192_598, e192_601, e192_602, Option.bind_some, Option.toList_some, Option.toList_none, List.cons_append, List.nil_append, nI_ltc, nI_lec, nI_eqc, nI_ne5, n5_ne, n5_lt, bI_0, bI_1, nI_add, pk_mul, if_pos, if_neg, ite_not, if_true, if_false, not_true_eq_false, not_false_eq_true, true_and, false_and, and_true, and_false, Nat.reduceAdd, Nat.reduceMul, e1, hs, e2]
theorem lw_19 (h : Rel mu p) (i : Nat) (hi : i + 5 ≤ L) (hL : L ≤ 2560) : ∃ mu1 p1, Rel mu1 p1 ∧ zsem 20 192 603 [.inr (some SC), .inr (some 0), .inr (some 105), .inl (nI i)] [] (HH L mu p) = zsem 20 192 992 [.inr (some SC), .inr (some 0), .inr (some 105), .inl (nI i)] [] (HH L mu1 p1) := by
  obtain ⟨v, mu1, p1, mu2, e1, e2, h2⟩ := op_depth 17 L mu p h (mu SC (i + 1))
  have hs := hh_sc e1
  try simp only [Nat.reduceAdd] at e1 e2
  refine ⟨mu2, p1, h2, ?_⟩
  simp (disch := first | omega | assumption) only [e192_603, e192_604, e192_605, e192_606, e192_607, h192_608, h192_609, e192_612, e192_613, e192_614, e192_615, e192_616, h192_617, h192_618, e192_621, e192_624, e192_625, Option.bind_some, Option.toList_some, Option.toList_none, List.cons_append, List.nil_append, nI_ltc, nI_lec, nI_eqc, nI_ne5, n5_ne, n5_lt, bI_0, bI_1, nI_add, pk_mul, if_pos, if_neg, ite_not, if_true, if_false, not_true_eq_false, not_false_eq_true, true_and, false_and, and_true, and_false, Nat.reduceAdd, Nat.reduceMul, e1, hs, e2]
theorem lw_20 (h : Rel mu p) (i : Nat) (hi : i + 5 ≤ L) (hL : L ≤ 2560) : ∃ mu1 p1, Rel mu1 p1 ∧ zsem 20 192 626 [.inr (some SC), .inr (some 0), .inr (some 105), .inl (nI i)] [] (HH L mu p) = zsem 20 192 992 [.inr (some SC), .inr (some 0), .inr (some 105), .inl (nI i)] [] (HH L mu1 p1) := by
  obtain ⟨v, mu1, p1, mu2, e1, e2, h2⟩ := op_size 15 L mu p h (mu SC (i + 1)) (mu SC (i + 2))
  have hs := hh_sc e1
  try simp only [Nat.reduceAdd] at e1 e2
  refine ⟨mu2, p1, h2, ?_⟩
  simp (disch := first | omega | assumption) only [e192_626, e192_627, e192_628, e192_629, e192_630, h192_631, e192_632, e192_633, e192_634, e192_635, h192_636, h192_637, e192_640, e192_641, e192_642, e192_643, e192_644, h192_645, e192_646, e192_647, e192_648, e192_649, h192_650, h192_651, e192_654, e192_657, e192_658, Option.bind_some, Option.toList_some, Option.toList_none, List.cons_append, List.nil_append, nI_ltc, nI_lec, nI_eqc, nI_ne5, n5_ne, n5_lt, bI_0, bI_1, nI_add, pk_mul, if_pos, if_neg, ite_not, if_true, if_false, not_true_eq_false, not_false_eq_true, true_and, false_and, and_true, and_false, Nat.reduceAdd, Nat.reduceMul, e1, hs, e2]
theorem lw_21 (h : Rel mu p) (i : Nat) (hi : i + 5 ≤ L) (hL : L ≤ 2560) : ∃ mu1 p1, Rel mu1 p1 ∧ zsem 20 192 659 [.inr (some SC), .inr (some 0), .inr (some 105), .inl (nI i)] [] (HH L mu p) = zsem 20 192 992 [.inr (some SC), .inr (some 0), .inr (some 105), .inl (nI i)] [] (HH L mu1 p1) := by
  obtain ⟨v, mu1, p1, mu2, e1, e2, h2⟩ := op_base 15 L mu p h (mu SC (i + 1)) (mu SC (i + 2))
  have hs := hh_sc e1
  try simp only [Nat.reduceAdd] at e1 e2
  refine ⟨mu2, p1, h2, ?_⟩
  simp (disch := first | omega | assumption) only [e192_659, e192_660, e192_661, e192_662, e192_663, h192_664, e192_665, e192_666, e192_667, e192_668, h192_669, h192_670, e192_673, e192_674, e192_675, e192_676, e192_677, h192_678, e192_679, e192_680, e192_681, e192_682, h192_683, h192_684, e192_687, e192_690, e192_691, Option.bind_some, Option.toList_some, Option.toList_none, List.cons_append, List.nil_append, nI_ltc, nI_lec, nI_eqc, nI_ne5, n5_ne, n5_lt, bI_0, bI_1, nI_add, pk_mul, if_pos, if_neg, ite_not, if_true, if_false, not_true_eq_false, not_false_eq_true, true_and, false_and, and_true, and_false, Nat.reduceAdd, Nat.reduceMul, e1, hs, e2]
theorem lw_22 (h : Rel mu p) (i : Nat) (hi : i + 5 ≤ L) (hL : L ≤ 2560) : ∃ mu1 p1, Rel mu1 p1 ∧ zsem 20 192 692 [.inr (some SC), .inr (some 0), .inr (some 105), .inl (nI i)] [] (HH L mu p) = zsem 20 192 992 [.inr (some SC), .inr (some 0), .inr (some 105), .inl (nI i)] [] (HH L mu1 p1) := by
  obtain ⟨v, mu1, p1, mu2, e1, e2, h2⟩ := op_firstNumber 16 L mu p h (mu SC (i + 1))
  have hs := hh_sc e1
  try simp only [Nat.reduceAdd] at e1 e2
  refine ⟨mu2, p1, h2, ?_⟩
  simp (disch := first | omega | assumption) only [e192_692, e192_693, e192_694, e192_695, e192_696, h192_697, h192_698, e192_701, e192_702, e192_703, e192_704, e192_705, h192_706, h192_707, e192_710, e192_713, e192_714, Option.bind_some, Option.toList_some, Option.toList_none, List.cons_append, List.nil_append, nI_ltc, nI_lec, nI_eqc, nI_ne5, n5_ne, n5_lt, bI_0, bI_1, nI_add, pk_mul, if_pos, if_neg, ite_not, if_true, if_false, not_true_eq_false, not_false_eq_true, true_and, false_and, and_true, and_false, Nat.reduceAdd, Nat.reduceMul, e1, hs, e2]
theorem lw_23 (h : Rel mu p) (i : Nat) (hi : i + 5 ≤ L) (hL : L ≤ 2560) : ∃ mu1 p1, Rel mu1 p1 ∧ zsem 20 192 715 [.inr (some SC), .inr (some 0), .inr (some 105), .inl (nI i)] [] (HH L mu p) = zsem 20 192 992 [.inr (some SC), .inr (some 0), .inr (some 105), .inl (nI i)] [] (HH L mu1 p1) := by
  obtain ⟨v, mu1, p1, mu2, e1, e2, h2⟩ := op_lastNumber 16 L mu p h (mu SC (i + 1))
  have hs := hh_sc e1
  try simp only [Nat.reduceAdd] at e1 e2
  refine ⟨mu2, p1, h2, ?_⟩
  simp (disch := first | omega | assumption) only [e192_715, e192_716, e192_717, e192_718, e192_719, h192_720, h192_721, e192_724, e192_725, e192_726, e192_727, e192_728, h192_729, h192_730, e192_733, e192_736, e192_737, Option.bind_some, Option.toList_some, Option.toList_none, List.cons_append, List.nil_append, nI_ltc, nI_lec, nI_eqc, nI_ne5, n5_ne, n5_lt, bI_0, bI_1, nI_add, pk_mul, if_pos, if_neg, ite_not, if_true, if_false, not_true_eq_false, not_false_eq_true, true_and, false_and, and_true, and_false, Nat.reduceAdd, Nat.reduceMul, e1, hs, e2]
theorem lw_24 (h : Rel mu p) (i : Nat) (hi : i + 5 ≤ L) (hL : L ≤ 2560) : ∃ mu1 p1, Rel mu1 p1 ∧ zsem 20 192 738 [.inr (some SC), .inr (some 0), .inr (some 105), .inl (nI i)] [] (HH L mu p) = zsem 20 192 992 [.inr (some SC), .inr (some 0), .inr (some 105), .inl (nI i)] [] (HH L mu1 p1) := by
  obtain ⟨v, mu1, p1, mu2, e1, e2, h2⟩ := op_windowBase 16 L mu p h (mu SC (i + 1)) (mu SC (i + 2))
  have hs := hh_sc e1
  try simp only [Nat.reduceAdd] at e1 e2
  refine ⟨mu2, p1, h2, ?_⟩
  simp (disch := first | omega | assumption) only [e192_738, e192_739, e192_740, e192_741, e192_742, h192_743, e192_744, e192_745, e192_746, e192_747, h192_748, h192_749, e192_752, e192_753, e192_754, e192_755, e192_756, h192_757, e192_758, e192_759, e192_760, e192_761, h192_762, h192_763, e192_766, e192_769, e192_770, Option.bind_some, Option.toList_some, Option.toList_none, List.cons_append, List.nil_append, nI_ltc, nI_lec, nI_eqc, nI_ne5, n5_ne, n5_lt, bI_0, bI_1, nI_add, pk_mul, if_pos, if_neg, ite_not, if_true, if_false, not_true_eq_false, not_false_eq_true, true_and, false_and, and_true, and_false, Nat.reduceAdd, Nat.reduceMul, e1, hs, e2]
theorem lw_25 (h : Rel mu p) (i : Nat) (hi : i + 5 ≤ L) (hL : L ≤ 2560) : ∃ mu1 p1, Rel mu1 p1 ∧ zsem 20 192 771 [.inr (some SC), .inr (some 0), .inr (some 105), .inl (nI i)] [] (HH L mu p) = zsem 20 192 992 [.inr (some SC), .inr (some 0), .inr (some 105), .inl (nI i)] [] (HH L mu1 p1) := by
  obtain ⟨v, mu1, p1, mu2, e1, e2, h2⟩ := op_windowSize 16 L mu p h (mu SC (i + 1)) (mu SC (i + 2))
  have hs := hh_sc e1
  try simp only [Nat.reduceAdd] at e1 e2
  refine ⟨mu2, p1, h2, ?_⟩
  simp (disch := first | omega | assumption) only [e192_771, e192_772, e192_773, e192_774, e192_775, h192_776, e192_777, e192_778, e192_779, e192_780, h192_781, h192_782, e192_785, e192_786, e192_787, e192_788, e192_789, h192_790, e192_791, e192_792, e192_793, e192_794, h192_795, h192_796, e192_799, e192_802, e192_803, Option.bind_some, Option.toList_some, Option.toList_none, List.cons_append, List.nil_append, nI_ltc, nI_lec, nI_eqc, nI_ne5, n5_ne, n5_lt, bI_0, bI_1, nI_add, pk_mul, if_pos, if_neg, ite_not, if_true, if_false, not_true_eq_false, not_false_eq_true, true_and, false_and, and_true, and_false, Nat.reduceAdd, Nat.reduceMul, e1, hs, e2]
theorem lw_26 (h : Rel mu p) (i : Nat) (hi : i + 5 ≤ L) (hL : L ≤ 2560) : ∃ mu1 p1, Rel mu1 p1 ∧ zsem 20 192 804 [.inr (some SC), .inr (some 0), .inr (some 105), .inl (nI i)] [] (HH L mu p) = zsem 20 192 992 [.inr (some SC), .inr (some 0), .inr (some 105), .inl (nI i)] [] (HH L mu1 p1) := by
  obtain ⟨v, mu1, p1, mu2, e1, e2, h2⟩ := op_need 14 L p mu h (mu SC (i + 1)) (mu SC (i + 2))
  have hs := hh_sc e1
  try simp only [Nat.reduceAdd] at e1 e2
  refine ⟨mu2, p1, h2, ?_⟩
  simp (disch := first | omega | assumption) only [e192_804, e192_805, e192_806, e192_807, e192_808, h192_809, e192_810, e192_811, e192_812, e192_813, h192_814, h192_815, e192_818, e192_819, e192_820, e192_821, e192_822, h192_823, e192_824, e192_825, e192_826, e192_827, h192_828, h192_829, e192_832, e192_835, e192_836, Option.bind_some, Option.toList_some, Option.toList_none, List.cons_append, List.nil_append, nI_ltc, nI_lec, nI_eqc, nI_ne5, n5_ne, n5_lt, bI_0, bI_1, nI_add, pk_mul, if_pos, if_neg, ite_not, if_true, if_false, not_true_eq_false, not_false_eq_true, true_and, false_and, and_true, and_false, Nat.reduceAdd, Nat.reduceMul, e1, hs, e2]
theorem lw_27 (h : Rel mu p) (i : Nat) (hi : i + 5 ≤ L) (hL : L ≤ 2560) : ∃ mu1 p1, Rel mu1 p1 ∧ zsem 20 192 837 [.inr (some SC), .inr (some 0), .inr (some 105), .inl (nI i)] [] (HH L mu p) = zsem 20 192 992 [.inr (some SC), .inr (some 0), .inr (some 105), .inl (nI i)] [] (HH L mu1 p1) := by
  obtain ⟨v, mu1, p1, mu2, e1, e2, h2⟩ := op_unplaced 16 L mu p h 
  have hs := hh_sc e1
  try simp only [Nat.reduceAdd] at e1 e2
  refine ⟨mu2, p1, h2, ?_⟩
  simp (disch := first | omega | assumption) only [e192_837, h192_838, e192_841, h192_842, e192_845, e192_848, e192_849, Option.bind_some, Option.toList_some, Option.toList_none, List.cons_append, List.nil_append, nI_ltc, nI_lec, nI_eqc, nI_ne5, n5_ne, n5_lt, bI_0, bI_1, nI_add, pk_mul, if_pos, if_neg, ite_not, if_true, if_false, not_true_eq_false, not_false_eq_true, true_and, false_and, and_true, and_false, Nat.reduceAdd, Nat.reduceMul, e1, hs, e2]
theorem lw_28 (h : Rel mu p) (i : Nat) (hi : i + 5 ≤ L) (hL : L ≤ 2560) : ∃ mu1 p1, Rel mu1 p1 ∧ zsem 20 192 850 [.inr (some SC), .inr (some 0), .inr (some 105), .inl (nI i)] [] (HH L mu p) = zsem 20 192 992 [.inr (some SC), .inr (some 0), .inr (some 105), .inl (nI i)] [] (HH L mu1 p1) := by
  obtain ⟨v, mu1, p1, mu2, e1, e2, h2⟩ := op_answer 15 L mu p h (mu SC (i + 1)) (mu SC (i + 2))
  have hs := hh_sc e1
  try simp only [Nat.reduceAdd] at e1 e2
  refine ⟨mu2, p1, h2, ?_⟩
  simp (disch := first | omega | assumption) only [e192_850, e192_851, e192_852, e192_853, e192_854, h192_855, e192_856, e192_857, e192_858, e192_859, h192_860, h192_861, e192_864, e192_865, e192_866, e192_867, e192_868, h192_869, e192_870, e192_871, e192_872, e192_873, h192_874, h192_875, e192_878, e192_881, e192_882, Option.bind_some, Option.toList_some, Option.toList_none, List.cons_append, List.nil_append, nI_ltc, nI_lec, nI_eqc, nI_ne5, n5_ne, n5_lt, bI_0, bI_1, nI_add, pk_mul, if_pos, if_neg, ite_not, if_true, if_false, not_true_eq_false, not_false_eq_true, true_and, false_and, and_true, and_false, Nat.reduceAdd, Nat.reduceMul, e1, hs, e2]
theorem lw_29 (h : Rel mu p) (i : Nat) (hi : i + 5 ≤ L) (hL : L ≤ 2560) : ∃ mu1 p1, Rel mu1 p1 ∧ zsem 20 192 883 [.inr (some SC), .inr (some 0), .inr (some 105), .inl (nI i)] [] (HH L mu p) = zsem 20 192 992 [.inr (some SC), .inr (some 0), .inr (some 105), .inl (nI i)] [] (HH L mu1 p1) := by
  obtain ⟨v, mu1, p1, mu2, e1, e2, h2⟩ := op_find 16 L mu p h (mu SC (i + 1)) (mu SC (i + 2))
  have hs := hh_sc e1
  try simp only [Nat.reduceAdd] at e1 e2
  refine ⟨mu2, p1, h2, ?_⟩
  simp (disch := first | omega | assumption) only [e192_883, e192_884, e192_885, e192_886, e192_887, h192_888, e192_889, e192_890, e192_891, e192_892, h192_893, h192_894, e192_897, e192_898, e192_899, e192_900, e192_901, h192_902, e192_903, e192_904, e192_905, e192_906, h192_907, h192_908, e192_911, e192_914, e192_915, Option.bind_some, Option.toList_some, Option.toList_none, List.cons_append, List.nil_append, nI_ltc, nI_lec, nI_eqc, nI_ne5, n5_ne, n5_lt, bI_0, bI_1, nI_add, pk_mul, if_pos, if_neg, ite_not, if_true, if_false, not_true_eq_false, not_false_eq_true, true_and, false_and, and_true, and_false, Nat.reduceAdd, Nat.reduceMul, e1, hs, e2]
theorem lw_30 (h : Rel mu p) (i : Nat) (hi : i + 5 ≤ L) (hL : L ≤ 2560) : ∃ mu1 p1, Rel mu1 p1 ∧ zsem 20 192 916 [.inr (some SC), .inr (some 0), .inr (some 105), .inl (nI i)] [] (HH L mu p) = zsem 20 192 992 [.inr (some SC), .inr (some 0), .inr (some 105), .inl (nI i)] [] (HH L mu1 p1) := by
  obtain ⟨v, mu1, p1, mu2, e1, e2, h2⟩ := op_freeRoom 15 L mu p h (mu SC (i + 1)) (mu SC (i + 2))
  have hs := hh_sc e1
  try simp only [Nat.reduceAdd] at e1 e2
  refine ⟨mu2, p1, h2, ?_⟩
  simp (disch := first | omega | assumption) only [e192_916, e192_917, e192_918, e192_919, e192_920, h192_921, e192_922, e192_923, e192_924, e192_925, h192_926, h192_927, e192_930, e192_931, e192_932, e192_933, e192_934, h192_935, e192_936, e192_937, e192_938, e192_939, h192_940, h192_941, e192_944, e192_947, e192_948, Option.bind_some, Option.toList_some, Option.toList_none, List.cons_append, List.nil_append, nI_ltc, nI_lec, nI_eqc, nI_ne5, n5_ne, n5_lt, bI_0, bI_1, nI_add, pk_mul, if_pos, if_neg, ite_not, if_true, if_false, not_true_eq_false, not_false_eq_true, true_and, false_and, and_true, and_false, Nat.reduceAdd, Nat.reduceMul, e1, hs, e2]
theorem lw_31 (h : Rel mu p) (i : Nat) (hi : i + 5 ≤ L) (hL : L ≤ 2560) : ∃ mu1 p1, Rel mu1 p1 ∧ zsem 20 192 949 [.inr (some SC), .inr (some 0), .inr (some 105), .inl (nI i)] [] (HH L mu p) = zsem 20 192 992 [.inr (some SC), .inr (some 0), .inr (some 105), .inl (nI i)] [] (HH L mu1 p1) := by
  obtain ⟨v, mu1, p1, mu2, e1, e2, h2⟩ := op_firstFit 14 L mu p h (mu SC (i + 1)) (mu SC (i + 2)) (mu SC (i + 3))
  have hs := hh_sc e1
  try simp only [Nat.reduceAdd] at e1 e2
  refine ⟨mu2, p1, h2, ?_⟩
  simp (disch := first | omega | assumption) only [e192_949, e192_950, e192_951, e192_952, e192_953, h192_954, e192_955, e192_956, e192_957, e192_958, h192_959, e192_960, e192_961, e192_962, e192_963, h192_964, h192_965, e192_968, e192_969, e192_970, e192_971, e192_972, h192_973, e192_974, e192_975, e192_976, e192_977, h192_978, e192_979, e192_980, e192_981, e192_982, h192_983, h192_984, e192_987, e192_990, e192_991, Option.bind_some, Option.toList_some, Option.toList_none, List.cons_append, List.nil_append, nI_ltc, nI_lec, nI_eqc, nI_ne5, n5_ne, n5_lt, bI_0, bI_1, nI_add, pk_mul, if_pos, if_neg, ite_not, if_true, if_false, not_true_eq_false, not_false_eq_true, true_and, false_and, and_true, and_false, Nat.reduceAdd, Nat.reduceMul, e1, hs, e2]
end
