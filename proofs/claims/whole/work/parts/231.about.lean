/-! PURE: about, jar -/
section ABOUT
variable {N n : Nat} {c : Nat → Nat → Nat} {w J W Jm : Int32} {f kd sz pg : Nat → Int32}
theorem XR.m63 (hX : XR n c f) (hn : n ≤ 6) : XR n (maskC 63 c) f := hX.congr (fun j hj p hp => (mask_63 hn c j hj p hp).symm)
theorem MR.m63 (hM : MR n c kd sz pg) (hn : n ≤ 6) : MR n (maskC 63 c) kd sz pg := hM.congr (fun j hj p hp => (mask_63 hn c j hj p hp).symm)
theorem c36 : (36 : Int32).toNatClampNeg = 36 := by decide
theorem g36 : gIn (36 : Int32) 37 = true := by decide
theorem st_about (hS : SH n c w J W f Jm kd sz pg) (hN : 2000 ≤ N) {th sm len ts cnt acts tc td : Int32} (e1 : len = ts) (e2 : cnt = acts) (e3 : tc = td) (st : Nat → Int32) (a1 : Int32) : ∃ r y s', x7_about N len J W f st cnt tc a1 = some (r, y) ∧ x8_about N th ts Jm acts td sm kd pg a1 = some (r, 0, s') := by
  obtain ⟨hG, hX, rfl, rfl, hM, rfl, h36⟩ := hS
  subst e1
  subst e2
  subst e3
  have hn := hG.n6
  unfold x7_about x8_about
  by_cases h0 : a1 = 0
  · subst h0
    exact ⟨_, _, _, rfl, rfl⟩
  by_cases h1 : a1 = 1
  · subst h1
    refine ⟨W, st, 63, rfl, ?_⟩
    simp only [show ¬ ((1 : Int32) = 0) from by decide, if_false, if_true, g36, gChk_t, c36, h36]
  by_cases h2 : a1 = 2
  · subst h2
    have b1 := bitsX (N := N) (st := 0) hX hG (by omega) (by omega)
    have b2 := bitsM (N := N) (st := 0) hM hG (by omega) (by omega)
    refine ⟨nI (bitsS 0 c n), st, 63, ?_, ?_⟩
    · simp only [show ¬ ((2 : Int32) = 0) from by decide, show ¬ ((2 : Int32) = 1) from by decide, if_false, if_true]
      rw [show x2_bitsOf N (nI n) f 0 = some (nI (bitsS 0 c n)) from b1]
      rfl
    · simp only [show ¬ ((2 : Int32) = 0) from by decide, show ¬ ((2 : Int32) = 1) from by decide, if_false, if_true]
      rw [show x8_thatAre N (nI n) pg (2 - 2) = some (nI (bitsS 0 c n)) from b2]
      rfl
  by_cases h3 : a1 = 3
  · subst h3
    have b1 := bitsX (N := N) (st := 1) hX hG (by omega) (by omega)
    have b2 := bitsM (N := N) (st := 1) hM hG (by omega) (by omega)
    refine ⟨nI (bitsS 1 c n), st, 63, ?_, ?_⟩
    · simp only [show ¬ ((3 : Int32) = 0) from by decide, show ¬ ((3 : Int32) = 1) from by decide, show ¬ ((3 : Int32) = 2) from by decide, if_false, if_true]
      rw [show x2_bitsOf N (nI n) f 1 = some (nI (bitsS 1 c n)) from b1]
      rfl
    · simp only [show ¬ ((3 : Int32) = 0) from by decide, show ¬ ((3 : Int32) = 1) from by decide, show ¬ ((3 : Int32) = 2) from by decide, if_false, if_true]
      rw [show x8_thatAre N (nI n) pg (3 - 2) = some (nI (bitsS 1 c n)) from b2]
      rfl
  by_cases h4 : a1 = 4
  · subst h4
    have b1 := bitsX (N := N) (st := 2) hX hG (by omega) (by omega)
    have b2 := bitsM (N := N) (st := 2) hM hG (by omega) (by omega)
    refine ⟨nI (bitsS 2 c n), st, 63, ?_, ?_⟩
    · simp only [show ¬ ((4 : Int32) = 0) from by decide, show ¬ ((4 : Int32) = 1) from by decide, show ¬ ((4 : Int32) = 2) from by decide, show ¬ ((4 : Int32) = 3) from by decide, if_false, if_true]
      rw [show x2_bitsOf N (nI n) f 2 = some (nI (bitsS 2 c n)) from b1]
      rfl
    · simp only [show ¬ ((4 : Int32) = 0) from by decide, show ¬ ((4 : Int32) = 1) from by decide, show ¬ ((4 : Int32) = 2) from by decide, show ¬ ((4 : Int32) = 3) from by decide, if_false, if_true]
      rw [show x8_thatAre N (nI n) pg (4 - 2) = some (nI (bitsS 2 c n)) from b2]
      rfl
  by_cases h5 : a1 = 5
  · subst h5
    refine ⟨nI (plcS c n), st, 63, ?_, ?_⟩
    · simp only [show ¬ ((5 : Int32) = 0) from by decide, show ¬ ((5 : Int32) = 1) from by decide, show ¬ ((5 : Int32) = 2) from by decide, show ¬ ((5 : Int32) = 3) from by decide, show ¬ ((5 : Int32) = 4) from by decide, if_false, if_true, plcX hX hG (show 100 ≤ N by omega)]
      rfl
    · simp only [show ¬ ((5 : Int32) = 0) from by decide, show ¬ ((5 : Int32) = 1) from by decide, show ¬ ((5 : Int32) = 2) from by decide, show ¬ ((5 : Int32) = 3) from by decide, show ¬ ((5 : Int32) = 4) from by decide, if_false, if_true, plcM hM hG (show 100 ≤ N by omega)]
      rfl
  by_cases h6 : a1 = 6
  · subst h6
    obtain ⟨y', b1⟩ := pairsX (N := N) (hX.m63 hn) (hG.mask 63) (by omega) st
    have b2 := pairsM (N := N) (s := 63) hM hG (by omega) (by omega)
    refine ⟨nI (pmS n (maskC 63 c) n), y', 63, ?_, ?_⟩
    · simp only [show ¬ ((6 : Int32) = 0) from by decide, show ¬ ((6 : Int32) = 1) from by decide, show ¬ ((6 : Int32) = 2) from by decide, show ¬ ((6 : Int32) = 3) from by decide, show ¬ ((6 : Int32) = 4) from by decide, show ¬ ((6 : Int32) = 5) from by decide, if_false, if_true, b1]
      rfl
    · simp only [show ¬ ((6 : Int32) = 0) from by decide, show ¬ ((6 : Int32) = 1) from by decide, show ¬ ((6 : Int32) = 2) from by decide, show ¬ ((6 : Int32) = 3) from by decide, show ¬ ((6 : Int32) = 4) from by decide, show ¬ ((6 : Int32) = 5) from by decide, if_false, if_true]
      rw [show x8_pairsOf N (nI n) 63 kd pg = some (nI (pmS n (maskC 63 c) n)) from b2]
      rfl
  by_cases h7 : a1 = 7
  · subst h7
    exact ⟨_, _, _, rfl, rfl⟩
  by_cases h8 : a1 = 8
  · subst h8
    exact ⟨_, _, _, rfl, rfl⟩
  by_cases h9 : a1 = 9
  · subst h9
    exact ⟨_, _, _, rfl, rfl⟩
  simp only [h0, h1, h2, h3, h4, h5, h6, h7, h8, h9, if_false]
  exact ⟨_, _, _, rfl, rfl⟩
theorem st_jar (hS : SH n c w J W f Jm kd sz pg) (hN : 2000 ≤ N) {th sm : Int32} (a1 a2 : Int32) : ∃ r s', x7_jar N J f a1 a2 = some r ∧ x8_jar N th Jm sm kd sz pg a1 a2 = some (r, 0, s') := by
  obtain ⟨hG, hX, rfl, rfl, hM, rfl, h36⟩ := hS
  have hn := hG.n6
  have bad : (a1 < 0 ∨ nI n ≤ a1) → ∃ r s', x7_jar N (nI n) f a1 a2 = some r ∧ x8_jar N th (nI n) sm kd sz pg a1 a2 = some (r, 0, s') := fun h => by
    unfold x7_jar x8_jar
    rw [hasX_f h, noJar_t hn h]
    exact ⟨_, _, rfl, rfl⟩
  rcases pk_ix a1 (n := n) (by omega) with z | z | ⟨j, hj, rfl⟩
  · exact bad (Or.inl z)
  · exact bad (Or.inr z)
  · unfold x7_jar x8_jar
    rw [hasX hj hn, noJar_f hn hj]
    rw [gB1_s, gB1_s, if_neg (show ¬ nI 1 = (0 : Int32) from by decide), if_pos (show nI 0 = (0 : Int32) from rfl)]
    simp only [li]
    rcases pk_ix a2 (n := 9) (by omega) with z | z | ⟨k, hk, rfl⟩
    · have ne : ∀ k, k < 9 → ¬ a2 = nI k := fun k hk e => by
        rw [e] at z
        exact nI_pos (by omega) z
      rw [if_pos (show a2 < nI 0 from z)]
      simp only [ne 0 (by omega), ne 1 (by omega), ne 2 (by omega), ne 3 (by omega), ne 4 (by omega), ne 5 (by omega), ne 6 (by omega), ne 7 (by omega), ne 8 (by omega), if_false]
      exact ⟨_, _, rfl, rfl⟩
    · have ne : ∀ k, k < 9 → ¬ a2 = nI k := fun k hk e => by
        rw [e] at z
        exact nI_ge hk (by omega) z
      have l0 : ¬ a2 < nI 0 := fun y => by
        rw [fa_lt] at y
        rw [fa_le] at z
        have q : (nI 9).toInt = 9 := by decide
        have q2 : (nI 0).toInt = 0 := by decide
        omega
      have l8 : ¬ a2 ≤ nI 8 := fun y => by
        rw [fa_le] at y z
        have q : (nI 9).toInt = 9 := by decide
        have q2 : (nI 8).toInt = 8 := by decide
        omega
      rw [if_neg l0, if_neg l8]
      simp only [ne 0 (by omega), ne 1 (by omega), ne 2 (by omega), ne 3 (by omega), ne 4 (by omega), ne 5 (by omega), ne 6 (by omega), ne 7 (by omega), ne 8 (by omega), if_false]
      exact ⟨_, _, rfl, rfl⟩
    · simp (disch := omega) only [nI_ltI, nI_leI, nI_eq, nI_add, nI_clamp, gIn_t, gChk_t]
      rw [if_neg (by omega), if_pos (by omega)]
      have hk9 : k = 0 ∨ k = 1 ∨ k = 2 ∨ k = 3 ∨ k = 4 ∨ k = 5 ∨ k = 6 ∨ k = 7 ∨ k = 8 := by omega
      rcases hk9 with rfl | rfl | rfl | rfl | rfl | rfl | rfl | rfl | rfl
      · refine ⟨nI (c j 0), nI 63, ?_, ?_⟩
        · rw [if_neg (by omega), partX hX hj hn (by omega)]
          rfl
        · simp (disch := omega) only [hM.p0]
          rfl
      · refine ⟨nI (c j 1), nI 63, ?_, ?_⟩
        · rw [if_neg (by omega), partX hX hj hn (by omega)]
          rfl
        · simp (disch := omega) only [hM.p1]
          rfl
      · refine ⟨nI (c j 2), nI 63, ?_, ?_⟩
        · rw [if_neg (by omega), partX hX hj hn (by omega)]
          rfl
        · simp (disch := omega) only [hM.p2]
          rfl
      · refine ⟨nI (c j 3), nI 63, ?_, ?_⟩
        · rw [if_neg (by omega), partX hX hj hn (by omega)]
          rfl
        · simp (disch := omega) only [hM.p3]
          rfl
      · refine ⟨nI (c j 4), nI 63, ?_, ?_⟩
        · rw [if_neg (by omega), partX hX hj hn (by omega)]
          rfl
        · simp (disch := omega) only [hM.p4]
          rfl
      · refine ⟨nI (c j 5), nI 63, ?_, ?_⟩
        · rw [if_neg (by omega), partX hX hj hn (by omega)]
          rfl
        · simp (disch := omega) only [hM.p5]
          rfl
      · refine ⟨nI (c j 6), nI 63, ?_, ?_⟩
        · rw [if_neg (by omega), partX hX hj hn (by omega)]
          rfl
        · simp (disch := omega) only [hM.p6]
          rfl
      · refine ⟨nI (c j 7), nI 63, ?_, ?_⟩
        · rw [if_neg (by omega), partX hX hj hn (by omega)]
          rfl
        · simp (disch := omega) only [hM.p7]
          rfl
      · refine ⟨oI (seesS n (maskC 63 c) j), nI 63, ?_, ?_⟩
        · rw [if_pos rfl, seesX (hX.m63 hn) (hG.mask 63) hj (by omega)]
          rfl
        · simp only [show ¬ (8 = 0) from by omega, show ¬ (8 = 1) from by omega, show ¬ (8 = 2) from by omega, show ¬ (8 = 3) from by omega, show ¬ (8 = 4) from by omega, show ¬ (8 = 5) from by omega, show ¬ (8 = 6) from by omega, show ¬ (8 = 7) from by omega, if_false, if_true]
          rw [seesM (N := N) (s := 63) hM hG hj (by omega) (by omega)]
          rfl
end ABOUT
