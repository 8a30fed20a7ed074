/-! PURE: bits of who is whole, places that are taken -/
theorem shl1 {j : Nat} (hj : j < 31) : nI 1 <<< (nI j &&& nI 31) = nI (2 ^ j) := by
  have h : ∀ k : Fin 31, nI 1 <<< (nI k.val &&& nI 31) = nI (2 ^ k.val) := by decide +kernel
  exact h ⟨j, hj⟩
def bitsS (st : Nat) (c : Nat → Nat → Nat) : Nat → Nat
  | 0 => 0
  | i + 1 => bitsS st c i ||| (if c i 7 = st then 2 ^ i else 0)
def plcS (c : Nat → Nat → Nat) : Nat → Nat
  | 0 => 0
  | i + 1 => plcS c i ||| (if c i 7 = 2 then 0 else 2 ^ c i 0)
section BITS
variable {n : Nat} {c : Nat → Nat → Nat} {f kd sz pg : Nat → Int32} {N : Nat} {st : Nat}
theorem bitsX_l (hX : XR n c f) (hG : Good n c) (hst : st ≤ 2) : ∀ k i, i + k = n → ∀ fl, k < fl → x2_bitsOf_b4 N (nI n) f (nI st) fl (nI (bitsS st c i)) (nI i) = some (nI (bitsS st c n)) := by
  have hn := hG.n6
  intro k
  induction k with
  | zero =>
    intro i hi fl hfl
    obtain ⟨fl, rfl⟩ : ∃ m, fl = m + 1 := ⟨fl - 1, by omega⟩
    have e : i = n := by omega
    subst e
    rw [x2_bitsOf_b4, if_pos (nI_le (Nat.le_refl _) (by omega))]
  | succ k ih =>
    intro i hi fl hfl
    obtain ⟨fl, rfl⟩ : ∃ m, fl = m + 1 := ⟨fl - 1, by omega⟩
    have hin : i < n := by omega
    obtain ⟨g0, g1, g2, g3, g4, g4', g5, g6, g7⟩ := hG.2.1 i hin
    have step := ih (i + 1) (by omega) fl (by omega)
    rw [x2_bitsOf_b4, if_neg (nI_ge hin (by omega))]
    by_cases h : c i 7 = st
    · rw [show bitsS st c (i + 1) = bitsS st c i ||| 2 ^ i from by simp [bitsS, h]] at step
      simp (disch := omega) only [li, partX hX, gB1_s, nI_eq, h, if_true, shl1, fa_or, nI_add]
      exact step
    · rw [show bitsS st c (i + 1) = bitsS st c i from by simp [bitsS, h]] at step
      simp (disch := omega) only [li, partX hX, gB1_s, nI_eq, h, if_false, nI_add]
      exact step
theorem bitsX (hX : XR n c f) (hG : Good n c) (hst : st ≤ 2) (hN : 100 ≤ N) : x2_bitsOf N (nI n) f (nI st) = some (nI (bitsS st c n)) := bitsX_l hX hG hst n 0 (by omega) N (by have := hG.n6; omega)
theorem bitsM_l (hM : MR n c kd sz pg) (hG : Good n c) (hst : st ≤ 2) : ∀ k i, i + k = n → ∀ fl, k < fl → x8_thatAre_b5 N (nI n) pg (nI st) fl (nI (bitsS st c i)) (nI i) = some (nI (bitsS st c n)) := by
  have hn := hG.n6
  intro k
  induction k with
  | zero =>
    intro i hi fl hfl
    obtain ⟨fl, rfl⟩ : ∃ m, fl = m + 1 := ⟨fl - 1, by omega⟩
    have e : i = n := by omega
    subst e
    rw [x8_thatAre_b5, if_pos (nI_le (Nat.le_refl _) (by omega))]
  | succ k ih =>
    intro i hi fl hfl
    obtain ⟨fl, rfl⟩ : ∃ m, fl = m + 1 := ⟨fl - 1, by omega⟩
    have hin : i < n := by omega
    obtain ⟨g0, g1, g2, g3, g4, g4', g5, g6, g7⟩ := hG.2.1 i hin
    have step := ih (i + 1) (by omega) fl (by omega)
    rw [x8_thatAre_b5, if_neg (nI_ge hin (by omega))]
    by_cases h : c i 7 = st
    · rw [show bitsS st c (i + 1) = bitsS st c i ||| 2 ^ i from by simp [bitsS, h]] at step
      simp (disch := omega) only [li, nI_add, nI_clamp, gIn_t, gChk_t, hM.p7, nI_eq, h, if_true, shl1, fa_or, x8_thatAre_b34]
      exact step
    · rw [show bitsS st c (i + 1) = bitsS st c i ||| 0 from by simp [bitsS, h]] at step
      simp (disch := omega) only [li, nI_add, nI_clamp, gIn_t, gChk_t, hM.p7, nI_eq, h, if_false, fa_or, x8_thatAre_b34]
      exact step
theorem bitsM (hM : MR n c kd sz pg) (hG : Good n c) (hst : st ≤ 2) (hN : 100 ≤ N) : x8_thatAre N (nI n) pg (nI st) = some (nI (bitsS st c n)) := bitsM_l hM hG hst n 0 (by omega) N (by have := hG.n6; omega)
theorem plcX_l (hX : XR n c f) (hG : Good n c) : ∀ k i, i + k = n → ∀ fl, k < fl → x2_placesTaken_b4 N (nI n) f fl (nI (plcS c i)) (nI i) = some (nI (plcS c n)) := by
  have hn := hG.n6
  intro k
  induction k with
  | zero =>
    intro i hi fl hfl
    obtain ⟨fl, rfl⟩ : ∃ m, fl = m + 1 := ⟨fl - 1, by omega⟩
    have e : i = n := by omega
    subst e
    rw [x2_placesTaken_b4, if_pos (nI_le (Nat.le_refl _) (by omega))]
  | succ k ih =>
    intro i hi fl hfl
    obtain ⟨fl, rfl⟩ : ∃ m, fl = m + 1 := ⟨fl - 1, by omega⟩
    have hin : i < n := by omega
    obtain ⟨g0, g1, g2, g3, g4, g4', g5, g6, g7⟩ := hG.2.1 i hin
    have step := ih (i + 1) (by omega) fl (by omega)
    rw [x2_placesTaken_b4, if_neg (nI_ge hin (by omega))]
    by_cases h : c i 7 = 2
    · rw [show plcS c (i + 1) = plcS c i from by simp [plcS, h]] at step
      simp (disch := omega) only [li, partX hX, gB1_s, nI_eq, h, if_true, nI_add]
      exact step
    · rw [show plcS c (i + 1) = plcS c i ||| 2 ^ c i 0 from by simp [plcS, h]] at step
      simp (disch := omega) only [li, partX hX, gB1_s, nI_eq, h, if_false, shl1, fa_or, nI_add]
      exact step
theorem plcX (hX : XR n c f) (hG : Good n c) (hN : 100 ≤ N) : x2_placesTaken N (nI n) f = some (nI (plcS c n)) := plcX_l hX hG n 0 (by omega) N (by have := hG.n6; omega)
theorem plcM_l (hM : MR n c kd sz pg) (hG : Good n c) : ∀ k i, i + k = n → ∀ fl, k < fl → x8_places_b4 N (nI n) pg fl (nI (plcS c i)) (nI i) = some (nI (plcS c n)) := by
  have hn := hG.n6
  intro k
  induction k with
  | zero =>
    intro i hi fl hfl
    obtain ⟨fl, rfl⟩ : ∃ m, fl = m + 1 := ⟨fl - 1, by omega⟩
    have e : i = n := by omega
    subst e
    rw [x8_places_b4, if_pos (nI_le (Nat.le_refl _) (by omega))]
  | succ k ih =>
    intro i hi fl hfl
    obtain ⟨fl, rfl⟩ : ∃ m, fl = m + 1 := ⟨fl - 1, by omega⟩
    have hin : i < n := by omega
    obtain ⟨g0, g1, g2, g3, g4, g4', g5, g6, g7⟩ := hG.2.1 i hin
    have step := ih (i + 1) (by omega) fl (by omega)
    rw [x8_places_b4, if_neg (nI_ge hin (by omega))]
    by_cases h : c i 7 = 2
    · rw [show plcS c (i + 1) = plcS c i ||| 0 from by simp [plcS, h]] at step
      simp (disch := omega) only [li, nI_add, nI_clamp, gIn_t, gChk_t, hM.p7, hM.p0, nI_eq, h, if_true, fa_or, x8_places_b38]
      exact step
    · rw [show plcS c (i + 1) = plcS c i ||| 2 ^ c i 0 from by simp [plcS, h]] at step
      simp (disch := omega) only [li, nI_add, nI_clamp, gIn_t, gChk_t, hM.p7, hM.p0, nI_eq, h, if_false, shl1, fa_or, x8_places_b38]
      exact step
theorem plcM (hM : MR n c kd sz pg) (hG : Good n c) (hN : 100 ≤ N) : x8_places N (nI n) pg = some (nI (plcS c n)) := plcM_l hM hG n 0 (by omega) N (by have := hG.n6; omega)
end BITS
