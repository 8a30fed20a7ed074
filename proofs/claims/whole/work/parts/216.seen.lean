/-! PURE: who sees whom, in the class and in the reference -/
section SEEN
variable {n : Nat} {c : Nat → Nat → Nat} {f kd sz pg : Nat → Int32} {N : Nat} {j : Nat}
/-- what the class's search holds behind i jars -/
def nrI (n : Nat) (c : Nat → Nat → Nat) (cand : Nat → Prop) (d : Nat → Nat) (i : Nat) (r : Option Nat) (m : Nat) : Prop :=
  (r = none ∧ m = 8 ∧ ∀ k, k < i → ¬ (¬ c k 7 = 2 ∧ cand k)) ∨ ∃ o, r = some o ∧ o < n ∧ ¬ c o 7 = 2 ∧ cand o ∧ m = d o ∧ ∀ k, k < i → ¬ c k 7 = 2 → cand k → d o ≤ d k
theorem nearX_l (hX : XR n c f) (hG : Good n c) (hj : j < n) {way : Int32} {cand : Nat → Prop} {d : Nat → Nat} (h1 : ∀ k, k < n → ((nI (c k 0) - nI (c j 0)) * way ≤ nI 0 ↔ ¬ cand k)) (h2 : ∀ k, k < n → cand k → (nI (c k 0) - nI (c j 0)) * way = nI (d k) ∧ d k < 8) : ∀ k i, i + k = n → ∀ fl, k < fl → ∀ r m, nrI n c cand d i r m → ∃ r' m', nrI n c cand d n r' m' ∧ x2_nearest_b10 N (nI n) f (nI j) way fl (oI r) (nI m) (nI i) = some (oI r') := by
  have hn := hG.n6
  intro k
  induction k with
  | zero =>
    intro i hi fl hfl r m hI
    obtain ⟨fl, rfl⟩ : ∃ m, fl = m + 1 := ⟨fl - 1, by omega⟩
    have e : i = n := by omega
    subst e
    exact ⟨r, m, hI, by rw [x2_nearest_b10, if_pos (nI_le (Nat.le_refl _) (by omega))]⟩
  | succ k ih =>
    intro i hi fl hfl r m hI
    obtain ⟨fl, rfl⟩ : ∃ m, fl = m + 1 := ⟨fl - 1, by omega⟩
    have hin : i < n := by omega
    obtain ⟨g0, g1, g2, g3, g4, g4', g5, g6, g7⟩ := hG.2.1 i hin
    have hm8 : m ≤ 8 := by
      rcases hI with ⟨-, e, -⟩ | ⟨o, -, ho, -, hc, e, -⟩
      · omega
      · have := (h2 o ho hc).2
        omega
    rw [x2_nearest_b10, if_neg (nI_ge hin (by omega))]
    simp (disch := omega) only [li, partX hX, gB1_s, nI_eq, nI_add]
    -- a step that keeps what was found
    have keep : (¬ c i 7 = 2 → cand i → ∃ o, r = some o ∧ d o ≤ d i) → ∃ r' m', nrI n c cand d n r' m' ∧ x2_nearest_b10 N (nI n) f (nI j) way fl (oI r) (nI m) (nI (i + 1)) = some (oI r') := fun hk => by
      refine ih (i + 1) (by omega) fl (by omega) r m ?_
      rcases hI with ⟨e1, e2, e3⟩ | ⟨o, e1, e2, e3, e4, e5, e6⟩
      · refine Or.inl ⟨e1, e2, fun k hk2 z => ?_⟩
        by_cases ek : k = i
        · rw [ek] at z
          obtain ⟨o, eo, -⟩ := hk z.1 z.2
          rw [e1] at eo
          cases eo
        · exact e3 k (by omega) z
      · refine Or.inr ⟨o, e1, e2, e3, e4, e5, fun k hk2 z1 z2 => ?_⟩
        by_cases ek : k = i
        · rw [ek] at z1 z2 ⊢
          obtain ⟨o', eo, le⟩ := hk z1 z2
          rw [e1] at eo
          cases eo
          exact le
        · exact e6 k (by omega) z1 z2
    by_cases hc : cand i
    · obtain ⟨ed, hd⟩ := h2 i hin hc
      rw [if_neg (fun z => ((h1 i hin).mp z) hc), ed]
      simp (disch := omega) only [nI_leI]
      by_cases hle : m ≤ d i
      · rw [if_pos hle]
        refine keep (fun _ _ => ?_)
        rcases hI with ⟨-, e, -⟩ | ⟨o, e1, -, -, -, e5, -⟩
        · omega
        · exact ⟨o, e1, by omega⟩
      · rw [if_neg hle]
        by_cases h7 : c i 7 = 2
        · rw [if_pos h7]
          exact keep (fun z _ => absurd h7 z)
        · rw [if_neg h7]
          refine ih (i + 1) (by omega) fl (by omega) (some i) (d i) (Or.inr ⟨i, rfl, hin, h7, hc, rfl, fun k hk z1 z2 => ?_⟩)
          by_cases ek : k = i
          · rw [ek]; exact Nat.le_refl _
          · rcases hI with ⟨-, -, e3⟩ | ⟨o, -, -, -, -, e5, e6⟩
            · exact absurd ⟨z1, z2⟩ (e3 k (by omega))
            · have := e6 k (by omega) z1 z2
              omega
    · rw [if_pos ((h1 i hin).mpr hc)]
      exact keep (fun _ z => absurd z hc)
theorem nearX (hX : XR n c f) (hG : Good n c) (hj : j < n) {way : Int32} {cand : Nat → Prop} {d : Nat → Nat} (h1 : ∀ k, k < n → ((nI (c k 0) - nI (c j 0)) * way ≤ nI 0 ↔ ¬ cand k)) (h2 : ∀ k, k < n → cand k → (nI (c k 0) - nI (c j 0)) * way = nI (d k) ∧ d k < 8) (hN : 100 ≤ N) : ∃ r' m', nrI n c cand d n r' m' ∧ x2_nearest N (nI n) f (nI j) way = some (oI r') := by
  have hn := hG.n6
  exact nearX_l hX hG hj h1 h2 n 0 (by omega) N (by omega) none 8 (Or.inl ⟨rfl, rfl, fun k hk => by omega⟩)
theorem nearX_L (hX : XR n c f) (hG : Good n c) (hj : j < n) (hN : 100 ≤ N) : x2_nearest N (nI n) f (nI j) (-nI 1) = some (oI (scanL c n (c j 0))) := by
  have gj := (hG.2.1 j hj).1
  obtain ⟨r, m, hI, e⟩ := nearX (N := N) hX hG hj (way := -nI 1) (cand := fun k => c k 0 < c j 0) (d := fun k => c j 0 - c k 0) (fun k hk => by
    rw [(subL (hG.2.1 k hk).1 gj).1]
    omega) (fun k hk hc => ⟨(subL (hG.2.1 k hk).1 gj).2 hc, by omega⟩) hN
  rw [e]
  congr 2
  cases hs : scanL c n (c j 0) with
  | none =>
    have z := scanL_none hs
    rcases hI with ⟨e1, -, -⟩ | ⟨o, -, e2, e3, e4, -, -⟩
    · exact e1
    · exact absurd e4 (z o e2 e3)
  | some p =>
    obtain ⟨a1, a2, a3, a4⟩ := scanL_some hs
    rcases hI with ⟨-, -, e3⟩ | ⟨o, e1, e2, e3, e4, -, e6⟩
    · exact absurd ⟨a2, a3⟩ (e3 p a1)
    · rw [e1]
      have b1 := a4 o e2 e3 e4
      have b2 : c j 0 - c o 0 ≤ c j 0 - c p 0 := e6 p a1 a2 a3
      have b3 : c o 0 < c j 0 := e4
      rw [hG.2.2 o p e2 a1 e3 a2 (by omega)]
theorem nearX_R (hX : XR n c f) (hG : Good n c) (hj : j < n) (hN : 100 ≤ N) : x2_nearest N (nI n) f (nI j) (nI 1) = some (oI (scanR c n (7 - c j 0))) := by
  have gj := (hG.2.1 j hj).1
  obtain ⟨r, m, hI, e⟩ := nearX (N := N) hX hG hj (way := nI 1) (cand := fun k => c j 0 < c k 0) (d := fun k => c k 0 - c j 0) (fun k hk => by
    rw [(subR (hG.2.1 k hk).1 gj).1]
    omega) (fun k hk hc => ⟨(subR (hG.2.1 k hk).1 gj).2 hc, by have := (hG.2.1 k hk).1; omega⟩) hN
  rw [e]
  congr 2
  cases hs : scanR c n (7 - c j 0) with
  | none =>
    have z := scanR_none (by omega) hs
    rcases hI with ⟨e1, -, -⟩ | ⟨o, -, e2, e3, e4, -, -⟩
    · exact e1
    · have e4' : c j 0 < c o 0 := e4
      exact absurd (show 7 - (7 - c j 0) < c o 0 by omega) (z o e2 e3 (hG.2.1 o e2).1)
  | some p =>
    obtain ⟨a1, a2, a3, a3', a4⟩ := scanR_some (by omega) hs
    rcases hI with ⟨-, -, e3⟩ | ⟨o, e1, e2, e3, e4, -, e6⟩
    · exact absurd ⟨a2, show c j 0 < c p 0 by omega⟩ (e3 p a1)
    · rw [e1]
      have b3 : c j 0 < c o 0 := e4
      have b1 := a4 o e2 e3 (by omega)
      have b2 : c o 0 - c j 0 ≤ c p 0 - c j 0 := e6 p a1 a2 (show c j 0 < c p 0 by omega)
      rw [hG.2.2 o p e2 a1 e3 a2 (by omega)]
theorem dst_lt {a b : Nat} (ha : a < 8) (hb : b < 8) : dst a b < 8 := by
  unfold dst
  split <;> omega
theorem clearX (hX : XR n c f) (hG : Good n c) (hj : j < n) {o : Nat} (ho : o < n) (h2 : ¬ c o 7 = 2) : x2_isClear f (nI j) (nI o) = some (if clr c j o = true then nI 1 else nI 0) := by
  have hn := hG.n6
  obtain ⟨g0, g1, g2, g3, g4, g4', g5, g6, g7⟩ := hG.2.1 j hj
  obtain ⟨o0, o1, o2, o3, o4, o4', o5, o6, o7⟩ := hG.2.1 o ho
  have hd := dst_lt g0 o0
  unfold x2_isClear clr
  by_cases h3 : c j 3 = 2
  · simp (disch := omega) only [li, partX hX, gB1_s, nI_eq, h3, if_true, decide_true, Bool.true_or]
  · simp (disch := omega) only [li, partX hX, gB1_s, nI_eq, h3, if_false, decide_false, Bool.false_or, absd, decide_eq_true_eq]
    by_cases h1 : c o 7 = 1
    · have e : hzS c o = 0 := by simp [hzS, h1]
      rw [if_pos h1, e]
      unfold x2_isClear_b50
      simp (disch := omega) only [li, partX hX, gB1_s, clear9]
      by_cases z : 9 < dst (c j 0) (c o 0) + c j 5 + 0
      · rw [if_pos z, if_neg (by omega)]
      · rw [if_neg z, if_pos (by omega)]
    · have e : hzS c o = c o 5 := by
        have : c o 7 = 0 := by omega
        simp [hzS, this]
      rw [if_neg h1, e]
      unfold x2_isClear_b50
      simp (disch := omega) only [li, partX hX, gB1_s, clear9]
      by_cases z : 9 < dst (c j 0) (c o 0) + c j 5 + c o 5
      · rw [if_pos z, if_neg (by omega)]
      · rw [if_neg z, if_pos (by omega)]
theorem near_ok (hG : Good n c) (hj : j < n) {o : Nat} (h : nearS n c j = some o) : o < n ∧ ¬ c o 7 = 2 := by
  unfold nearS at h
  split at h
  · obtain ⟨a, b, -⟩ := scanL_some h
    exact ⟨a, b⟩
  · split at h
    · obtain ⟨a, b, -⟩ := scanR_some (by omega) h
      exact ⟨a, b⟩
    · cases h
theorem seesX (hX : XR n c f) (hG : Good n c) (hj : j < n) (hN : 100 ≤ N) : x2_seenBy N (nI n) f (nI j) = some (oI (seesS n c j)) := by
  have hn := hG.n6
  obtain ⟨g0, g1, g2, g3, g4, g4', g5, g6, g7⟩ := hG.2.1 j hj
  have tail : ∀ (way : Int32), x2_nearest N (nI n) f (nI j) way = some (oI (nearS n c j)) → x2_seenBy_b39 N (nI n) f (nI j) (nI j) way = some (oI (match nearS n c j with
      | some o => if clr c j o = true then some o else none
      | none => none)) := fun way e => by
    unfold x2_seenBy_b39
    rw [e]
    cases hs : nearS n c j with
    | none =>
      simp (disch := omega) only [li, gB1_s, oI]
      rfl
    | some o =>
      obtain ⟨ho, h2⟩ := near_ok hG hj hs
      simp (disch := omega) only [li, gB1_s, oI, clearX hX hG hj ho h2]
      rw [if_neg (ne9 (by omega))]
      by_cases hc : clr c j o = true
      · simp (disch := omega) only [hc, if_true, nI_eq]
        rw [if_neg (by omega)]
      · simp (disch := omega) only [hc, if_false, nI_eq, if_true]
        rfl
  unfold x2_seenBy seesS
  by_cases h7 : c j 7 = 0
  · simp (disch := omega) only [li, partX hX, wholeX_t hX hj hn h7, gB1_s, nI_eq, h7, if_true]
    rw [if_neg (by omega)]
    by_cases h0 : c j 6 = 0
    · rw [if_pos h0]
      unfold x2_seenBy_b28
      simp (disch := omega) only [li, nI_eq, h0, if_true]
      refine tail (-nI 1) ?_
      rw [nearX_L hX hG hj hN]
      unfold nearS
      rw [if_pos h0]
    · rw [if_neg h0]
      by_cases h2 : c j 6 = 2
      · rw [if_pos h2]
        unfold x2_seenBy_b28
        simp (disch := omega) only [li, nI_eq, h2]
        rw [if_neg (by omega)]
        refine tail (nI 1) ?_
        rw [nearX_R hX hG hj hN]
        unfold nearS
        rw [if_neg h0, if_pos h2]
      · rw [if_neg h2]
        unfold nearS
        rw [if_neg h0, if_neg h2]
        rfl
  · simp (disch := omega) only [li, partX hX, wholeX_f hX hj hn g7 h7, gB1_s, nI_eq, h7, if_true, if_false]
    rfl
end SEEN
