/-! PURE: who sees whom, in the reference -/
section SEESM
variable {n : Nat} {c : Nat → Nat → Nat} {f kd sz pg : Nat → Int32} {N : Nat} {j s : Nat}
theorem in07_t {q : Nat} (h : q < 8) : x8_in (nI q).toInt64 (0 : Int64) (7 : Int64) = some (nI 1) := by
  have z : ∀ a : Fin 8, x8_in (nI a.val).toInt64 (0 : Int64) (7 : Int64) = some (nI 1) := by decide +kernel
  exact z ⟨q, h⟩
theorem in07_8 : x8_in (nI 8).toInt64 (0 : Int64) (7 : Int64) = some (nI 0) := by decide +kernel
theorem in07_m : x8_in (nI 0 + (nI 0 - nI 1)).toInt64 (0 : Int64) (7 : Int64) = some (nI 0) := by decide +kernel
theorem decm (q : Nat) : nI (q + 1) + (nI 0 - nI 1) = nI q := by
  rw [nI_succ, show (nI 0 - nI 1 : Int32) = -1 from by decide, Int32.add_assoc, show (1 + -1 : Int32) = 0 from by decide, Int32.add_zero]
theorem incm (q : Nat) : nI q + (nI 2 - nI 1) = nI (q + 1) := by
  rw [show (nI 2 - nI 1 : Int32) = 1 from by decide, ← nI_succ]
theorem hazeM (hM : MR n c kd sz pg) (hj : j < n) (hG : Good n c) : x8_hazeOf pg (nI j) = some (nI (hzS c j)) := by
  have hn := hG.n6
  obtain ⟨g0, g1, g2, g3, g4, g4', g5, g6, g7⟩ := hG.2.1 j hj
  unfold x8_hazeOf hzS
  by_cases h : c j 7 = 0
  · rw [wholeM_t hM hj hn h, if_pos h]
    simp (disch := omega) only [li, gB1_s, nI_eq, nI_add, nI_clamp, gIn_t, gChk_t, hM.p5]
    rw [if_neg (by omega)]
  · rw [wholeM_f hM hj hn g7 h, if_neg h]
    simp (disch := omega) only [li, gB1_s, nI_eq]
    rfl
theorem hitM (hM : MR n c kd sz pg) (hj : j < n) (hG : Good n c) (hw : maskC s c j 7 = 0) {o : Nat} (ho : o < n) (h2 : ¬ maskC s c o 7 = 2) {far : Int32} (hfar : far = nI (dst (c j 0) (c o 0))) : (if kd j = nI 2 then some (nI o) else gB1 (x8_hazeOf pg (nI j)) (fun r10 => gB1 (x8_hazeOf pg (nI o)) (fun r12 => if nI 9 - r10 - r12 < far then some (-nI 9) else some (nI o)))) = some (oI (if clr (maskC s c) j o = true then some o else none)) := by
  have hn := hG.n6
  obtain ⟨g0, g1, g2, g3, g4, g4', g5, g6, g7⟩ := hG.2.1 j hj
  obtain ⟨o0, o1, o2, o3, o4, o4', o5, o6, o7⟩ := hG.2.1 o ho
  have hd := dst_lt g0 o0
  have ew : c j 7 = 0 := by
    unfold maskC at hw
    split at hw
    · omega
    · exact hw
  have eo : maskC s c o 7 = c o 7 := by
    unfold maskC at h2 ⊢
    split
    · rename_i z
      rw [if_pos z] at h2
      exact absurd rfl h2
    · rfl
  have ej : hzS c j = c j 5 := by simp [hzS, ew]
  have e3 : maskC s c j 3 = c j 3 := by simp [maskC]
  have e5 : maskC s c j 5 = c j 5 := by simp [maskC]
  have e0 : ∀ k, maskC s c k 0 = c k 0 := fun k => by simp [maskC]
  have eh : hzS (maskC s c) o = hzS c o := by
    unfold hzS
    rw [eo, show maskC s c o 5 = c o 5 from by simp [maskC]]
  have ho9 : hzS c o ≤ 9 := by
    unfold hzS
    split <;> omega
  unfold clr
  rw [hM.p3 hj, hazeM hM hj hG, hazeM hM ho hG, ej, e3, e5, e0, e0, eh, hfar]
  simp (disch := omega) only [gB1_s, nI_eq, clear9]
  by_cases h3 : c j 3 = 2
  · simp only [h3, if_true, decide_true, Bool.true_or, oI]
  · simp only [h3, if_false, decide_false, Bool.false_or, decide_eq_true_eq]
    by_cases z : 9 < dst (c j 0) (c o 0) + c j 5 + hzS c o
    · rw [if_pos z, if_neg (by omega)]
      rfl
    · rw [if_neg z, if_pos (by omega)]
      rfl
theorem seesM_L (hM : MR n c kd sz pg) (hj : j < n) (hG : Good n c) (hs : s < 64) (hw : maskC s c j 7 = 0) (hN : 100 ≤ N) : ∀ q, q ≤ c j 0 → ∀ fl, q < fl → x8_sees_b49 N (nI n) (nI s) kd pg (nI j) fl (nI 0 - nI 1) (nI q + (nI 0 - nI 1)) = some (oI (match scanL (maskC s c) n q with
      | some o => if clr (maskC s c) j o = true then some o else none
      | none => none)) := by
  have hn := hG.n6
  obtain ⟨g0, g1, g2, g3, g4, g4', g5, g6, g7⟩ := hG.2.1 j hj
  intro q
  induction q with
  | zero =>
    intro _ fl hfl
    obtain ⟨fl, rfl⟩ : ∃ m, fl = m + 1 := ⟨fl - 1, by omega⟩
    rw [x8_sees_b49, in07_m]
    simp (disch := omega) only [li, gB1_s, nI_eq, if_true, scanL]
    rfl
  | succ q ih =>
    intro hq fl hfl
    obtain ⟨fl, rfl⟩ : ∃ m, fl = m + 1 := ⟨fl - 1, by omega⟩
    rw [x8_sees_b49, decm, in07_t (by omega), jarAtM hM hG hs (by omega) hN]
    unfold scanL
    cases e : atS (maskC s c) q n with
    | none =>
      simp (disch := omega) only [li, gB1_s, nI_eq, oI, if_true]
      rw [if_neg (by omega)]
      exact ih (by omega) fl (by omega)
    | some o =>
      obtain ⟨ho, h2, h0⟩ := atS_some e
      have e0 : c o 0 = q := by
        rw [← h0]
        simp [maskC]
      have z := hitM (far := (nI 0 - nI 1) * (nI q - nI (c j 0))) hM hj hG hw ho h2 (by rw [farL (by omega) g0 (by omega), e0])
      simp (disch := omega) only [li, gB1_s, nI_eq, oI, nI_clamp, gIn_t, gChk_t, hM.p0]
      rw [if_neg (by omega), if_neg (ne9 (by omega))]
      exact z
theorem seesM_R (hM : MR n c kd sz pg) (hj : j < n) (hG : Good n c) (hs : s < 64) (hw : maskC s c j 7 = 0) (hN : 100 ≤ N) : ∀ t, t ≤ 7 - c j 0 → ∀ fl, t < fl → x8_sees_b49 N (nI n) (nI s) kd pg (nI j) fl (nI 2 - nI 1) (nI (8 - t)) = some (oI (match scanR (maskC s c) n t with
      | some o => if clr (maskC s c) j o = true then some o else none
      | none => none)) := by
  have hn := hG.n6
  obtain ⟨g0, g1, g2, g3, g4, g4', g5, g6, g7⟩ := hG.2.1 j hj
  intro t
  induction t with
  | zero =>
    intro _ fl hfl
    obtain ⟨fl, rfl⟩ : ∃ m, fl = m + 1 := ⟨fl - 1, by omega⟩
    rw [x8_sees_b49, Nat.sub_zero, in07_8]
    simp (disch := omega) only [li, gB1_s, nI_eq, if_true, scanR]
    rfl
  | succ t ih =>
    intro hq fl hfl
    obtain ⟨fl, rfl⟩ : ∃ m, fl = m + 1 := ⟨fl - 1, by omega⟩
    have e8 : 8 - (t + 1) = 7 - t := by omega
    rw [x8_sees_b49, e8, in07_t (by omega), jarAtM hM hG hs (by omega) hN]
    unfold scanR
    cases e : atS (maskC s c) (7 - t) n with
    | none =>
      simp (disch := omega) only [li, gB1_s, nI_eq, oI, if_true]
      rw [if_neg (by omega), incm, show 7 - t + 1 = 8 - t from by omega]
      exact ih (by omega) fl (by omega)
    | some o =>
      obtain ⟨ho, h2, h0⟩ := atS_some e
      have e0 : c o 0 = 7 - t := by
        rw [← h0]
        simp [maskC]
      have z := hitM (far := (nI 2 - nI 1) * (nI (7 - t) - nI (c j 0))) hM hj hG hw ho h2 (by rw [farR (by omega) g0 (by omega), e0])
      simp (disch := omega) only [li, gB1_s, nI_eq, oI, nI_clamp, gIn_t, gChk_t, hM.p0]
      rw [if_neg (by omega), if_neg (ne9 (by omega))]
      exact z
theorem seesM (hM : MR n c kd sz pg) (hG : Good n c) (hj : j < n) (hs : s < 64) (hN : 100 ≤ N) : x8_sees N (nI n) (nI s) kd pg (nI j) = some (oI (seesS n (maskC s c) j)) := by
  have hn := hG.n6
  obtain ⟨g0, g1, g2, g3, g4, g4', g5, g6, g7⟩ := hG.2.1 j hj
  have e6 : maskC s c j 6 = c j 6 := by simp [maskC]
  have e0 : maskC s c j 0 = c j 0 := by simp [maskC]
  unfold x8_sees
  by_cases hb : s.testBit j = true
  · have e7 : maskC s c j 7 = c j 7 := by simp [maskC, hb]
    rw [hasM_t hs (by omega) hb]
    by_cases h7 : c j 7 = 0
    · have hw : maskC s c j 7 = 0 := by rw [e7]; exact h7
      unfold seesS nearS
      rw [if_pos hw, e6, e0, wholeM_t hM hj hn h7]
      simp (disch := omega) only [li, gB1_s, nI_eq, nI_add, nI_clamp, gIn_t, gChk_t, hM.p6, hM.p0, remN]
      rw [if_neg (by omega), if_neg (by omega)]
      by_cases h0 : c j 6 = 0
      · rw [if_neg (by omega), if_pos h0, h0]
        exact seesM_L hM hj hG hs hw hN (c j 0) (Nat.le_refl _) N (by omega)
      · rw [if_neg h0]
        by_cases h2 : c j 6 = 2
        · rw [if_neg (by omega), if_pos h2, h2, incm]
          have z := seesM_R hM hj hG hs hw hN (7 - c j 0) (Nat.le_refl _) N (by omega)
          rw [show 8 - (7 - c j 0) = c j 0 + 1 from by omega] at z
          exact z
        · rw [if_pos (by omega), if_neg h2]
          rfl
    · have hw : ¬ maskC s c j 7 = 0 := by rw [e7]; exact h7
      unfold seesS
      rw [if_neg hw, wholeM_f hM hj hn g7 h7]
      simp (disch := omega) only [li, gB1_s, nI_eq, nI_add, nI_clamp, gIn_t, gChk_t, if_true]
      rw [if_neg (by omega)]
      rfl
  · have hb' : s.testBit j = false := by simpa using hb
    have hw : ¬ maskC s c j 7 = 0 := by simp [maskC, hb']
    unfold seesS
    rw [if_neg hw, hasM_f hs (by omega) hb']
    simp (disch := omega) only [li, gB1_s, nI_eq, nI_add, nI_clamp, gIn_t, gChk_t, if_true]
    rfl
end SEESM
