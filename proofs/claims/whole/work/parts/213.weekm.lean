/-! PURE: a week of the reference -/
section WEEKM
variable {n : Nat} {c : Nat → Nat → Nat} {f kd sz pg : Nat → Int32} {N : Nat} {j ev : Nat}
def upd3 (y : Nat → Int32) (j a b d : Nat) : Nat → Int32 := upd (upd (upd y (6 + j) (nI a)) (18 + j) (nI b)) (24 + j) (nI d)
theorem weekM_3 (hM : MR n c kd sz pg) (hj : j < n) (hG : Good n c) (ev : Nat) : MR n (setJ c j (weekJ ev (c j))) kd sz (upd3 pg j (weekJ ev (c j) 1) (weekJ ev (c j) 5) (weekJ ev (c j) 6)) := by
  have hn := hG.n6
  unfold upd3
  have h1 := hM.put (v := weekJ ev (c j) 1) hn hj 1 6 (by omega)
  have h2 := h1.put (v := weekJ ev (c j) 5) hn hj 5 18 (by omega)
  have h3 := h2.put (v := weekJ ev (c j) 6) hn hj 6 24 (by omega)
  refine h3.congr (fun i hi p hp => ?_)
  unfold setC setJ
  by_cases e : i = j
  · subst e
    by_cases p6 : p = 6
    · subst p6; simp
    · by_cases p5 : p = 5
      · subst p5; simp
      · by_cases p1 : p = 1
        · subst p1; simp
        · simp [p1, p5, p6, weekJ]
  · simp [e]
theorem weekM_c (hM : MR n c kd sz pg) (hj : j < n) (hG : Good n c) (k17 : Int32 → Int32 → (Nat → Int32) → Option (Nat → Int32)) (a : Nat) {b : Nat} (hb : b = 0 ∨ b = 1) (x2 : Int32) (h5 : c j 5 + b ≤ 9) : x8_goWeek_b114 N (nI n) kd k17 x2 (nI j) (nI (18 + j)) (nI (c j 5)) (nI b) (upd pg (6 + j) (nI a)) = k17 x2 (nI (j + 1)) (upd3 pg j a (c j 5 + b) (if c j 3 = 1 then (c j 6 + 1) % 4 else c j 6)) := by
  have hn := hG.n6
  obtain ⟨g0, g1, g2, g3, g4, g4', g5, g6, g7⟩ := hG.2.1 j hj
  unfold x8_goWeek_b114 upd3
  by_cases h : c j 3 = 1
  · simp (disch := omega) only [li, nI_add, nI_clamp, gIn_t, gChk_t, hM.p3, hM.p6, nI_eq, h, if_true, pk_un, x8_goWeek_b150, remN]
  · simp (disch := omega) only [li, nI_add, nI_clamp, gIn_t, gChk_t, hM.p3, hM.p6, nI_eq, h, if_false, pk_un, x8_goWeek_b150]
theorem weekM_b (hM : MR n c kd sz pg) (hj : j < n) (hG : Good n c) (hev : ev ≤ 1) (k17 : Int32 → Int32 → (Nat → Int32) → Option (Nat → Int32)) (a : Nat) : x8_goWeek_b76 N (nI n) kd k17 (nI ev) (nI j) (nI (6 + j)) (nI a) pg = k17 (nI ev) (nI (j + 1)) (upd3 pg j a (weekJ ev (c j) 5) (weekJ ev (c j) 6)) := by
  have hn := hG.n6
  obtain ⟨g0, g1, g2, g3, g4, g4', g5, g6, g7⟩ := hG.2.1 j hj
  have e6 : weekJ ev (c j) 6 = (if c j 3 = 1 then (c j 6 + 1) % 4 else c j 6) := by simp [weekJ]
  rw [e6]
  have z := weekM_c (N := N) hM hj hG k17 a (b := 0) (Or.inl rfl) (nI ev) (by omega)
  rw [Nat.add_zero] at z
  by_cases h : ev = 0
  · by_cases h2 : c j 3 = 2
    · have e5 : weekJ ev (c j) 5 = c j 5 := by simp [weekJ, h2]
      rw [e5]
      unfold x8_goWeek_b76
      simp (disch := omega) only [li, nI_add, nI_clamp, gIn_t, gChk_t, hM.p3, hM.p5, nI_eq, h, h2, if_true, pk_un, x8_goWeek_b113]
      rw [h] at z
      rw [h2] at z
      exact z
    · by_cases h9 : 9 ≤ c j 5
      · have e5 : weekJ ev (c j) 5 = c j 5 := by
          simp [weekJ, h, h2]
          omega
        rw [e5]
        unfold x8_goWeek_b76
        simp (disch := omega) only [li, nI_add, nI_clamp, gIn_t, gChk_t, hM.p3, hM.p5, nI_eq, nI_leI, h, h2, h9, if_true, if_false, pk_un, x8_goWeek_b113]
        rw [h] at z
        exact z
      · have e5 : weekJ ev (c j) 5 = c j 5 + 1 := by
          simp [weekJ, h, h2]
          omega
        rw [e5]
        unfold x8_goWeek_b76
        simp (disch := omega) only [li, nI_add, nI_clamp, gIn_t, gChk_t, hM.p3, hM.p5, nI_eq, nI_leI, h, h2, h9, if_true, if_false, pk_un]
        have z1 := weekM_c (N := N) hM hj hG k17 a (b := 1) (Or.inr rfl) (nI ev) (by omega)
        rw [h] at z1
        exact z1
  · have e5 : weekJ ev (c j) 5 = c j 5 := by simp [weekJ, h]
    rw [e5]
    unfold x8_goWeek_b76
    simp (disch := omega) only [li, nI_add, nI_clamp, gIn_t, gChk_t, hM.p3, hM.p5, nI_eq, h, if_false, pk_un, x8_goWeek_b113]
    exact z
theorem weekM_l (hG : Good n c) (hev : ev ≤ 1) {w : Int32} : ∀ k i, i + k = n → ∀ fl, k < fl → ∀ y, MR n (mixC i (weekC ev c) c) kd sz y → y 36 = w → ∃ y', x8_goWeek_b17 N (nI n) kd fl (nI ev) (nI i) y = some y' ∧ MR n (weekC ev c) kd sz y' ∧ y' 36 = w + nI 1 := by
  have hn := hG.n6
  intro k
  induction k with
  | zero =>
    intro i hi fl hfl y hy hw
    obtain ⟨fl, rfl⟩ : ∃ m, fl = m + 1 := ⟨fl - 1, by omega⟩
    have e : i = n := by omega
    subst e
    refine ⟨upd y 36 (w + nI 1), ?_, ?_, pk_us⟩
    · rw [x8_goWeek_b17, if_pos (nI_le (Nat.le_refl _) (by omega))]
      simp (disch := omega) only [li, nI_clamp, gIn_t, gChk_t, hw]
    · have hy2 := hy.congr (c' := weekC ev c) (fun j hj p hp => by simp [mixC, hj])
      intro j hj
      obtain ⟨h0, h1, h2, h3, h4, h5, h6, h7⟩ := hy2 j hj
      simp (disch := omega) only [pk_un]
      exact ⟨h0, h1, h2, h3, h4, h5, h6, h7⟩
  | succ k ih =>
    intro i hi fl hfl y hy hw
    obtain ⟨fl, rfl⟩ : ∃ m, fl = m + 1 := ⟨fl - 1, by omega⟩
    have hin : i < n := by omega
    have hGm := hG.mix (ev := ev) i
    obtain ⟨g0, g1, g2, g3, g4, g4', g5, g6, g7⟩ := hGm.2.1 i hin
    have e7 : mixC i (weekC ev c) c i 7 = c i 7 := by simp [mixC]
    rw [x8_goWeek_b17, if_neg (nI_ge hin (by omega))]
    by_cases h : c i 7 = 0
    · have h3 := weekM_3 hy hin hGm ev
      obtain ⟨y', a1, a2, a3⟩ := ih (i + 1) (by omega) fl (by omega) _ (h3.congr (mix_w i ev c n h)) (by
        unfold upd3
        simp (disch := omega) only [pk_un]
        exact hw)
      refine ⟨y', ?_, a2, a3⟩
      have e1 : weekJ ev (mixC i (weekC ev c) c i) 1 = (if ev = 0 ∧ mixC i (weekC ev c) c i 3 = 3 then mixC i (weekC ev c) c i 1 else rip (mixC i (weekC ev c) c i 1) (mixC i (weekC ev c) c i 2)) := by simp [weekJ]
      have b1 := weekM_b (N := N) hy hin hGm hev (x8_goWeek_b17 N (nI n) kd fl) (weekJ ev (mixC i (weekC ev c) c i) 1)
      rw [a1] at b1
      have b61 : (¬ (ev = 0 ∧ mixC i (weekC ev c) c i 3 = 3)) → x8_goWeek_b61 N (nI n) kd (x8_goWeek_b17 N (nI n) kd fl) (nI ev) (nI i) (nI (6 + i)) y = some y' := fun q => by
        rw [e1, if_neg q] at b1
        unfold x8_goWeek_b61
        simp (disch := omega) only [li, nI_add, nI_clamp, gIn_t, gChk_t, hy.p1, hy.p2, ripM, gB1_s]
        exact b1
      simp (disch := omega) only [li, wholeM_t hy hin hn (e7.trans h), gB1_s, nI_eq, nI_add, nI_clamp, gIn_t, gChk_t, hy.p3, hy.p1]
      rw [if_neg (by omega)]
      by_cases q3 : mixC i (weekC ev c) c i 3 = 3
      · rw [if_pos q3]
        by_cases q0 : ev = 0
        · rw [if_pos q0]
          rw [e1, if_pos ⟨q0, q3⟩] at b1
          exact b1
        · rw [if_neg q0]
          exact b61 (fun q => q0 q.1)
      · rw [if_neg q3]
        exact b61 (fun q => q3 q.2)
    · obtain ⟨y', a1, a2, a3⟩ := ih (i + 1) (by omega) fl (by omega) y (hy.congr (mix_s i ev c n h)) hw
      refine ⟨y', ?_, a2, a3⟩
      simp (disch := omega) only [li, wholeM_f hy hin hn g7 (by rw [e7]; exact h), gB1_s, nI_eq, nI_add]
      exact a1
theorem weekM {y : Nat → Int32} (hM : MR n c kd sz y) (hG : Good n c) (hN : 100 ≤ N) {w : Int32} (hw : y 36 = w) : ∃ y', x8_goWeek N (nI n) kd y = some y' ∧ MR n (weekC (evn w) c) kd sz y' ∧ y' 36 = w + nI 1 := by
  have hn := hG.n6
  have h0 : MR n (mixC 0 (weekC (evn w) c) c) kd sz y := hM.congr (fun j hj p hp => by simp [mixC])
  obtain ⟨y', a1, a2, a3⟩ := weekM_l (N := N) (w := w) hG (evn_le w) n 0 (by omega) N (by omega) y h0 hw
  refine ⟨y', ?_, a2, a3⟩
  unfold x8_goWeek
  have ec : (36 : Int32).toNatClampNeg = 36 := by decide
  have eg : gIn (36 : Int32) 37 = true := by decide
  rw [eg, gChk_t, ec, hw]
  unfold evn at a1
  split
  · rename_i h
    rw [if_pos h] at a1
    exact a1
  · rename_i h
    rw [if_neg h] at a1
    exact a1
end WEEKM
