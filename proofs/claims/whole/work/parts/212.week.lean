/-! PURE: a week -/
def rip (f u : Nat) : Nat := if u = 0 then min (f + 1) 9 else if u = 1 then f - 1 else if u = 2 then (if f < 5 then f + 1 else if 5 < f then f - 1 else f) else f
theorem ripX {f u : Nat} (hf : f ≤ 9) (hu : u ≤ 3) : x7_ripened (nI f) (nI u) = some (nI (rip f u)) := by
  have h : ∀ a : Fin 10, ∀ b : Fin 4, x7_ripened (nI a.val) (nI b.val) = some (nI (rip a.val b.val)) := by decide +kernel
  exact h ⟨f, by omega⟩ ⟨u, by omega⟩
theorem ripM {f u : Nat} (hf : f ≤ 9) (hu : u ≤ 3) : x8_soaked (nI f) (nI u) = some (nI (rip f u)) := by
  have h : ∀ a : Fin 10, ∀ b : Fin 4, x8_soaked (nI a.val) (nI b.val) = some (nI (rip a.val b.val)) := by decide +kernel
  exact h ⟨f, by omega⟩ ⟨u, by omega⟩
theorem rip_le {f u : Nat} (hf : f ≤ 9) : rip f u ≤ 9 := by
  unfold rip
  repeat' split
  all_goals omega
/-- one jar's week (ev: the week is even) -/
def weekJ (ev : Nat) (g : Nat → Nat) : Nat → Nat := fun p => if p = 1 then (if ev = 0 ∧ g 3 = 3 then g 1 else rip (g 1) (g 2)) else if p = 5 then (if ev = 0 ∧ ¬ g 3 = 2 then min (g 5 + 1) 9 else g 5) else if p = 6 then (if g 3 = 1 then (g 6 + 1) % 4 else g 6) else g p
def weekC (ev : Nat) (c : Nat → Nat → Nat) : Nat → Nat → Nat := fun j => if c j 7 = 0 then weekJ ev (c j) else c j
section WEEK
variable {n : Nat} {c : Nat → Nat → Nat} {f kd sz pg : Nat → Int32} {N : Nat} {j ev : Nat}
theorem lookOnX (hX : XR n c f) (hj : j < n) (hn : n ≤ 6) (hg : c j 6 ≤ 3) : x2_lookOn f (nI j) = some (upd f (8 * j + 6) (nI ((c j 6 + 1) % 4))) := by
  unfold x2_lookOn
  simp (disch := omega) only [li, partX hX, gB1_s, nI_add, remN, put_eq]
theorem weekX_c (hX : XR n c f) (hj : j < n) (hn : n ≤ 6) (hg : c j 6 ≤ 3) {k : Nat} (hk : k ≤ 3) {a2 : Int32} : ∃ f', x2_passWeekIn_b65 (nI j) a2 (nI k) f = some f' ∧ XR n (setC c j 6 (if k = 1 then (c j 6 + 1) % 4 else c j 6)) f' := by
  unfold x2_passWeekIn_b65
  by_cases h : k = 1
  · refine ⟨upd f (8 * j + 6) (nI ((c j 6 + 1) % 4)), ?_, ?_⟩
    · simp (disch := omega) only [li, nI_eq, h, if_true, lookOnX hX hj hn hg, gB1_s]
    · rw [if_pos h]
      exact hX.put hj (by omega)
  · refine ⟨f, ?_, ?_⟩
    · simp (disch := omega) only [li, nI_eq, h, if_false]
    · rw [if_neg h]
      refine hX.congr (fun i hi p hp => ?_)
      unfold setC
      split
      · rename_i e
        rw [e.1, e.2]
      · rfl
theorem weekX_b (hX : XR n c f) (hj : j < n) (hn : n ≤ 6) (hg : c j 6 ≤ 3) (hg5 : c j 5 ≤ 9) {k : Nat} (hk : k ≤ 3) (hev : ev ≤ 1) : ∃ f', x2_passWeekIn_b37 (nI j) (nI ev) (nI k) f = some f' ∧ XR n (setC (setC c j 5 (if ev = 0 ∧ ¬ k = 2 then min (c j 5 + 1) 9 else c j 5)) j 6 (if k = 1 then (c j 6 + 1) % 4 else c j 6)) f' := by
  have same : XR n (setC c j 5 (c j 5)) f := hX.congr (fun i hi p hp => by
    unfold setC
    split
    · rename_i e
      rw [e.1, e.2]
    · rfl)
  have hs6 : ∀ v, (setC c j 5 v) j 6 = c j 6 := fun v => by simp [setC]
  unfold x2_passWeekIn_b37
  by_cases h : ev = 0
  · by_cases h2 : k = 2
    · obtain ⟨f', e1, e2⟩ := weekX_c (a2 := nI ev) same hj hn (by rw [hs6]; exact hg) hk
      refine ⟨f', ?_, ?_⟩
      · simp (disch := omega) only [li, nI_eq, h, h2, if_true]
        rw [h, h2] at e1
        exact e1
      · rw [if_neg (by omega)]
        rw [hs6] at e2
        exact e2
    · have hp := hX.put (v := min (c j 5 + 1) 9) hj (show 5 < 8 by omega)
      obtain ⟨f', e1, e2⟩ := weekX_c (a2 := nI ev) hp hj hn (by rw [hs6]; exact hg) hk
      refine ⟨f', ?_, ?_⟩
      · have hm : (if nI 9 < nI (c j 5 + 1) then nI 9 else nI (c j 5 + 1)) = nI (min (c j 5 + 1) 9) := by
          by_cases q : 9 < c j 5 + 1
          · rw [if_pos (nI_lt q (by omega)), Nat.min_eq_right (by omega)]
          · rw [if_neg (nI_nlt (by omega) (by omega)), Nat.min_eq_left (by omega)]
        simp (disch := omega) only [li, nI_eq, h, h2, if_true, if_false, partX hX, gB1_s, nI_add, hm, put_eq]
        rw [h] at e1
        exact e1
      · rw [if_pos ⟨h, h2⟩]
        rw [hs6] at e2
        exact e2
  · obtain ⟨f', e1, e2⟩ := weekX_c (a2 := nI ev) same hj hn (by rw [hs6]; exact hg) hk
    refine ⟨f', ?_, ?_⟩
    · simp (disch := omega) only [li, nI_eq, h, if_false]
      exact e1
    · rw [if_neg (by omega)]
      rw [hs6] at e2
      exact e2
theorem weekX_j (hX : XR n c f) (hj : j < n) (hG : Good n c) (hev : ev ≤ 1) : ∃ f', x2_passWeekIn f (nI j) (nI ev) = some f' ∧ XR n (setJ c j (weekJ ev (c j))) f' := by
  have hn := hG.n6
  obtain ⟨g0, g1, g2, g3, g4, g4', g5, g6, g7⟩ := hG.2.1 j hj
  have fin : ∀ (v : Nat), v = (if ev = 0 ∧ c j 3 = 3 then c j 1 else rip (c j 1) (c j 2)) → ∀ i, i < n → ∀ p, p < 8 → (setC (setC (setC c j 1 v) j 5 (if ev = 0 ∧ ¬ c j 3 = 2 then min (c j 5 + 1) 9 else c j 5)) j 6 (if c j 3 = 1 then (c j 6 + 1) % 4 else c j 6)) i p = setJ c j (weekJ ev (c j)) i p := by
    intro v hv i hi p hp
    unfold setC setJ weekJ
    by_cases e : i = j
    · subst e
      by_cases p1 : p = 1
      · subst p1; simp [hv]
      · by_cases p5 : p = 5
        · subst p5; simp
        · by_cases p6 : p = 6
          · subst p6; simp
          · simp [p1, p5, p6]
    · simp [e]
  have s1 : ∀ v, (setC c j 1 v) j 6 = c j 6 := fun v => by simp [setC]
  have s2 : ∀ v, (setC c j 1 v) j 5 = c j 5 := fun v => by simp [setC]
  unfold x2_passWeekIn
  by_cases h : ev = 0 ∧ c j 3 = 3
  · have same : XR n (setC c j 1 (c j 1)) f := hX.congr (fun i hi p hp => by
      unfold setC
      split
      · rename_i e
        rw [e.1, e.2]
      · rfl)
    obtain ⟨f', e1, e2⟩ := weekX_b (ev := ev) same hj hn (by rw [s1]; exact g6) (by rw [s2]; exact g5) g3 hev
    refine ⟨f', ?_, ?_⟩
    · simp (disch := omega) only [li, partX hX, gB1_s, nI_eq, h.1, h.2, if_true]
      rw [h.1, h.2] at e1
      exact e1
    · rw [s1, s2] at e2
      exact e2.congr (fin _ (by rw [if_pos h]))
  · have hp := hX.put (v := rip (c j 1) (c j 2)) hj (show 1 < 8 by omega)
    obtain ⟨f', e1, e2⟩ := weekX_b (ev := ev) hp hj hn (by rw [s1]; exact g6) (by rw [s2]; exact g5) g3 hev
    refine ⟨f', ?_, ?_⟩
    · have hb : x2_passWeekIn_b16 (nI j) (nI ev) (nI (c j 3)) f = some f' := by
        unfold x2_passWeekIn_b16
        simp (disch := omega) only [li, partX hX, gB1_s, ripX, put_eq]
        exact e1
      simp (disch := omega) only [li, partX hX, gB1_s, nI_eq]
      by_cases h1 : ev = 0
      · rw [if_pos h1, if_neg (fun q => h ⟨h1, q⟩)]
        exact hb
      · rw [if_neg h1]
        exact hb
    · rw [s1, s2] at e2
      exact e2.congr (fin _ (by rw [if_neg h]))
theorem weekJ_7 (ev : Nat) (g : Nat → Nat) : weekJ ev g 7 = g 7 := by simp [weekJ]
theorem mix_w (i : Nat) (ev : Nat) (c : Nat → Nat → Nat) (n : Nat) (h : c i 7 = 0) : ∀ j, j < n → ∀ p, p < 8 → setJ (mixC i (weekC ev c) c) i (weekJ ev (mixC i (weekC ev c) c i)) j p = mixC (i + 1) (weekC ev c) c j p := by
  intro j _ p _
  have e0 : mixC i (weekC ev c) c i = c i := by
    funext q
    simp [mixC]
  unfold setJ
  rw [e0]
  unfold mixC
  by_cases e : j = i
  · subst e
    rw [if_pos rfl, if_pos (by omega)]
    simp [weekC, h]
  · rw [if_neg e]
    by_cases l : j < i
    · rw [if_pos l, if_pos (by omega)]
    · rw [if_neg l, if_neg (by omega)]
theorem mix_s (i : Nat) (ev : Nat) (c : Nat → Nat → Nat) (n : Nat) (h : ¬ c i 7 = 0) : ∀ j, j < n → ∀ p, p < 8 → mixC i (weekC ev c) c j p = mixC (i + 1) (weekC ev c) c j p := by
  intro j _ p _
  unfold mixC
  by_cases e : j = i
  · subst e
    rw [if_neg (by omega), if_pos (by omega)]
    simp [weekC, h]
  · by_cases l : j < i
    · rw [if_pos l, if_pos (by omega)]
    · rw [if_neg l, if_neg (by omega)]
theorem weekJ_good {g : Nat → Nat} (h : g 0 < 8 ∧ g 1 ≤ 9 ∧ g 2 ≤ 3 ∧ g 3 ≤ 3 ∧ 1 ≤ g 4 ∧ g 4 ≤ 9 ∧ g 5 ≤ 9 ∧ g 6 ≤ 3 ∧ g 7 ≤ 2) : weekJ ev g 0 < 8 ∧ weekJ ev g 1 ≤ 9 ∧ weekJ ev g 2 ≤ 3 ∧ weekJ ev g 3 ≤ 3 ∧ 1 ≤ weekJ ev g 4 ∧ weekJ ev g 4 ≤ 9 ∧ weekJ ev g 5 ≤ 9 ∧ weekJ ev g 6 ≤ 3 ∧ weekJ ev g 7 ≤ 2 := by
  obtain ⟨g0, g1, g2, g3, g4, g4', g5, g6, g7⟩ := h
  have hr := rip_le (u := g 2) g1
  refine ⟨?_, ?_, ?_, ?_, ?_, ?_, ?_, ?_, ?_⟩ <;> simp only [weekJ] <;> simp <;> (try split) <;> omega
theorem Good.week (hG : Good n c) : Good n (weekC ev c) := by
  refine ⟨hG.1, fun j hj => ?_, fun i j hi hj => ?_⟩
  · unfold weekC
    split
    · exact weekJ_good (hG.2.1 j hj)
    · exact hG.2.1 j hj
  · have e7 : ∀ k, weekC ev c k 7 = c k 7 := fun k => by
      unfold weekC
      split
      · exact weekJ_7 ev _
      · rfl
    have e0 : ∀ k, weekC ev c k 0 = c k 0 := fun k => by
      unfold weekC
      split
      · simp [weekJ]
      · rfl
    rw [e7, e7, e0, e0]
    exact hG.2.2 i j hi hj
theorem Good.mix (hG : Good n c) (i : Nat) : Good n (mixC i (weekC ev c) c) := by
  have hW := hG.week (ev := ev)
  refine ⟨hG.1, fun j hj => ?_, fun a b ha hb => ?_⟩
  · unfold mixC
    split
    · exact hW.2.1 j hj
    · exact hG.2.1 j hj
  · have e7 : ∀ k, mixC i (weekC ev c) c k 7 = c k 7 := fun k => by
      unfold mixC weekC
      split
      · split
        · exact weekJ_7 ev _
        · rfl
      · rfl
    have e0 : ∀ k, mixC i (weekC ev c) c k 0 = c k 0 := fun k => by
      unfold mixC weekC
      split
      · split
        · simp [weekJ]
        · rfl
      · rfl
    rw [e7, e7, e0, e0]
    exact hG.2.2 a b ha hb
theorem weekX_l (hG : Good n c) (hev : ev ≤ 1) {w : Int32} : ∀ k i, i + k = n → ∀ fl, k < fl → ∀ y, XR n (mixC i (weekC ev c) c) y → ∃ y', x2_passWeek_b17 N (nI n) fl (nI ev) (nI i) w y = some (w + nI 1, y') ∧ XR n (weekC ev c) y' := by
  have hn := hG.n6
  intro k
  induction k with
  | zero =>
    intro i hi fl hfl y hy
    obtain ⟨fl, rfl⟩ : ∃ m, fl = m + 1 := ⟨fl - 1, by omega⟩
    have e : i = n := by omega
    subst e
    refine ⟨y, ?_, hy.congr (fun j hj p hp => by simp [mixC, hj])⟩
    rw [x2_passWeek_b17, if_pos (nI_le (Nat.le_refl _) (by omega))]
    rfl
  | succ k ih =>
    intro i hi fl hfl y hy
    obtain ⟨fl, rfl⟩ : ∃ m, fl = m + 1 := ⟨fl - 1, by omega⟩
    have hin : i < n := by omega
    have hGm := hG.mix (ev := ev) i
    obtain ⟨g0, g1, g2, g3, g4, g4', g5, g6, g7⟩ := hGm.2.1 i hin
    have e7 : mixC i (weekC ev c) c i 7 = c i 7 := by simp [mixC]
    rw [x2_passWeek_b17, if_neg (nI_ge hin (by omega))]
    by_cases h : c i 7 = 0
    · obtain ⟨y1, e1, e2⟩ := weekX_j (ev := ev) hy hin hGm hev
      obtain ⟨y', a1, a2⟩ := ih (i + 1) (by omega) fl (by omega) y1 (e2.congr (mix_w i ev c n h))
      refine ⟨y', ?_, a2⟩
      simp (disch := omega) only [li, wholeX_t hy hin hn (e7.trans h), gB1_s, nI_eq, e1, nI_add]
      exact a1
    · obtain ⟨y', a1, a2⟩ := ih (i + 1) (by omega) fl (by omega) y (hy.congr (mix_s i ev c n h))
      refine ⟨y', ?_, a2⟩
      simp (disch := omega) only [li, wholeX_f hy hin hn g7 (by rw [e7]; exact h), gB1_s, nI_eq, nI_add]
      exact a1
/-- is the week even -/
def evn (w : Int32) : Nat := if w - w / 2 * 2 = 0 then 1 else 0
theorem evn_le (w : Int32) : evn w ≤ 1 := by
  unfold evn
  split <;> omega
theorem weekX {y : Nat → Int32} (hX : XR n c y) (hG : Good n c) (hN : 100 ≤ N) (w : Int32) : ∃ y', x2_passWeek N (nI n) w y = some (w + nI 1, y') ∧ XR n (weekC (evn w) c) y' := by
  have hn := hG.n6
  have h0 : XR n (mixC 0 (weekC (evn w) c) c) y := hX.congr (fun j hj p hp => by simp [mixC])
  obtain ⟨y', a1, a2⟩ := weekX_l (N := N) (w := w) hG (evn_le w) n 0 (by omega) N (by omega) y h0
  refine ⟨y', ?_, a2⟩
  unfold x2_passWeek
  unfold evn at a1
  split
  · rename_i h
    rw [if_pos h] at a1
    exact a1
  · rename_i h
    rw [if_neg h] at a1
    exact a1
end WEEK
