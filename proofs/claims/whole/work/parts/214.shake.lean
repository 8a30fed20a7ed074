/-! PURE: shaken -/
def mapC (φ : (Nat → Nat) → (Nat → Nat)) (c : Nat → Nat → Nat) : Nat → Nat → Nat := fun j => φ (c j)
theorem mix_i (i : Nat) (a c : Nat → Nat → Nat) : mixC i a c i = c i := by
  funext q
  simp [mixC]
theorem mix_step (i : Nat) (φ : (Nat → Nat) → (Nat → Nat)) (c : Nat → Nat → Nat) : setJ (mixC i (mapC φ c) c) i (φ (c i)) = mixC (i + 1) (mapC φ c) c := by
  funext j p
  unfold setJ mixC mapC
  by_cases e : j = i
  · subst e
    rw [if_pos rfl, if_pos (by omega)]
  · rw [if_neg e]
    by_cases l : j < i
    · rw [if_pos l, if_pos (by omega)]
    · rw [if_neg l, if_neg (by omega)]
theorem mix_0 (a c : Nat → Nat → Nat) : mixC 0 a c = c := by
  funext j p
  simp [mixC]
theorem setJ_self (c : Nat → Nat → Nat) (j : Nat) : setJ c j (c j) = c := by
  funext i p
  unfold setJ
  split
  · rename_i e
    rw [e]
  · rfl
theorem setC_J (c : Nat → Nat → Nat) (j p v : Nat) : setC c j p v = setJ c j (fun q => if q = p then v else c j q) := by
  funext i q
  unfold setC setJ
  by_cases e : i = j
  · subst e
    by_cases e2 : q = p
    · simp [e2]
    · simp [e2]
  · simp [e]
def okJ (g : Nat → Nat) : Prop := g 0 < 8 ∧ g 1 ≤ 9 ∧ g 2 ≤ 3 ∧ g 3 ≤ 3 ∧ 1 ≤ g 4 ∧ g 4 ≤ 9 ∧ g 5 ≤ 9 ∧ g 6 ≤ 3 ∧ g 7 ≤ 2
theorem Good.mapG {n : Nat} {c : Nat → Nat → Nat} {φ : (Nat → Nat) → (Nat → Nat)} (hG : Good n c) (h1 : ∀ g, okJ g → okJ (φ g)) (h2 : ∀ g, φ g 0 = g 0) (h3 : ∀ g, φ g 7 = 2 ↔ g 7 = 2) (i : Nat) : Good n (mixC i (mapC φ c) c) := by
  refine ⟨hG.1, fun j hj => ?_, fun a b ha hb p q r => ?_⟩
  · show okJ (mixC i (mapC φ c) c j)
    unfold mixC mapC
    by_cases l : j < i
    · simp only [l, if_true]
      exact h1 _ (hG.2.1 j hj)
    · simp only [l, if_false]
      exact hG.2.1 j hj
  · have e7 : ∀ k, mixC i (mapC φ c) c k 7 = 2 ↔ c k 7 = 2 := fun k => by
      unfold mixC mapC
      split
      · exact h3 _
      · exact Iff.rfl
    have e0 : ∀ k, mixC i (mapC φ c) c k 0 = c k 0 := fun k => by
      unfold mixC mapC
      split
      · exact h2 _
      · rfl
    rw [e0, e0] at r
    exact hG.2.2 a b ha hb (fun z => p ((e7 a).mpr z)) (fun z => q ((e7 b).mpr z)) r
theorem Good.map {n : Nat} {c : Nat → Nat → Nat} {φ : (Nat → Nat) → (Nat → Nat)} (hG : Good n c) (h1 : ∀ g, okJ g → okJ (φ g)) (h2 : ∀ g, φ g 0 = g 0) (h3 : ∀ g, φ g 7 = 2 ↔ g 7 = 2) : Good n (mapC φ c) := (hG.mapG h1 h2 h3 n).congr (fun j hj p _ => by simp [mixC, hj])
def shkJ (g : Nat → Nat) : Nat → Nat := fun p => if g 7 = 0 ∧ g 4 < g 5 then (if p = 7 then 1 else g p) else if g 7 = 0 ∧ ¬ g 3 = 3 then (if p = 6 then (g 6 + 1) % 4 else g p) else g p
theorem shk_ok (g : Nat → Nat) (h : okJ g) : okJ (shkJ g) := by
  obtain ⟨g0, g1, g2, g3, g4, g4', g5, g6, g7⟩ := h
  unfold shkJ
  refine ⟨?_, ?_, ?_, ?_, ?_, ?_, ?_, ?_, ?_⟩ <;> dsimp only <;> (repeat' split) <;> omega
theorem shk_0 (g : Nat → Nat) : shkJ g 0 = g 0 := by
  unfold shkJ
  repeat' split
  all_goals first | rfl | omega
theorem shk_7 (g : Nat → Nat) : shkJ g 7 = 2 ↔ g 7 = 2 := by
  unfold shkJ
  repeat' split
  all_goals first | exact Iff.rfl | (constructor <;> intro _ <;> omega)
abbrev shkC (c : Nat → Nat → Nat) : Nat → Nat → Nat := mapC shkJ c
def crkS (c : Nat → Nat → Nat) : Nat → Nat
  | 0 => 0
  | i + 1 => crkS c i + (if c i 7 = 0 ∧ c i 4 < c i 5 then 1 else 0)
section SHAKE
variable {n : Nat} {c : Nat → Nat → Nat} {f kd sz pg : Nat → Int32} {N : Nat} {j : Nat}
theorem crackX_t (hX : XR n c f) (hj : j < n) (hG : Good n c) (h : c j 7 = 0) (h2 : c j 4 < c j 5) : x2_wouldCrack (nI n) f (nI j) = some (nI 1) := by
  have hn := hG.n6
  obtain ⟨g0, g1, g2, g3, g4, g4', g5, g6, g7⟩ := hG.2.1 j hj
  unfold x2_wouldCrack
  simp (disch := omega) only [li, wholeX_t hX hj hn h, partX hX, gB1_s, nI_eq, nI_leI]
  rw [if_neg (by omega), if_neg (by omega)]
theorem crackX_f (hX : XR n c f) (hj : j < n) (hG : Good n c) (h : ¬ (c j 7 = 0 ∧ c j 4 < c j 5)) : x2_wouldCrack (nI n) f (nI j) = some (nI 0) := by
  have hn := hG.n6
  obtain ⟨g0, g1, g2, g3, g4, g4', g5, g6, g7⟩ := hG.2.1 j hj
  unfold x2_wouldCrack
  by_cases h0 : c j 7 = 0
  · simp (disch := omega) only [li, wholeX_t hX hj hn h0, partX hX, gB1_s, nI_eq, nI_leI]
    rw [if_neg (by omega), if_pos (by omega)]
  · simp (disch := omega) only [li, wholeX_f hX hj hn g7 h0, gB1_s, nI_eq]
    rfl
theorem shkX_l (hG : Good n c) : ∀ k i, i + k = n → ∀ fl, k < fl → ∀ y, XR n (mixC i (shkC c) c) y → ∃ y', x2_rattle_b4 N (nI n) fl (nI (crkS c i)) (nI i) y = some (nI (crkS c n), y') ∧ XR n (shkC c) y' := by
  have hn := hG.n6
  intro k
  induction k with
  | zero =>
    intro i hi fl hfl y hy
    obtain ⟨fl, rfl⟩ : ∃ m, fl = m + 1 := ⟨fl - 1, by omega⟩
    have e : i = n := by omega
    subst e
    refine ⟨y, ?_, hy.congr (fun j hj p hp => by simp [mixC, hj])⟩
    rw [x2_rattle_b4, if_pos (nI_le (Nat.le_refl _) (by omega))]
  | succ k ih =>
    intro i hi fl hfl y hy
    obtain ⟨fl, rfl⟩ : ∃ m, fl = m + 1 := ⟨fl - 1, by omega⟩
    have hin : i < n := by omega
    have hGm : Good n (mixC i (shkC c) c) := hG.mapG shk_ok shk_0 shk_7 i
    have ei : mixC i (shkC c) c i = c i := mix_i i _ c
    obtain ⟨g0, g1, g2, g3, g4, g4', g5, g6, g7⟩ := hG.2.1 i hin
    have nextX : ∀ y1, XR n (setJ (mixC i (shkC c) c) i (shkJ (c i))) y1 → XR n (mixC (i + 1) (shkC c) c) y1 := fun y1 h => by
      rw [← mix_step i shkJ c]
      exact h
    rw [x2_rattle_b4, if_neg (nI_ge hin (by omega))]
    by_cases h : c i 7 = 0 ∧ c i 4 < c i 5
    · have hp := hy.put (v := 1) hin (show 7 < 8 by omega)
      have hp2 : XR n (setJ (mixC i (shkC c) c) i (shkJ (c i))) (upd y (8 * i + 7) (nI 1)) := by
        rw [setC_J, ei] at hp
        refine hp.congr (fun j hj p hq => ?_)
        unfold setJ shkJ
        simp only [h, and_self, if_true]
      obtain ⟨y', a1, a2⟩ := ih (i + 1) (by omega) fl (by omega) _ (nextX _ hp2)
      refine ⟨y', ?_, a2⟩
      rw [show crkS c (i + 1) = crkS c i + 1 from by simp [crkS, h]] at a1
      simp (disch := omega) only [li, crackX_t hy hin hGm (by rw [ei]; exact h.1) (by rw [ei]; exact h.2), gB1_s, nI_eq, put_eq, nI_add]
      rw [if_neg (by omega)]
      exact a1
    · by_cases h0 : c i 7 = 0
      · by_cases h3 : c i 3 = 3
        · have hp2 : XR n (setJ (mixC i (shkC c) c) i (shkJ (c i))) y := by
            refine hy.congr (fun j hj p hq => ?_)
            unfold setJ
            split
            · rename_i e
              rw [e, ei]
              unfold shkJ
              rw [if_neg h, if_neg (fun q => q.2 h3)]
            · rfl
          obtain ⟨y', a1, a2⟩ := ih (i + 1) (by omega) fl (by omega) _ (nextX _ hp2)
          refine ⟨y', ?_, a2⟩
          rw [show crkS c (i + 1) = crkS c i from by simp [crkS, h]] at a1
          simp (disch := omega) only [li, crackX_f hy hin hGm (by rw [ei]; exact h), wholeX_t hy hin hn (by rw [ei]; exact h0), partX hy, ei, gB1_s, nI_eq, nI_add, h3, if_true]
          rw [if_neg (by omega)]
          exact a1
        · have hp := hy.put (v := (c i 6 + 1) % 4) hin (show 6 < 8 by omega)
          have hp2 : XR n (setJ (mixC i (shkC c) c) i (shkJ (c i))) (upd y (8 * i + 6) (nI ((c i 6 + 1) % 4))) := by
            rw [setC_J, ei] at hp
            refine hp.congr (fun j hj p hq => ?_)
            unfold setJ
            split
            · unfold shkJ
              rw [if_neg h, if_pos ⟨h0, h3⟩]
            · rfl
          obtain ⟨y', a1, a2⟩ := ih (i + 1) (by omega) fl (by omega) _ (nextX _ hp2)
          refine ⟨y', ?_, a2⟩
          rw [show crkS c (i + 1) = crkS c i from by simp [crkS, h]] at a1
          have hlk : x2_lookOn y (nI i) = some (upd y (8 * i + 6) (nI ((c i 6 + 1) % 4))) := by
            have q := lookOnX hy hin hn (by rw [ei]; exact g6)
            rw [ei] at q
            exact q
          simp (disch := omega) only [li, crackX_f hy hin hGm (by rw [ei]; exact h), wholeX_t hy hin hn (by rw [ei]; exact h0), partX hy, ei, gB1_s, nI_eq, nI_add, h3, if_true, if_false, hlk]
          rw [if_neg (by omega)]
          exact a1
      · have hp2 : XR n (setJ (mixC i (shkC c) c) i (shkJ (c i))) y := by
          refine hy.congr (fun j hj p hq => ?_)
          unfold setJ
          split
          · rename_i e
            rw [e, ei]
            unfold shkJ
            rw [if_neg h, if_neg (fun q => h0 q.1)]
          · rfl
        obtain ⟨y', a1, a2⟩ := ih (i + 1) (by omega) fl (by omega) _ (nextX _ hp2)
        refine ⟨y', ?_, a2⟩
        rw [show crkS c (i + 1) = crkS c i from by simp [crkS, h]] at a1
        simp (disch := omega) only [li, crackX_f hy hin hGm (by rw [ei]; exact h), wholeX_f hy hin hn (by rw [ei]; exact g7) (by rw [ei]; exact h0), gB1_s, nI_eq, nI_add, if_true]
        exact a1
theorem shkX {y : Nat → Int32} (hX : XR n c y) (hG : Good n c) (hN : 100 ≤ N) : ∃ y', x2_rattle N (nI n) y = some (nI (crkS c n), y') ∧ XR n (shkC c) y' := by
  have hn := hG.n6
  exact shkX_l (N := N) hG n 0 (by omega) N (by omega) y (by rw [mix_0]; exact hX)
set_option maxHeartbeats 4000000 in
theorem shkM_l (hG : Good n c) : ∀ k i, i + k = n → ∀ fl, k < fl → ∀ y, MR n (mixC i (shkC c) c) kd sz y → ∃ y', x8_goShake_b4 N (nI n) kd sz fl (nI (crkS c i)) (nI i) y = some (nI (crkS c n), y') ∧ MR n (shkC c) kd sz y' ∧ y' 36 = y 36 := by
  have hn := hG.n6
  intro k
  induction k with
  | zero =>
    intro i hi fl hfl y hy
    obtain ⟨fl, rfl⟩ : ∃ m, fl = m + 1 := ⟨fl - 1, by omega⟩
    have e : i = n := by omega
    subst e
    refine ⟨y, ?_, hy.congr (fun j hj p hp => by simp [mixC, hj]), rfl⟩
    rw [x8_goShake_b4, if_pos (nI_le (Nat.le_refl _) (by omega))]
  | succ k ih =>
    intro i hi fl hfl y hy
    obtain ⟨fl, rfl⟩ : ∃ m, fl = m + 1 := ⟨fl - 1, by omega⟩
    have hin : i < n := by omega
    have ei : mixC i (shkC c) c i = c i := mix_i i _ c
    obtain ⟨g0, g1, g2, g3, g4, g4', g5, g6, g7⟩ := hG.2.1 i hin
    have p3 := hy.p3 hin
    have p4 := hy.p4 hin
    have p5 := hy.p5 hin
    have p6 := hy.p6 hin
    have p7 := hy.p7 hin
    rw [ei] at p3 p4 p5 p6 p7
    -- every road ends in two rows set: the state, then the look
    have key : ∀ (s' l' : Nat), s' = shkJ (c i) 7 → l' = shkJ (c i) 6 → MR n (mixC (i + 1) (shkC c) c) kd sz (upd (upd y (30 + i) (nI s')) (24 + i) (nI l')) := by
      intro s' l' e1 e2
      have h1 := hy.put (v := s') hn hin 7 30 (by omega)
      have h2 := h1.put (v := l') hn hin 6 24 (by omega)
      rw [← mix_step i shkJ c]
      refine h2.congr (fun j hj p hq => ?_)
      unfold setC setJ
      by_cases e : j = i
      · subst e
        by_cases q6 : p = 6
        · subst q6; simp [e2]
        · by_cases q7 : p = 7
          · subst q7; simp [e1]
          · simp only [q6, q7, and_false, if_false, if_true]
            rw [ei]
            unfold shkJ
            simp only [q6, q7, if_false]
            repeat' split
            all_goals rfl
      · simp [e]
    have k36 : ∀ (s' l' : Int32), (upd (upd y (30 + i) s') (24 + i) l') 36 = y 36 := fun s' l' => by simp (disch := omega) only [pk_un]
    rw [x8_goShake_b4, if_neg (nI_ge hin (by omega))]
    by_cases h0 : c i 7 = 0
    · by_cases h : c i 4 < c i 5
      · obtain ⟨y', a1, a2, a3⟩ := ih (i + 1) (by omega) fl (by omega) _ (key 1 (c i 6) (by simp [shkJ, h0, h]) (by simp [shkJ, h0, h]))
        refine ⟨y', ?_, a2, by rw [a3, k36]⟩
        rw [show crkS c (i + 1) = crkS c i + 1 from by simp [crkS, h0, h]] at a1
        have nle : ¬ c i 5 ≤ c i 4 := by omega
        simp (maxSteps := 2000000) (disch := omega) only [li, wholeM_t hy hin hn (by rw [ei]; exact h0), gB1_s, nI_eq, nI_add, nI_clamp, gIn_t, gChk_t, p4, p5, p6, p7, nI_leI, nle, if_false, x8_goShake_b40, x8_goShake_b69, x8_goShake_b70, x8_goShake_b92, x8_goShake_b122, x8_goShake_b134, pk_un]
        simp only [show ¬ (1 = 0) from by omega, if_false, if_true]
        exact a1
      · have nle : c i 5 ≤ c i 4 := by omega
        by_cases h3 : c i 3 = 3
        · obtain ⟨y', a1, a2, a3⟩ := ih (i + 1) (by omega) fl (by omega) _ (key (c i 7) (c i 6) (by simp [shkJ, h0, h, h3]) (by simp [shkJ, h0, h, h3]))
          refine ⟨y', ?_, a2, by rw [a3, k36]⟩
          rw [show crkS c (i + 1) = crkS c i + 0 from by simp [crkS, h]] at a1
          simp (disch := omega) only [li, wholeM_t hy hin hn (by rw [ei]; exact h0), gB1_s, nI_eq, nI_add, nI_clamp, gIn_t, gChk_t, p3, p4, p5, p6, p7, nI_leI, nle, if_true, h3, x8_goShake_b39, x8_goShake_b40, x8_goShake_b69, x8_goShake_b70, x8_goShake_b92, x8_goShake_b122, x8_goShake_b134, pk_un]
          simp only [show ¬ (1 = 0) from by omega, if_false, if_true]
          exact a1
        · obtain ⟨y', a1, a2, a3⟩ := ih (i + 1) (by omega) fl (by omega) _ (key (c i 7) ((c i 6 + 1) % 4) (by simp [shkJ, h0, h, h3]) (by simp [shkJ, h0, h, h3]))
          refine ⟨y', ?_, a2, by rw [a3, k36]⟩
          rw [show crkS c (i + 1) = crkS c i + 0 from by simp [crkS, h]] at a1
          simp (disch := omega) only [li, wholeM_t hy hin hn (by rw [ei]; exact h0), gB1_s, nI_eq, nI_add, nI_clamp, gIn_t, gChk_t, p3, p4, p5, p6, p7, nI_leI, nle, if_true, if_false, h3, x8_goShake_b39, x8_goShake_b40, x8_goShake_b69, x8_goShake_b70, x8_goShake_b92, x8_goShake_b122, x8_goShake_b134, pk_un, remN]
          simp only [show ¬ (1 = 0) from by omega, if_false, if_true]
          exact a1
    · obtain ⟨y', a1, a2, a3⟩ := ih (i + 1) (by omega) fl (by omega) _ (key (c i 7) (c i 6) (by simp [shkJ, h0]) (by simp [shkJ, h0]))
      refine ⟨y', ?_, a2, by rw [a3, k36]⟩
      rw [show crkS c (i + 1) = crkS c i + 0 from by simp [crkS, h0]] at a1
      simp (disch := omega) only [li, wholeM_f hy hin hn (by rw [ei]; exact g7) (by rw [ei]; exact h0), gB1_s, nI_eq, nI_add, nI_clamp, gIn_t, gChk_t, p6, p7, if_true, x8_goShake_b39, x8_goShake_b40, x8_goShake_b69, x8_goShake_b70, x8_goShake_b92, x8_goShake_b122, x8_goShake_b134, pk_un]
      exact a1
theorem shkM {y : Nat → Int32} (hM : MR n c kd sz y) (hG : Good n c) (hN : 100 ≤ N) : ∃ y', x8_goShake N (nI n) kd sz y = some (nI (crkS c n), y') ∧ MR n (shkC c) kd sz y' ∧ y' 36 = y 36 := by
  have hn := hG.n6
  exact shkM_l (N := N) hG n 0 (by omega) N (by omega) y (by rw [mix_0]; exact hM)
end SHAKE
