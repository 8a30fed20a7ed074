/-! PURE: one jar, one week, sums and bits: class and reference -/
def setC (c : Nat → Nat → Nat) (j p v : Nat) : Nat → Nat → Nat := fun k q => if k = j ∧ q = p then v else c k q
def setJ (c : Nat → Nat → Nat) (j : Nat) (g : Nat → Nat) : Nat → Nat → Nat := fun k q => if k = j then g q else c k q
def mixC (i : Nat) (a b : Nat → Nat → Nat) : Nat → Nat → Nat := fun k q => if k < i then a k q else b k q
theorem XR.congr {n : Nat} {c c' : Nat → Nat → Nat} {f : Nat → Int32} (h : XR n c f) (e : ∀ j, j < n → ∀ p, p < 8 → c j p = c' j p) : XR n c' f := fun j hj p hp => by rw [h j hj p hp, e j hj p hp]
theorem MR.congr {n : Nat} {c c' : Nat → Nat → Nat} {kd sz pg : Nat → Int32} (h : MR n c kd sz pg) (e : ∀ j, j < n → ∀ p, p < 8 → c j p = c' j p) : MR n c' kd sz pg := fun j hj => by
  obtain ⟨h0, h1, h2, h3, h4, h5, h6, h7⟩ := h j hj
  rw [← e j hj 0 (by omega), ← e j hj 1 (by omega), ← e j hj 2 (by omega), ← e j hj 3 (by omega), ← e j hj 4 (by omega), ← e j hj 5 (by omega), ← e j hj 6 (by omega), ← e j hj 7 (by omega)]
  exact ⟨h0, h1, h2, h3, h4, h5, h6, h7⟩
theorem Good.congr {n : Nat} {c c' : Nat → Nat → Nat} (h : Good n c) (e : ∀ j, j < n → ∀ p, p < 8 → c j p = c' j p) : Good n c' := by
  refine ⟨h.1, fun j hj => ?_, fun i j hi hj => ?_⟩
  · rw [← e j hj 0 (by omega), ← e j hj 1 (by omega), ← e j hj 2 (by omega), ← e j hj 3 (by omega), ← e j hj 4 (by omega), ← e j hj 5 (by omega), ← e j hj 6 (by omega), ← e j hj 7 (by omega)]
    exact h.2.1 j hj
  · rw [← e i hi 7 (by omega), ← e j hj 7 (by omega), ← e i hi 0 (by omega), ← e j hj 0 (by omega)]
    exact h.2.2 i j hi hj
theorem XR.put {n : Nat} {c : Nat → Nat → Nat} {f : Nat → Int32} (h : XR n c f) {j p v : Nat} (hj : j < n) (hp : p < 8) : XR n (setC c j p v) (upd f (8 * j + p) (nI v)) := fun k hk q hq => by
  unfold setC upd
  by_cases e : k = j ∧ q = p
  · obtain ⟨rfl, rfl⟩ := e
    simp
  · rw [if_neg e, if_neg (by intro z; apply e; omega), h k hk q hq]
section MPUT
variable {n : Nat} {c : Nat → Nat → Nat} {kd sz pg : Nat → Int32} {j v : Nat}
theorem MR.put (h : MR n c kd sz pg) (hn : n ≤ 6) (hj : j < n) (p o : Nat) (ho : (p = 0 ∧ o = 0) ∨ (p = 1 ∧ o = 6) ∨ (p = 2 ∧ o = 12) ∨ (p = 5 ∧ o = 18) ∨ (p = 6 ∧ o = 24) ∨ (p = 7 ∧ o = 30)) : MR n (setC c j p v) kd sz (upd pg (o + j) (nI v)) := fun k hk => by
  obtain ⟨h0, h1, h2, h3, h4, h5, h6, h7⟩ := h k hk
  unfold setC upd
  by_cases e : k = j
  · subst e
    rcases ho with ⟨rfl, rfl⟩ | ⟨rfl, rfl⟩ | ⟨rfl, rfl⟩ | ⟨rfl, rfl⟩ | ⟨rfl, rfl⟩ | ⟨rfl, rfl⟩ <;> simp (disch := omega) [h0, h1, h2, h3, h4, h5, h6, h7, if_neg, if_pos] <;> omega
  · have e2 : ∀ a, a = 0 ∨ a = 6 ∨ a = 12 ∨ a = 18 ∨ a = 24 ∨ a = 30 → ¬ a + k = o + j := fun a ha => by
      rcases ho with ⟨-, rfl⟩ | ⟨-, rfl⟩ | ⟨-, rfl⟩ | ⟨-, rfl⟩ | ⟨-, rfl⟩ | ⟨-, rfl⟩ <;> omega
    have e0 : ¬ k = o + j := fun z => e2 0 (Or.inl rfl) (by omega)
    rw [if_neg e0, if_neg (e2 6 (by omega)), if_neg (e2 12 (by omega)), if_neg (e2 18 (by omega)), if_neg (e2 24 (by omega)), if_neg (e2 30 (by omega))]
    simp only [e, false_and, if_false]
    exact ⟨h0, h1, h2, h3, h4, h5, h6, h7⟩
end MPUT
/-- sums of flavours -/
def sumF (c : Nat → Nat → Nat) : Nat → Nat
  | 0 => 0
  | i + 1 => sumF c i + (if c i 7 = 0 then c i 1 else 0)
section SUMS
variable {n : Nat} {c : Nat → Nat → Nat} {f kd sz pg : Nat → Int32} {N : Nat}
theorem flavX_l (hX : XR n c f) (hG : Good n c) : ∀ k i, i + k = n → ∀ fl, k < fl → x2_flavours_b4 N (nI n) f fl (nI (sumF c i)) (nI i) = some (nI (sumF c n)) := by
  have hn := hG.n6
  intro k
  induction k with
  | zero =>
    intro i hi fl hfl
    obtain ⟨fl, rfl⟩ : ∃ m, fl = m + 1 := ⟨fl - 1, by omega⟩
    have e : i = n := by omega
    subst e
    rw [x2_flavours_b4, if_pos (nI_le (Nat.le_refl _) (by omega))]
  | succ k ih =>
    intro i hi fl hfl
    obtain ⟨fl, rfl⟩ : ∃ m, fl = m + 1 := ⟨fl - 1, by omega⟩
    have hin : i < n := by omega
    obtain ⟨g0, g1, g2, g3, g4, g4', g5, g6, g7⟩ := hG.2.1 i hin
    have step := ih (i + 1) (by omega) fl (by omega)
    rw [x2_flavours_b4, if_neg (nI_ge hin (by omega))]
    by_cases h : c i 7 = 0
    · rw [show sumF c (i + 1) = sumF c i + c i 1 from by simp [sumF, h]] at step
      simp (disch := omega) only [li, wholeX_t hX hin hn h, partX hX, gB1_s, nI_eq, x2_flavours_b31, nI_add]
      exact step
    · rw [show sumF c (i + 1) = sumF c i + 0 from by simp [sumF, h]] at step
      simp (disch := omega) only [li, wholeX_f hX hin hn g7 h, partX hX, gB1_s, nI_eq, x2_flavours_b31, nI_add]
      exact step
theorem flavX (hX : XR n c f) (hG : Good n c) (hN : 100 ≤ N) : x2_flavours N (nI n) f = some (nI (sumF c n)) := flavX_l hX hG n 0 (by omega) N (by have := hG.n6; omega)
theorem flavM_l (hM : MR n c kd sz pg) (hG : Good n c) : ∀ k i, i + k = n → ∀ fl, k < fl → x8_flavours_b4 N (nI n) pg fl (nI (sumF c i)) (nI i) = some (nI (sumF c n)) := by
  have hn := hG.n6
  intro k
  induction k with
  | zero =>
    intro i hi fl hfl
    obtain ⟨fl, rfl⟩ : ∃ m, fl = m + 1 := ⟨fl - 1, by omega⟩
    have e : i = n := by omega
    subst e
    rw [x8_flavours_b4, if_pos (nI_le (Nat.le_refl _) (by omega))]
  | succ k ih =>
    intro i hi fl hfl
    obtain ⟨fl, rfl⟩ : ∃ m, fl = m + 1 := ⟨fl - 1, by omega⟩
    have hin : i < n := by omega
    obtain ⟨g0, g1, g2, g3, g4, g4', g5, g6, g7⟩ := hG.2.1 i hin
    have step := ih (i + 1) (by omega) fl (by omega)
    rw [x8_flavours_b4, if_neg (nI_ge hin (by omega))]
    by_cases h : c i 7 = 0
    · rw [show sumF c (i + 1) = sumF c i + c i 1 from by simp [sumF, h]] at step
      simp (disch := omega) only [li, wholeM_t hM hin hn h, gB1_s, nI_eq, x8_flavours_b31, nI_add, nI_clamp, gIn_t, gChk_t, hM.p1]
      exact step
    · rw [show sumF c (i + 1) = sumF c i + 0 from by simp [sumF, h]] at step
      simp (disch := omega) only [li, wholeM_f hM hin hn g7 h, gB1_s, nI_eq, x8_flavours_b31, nI_add]
      exact step
theorem flavM (hM : MR n c kd sz pg) (hG : Good n c) (hN : 100 ≤ N) : x8_flavours N (nI n) pg = some (nI (sumF c n)) := flavM_l hM hG n 0 (by omega) N (by have := hG.n6; omega)
end SUMS
