/-! PURE: who stands where, who sees whom -/
def oI : Option Nat → Int32
  | none => -nI 9
  | some j => nI j
def atS (c : Nat → Nat → Nat) (q : Nat) : Nat → Option Nat
  | 0 => none
  | i + 1 => if ¬ c i 7 = 2 ∧ c i 0 = q then some i else atS c q i
theorem atS_succ (c : Nat → Nat → Nat) (q i : Nat) : atS c q (i + 1) = if ¬ c i 7 = 2 ∧ c i 0 = q then some i else atS c q i := rfl
theorem atS_some {c : Nat → Nat → Nat} {q : Nat} : ∀ {n j : Nat}, atS c q n = some j → j < n ∧ ¬ c j 7 = 2 ∧ c j 0 = q
  | 0, _, h => by cases h
  | n + 1, j, h => by
    unfold atS at h
    split at h
    · rename_i e
      cases h
      exact ⟨by omega, e.1, e.2⟩
    · obtain ⟨a, b⟩ := atS_some h
      exact ⟨by omega, b⟩
theorem atS_none {c : Nat → Nat → Nat} {q : Nat} : ∀ {n : Nat}, atS c q n = none → ∀ j, j < n → ¬ (¬ c j 7 = 2 ∧ c j 0 = q)
  | 0, _, j, hj => by omega
  | n + 1, h, j, hj => by
    unfold atS at h
    split at h
    · cases h
    · rename_i e
      by_cases ej : j = n
      · rw [ej]; exact e
      · exact atS_none h j (by omega)
theorem atS_of {c : Nat → Nat → Nat} {q n j : Nat} (hG : Good n c) (hj : j < n) (h7 : ¬ c j 7 = 2) (h0 : c j 0 = q) : atS c q n = some j := by
  cases h : atS c q n with
  | none => exact absurd ⟨h7, h0⟩ (atS_none h j hj)
  | some k =>
    obtain ⟨a, b, d⟩ := atS_some h
    rw [hG.2.2 k j a hj b h7 (by rw [d, h0])]
def scanL (c : Nat → Nat → Nat) (n : Nat) : Nat → Option Nat
  | 0 => none
  | q + 1 => match atS c q n with
    | some o => some o
    | none => scanL c n q
def scanR (c : Nat → Nat → Nat) (n : Nat) : Nat → Option Nat
  | 0 => none
  | k + 1 => match atS c (7 - k) n with
    | some o => some o
    | none => scanR c n k
theorem scanL_some {c : Nat → Nat → Nat} {n : Nat} : ∀ {q o : Nat}, scanL c n q = some o → o < n ∧ ¬ c o 7 = 2 ∧ c o 0 < q ∧ ∀ k, k < n → ¬ c k 7 = 2 → c k 0 < q → c k 0 ≤ c o 0
  | 0, _, h => by cases h
  | q + 1, o, h => by
    unfold scanL at h
    cases e : atS c q n with
    | some p =>
      rw [e] at h
      cases h
      obtain ⟨a, b, d⟩ := atS_some e
      exact ⟨a, b, by omega, fun k _ _ hk => by omega⟩
    | none =>
      rw [e] at h
      obtain ⟨a, b, d, m⟩ := scanL_some h
      refine ⟨a, b, by omega, fun k h1 h2 h3 => ?_⟩
      by_cases ek : c k 0 = q
      · exact absurd ⟨h2, ek⟩ (atS_none e k h1)
      · exact m k h1 h2 (by omega)
theorem scanL_none {c : Nat → Nat → Nat} {n : Nat} : ∀ {q : Nat}, scanL c n q = none → ∀ k, k < n → ¬ c k 7 = 2 → ¬ c k 0 < q
  | 0, _, k, _, _ => by omega
  | q + 1, h, k, h1, h2 => by
    unfold scanL at h
    cases e : atS c q n with
    | some p => rw [e] at h; cases h
    | none =>
      rw [e] at h
      have m := scanL_none h k h1 h2
      have z := atS_none e k h1
      intro l
      exact z ⟨h2, by omega⟩
theorem scanR_some {c : Nat → Nat → Nat} {n : Nat} : ∀ {t o : Nat}, t ≤ 7 → scanR c n t = some o → o < n ∧ ¬ c o 7 = 2 ∧ 7 - t < c o 0 ∧ c o 0 ≤ 7 ∧ ∀ k, k < n → ¬ c k 7 = 2 → 7 - t < c k 0 → c o 0 ≤ c k 0
  | 0, _, _, h => by cases h
  | t + 1, o, ht, h => by
    unfold scanR at h
    cases e : atS c (7 - t) n with
    | some p =>
      rw [e] at h
      cases h
      obtain ⟨a, b, d⟩ := atS_some e
      exact ⟨a, b, by omega, by omega, fun k _ _ hk => by omega⟩
    | none =>
      rw [e] at h
      obtain ⟨a, b, d, d2, m⟩ := scanR_some (by omega) h
      refine ⟨a, b, by omega, d2, fun k h1 h2 h3 => ?_⟩
      by_cases ek : c k 0 = 7 - t
      · exact absurd ⟨h2, ek⟩ (atS_none e k h1)
      · exact m k h1 h2 (by omega)
theorem scanR_none {c : Nat → Nat → Nat} {n : Nat} : ∀ {t : Nat}, t ≤ 7 → scanR c n t = none → ∀ k, k < n → ¬ c k 7 = 2 → c k 0 < 8 → ¬ 7 - t < c k 0
  | 0, _, _, k, _, _, _ => by omega
  | t + 1, ht, h, k, h1, h2, h3 => by
    unfold scanR at h
    cases e : atS c (7 - t) n with
    | some p => rw [e] at h; cases h
    | none =>
      rw [e] at h
      have m := scanR_none (by omega) h k h1 h2 h3
      have z := atS_none e k h1
      intro l
      exact z ⟨h2, by omega⟩
def dst (a b : Nat) : Nat := if a ≤ b then b - a else a - b
def hzS (c : Nat → Nat → Nat) (o : Nat) : Nat := if c o 7 = 0 then c o 5 else 0
def clr (c : Nat → Nat → Nat) (j o : Nat) : Bool := decide (c j 3 = 2) || decide (dst (c j 0) (c o 0) + c j 5 + hzS c o ≤ 9)
def nearS (n : Nat) (c : Nat → Nat → Nat) (j : Nat) : Option Nat := if c j 6 = 0 then scanL c n (c j 0) else if c j 6 = 2 then scanR c n (7 - c j 0) else none
def seesS (n : Nat) (c : Nat → Nat → Nat) (j : Nat) : Option Nat := if c j 7 = 0 then (match nearS n c j with
    | some o => if clr c j o = true then some o else none
    | none => none) else none
section ARITH
theorem subR {a b : Nat} (ha : a < 8) (hb : b < 8) : ((nI a - nI b) * nI 1 ≤ nI 0 ↔ a ≤ b) ∧ (b < a → (nI a - nI b) * nI 1 = nI (a - b)) := by
  have h : ∀ x y : Fin 8, ((nI x.val - nI y.val) * nI 1 ≤ nI 0 ↔ x.val ≤ y.val) ∧ (y.val < x.val → (nI x.val - nI y.val) * nI 1 = nI (x.val - y.val)) := by decide +kernel
  exact h ⟨a, ha⟩ ⟨b, hb⟩
theorem subL {a b : Nat} (ha : a < 8) (hb : b < 8) : ((nI a - nI b) * -nI 1 ≤ nI 0 ↔ b ≤ a) ∧ (a < b → (nI a - nI b) * -nI 1 = nI (b - a)) := by
  have h : ∀ x y : Fin 8, ((nI x.val - nI y.val) * -nI 1 ≤ nI 0 ↔ y.val ≤ x.val) ∧ (x.val < y.val → (nI x.val - nI y.val) * -nI 1 = nI (y.val - x.val)) := by decide +kernel
  exact h ⟨a, ha⟩ ⟨b, hb⟩
theorem absd {a b : Nat} (ha : a < 8) (hb : b < 8) : (if nI 0 ≤ nI a - nI b then nI a - nI b else nI 0 - (nI a - nI b)) = nI (dst b a) := by
  have h : ∀ x y : Fin 8, (if nI 0 ≤ nI x.val - nI y.val then nI x.val - nI y.val else nI 0 - (nI x.val - nI y.val)) = nI (dst y.val x.val) := by decide +kernel
  exact h ⟨a, ha⟩ ⟨b, hb⟩
theorem clear9 {a b d : Nat} (ha : a ≤ 9) (hb : b ≤ 9) (hd : d < 8) : nI 9 - nI a - nI b < nI d ↔ 9 < d + a + b := by
  have h : ∀ x y : Fin 10, ∀ z : Fin 8, (nI 9 - nI x.val - nI y.val < nI z.val ↔ 9 < z.val + x.val + y.val) := by decide +kernel
  exact h ⟨a, by omega⟩ ⟨b, by omega⟩ ⟨d, hd⟩
theorem farL {a b : Nat} (ha : a < 8) (hb : b < 8) (h : a < b) : (nI 0 - nI 1) * (nI a - nI b) = nI (dst b a) := by
  have z : ∀ x y : Fin 8, x.val < y.val → (nI 0 - nI 1) * (nI x.val - nI y.val) = nI (dst y.val x.val) := by decide +kernel
  exact z ⟨a, ha⟩ ⟨b, hb⟩ h
theorem farR {a b : Nat} (ha : a < 8) (hb : b < 8) (h : b < a) : (nI 2 - nI 1) * (nI a - nI b) = nI (dst b a) := by
  have z : ∀ x y : Fin 8, y.val < x.val → (nI 2 - nI 1) * (nI x.val - nI y.val) = nI (dst y.val x.val) := by decide +kernel
  exact z ⟨a, ha⟩ ⟨b, hb⟩ h
end ARITH
section JARON
variable {n : Nat} {c : Nat → Nat → Nat} {f kd sz pg : Nat → Int32} {N : Nat} {j q : Nat}
theorem jarOnX_l (hX : XR n c f) (hG : Good n c) (hq : q < 2 ^ 31) : ∀ k i, i + k = n → ∀ fl, k < fl → (∀ j, j < i → ¬ (¬ c j 7 = 2 ∧ c j 0 = q)) → x2_jarOn_b2 N (nI n) f (nI q) fl (nI i) = some (oI (atS c q n)) := by
  have hn := hG.n6
  intro k
  induction k with
  | zero =>
    intro i hi fl hfl hno
    obtain ⟨fl, rfl⟩ : ∃ m, fl = m + 1 := ⟨fl - 1, by omega⟩
    have e : i = n := by omega
    subst e
    rw [x2_jarOn_b2, if_pos (nI_le (Nat.le_refl _) (by omega))]
    cases h : atS c q i with
    | none => rfl
    | some k =>
      obtain ⟨a, b⟩ := atS_some h
      exact absurd b (hno k a)
  | succ k ih =>
    intro i hi fl hfl hno
    obtain ⟨fl, rfl⟩ : ∃ m, fl = m + 1 := ⟨fl - 1, by omega⟩
    have hin : i < n := by omega
    obtain ⟨g0, g1, g2, g3, g4, g4', g5, g6, g7⟩ := hG.2.1 i hin
    rw [x2_jarOn_b2, if_neg (nI_ge hin (by omega))]
    simp (disch := omega) only [li, partX hX, gB1_s, nI_eq, nI_add]
    have nxt : ¬ (¬ c i 7 = 2 ∧ c i 0 = q) → x2_jarOn_b2 N (nI n) f (nI q) fl (nI (i + 1)) = some (oI (atS c q n)) := fun h => ih (i + 1) (by omega) fl (by omega) (fun j hj => by
      by_cases e : j = i
      · rw [e]; exact h
      · exact hno j (by omega))
    by_cases h0 : c i 0 = q
    · rw [if_pos h0]
      by_cases h7 : c i 7 = 2
      · rw [if_pos h7]
        exact nxt (fun z => z.1 h7)
      · rw [if_neg h7, atS_of hG hin h7 h0]
        rfl
    · rw [if_neg h0]
      exact nxt (fun z => h0 z.2)
theorem jarOnX (hX : XR n c f) (hG : Good n c) (hq : q < 2 ^ 31) (hN : 100 ≤ N) : x2_jarOn N (nI n) f (nI q) = some (oI (atS c q n)) := jarOnX_l hX hG hq n 0 (by omega) N (by have := hG.n6; omega) (fun j hj => by omega)
/-- only those in s are there -/
def maskC (s : Nat) (c : Nat → Nat → Nat) : Nat → Nat → Nat := fun j p => if p = 7 ∧ s.testBit j = false then 2 else c j p
theorem mask_63 {n : Nat} (hn : n ≤ 6) (c : Nat → Nat → Nat) : ∀ j, j < n → ∀ p, p < 8 → maskC 63 c j p = c j p := by
  intro j hj p _
  unfold maskC
  rw [if_neg]
  intro h
  have z : ∀ k : Fin 6, (63 : Nat).testBit k.val = true := by decide
  rw [z ⟨j, by omega⟩] at h
  exact absurd h.2 (by decide)
theorem hasM_t {s j : Nat} (hs : s < 64) (hj : j < 8) (h : s.testBit j = true) : x8_has (nI s) (nI j) = some (nI 1) := by
  have z : ∀ a : Fin 64, ∀ b : Fin 8, a.val.testBit b.val = true → x8_has (nI a.val) (nI b.val) = some (nI 1) := by decide +kernel
  exact z ⟨s, hs⟩ ⟨j, hj⟩ h
theorem hasM_f {s j : Nat} (hs : s < 64) (hj : j < 8) (h : s.testBit j = false) : x8_has (nI s) (nI j) = some (nI 0) := by
  have z : ∀ a : Fin 64, ∀ b : Fin 8, a.val.testBit b.val = false → x8_has (nI a.val) (nI b.val) = some (nI 0) := by decide +kernel
  exact z ⟨s, hs⟩ ⟨j, hj⟩ h
theorem Good.mask (hG : Good n c) (s : Nat) : Good n (maskC s c) := by
  refine ⟨hG.1, fun j hj => ?_, fun a b ha hb p r e => ?_⟩
  · obtain ⟨g0, g1, g2, g3, g4, g4', g5, g6, g7⟩ := hG.2.1 j hj
    unfold maskC
    refine ⟨?_, ?_, ?_, ?_, ?_, ?_, ?_, ?_, ?_⟩ <;> simp <;> (try split) <;> omega
  · have e0 : ∀ k, maskC s c k 0 = c k 0 := fun k => by simp [maskC]
    have e7 : ∀ k, ¬ maskC s c k 7 = 2 → ¬ c k 7 = 2 := fun k h z => h (by simp [maskC, z])
    rw [e0, e0] at e
    exact hG.2.2 a b ha hb (e7 a p) (e7 b r) e
theorem isOnM (hM : MR n c kd sz pg) (hj : j < n) (hG : Good n c) {s : Nat} (hs : s < 64) : x8_isOn (nI s) pg (nI j) = some (if maskC s c j 7 = 2 then nI 0 else nI 1) := by
  have hn := hG.n6
  obtain ⟨g0, g1, g2, g3, g4, g4', g5, g6, g7⟩ := hG.2.1 j hj
  unfold x8_isOn
  by_cases h : s.testBit j = true
  · rw [hasM_t hs (by omega) h]
    have e : maskC s c j 7 = c j 7 := by simp [maskC, h]
    rw [e]
    simp (disch := omega) only [li, gB1_s, nI_eq, nI_add, nI_clamp, gIn_t, gChk_t, hM.p7]
    rw [if_neg (by omega)]
    split <;> rfl
  · have h' : s.testBit j = false := by simpa using h
    rw [hasM_f hs (by omega) h']
    have e : maskC s c j 7 = 2 := by simp [maskC, h']
    rw [e]
    simp (disch := omega) only [li, gB1_s, nI_eq]
    rfl
theorem jarAtM_l (hM : MR n c kd sz pg) (hG : Good n c) {s : Nat} (hs : s < 64) (hq : q < 2 ^ 31) : ∀ k i, i + k = n → ∀ fl, k < fl → x8_jarAt_b6 N (nI n) (nI s) pg (nI q) fl (oI (atS (maskC s c) q i)) (nI i) = some (oI (atS (maskC s c) q n)) := by
  have hn := hG.n6
  intro k
  induction k with
  | zero =>
    intro i hi fl hfl
    obtain ⟨fl, rfl⟩ : ∃ m, fl = m + 1 := ⟨fl - 1, by omega⟩
    have e : i = n := by omega
    subst e
    rw [x8_jarAt_b6, if_pos (nI_le (Nat.le_refl _) (by omega))]
  | succ k ih =>
    intro i hi fl hfl
    obtain ⟨fl, rfl⟩ : ∃ m, fl = m + 1 := ⟨fl - 1, by omega⟩
    have hin : i < n := by omega
    obtain ⟨g0, g1, g2, g3, g4, g4', g5, g6, g7⟩ := hG.2.1 i hin
    have step := ih (i + 1) (by omega) fl (by omega)
    have e0 : maskC s c i 0 = c i 0 := by simp [maskC]
    rw [x8_jarAt_b6, if_neg (nI_ge hin (by omega)), isOnM hM hin hG hs]
    rw [atS_succ, e0] at step
    by_cases h : maskC s c i 7 = 2
    · rw [if_neg (fun z => z.1 h)] at step
      simp (disch := omega) only [li, h, if_true, gB1_s, nI_eq, nI_add, x8_jarAt_b38]
      exact step
    · simp (disch := omega) only [li, h, if_false, gB1_s, nI_eq, nI_add, nI_clamp, gIn_t, gChk_t, hM.p0, x8_jarAt_b38]
      rw [if_neg (by omega)]
      by_cases h2 : c i 0 = q
      · rw [if_pos ⟨h, h2⟩] at step
        rw [if_pos h2]
        exact step
      · rw [if_neg (fun z => h2 z.2)] at step
        rw [if_neg h2]
        exact step
theorem jarAtM (hM : MR n c kd sz pg) (hG : Good n c) {s : Nat} (hs : s < 64) (hq : q < 2 ^ 31) (hN : 100 ≤ N) : x8_jarAt N (nI n) (nI s) pg (nI q) = some (oI (atS (maskC s c) q n)) := jarAtM_l hM hG hs hq n 0 (by omega) N (by have := hG.n6; omega)
end JARON
