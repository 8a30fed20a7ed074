/-! PURE: the ways one after another -/
section PERM
variable {N m : Nat} {v : Nat → Nat} {L : List Nat} {sp : Nat → Int32}
def gd (L : List Nat) (i : Nat) : Nat := L.getD i 0
theorem gd_set (L : List Nat) (a x i : Nat) (ha : a < L.length) : gd (L.set a x) i = if i = a then x else gd L i := by
  unfold gd
  by_cases h : i = a
  · subst h
    rw [if_pos rfl, List.getD_eq_getElem?_getD, List.getElem?_set_self ha]
    rfl
  · rw [if_neg h, List.getD_eq_getElem?_getD, List.getD_eq_getElem?_getD, List.getElem?_set_ne (fun z => h z.symm)]
def swL (L : List Nat) (a b : Nat) : List Nat := (L.set a (gd L b)).set b (gd L a)
theorem swL_len (L : List Nat) (a b : Nat) : (swL L a b).length = L.length := by
  unfold swL
  rw [List.length_set, List.length_set]
theorem gd_sw {L : List Nat} {a b : Nat} (ha : a < L.length) (hb : b < L.length) (i : Nat) : gd (swL L a b) i = if i = b then gd L a else if i = a then gd L b else gd L i := by
  unfold swL
  rw [gd_set _ _ _ _ (by rw [List.length_set]; exact hb), gd_set _ _ _ _ ha]
def AR (m : Nat) (v : Nat → Nat) (L : List Nat) (sp : Nat → Int32) : Prop := ∀ i, i < m → sp i = nI (v (gd L i))
def PM (m : Nat) (L : List Nat) : Prop := L.length = m ∧ (∀ i, i < m → gd L i < m) ∧ ∀ i j, i < m → j < m → gd L i = gd L j → i = j
def VM (m : Nat) (v : Nat → Nat) : Prop := m ≤ 6 ∧ (∀ a b, a < b → b < m → v a < v b) ∧ ∀ a, a < m → v a < 8
theorem VM.le (h : VM m v) {a b : Nat} (ha : a < m) (hb : b < m) : v a ≤ v b ↔ a ≤ b := by
  rcases Nat.lt_trichotomy a b with z | z | z
  · have := h.2.1 a b z hb
    omega
  · rw [z]
    omega
  · have := h.2.1 b a z ha
    omega
theorem VM.inj (h : VM m v) {a b : Nat} (ha : a < m) (hb : b < m) (e : v a = v b) : a = b := by
  have h1 := (h.le ha hb).mp (by omega)
  have h2 := (h.le hb ha).mp (by omega)
  omega
theorem PM.sw (h : PM m L) {a b : Nat} (ha : a < m) (hb : b < m) : PM m (swL L a b) := by
  obtain ⟨h1, h2, h3⟩ := h
  have g := gd_sw (L := L) (a := a) (b := b) (by omega) (by omega)
  refine ⟨by rw [swL_len, h1], fun i hi => ?_, fun i j hi hj e => ?_⟩
  · rw [g]
    split
    · exact h2 a ha
    · split
      · exact h2 b hb
      · exact h2 i hi
  · rw [g, g] at e
    by_cases i1 : i = b
    · rw [if_pos i1] at e
      by_cases j1 : j = b
      · omega
      · rw [if_neg j1] at e
        by_cases j2 : j = a
        · rw [if_pos j2] at e
          have := h3 a b ha hb e
          omega
        · rw [if_neg j2] at e
          have := h3 a j ha hj e
          omega
    · rw [if_neg i1] at e
      by_cases i2 : i = a
      · rw [if_pos i2] at e
        by_cases j1 : j = b
        · rw [if_pos j1] at e
          have := h3 b a hb ha e
          omega
        · rw [if_neg j1] at e
          by_cases j2 : j = a
          · omega
          · rw [if_neg j2] at e
            have := h3 b j hb hj e
            omega
      · rw [if_neg i2] at e
        by_cases j1 : j = b
        · rw [if_pos j1] at e
          have := h3 i a hi ha e
          omega
        · rw [if_neg j1] at e
          by_cases j2 : j = a
          · rw [if_pos j2] at e
            have := h3 i b hi hb e
            omega
          · rw [if_neg j2] at e
            exact h3 i j hi hj e
theorem AR.sw (h : AR m v L sp) (hL : L.length = m) {a b : Nat} (ha : a < m) (hb : b < m) : AR m v (swL L a b) (upd (upd sp a (sp b)) b (sp a)) := fun i hi => by
  rw [gd_sw (by omega) (by omega)]
  by_cases i1 : i = b
  · rw [if_pos i1, i1, pk_us, h a ha]
  · rw [if_neg i1, pk_un i1]
    by_cases i2 : i = a
    · rw [if_pos i2, i2, pk_us, h b hb]
    · rw [if_neg i2, pk_un i2, h i hi]
def piv (L : List Nat) : Nat → Option Nat
  | 0 => none
  | x + 1 => if gd L x ≤ gd L (x + 1) then some x else piv L x
def suc (L : List Nat) (x : Nat) : Nat → Nat
  | 0 => 0
  | y + 1 => if gd L x ≤ gd L (y + 1) then y + 1 else suc L x y
def revL : Nat → List Nat → Nat → Nat → List Nat
  | 0, L, _, _ => L
  | k + 1, L, l, r => if r ≤ l then L else revL k (swL L l r) (l + 1) (r - 1)
def nextL (m : Nat) (L : List Nat) : Option (List Nat) := match piv L (m - 1) with
  | none => none
  | some x => some (revL m (swL L x (suc L x (m - 1))) (x + 1) (m - 1))
/-- it comes to an end within k calls -/
def stp (m : Nat) : Nat → List Nat → Bool
  | 0, _ => false
  | k + 1, L => match nextL m L with
    | none => true
    | some L' => stp m k L'
theorem stp_1 : stp 1 720 [0] = true := by decide +kernel
theorem stp_2 : stp 2 720 [0, 1] = true := by decide +kernel
theorem stp_3 : stp 3 720 [0, 1, 2] = true := by decide +kernel
theorem stp_4 : stp 4 720 [0, 1, 2, 3] = true := by decide +kernel
theorem stp_5 : stp 5 720 [0, 1, 2, 3, 4] = true := by decide +kernel
theorem stp_6 : stp 6 720 [0, 1, 2, 3, 4, 5] = true := by decide +kernel
theorem piv_ok : ∀ {X x : Nat}, piv L X = some x → x < X ∧ gd L x ≤ gd L (x + 1)
  | 0, _, h => by cases h
  | X + 1, x, h => by
    rw [piv] at h
    by_cases z : gd L X ≤ gd L (X + 1)
    · rw [if_pos z] at h
      injection h with h
      subst h
      exact ⟨by omega, z⟩
    · rw [if_neg z] at h
      obtain ⟨a, b⟩ := piv_ok h
      exact ⟨by omega, b⟩
theorem suc_ok {x : Nat} (hx : gd L x ≤ gd L (x + 1)) : ∀ y, x + 1 ≤ y → x < suc L x y ∧ suc L x y ≤ y
  | 0, h => by omega
  | y + 1, h => by
    rw [suc]
    by_cases z : gd L x ≤ gd L (y + 1)
    · rw [if_pos z]
      omega
    · rw [if_neg z]
      have hy : x + 1 ≤ y := by
        by_cases e : y = x
        · subst e
          exact absurd hx z
        · omega
      have := suc_ok hx y hy
      omega
theorem swapX {a b : Nat} (hm : m ≤ 6) (ha : a < m) (hb : b < m) : x6_swap sp (nI a) (nI b) = some (upd (upd sp a (sp b)) b (sp a)) := by
  unfold x6_swap
  simp (disch := omega) only [gIn_t, gChk_t, nI_clamp]
theorem revX (hv : VM m v) : ∀ k l r L sp, PM m L → AR m v L sp → r < m → l < 20 → r ≤ l + k → ∀ fl, k < fl → ∃ sp', x6_nextWay_b91 N (nI m) fl (nI l) (nI r) sp = some (nI 1, sp') ∧ AR m v (revL k L l r) sp' ∧ PM m (revL k L l r) := by
  have hm := hv.1
  intro k
  induction k with
  | zero =>
    intro l r L sp hP hA hr hl hlr fl hfl
    obtain ⟨fl, rfl⟩ : ∃ x, fl = x + 1 := ⟨fl - 1, by omega⟩
    refine ⟨sp, ?_, hA, hP⟩
    rw [x6_nextWay_b91, if_pos (nI_le (by omega) (by omega))]
    rfl
  | succ k ih =>
    intro l r L sp hP hA hr hl hlr fl hfl
    obtain ⟨fl, rfl⟩ : ∃ x, fl = x + 1 := ⟨fl - 1, by omega⟩
    rw [x6_nextWay_b91, revL]
    by_cases z : r ≤ l
    · rw [if_pos (nI_le z (by omega)), if_pos z]
      exact ⟨sp, rfl, hA, hP⟩
    · rw [if_neg (nI_ge (by omega) (by omega)), if_neg z, swapX hm (by omega) hr, gB1_s, show nI l + (1 : Int32) = nI (l + 1) from nI_1 l]
      obtain ⟨r, rfl⟩ : ∃ x, r = x + 1 := ⟨r - 1, by omega⟩
      rw [pk_m1, Nat.add_sub_cancel]
      exact ih (l + 1) r _ _ (hP.sw (by omega) hr) (hA.sw hP.1 (by omega) hr) (by omega) (by omega) (by omega) fl (by omega)
theorem cmpA (hv : VM m v) (hP : PM m L) (hA : AR m v L sp) {a b : Nat} (ha : a < m) (hb : b < m) : sp a ≤ sp b ↔ gd L a ≤ gd L b := by
  have h1 := hP.2.1 a ha
  have h2 := hP.2.1 b hb
  have h3 := hv.2.2 _ h1
  have h4 := hv.2.2 _ h2
  rw [hA a ha, hA b hb, nI_leI (by omega) (by omega), hv.le h1 h2]
theorem sucX (hv : VM m v) (hP : PM m L) (hA : AR m v L sp) {x : Nat} (hx : gd L x ≤ gd L (x + 1)) : ∀ y, x + 1 ≤ y → y < m → ∀ fl, y < fl → x6_nextWay_b47 N (nI m) fl (nI x) (nI y) sp = x6_nextWay_b73 N (nI m) (nI x) (nI (suc L x y)) sp := by
  have hm := hv.1
  intro y
  induction y with
  | zero =>
    intro h
    omega
  | succ y ih =>
    intro h hy fl hfl
    obtain ⟨fl, rfl⟩ : ∃ x, fl = x + 1 := ⟨fl - 1, by omega⟩
    have hc := cmpA hv hP hA (a := x) (b := y + 1) (by omega) hy
    rw [x6_nextWay_b47, if_neg (nI_ge (by omega) (by omega)), gIn_t (by omega) (by omega), gChk_t, gIn_t (by omega) (by omega), gChk_t, nI_clamp (by omega), nI_clamp (by omega), suc]
    by_cases z : gd L x ≤ gd L (y + 1)
    · rw [if_pos (hc.mpr z), if_pos z]
    · rw [if_neg (fun q => z (hc.mp q)), if_neg z, pk_m1]
      refine ih ?_ (by omega) fl (by omega)
      by_cases e : y = x
      · subst e
        exact absurd hx z
      · omega
theorem decI (x : Nat) : nI (x + 1) - (1 : Int32) = nI x := nI_pred x
theorem negI : nI 0 - (1 : Int32) < 0 := by decide
theorem decI2 (x : Nat) : nI x + (-1 : Int32) = nI x - (1 : Int32) := by
  cases x with
  | zero => decide
  | succ x => rw [pk_m1, decI]
theorem pivX (hv : VM m v) (hP : PM m L) (hA : AR m v L sp) : ∀ X, X < m → ∀ fl, X < fl → x6_nextWay_b7 N (nI m) fl (nI X - (1 : Int32)) sp = (match piv L X with
    | none => some (nI 0, sp)
    | some x => x6_nextWay_b47 N (nI m) N (nI x) (nI m - (1 : Int32)) sp) := by
  have hm := hv.1
  intro X
  induction X with
  | zero =>
    intro hX fl hfl
    obtain ⟨fl, rfl⟩ : ∃ x, fl = x + 1 := ⟨fl - 1, by omega⟩
    rw [x6_nextWay_b7, if_pos negI]
    unfold x6_nextWay_b34
    rw [if_neg (by decide)]
    rfl
  | succ x ih =>
    intro hX fl hfl
    obtain ⟨fl, rfl⟩ : ∃ x, fl = x + 1 := ⟨fl - 1, by omega⟩
    have hc := cmpA hv hP hA (a := x) (b := x + 1) (by omega) hX
    rw [decI, x6_nextWay_b7, if_neg (nI_pos (by omega)), show nI x + (1 : Int32) = nI (x + 1) from nI_1 x, gIn_t (by omega) (by omega), gChk_t, gIn_t (by omega) (by omega), gChk_t, nI_clamp (by omega), nI_clamp (by omega), piv]
    by_cases z : gd L x ≤ gd L (x + 1)
    · rw [if_pos (hc.mpr z), if_pos z]
      unfold x6_nextWay_b34
      rw [if_pos (nI_pos' (by omega))]
    · rw [if_neg (fun q => z (hc.mp q)), if_neg z, decI2]
      exact ih (by omega) fl (by omega)
theorem dec2 {m : Nat} (h : 1 ≤ m) (h6 : m ≤ 6) : nI m - (2 : Int32) = nI (m - 1) - (1 : Int32) := by
  have z : ∀ a : Fin 7, 1 ≤ a.val → nI a.val - (2 : Int32) = nI (a.val - 1) - (1 : Int32) := by decide +kernel
  exact z ⟨m, by omega⟩ h
/-- the class's step -/
theorem nextX (hv : VM m v) (h1 : 1 ≤ m) (hP : PM m L) (hA : AR m v L sp) (hN : 100 ≤ N) : ∃ sp', (nextL m L = none → x6_nextWay N (nI m) sp = some (nI 0, sp')) ∧ ∀ L', nextL m L = some L' → x6_nextWay N (nI m) sp = some (nI 1, sp') ∧ AR m v L' sp' ∧ PM m L' := by
  have hm := hv.1
  unfold x6_nextWay nextL
  rw [dec2 h1 hm, pivX hv hP hA (m - 1) (by omega) N (by omega)]
  cases e : piv L (m - 1) with
  | none => exact ⟨sp, fun _ => rfl, fun L' h => by cases h⟩
  | some x =>
    obtain ⟨p1, p2⟩ := piv_ok e
    obtain ⟨s1, s2⟩ := suc_ok p2 (m - 1) (by omega)
    have e1 : nI m - (1 : Int32) = nI (m - 1) := pk_sub (b := 1) h1
    obtain ⟨sp', r1, r2, r3⟩ := revX (N := N) hv m (x + 1) (m - 1) _ _ (hP.sw (a := x) (b := suc L x (m - 1)) (by omega) (by omega)) (hA.sw hP.1 (by omega) (by omega)) (by omega) (by omega) (by omega) N (by omega)
    simp only
    refine ⟨sp', (fun h => nomatch h), fun L' h => ?_⟩
    injection h with h
    subst h
    refine ⟨?_, r2, r3⟩
    rw [e1, sucX hv hP hA p2 (m - 1) (by omega) (by omega) N (by omega)]
    unfold x6_nextWay_b73
    rw [swapX hm (by omega) (by omega), gB1_s, e1, show nI x + (1 : Int32) = nI (x + 1) from nI_1 x]
    exact r1
theorem revM (hv : VM m v) : ∀ k l r L sp, PM m L → AR m v L sp → r < m → l < 20 → r ≤ l + k → ∀ fl, k < fl → ∃ sp', x8_nextOrder_b100 N (nI m) fl (nI l) (nI r) sp = some (nI 1, sp') ∧ AR m v (revL k L l r) sp' ∧ PM m (revL k L l r) := by
  have hm := hv.1
  intro k
  induction k with
  | zero =>
    intro l r L sp hP hA hr hl hlr fl hfl
    obtain ⟨fl, rfl⟩ : ∃ x, fl = x + 1 := ⟨fl - 1, by omega⟩
    refine ⟨sp, ?_, hA, hP⟩
    rw [x8_nextOrder_b100, if_pos (nI_le (by omega) (by omega))]
    rfl
  | succ k ih =>
    intro l r L sp hP hA hr hl hlr fl hfl
    obtain ⟨fl, rfl⟩ : ∃ x, fl = x + 1 := ⟨fl - 1, by omega⟩
    rw [x8_nextOrder_b100, revL]
    by_cases z : r ≤ l
    · rw [if_pos (nI_le z (by omega)), if_pos z]
      exact ⟨sp, rfl, hA, hP⟩
    · rw [if_neg (nI_ge (by omega) (by omega)), if_neg z, gIn_t (by omega) (by omega), gChk_t, gIn_t (by omega) (by omega), gChk_t, gChk_t, gChk_t, nI_clamp (by omega), nI_clamp (by omega), show nI l + (1 : Int32) = nI (l + 1) from nI_1 l]
      obtain ⟨r, rfl⟩ : ∃ x, r = x + 1 := ⟨r - 1, by omega⟩
      rw [pk_m1, Nat.add_sub_cancel]
      exact ih (l + 1) r _ _ (hP.sw (by omega) hr) (hA.sw hP.1 (by omega) hr) (by omega) (by omega) (by omega) fl (by omega)
theorem sucM (hv : VM m v) (hP : PM m L) (hA : AR m v L sp) {x : Nat} (hx : gd L x ≤ gd L (x + 1)) : ∀ y, x + 1 ≤ y → y < m → ∀ fl, y < fl → x8_nextOrder_b41 N (nI m) fl (nI x) (nI y) sp = x8_nextOrder_b100 N (nI m) N (nI x + (1 : Int32)) (nI m - (1 : Int32)) (upd (upd sp x (sp (suc L x y))) (suc L x y) (sp x)) := by
  have hm := hv.1
  intro y
  induction y with
  | zero =>
    intro h
    omega
  | succ y ih =>
    intro h hy fl hfl
    obtain ⟨fl, rfl⟩ : ∃ x, fl = x + 1 := ⟨fl - 1, by omega⟩
    have hc := cmpA hv hP hA (a := x) (b := y + 1) (by omega) hy
    rw [x8_nextOrder_b41, gIn_t (by omega) (by omega), gChk_t, gIn_t (by omega) (by omega), gChk_t, nI_clamp (by omega), nI_clamp (by omega), suc]
    by_cases z : gd L x ≤ gd L (y + 1)
    · rw [if_pos (hc.mpr z), if_pos z, gChk_t, gChk_t, gChk_t, gChk_t]
    · rw [if_neg (fun q => z (hc.mp q)), if_neg z, pk_m1]
      refine ih ?_ (by omega) fl (by omega)
      by_cases e : y = x
      · subst e
        exact absurd hx z
      · omega
theorem pivM (hv : VM m v) (hP : PM m L) (hA : AR m v L sp) : ∀ X, X < m → ∀ fl, X < fl → x8_nextOrder_b4 N (nI m) fl (nI X - (1 : Int32)) sp = (match piv L X with
    | none => some (nI 0, sp)
    | some x => x8_nextOrder_b41 N (nI m) N (nI x) (nI m - (1 : Int32)) sp) := by
  have hm := hv.1
  intro X
  induction X with
  | zero =>
    intro hX fl hfl
    obtain ⟨fl, rfl⟩ : ∃ x, fl = x + 1 := ⟨fl - 1, by omega⟩
    rw [x8_nextOrder_b4, if_pos negI]
    unfold x8_nextOrder_b31
    rw [if_neg (by decide)]
    rfl
  | succ x ih =>
    intro hX fl hfl
    obtain ⟨fl, rfl⟩ : ∃ x, fl = x + 1 := ⟨fl - 1, by omega⟩
    have hc := cmpA hv hP hA (a := x) (b := x + 1) (by omega) hX
    rw [decI, x8_nextOrder_b4, if_neg (nI_pos (by omega)), show nI x + (1 : Int32) = nI (x + 1) from nI_1 x, gIn_t (by omega) (by omega), gChk_t, gIn_t (by omega) (by omega), gChk_t, nI_clamp (by omega), nI_clamp (by omega), piv]
    by_cases z : gd L x ≤ gd L (x + 1)
    · rw [if_pos (hc.mpr z), if_pos z]
      unfold x8_nextOrder_b31
      rw [if_pos (nI_pos' (by omega))]
    · rw [if_neg (fun q => z (hc.mp q)), if_neg z, decI2]
      exact ih (by omega) fl (by omega)
/-- the reference's step -/
theorem nextM (hv : VM m v) (h1 : 1 ≤ m) (hP : PM m L) (hA : AR m v L sp) (hN : 100 ≤ N) : ∃ sp', (nextL m L = none → x8_nextOrder N sp (nI m) = some (nI 0, sp')) ∧ ∀ L', nextL m L = some L' → x8_nextOrder N sp (nI m) = some (nI 1, sp') ∧ AR m v L' sp' ∧ PM m L' := by
  have hm := hv.1
  unfold x8_nextOrder nextL
  rw [dec2 h1 hm, pivM hv hP hA (m - 1) (by omega) N (by omega)]
  cases e : piv L (m - 1) with
  | none => exact ⟨sp, fun _ => rfl, fun L' h => by cases h⟩
  | some x =>
    obtain ⟨p1, p2⟩ := piv_ok e
    obtain ⟨s1, s2⟩ := suc_ok p2 (m - 1) (by omega)
    have e1 : nI m - (1 : Int32) = nI (m - 1) := pk_sub (b := 1) h1
    obtain ⟨sp', r1, r2, r3⟩ := revM (N := N) hv m (x + 1) (m - 1) _ _ (hP.sw (a := x) (b := suc L x (m - 1)) (by omega) (by omega)) (hA.sw hP.1 (by omega) (by omega)) (by omega) (by omega) (by omega) N (by omega)
    simp only
    refine ⟨sp', (fun h => nomatch h), fun L' h => ?_⟩
    injection h with h
    subst h
    refine ⟨?_, r2, r3⟩
    rw [e1, sucM hv hP hA p2 (m - 1) (by omega) (by omega) N (by omega), e1, show nI x + (1 : Int32) = nI (x + 1) from nI_1 x]
    exact r1
end PERM
