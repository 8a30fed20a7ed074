/-! PURE: pour, open, undo, keep, again -/
section ACTS3
variable {N n : Nat} {c : Nat → Nat → Nat} {w J W Jm : Int32} {f kd sz pg : Nat → Int32} {j : Nat}
theorem n10 : ¬ nI 1 = (0 : Int32) := by decide
theorem n00 : nI 0 = (0 : Int32) := rfl
theorem jarC (hn : n ≤ 6) (x : Int32) : (x2_has (nI n) x = some (nI 0) ∧ x8_noJar (nI n) x = some (nI 1)) ∨ ∃ j, j < n ∧ x = nI j ∧ x2_has (nI n) x = some (nI 1) ∧ x8_noJar (nI n) x = some (nI 0) := by
  rcases pk_ix x (n := n) (by omega) with z | z | ⟨j, hj, rfl⟩
  · exact Or.inl ⟨hasX_f (Or.inl z), noJar_t hn (Or.inl z)⟩
  · exact Or.inl ⟨hasX_f (Or.inr z), noJar_t hn (Or.inr z)⟩
  · exact Or.inr ⟨j, hj, rfl, hasX hj hn, noJar_f hn hj⟩
theorem stuffC (x : Int32) : (x7_isStuff x = some (nI 0) ∧ x8_in x.toInt64 (0 : Int64) (3 : Int64) = some (nI 0)) ∨ ∃ q, q < 4 ∧ x = nI q ∧ x7_isStuff x = some (nI 1) ∧ x8_in x.toInt64 (0 : Int64) (3 : Int64) = some (nI 1) := by
  rcases pk_ix x (n := 4) (by omega) with z | z | ⟨q, hq, rfl⟩
  · exact Or.inl (isStuff_f (Or.inl z))
  · exact Or.inl (isStuff_f (Or.inr z))
  · exact Or.inr ⟨q, hq, rfl, isStuff_t hq⟩
/-- the two ways in which 0 ≤ x < k is asked -/
theorem rangeC (k : Nat) (hk : k < 1000) (x : Int32) : (x < 0) ∨ (¬ x < 0 ∧ nI k ≤ x) ∨ ∃ q, q < k ∧ x = nI q := by
  rcases pk_ix x (n := k) (by omega) with z | z | h
  · exact Or.inl z
  · refine Or.inr (Or.inl ⟨?_, z⟩)
    rw [fa_le, nI_toInt (by omega)] at z
    rw [fa_lt]
    have q2 : (0 : Int32).toInt = 0 := by decide
    omega
  · exact Or.inr (Or.inr h)
theorem in_f (lo hi : Int32) {l h : Int64} (e1 : l = lo.toInt64) (e2 : h = hi.toInt64) {x : Int32} (z : x < lo ∨ hi < x) : x8_in x.toInt64 l h = some (nI 0) := by
  rw [inK lo hi e1 e2]
  rcases z with z | z
  · rw [if_pos z]
  · rw [if_pos z, ite_self]
theorem in_t (lo hi : Int32) {l h : Int64} (e1 : l = lo.toInt64) (e2 : h = hi.toInt64) {x : Int32} (z1 : ¬ x < lo) (z2 : ¬ hi < x) : x8_in x.toInt64 l h = some (nI 1) := by
  rw [inK lo hi e1 e2, if_neg z1, if_neg z2]
theorem st_pour (hS : SH n c w J W f Jm kd sz pg) {cnt nxt acts th : Int32} {M : Nat → Nat → Int32} {book : Nat → Int32} (hA : ACT n kd sz cnt nxt M acts book) (hN : 2000 ≤ N) (a1 a2 : Int32) : ∃ r f' cnt' nxt' M' acts' pg' book' c', x7_pour J W f cnt nxt M a1 a2 = some (r, f', cnt', nxt', M') ∧ x8_pour N th Jm acts pg book a1 a2 = some (r, 0, acts', pg', book') ∧ SH n c' w J W f' Jm kd sz pg' ∧ ACT n kd sz cnt' nxt' M' acts' book' := by
  obtain ⟨cnt', nxt', M', acts', book', m1, m2, m3⟩ := act_note (N := N) hS hA hN
  have hS0 := hS
  obtain ⟨hG, hX, rfl, rfl, hM, rfl, h36⟩ := hS
  have hn := hG.n6
  unfold x7_pour x8_pour
  rcases jarC hn a1 with ⟨q1, q2⟩ | ⟨j, hj, rfl, q1, q2⟩
  · rw [q1, q2]
    exact ⟨_, _, _, _, _, _, _, _, c, rfl, rfl, hS0, hA⟩
  · rw [q1, q2, gB1_s, gB1_s, if_neg n10, if_pos n00]
    rcases stuffC a2 with ⟨p1, p2⟩ | ⟨u, hu, rfl, p1, p2⟩
    · rw [p1, p2]
      exact ⟨_, _, _, _, _, _, _, _, c, rfl, rfl, hS0, hA⟩
    · rw [p1, p2, gB1_s, gB1_s, if_neg n10, if_neg n10, canPX hX hG hj hu, canPM hM hG hj hu, gB1_s, gB1_s]
      by_cases h : canP c j u = true
      · obtain ⟨f', x1, x2⟩ := fillX2 hX hn hj u
        obtain ⟨pg', y1, y2, y3⟩ := pourM2 hM hn hj u
        rw [if_pos h, if_neg n10, if_neg n10, m1, m2, gB3_s, gB2_s, x1, y1]
        refine ⟨nI (c j 2), f', cnt', nxt', M', acts', pg', book', pourC c j u, ?_, ?_, ⟨hG.pour hu, x2, rfl, rfl, y2, rfl, by rw [y3, h36]⟩, m3⟩
        · simp (disch := omega) only [li, gB1_s, partX hX]
        · simp (disch := omega) only [li, gB1_s, nI_add, gIn_t, gChk_t, nI_clamp, hM.p2]
      · rw [if_neg h]
        exact ⟨_, _, _, _, _, _, _, _, c, rfl, rfl, hS0, hA⟩
theorem st_open (hS : SH n c w J W f Jm kd sz pg) {cnt nxt acts th : Int32} {M : Nat → Nat → Int32} {book : Nat → Int32} (hA : ACT n kd sz cnt nxt M acts book) (hN : 2000 ≤ N) (a1 : Int32) : ∃ r f' cnt' nxt' M' acts' pg' book' c', x7_open J W f cnt nxt M a1 = some (r, f', cnt', nxt', M') ∧ x8_open N th Jm acts pg book a1 = some (r, 0, acts', pg', book') ∧ SH n c' w J W f' Jm kd sz pg' ∧ ACT n kd sz cnt' nxt' M' acts' book' := by
  obtain ⟨cnt', nxt', M', acts', book', m1, m2, m3⟩ := act_note (N := N) hS hA hN
  have hS0 := hS
  obtain ⟨hG, hX, rfl, rfl, hM, rfl, h36⟩ := hS
  have hn := hG.n6
  unfold x7_open x8_open
  rcases jarC hn a1 with ⟨q1, q2⟩ | ⟨j, hj, rfl, q1, q2⟩
  · rw [q1, q2]
    exact ⟨_, _, _, _, _, _, _, _, c, rfl, rfl, hS0, hA⟩
  · rw [q1, q2, gB1_s, gB1_s, if_neg n10, if_pos n00]
    by_cases h : c j 7 = 0
    · have hX2 : XR n (setC c j 7 2) (upd f (8 * j + 7) (nI 2)) := hX.put hj (by omega)
      have hM2 : MR n (setC c j 7 2) kd sz (upd pg (30 + j) (nI 2)) := hM.put hn hj 7 30 (by omega)
      rw [wholeX_t hX hj hn h, wholeM_t hM hj hn h, gB1_s, gB1_s, if_neg n10, if_neg n10, m1, m2]
      refine ⟨nI (c j 1), upd f (8 * j + 7) (nI 2), cnt', nxt', M', acts', upd pg (30 + j) (nI 2), book', setC c j 7 2, ?_, ?_, ⟨hG.put (by omega), hX2, rfl, rfl, hM2, rfl, ?_⟩, m3⟩
      · unfold x2_letOut
        simp (disch := omega) only [li, gB3_s, gB1_s, put_eq]
        rw [partX hX2 hj hn (by omega), gB1_s, setC_ne (by omega)]
      · simp (disch := omega) only [li, gB2_s, nI_add, gIn_t, gChk_t, nI_clamp, hM2.p1, setC_ne]
      · rw [pk_un (by omega), h36]
    · have g7 := (hG.2.1 j hj).2.2.2.2.2.2.2.2
      rw [wholeX_f hX hj hn g7 h, wholeM_f hM hj hn g7 h]
      exact ⟨_, _, _, _, _, _, _, _, c, rfl, rfl, hS0, hA⟩
theorem undoM_l {book : Nat → Int32} {th : Int32} {a : Nat} (ha : a < 14) : ∀ k i, i + k = 37 → ∀ fl, k < fl → ∀ y, (∀ t, t < i → y t = book (37 * a + t)) → ∃ y', x8_undo_b27 N book fl (nI i) th (nI a) y = some (nI a, th, nI a, y') ∧ ∀ t, t < 37 → y' t = book (37 * a + t) := by
  intro k
  induction k with
  | zero =>
    intro i hi fl hfl y hy
    obtain ⟨fl, rfl⟩ : ∃ m, fl = m + 1 := ⟨fl - 1, by omega⟩
    have e : i = 37 := by omega
    subst e
    refine ⟨y, ?_, hy⟩
    rw [x8_undo_b27, if_pos (show (37 : Int32) ≤ nI 37 from nI_le (Nat.le_refl 37) (by omega))]
  | succ k ih =>
    intro i hi fl hfl y hy
    obtain ⟨fl, rfl⟩ : ∃ m, fl = m + 1 := ⟨fl - 1, by omega⟩
    obtain ⟨y', a1, a2⟩ := ih (i + 1) (by omega) fl (by omega) (upd y i (book (37 * a + i))) (fun t ht => by
      by_cases e : t = i
      · rw [e]; exact pk_us
      · rw [pk_un (by omega)]
        exact hy t (by omega))
    refine ⟨y', ?_, a2⟩
    rw [x8_undo_b27, if_neg (show ¬ (37 : Int32) ≤ nI i from nI_ge (a := i) (b := 37) (by omega) (by omega))]
    simp (disch := omega) only [li, nI_add, pk_mul, nI_clamp, gIn_t, gChk_t]
    exact a1
theorem st_undo (hS : SH n c w J W f Jm kd sz pg) {cnt nxt acts th : Int32} {M : Nat → Nat → Int32} {book : Nat → Int32} (hA : ACT n kd sz cnt nxt M acts book) (hN : 2000 ≤ N) : ∃ r W' f' cnt' nxt' acts' pg' c' w', x7_undo W f cnt nxt M = some (r, W', f', cnt', nxt') ∧ x8_undo N th acts pg book = some (r, 0, acts', pg') ∧ SH n c' w' J W' f' Jm kd sz pg' ∧ ACT n kd sz cnt' nxt' M acts' book := by
  have hS0 := hS
  have hA0 := hA
  obtain ⟨hG, hX, rfl, rfl, hM, rfl, h36⟩ := hS
  have hn := hG.n6
  obtain ⟨k, x, hk, hx, rfl, rfl, rfl, hi⟩ := hA
  by_cases h0 : k = 0
  · subst h0
    exact ⟨_, _, _, _, _, _, _, c, W, rfl, rfl, hS0, hA0⟩
  · obtain ⟨k, rfl⟩ : ∃ m, k = m + 1 := ⟨k - 1, by omega⟩
    obtain ⟨c1, w1, hG1, hX1, h48, hM1, h361⟩ := hi k (by omega)
    have ex : (x + 14 - (k + 1) + k) % 14 = (x + 14 - 1) % 14 := by
      congr 1
      omega
    rw [ex] at hX1 h48
    obtain ⟨f', f1, f2⟩ := fetchX hX1 hn W f
    obtain ⟨pg', u1, u2⟩ := undoM_l (N := N) (book := book) (th := 0) (a := k) (by omega) 37 0 (by omega) N (by omega) pg (fun t ht => by omega)
    refine ⟨nI k, M ((x + 14 - 1) % 14) 48, f', nI k, nI ((x + 14 - 1) % 14), nI k, pg', c1, w1, ?_, ?_, ⟨hG1, f2, rfl, h48, fun j hj => ?_, rfl, ?_⟩, k, (x + 14 - 1) % 14, by omega, by omega, rfl, rfl, rfl, fun i hik => ?_⟩
    · unfold x7_undo x0_takeBack
      rw [if_neg (show ¬ nI (k + 1) = (0 : Int32) from fun z => absurd ((nI_eq (a := k + 1) (b := 0) (by omega) (by omega)).mp z) (by omega))]
      simp (disch := omega) only [li, nI_add, pk_sub, remN, gIn_t, gChk_t, nI_clamp]
      rw [f1, gB2_s]
      unfold x0_takeBack_b48 x0_count
      simp (disch := omega) only [li, gB5_s, gB1_s]
      rw [if_neg (show ¬ nI 1 = nI 0 from by decide)]
      rfl
    · unfold x8_undo
      rw [if_neg (show ¬ nI (k + 1) = (0 : Int32) from fun z => absurd ((nI_eq (a := k + 1) (b := 0) (by omega) (by omega)).mp z) (by omega))]
      have e : nI (k + 1) - (1 : Int32) = nI k := by
        exact nI_pred k
      rw [e]
      exact u1
    · rw [u2 j (by omega), u2 (6 + j) (by omega), u2 (12 + j) (by omega), u2 (18 + j) (by omega), u2 (24 + j) (by omega), u2 (30 + j) (by omega)]
      exact hM1 j hj
    · rw [u2 36 (by omega)]
      exact h361
    · have ei : ((x + 14 - 1) % 14 + 14 - k + i) % 14 = (x + 14 - (k + 1) + i) % 14 := by omega
      rw [ei]
      exact hi i (by omega)
theorem nar1 : vp_nar .boolean (1 : Int32) = nI 1 := by decide
theorem nar0 : vp_nar .boolean (0 : Int32) = nI 0 := by decide
theorem keepM_l {th : Int32} {ik : Nat → Int32} {a : Nat} (ha : a < 2) : ∀ k i, i + k = 37 → ∀ fl, k < fl → ∀ y, (∀ t, t < i → y (37 * a + t) = pg t) → ∃ y', x8_keep_b26 N pg (nI a) fl (nI i) th y ik = some (pg 36, th, y', ik) ∧ (∀ t, t < 37 → y' (37 * a + t) = pg t) ∧ ∀ t, (t < 37 * a ∨ 37 * a + 37 ≤ t) → y' t = y t := by
  intro k
  induction k with
  | zero =>
    intro i hi fl hfl y hy
    obtain ⟨fl, rfl⟩ : ∃ m, fl = m + 1 := ⟨fl - 1, by omega⟩
    have e : i = 37 := by omega
    subst e
    refine ⟨y, ?_, hy, fun _ _ => rfl⟩
    rw [x8_keep_b26, if_pos (show (37 : Int32) ≤ nI 37 from nI_le (Nat.le_refl 37) (by omega)), g36, gChk_t, c36]
  | succ k ih =>
    intro i hi fl hfl y hy
    obtain ⟨fl, rfl⟩ : ∃ m, fl = m + 1 := ⟨fl - 1, by omega⟩
    obtain ⟨y', a1, a2, a3⟩ := ih (i + 1) (by omega) fl (by omega) (upd y (37 * a + i) (pg i)) (fun t ht => by
      by_cases e : t = i
      · rw [e]; exact pk_us
      · rw [pk_un (by omega)]
        exact hy t (by omega))
    refine ⟨y', ?_, a2, fun t ht => by rw [a3 t ht, pk_un (by omega)]⟩
    rw [x8_keep_b26, if_neg (show ¬ (37 : Int32) ≤ nI i from nI_ge (a := i) (b := 37) (by omega) (by omega))]
    simp (disch := omega) only [li, nI_add, pk_mul, nI_clamp, gIn_t, gChk_t]
    exact a1
theorem st_keep (hS : SH n c w J W f Jm kd sz pg) {th : Int32} {rows : Nat → Nat → Int32} {fil kept isK : Nat → Int32} (hL : SLT n kd sz rows fil kept isK) (hN : 2000 ≤ N) (a1 : Int32) : ∃ r rows' fil' kept' isK', x7_keep W f rows fil a1 = some (r, rows', fil') ∧ x8_keep N th pg kept isK a1 = some (r, 0, kept', isK') ∧ SLT n kd sz rows' fil' kept' isK' := by
  obtain ⟨hG, hX, rfl, rfl, hM, rfl, h36⟩ := hS
  have hn := hG.n6
  unfold x7_keep x8_keep
  rcases rangeC 2 (by omega) a1 with z | ⟨z0, z⟩ | ⟨a, ha, rfl⟩
  · rw [if_pos z, in_f 0 1 (by decide) (by decide) (Or.inl z)]
    exact ⟨_, _, _, _, _, rfl, rfl, hL⟩
  · rw [if_neg z0, if_neg (show ¬ a1 < (2 : Int32) from fun q => (ltI _ _).mp q z), in_f 0 1 (by decide) (by decide) (Or.inr ?_)]
    · exact ⟨_, _, _, _, _, rfl, rfl, hL⟩
    · rw [fa_le, nI_toInt (by omega)] at z
      rw [fa_lt, show (1 : Int32).toInt = 1 from by decide]
      omega
  · obtain ⟨row, r1, r2, r3⟩ := storeX hX hn W (rows a)
    obtain ⟨kept', k1, k2, k3⟩ := keepM_l (N := N) (pg := pg) (th := 0) (ik := upd isK a (nI 1)) ha 37 0 (by omega) N (by omega) kept (fun t ht => by omega)
    refine ⟨W, gSet rows a row, upd fil a (nI 1), kept', upd isK a (nI 1), ?_, ?_, fun i hi => ?_⟩
    · unfold x3_store x3_store_b19 x2_weeks
      rw [nar1]
      simp (disch := omega) only [li, nI_ltI, nI_leI, nI_clamp, gIn_t, gChk_t, r1, gB1_s]
      rw [if_neg (by omega), if_pos ha, if_neg (by omega), if_neg (by omega)]
      rfl
    · have e : x8_in (nI a).toInt64 0 1 = some (nI 1) := in_t 0 1 (by decide) (by decide) (nI_pos (by omega)) (show ¬ (1 : Int32) < nI a from nI_nlt (b := a) (a := 1) (by omega) (by omega))
      rw [e, gB1_s, if_neg n10, nar1]
      simp (disch := omega) only [nI_clamp, gIn_t, gChk_t]
      rw [← h36]
      exact k1
    · obtain ⟨s1, s2⟩ := hL i hi
      by_cases e : i = a
      · subst e
        rw [pk_us, pk_us, gSet_eq]
        have hh : MR n c kd sz (fun t => kept' (37 * i + t)) := fun j hj => by
          have z := hM j hj
          rw [← k2 j (by omega), ← k2 (6 + j) (by omega), ← k2 (12 + j) (by omega), ← k2 (18 + j) (by omega), ← k2 (24 + j) (by omega), ← k2 (30 + j) (by omega)] at z
          exact z
        exact ⟨rfl, Or.inr ⟨rfl, c, W, hG, r2, r3, hh, (k2 36 (by omega)).trans h36⟩⟩
      · rw [pk_un e, pk_un e, gSet_ne e]
        refine ⟨s1, s2.imp_right (fun q => ⟨q.1, q.2.congr hn (fun _ _ => rfl) (fun t ht => ?_)⟩)⟩
        exact (k3 _ (by omega)).symm
theorem againM_l {th ac : Int32} {kept ik : Nat → Int32} {a : Nat} (ha : a < 2) : ∀ k i, i + k = 37 → ∀ fl, k < fl → ∀ y, (∀ t, t < i → y t = kept (37 * a + t)) → ∃ y', x8_again_b31 N kept ik (nI a) fl (nI i) th ac y = some (kept (37 * a + 36), th, 0, y') ∧ ∀ t, t < 37 → y' t = kept (37 * a + t) := by
  intro k
  induction k with
  | zero =>
    intro i hi fl hfl y hy
    obtain ⟨fl, rfl⟩ : ∃ m, fl = m + 1 := ⟨fl - 1, by omega⟩
    have e : i = 37 := by omega
    subst e
    refine ⟨y, ?_, hy⟩
    rw [x8_again_b31, if_pos (show (37 : Int32) ≤ nI 37 from nI_le (Nat.le_refl 37) (by omega)), g36, gChk_t, c36, hy 36 (by omega)]
  | succ k ih =>
    intro i hi fl hfl y hy
    obtain ⟨fl, rfl⟩ : ∃ m, fl = m + 1 := ⟨fl - 1, by omega⟩
    obtain ⟨y', a1, a2⟩ := ih (i + 1) (by omega) fl (by omega) (upd y i (kept (37 * a + i))) (fun t ht => by
      by_cases e : t = i
      · rw [e]; exact pk_us
      · rw [pk_un (by omega)]
        exact hy t (by omega))
    refine ⟨y', ?_, a2⟩
    rw [x8_again_b31, if_neg (show ¬ (37 : Int32) ≤ nI i from nI_ge (a := i) (b := 37) (by omega) (by omega))]
    simp (disch := omega) only [li, nI_add, pk_mul, nI_clamp, gIn_t, gChk_t]
    exact a1
theorem ACT.forget {cnt nxt acts : Int32} {M : Nat → Nat → Int32} {book : Nat → Int32} {n' : Nat} {kd' sz' : Nat → Int32} (hA : ACT n kd sz cnt nxt M acts book) : ACT n' kd' sz' 0 nxt M 0 book := by
  obtain ⟨k, x, hk, hx, rfl, rfl, rfl, hi⟩ := hA
  exact ⟨0, x, by omega, hx, rfl, rfl, rfl, fun i h => by omega⟩
theorem st_again (hS : SH n c w J W f Jm kd sz pg) {cnt nxt acts th : Int32} {M : Nat → Nat → Int32} {book : Nat → Int32} (hA : ACT n kd sz cnt nxt M acts book) {rows : Nat → Nat → Int32} {fil kept isK : Nat → Int32} (hL : SLT n kd sz rows fil kept isK) (hN : 2000 ≤ N) (a1 : Int32) : ∃ r W' f' cnt' acts' pg' c' w', x7_again W f cnt rows fil a1 = some (r, W', f', cnt') ∧ x8_again N th acts pg kept isK a1 = some (r, 0, acts', pg') ∧ SH n c' w' J W' f' Jm kd sz pg' ∧ ACT n kd sz cnt' nxt M acts' book := by
  have hS0 := hS
  obtain ⟨hG, hX, rfl, rfl, hM, rfl, h36⟩ := hS
  have hn := hG.n6
  unfold x7_again x8_again
  rcases rangeC 2 (by omega) a1 with z | ⟨z0, z⟩ | ⟨a, ha, rfl⟩
  · rw [if_pos z, in_f 0 1 (by decide) (by decide) (Or.inl z)]
    exact ⟨_, _, _, _, _, _, c, W, rfl, rfl, hS0, hA⟩
  · rw [if_neg z0, if_neg (show ¬ a1 < (2 : Int32) from fun q => (ltI _ _).mp q z), in_f 0 1 (by decide) (by decide) (Or.inr ?_)]
    · exact ⟨_, _, _, _, _, _, c, W, rfl, rfl, hS0, hA⟩
    · rw [fa_le, nI_toInt (by omega)] at z
      rw [fa_lt, show (1 : Int32).toInt = 1 from by decide]
      omega
  · have e : x8_in (nI a).toInt64 0 1 = some (nI 1) := in_t 0 1 (by decide) (by decide) (nI_pos (by omega)) (show ¬ (1 : Int32) < nI a from nI_nlt (b := a) (a := 1) (by omega) (by omega))
    have l1 : ¬ nI a < (0 : Int32) := nI_pos (by omega)
    have l2 : nI a < (2 : Int32) := nI_lt (a := a) (b := 2) ha (by omega)
    have l3 : ¬ (2 : Int32) ≤ nI a := nI_ge (a := a) (b := 2) ha (by omega)
    unfold x3_fetch
    rw [e, gB1_s, if_neg n10, if_neg l1, if_pos l2, if_neg l1, if_neg l3, nI_clamp (by omega), gIn_t ha (by omega), gChk_t, gChk_t, gChk_t]
    obtain ⟨s1, s2⟩ := hL a ha
    rw [← s1]
    rcases s2 with s2 | ⟨s2, c1, w1, hG1, hX1, h48, hM1, h361⟩
    · rw [s2]
      exact ⟨_, _, _, _, _, _, c, W, rfl, rfl, hS0, hA⟩
    · rw [s2, if_neg n10, if_neg n10]
      obtain ⟨f', f1, f2⟩ := fetchX hX1 hn W f
      obtain ⟨pg', u1, u2⟩ := againM_l (N := N) (kept := kept) (ik := isK) (th := 0) (ac := acts) ha 37 0 (by omega) N (by omega) pg (fun t ht => by omega)
      refine ⟨w1, w1, f', 0, 0, pg', c1, w1, ?_, ?_, ⟨hG1, f2, rfl, rfl, fun j hj => ?_, rfl, ?_⟩, hA.forget⟩
      · rw [f1, gB2_s, h48]
        rfl
      · rw [← h361]
        exact u1
      · rw [u2 j (by omega), u2 (6 + j) (by omega), u2 (12 + j) (by omega), u2 (18 + j) (by omega), u2 (24 + j) (by omega), u2 (30 + j) (by omega)]
        exact hM1 j hj
      · rw [u2 36 (by omega)]
        exact h361
end ACTS3
