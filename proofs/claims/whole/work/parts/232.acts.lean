/-! PURE: acts are remembered, noted; taken back -/
theorem gSet_ne {M : Nat → Nat → Int32} {k j : Nat} {x : Nat → Int32} (h : ¬ j = k) : gSet M k x j = M j := if_neg h
theorem gSet_eq {M : Nat → Nat → Int32} {k : Nat} {x : Nat → Int32} : gSet M k x k = x := if_pos rfl
section ACTS
variable {N n : Nat} {c : Nat → Nat → Nat} {w J W Jm : Int32} {f kd sz pg : Nat → Int32}
theorem storeX (hX : XR n c f) (hn : n ≤ 6) (w : Int32) (row : Nat → Int32) : ∃ row', x2_storeIn w f row = some row' ∧ XR n c row' ∧ row' 48 = w := by
  have e48 : (48 : Int32).toNatClampNeg = 48 := by decide
  refine ⟨upd (va_cpy f row 0 0 48) 48 w, ?_, fun j hj p hp => ?_, pk_us⟩
  · unfold x2_storeIn
    rw [if_neg (by decide), e48, show gIn (48 : Int32) 49 = true from by decide, gChk_t]
  · rw [pk_un (by omega), pk_cpy_in (by omega) (by omega), ← hX j hj p hp]
    congr 1
    omega
theorem fetchX {row : Nat → Int32} (hX : XR n c row) (hn : n ≤ 6) (w : Int32) (f : Nat → Int32) : ∃ f', x2_fetchFrom w f row = some (row 48, f') ∧ XR n c f' := by
  have e48 : (48 : Int32).toNatClampNeg = 48 := by decide
  refine ⟨va_cpy row f 0 0 48, ?_, fun j hj p hp => ?_⟩
  · unfold x2_fetchFrom
    rw [if_neg (by decide), e48, show gIn (48 : Int32) 49 = true from by decide, gChk_t]
  · rw [pk_cpy_in (by omega) (by omega), ← hX j hj p hp]
    congr 1
    omega
theorem noteM_b (hpg : True) {a : Nat} (ha : a < 14) : ∀ k i, i + k = 37 → ∀ fl, k < fl → ∀ y, (∀ t, t < i → y (37 * a + t) = pg t) → ∃ y', x8_note_b51 N pg fl (nI i) (nI a) y = some (nI (a + 1), y') ∧ (∀ t, t < 37 → y' (37 * a + t) = pg t) ∧ ∀ t, t < 37 * a → y' t = y t := by
  intro k
  induction k with
  | zero =>
    intro i hi fl hfl y hy
    obtain ⟨fl, rfl⟩ : ∃ m, fl = m + 1 := ⟨fl - 1, by omega⟩
    have e : i = 37 := by omega
    subst e
    refine ⟨y, ?_, hy, fun _ _ => rfl⟩
    rw [x8_note_b51, if_pos (show (37 : Int32) ≤ nI 37 from nI_le (Nat.le_refl 37) (by omega)), nI_succ]
  | succ k ih =>
    intro i hi fl hfl y hy
    obtain ⟨fl, rfl⟩ : ∃ m, fl = m + 1 := ⟨fl - 1, by omega⟩
    obtain ⟨y', a1, a2, a3⟩ := ih (i + 1) (by omega) fl (by omega) (upd y (37 * a + i) (pg i)) (fun t ht => by
      by_cases e : t = i
      · rw [e]; exact pk_us
      · rw [pk_un (by omega)]
        exact hy t (by omega))
    refine ⟨y', ?_, a2, fun t ht => by rw [a3 t ht, pk_un (by omega)]⟩
    rw [x8_note_b51, if_neg (show ¬ (37 : Int32) ≤ nI i from nI_ge (a := i) (b := 37) (by omega) (by omega))]
    simp (disch := omega) only [li, nI_add, pk_mul, nI_clamp, gIn_t, gChk_t]
    exact a1
theorem noteM_a {book0 : Nat → Int32} : ∀ k i, i + k = 481 → ∀ fl, k < fl → ∀ y, (∀ t, t < i → y t = book0 (t + 37)) → (∀ t, i ≤ t → y t = book0 t) → 2000 ≤ N → ∃ y', x8_note_b11 N pg fl (nI i) (nI 14) y = some (nI 14, y') ∧ (∀ t, t < 37 → y' (37 * 13 + t) = pg t) ∧ ∀ t, t < 481 → y' t = book0 (t + 37) := by
  intro k
  induction k with
  | zero =>
    intro i hi fl hfl y h1 h2 hN
    obtain ⟨fl, rfl⟩ : ∃ m, fl = m + 1 := ⟨fl - 1, by omega⟩
    have e : i = 481 := by omega
    subst e
    obtain ⟨y', a1, a2, a3⟩ := noteM_b (N := N) (pg := pg) trivial (a := 13) (by omega) 37 0 (by omega) N (by omega) y (fun t ht => by omega)
    refine ⟨y', ?_, a2, fun t ht => by rw [a3 t (by omega), h1 t ht]⟩
    rw [x8_note_b11, if_pos (show (481 : Int32) ≤ nI 481 from nI_le (Nat.le_refl 481) (by omega))]
    exact a1
  | succ k ih =>
    intro i hi fl hfl y h1 h2 hN
    obtain ⟨fl, rfl⟩ : ∃ m, fl = m + 1 := ⟨fl - 1, by omega⟩
    obtain ⟨y', a1, a2, a3⟩ := ih (i + 1) (by omega) fl (by omega) (upd y i (y (i + 37))) (fun t ht => by
      by_cases e : t = i
      · rw [e, pk_us, h2 _ (by omega)]
      · rw [pk_un e]
        exact h1 t (by omega)) (fun t ht => by
      rw [pk_un (by omega)]
      exact h2 t (by omega)) hN
    refine ⟨y', ?_, a2, a3⟩
    rw [x8_note_b11, if_neg (show ¬ (481 : Int32) ≤ nI i from nI_ge (a := i) (b := 481) (by omega) (by omega))]
    simp (disch := omega) only [li, nI_add, pk_mul, nI_clamp, gIn_t, gChk_t]
    exact a1
theorem SN.congr {row row' pgr pgr' : Nat → Int32} (h : SN n kd sz row pgr) (hn : n ≤ 6) (e1 : ∀ t, t < 49 → row t = row' t) (e2 : ∀ t, t < 37 → pgr t = pgr' t) : SN n kd sz row' pgr' := by
  obtain ⟨c, w, hG, hX, h48, hM, h36⟩ := h
  refine ⟨c, w, hG, fun j hj p hp => ?_, ?_, fun j hj => ?_, ?_⟩
  · rw [← e1 _ (by omega)]
    exact hX j hj p hp
  · rw [← e1 _ (by omega)]
    exact h48
  · rw [← e2 j (by omega), ← e2 (6 + j) (by omega), ← e2 (12 + j) (by omega), ← e2 (18 + j) (by omega), ← e2 (24 + j) (by omega), ← e2 (30 + j) (by omega)]
    exact hM j hj
  · rw [← e2 _ (by omega)]
    exact h36
/-- both remember the shelf as it is -/
theorem act_note (hS : SH n c w J W f Jm kd sz pg) {cnt nxt acts : Int32} {M : Nat → Nat → Int32} {book : Nat → Int32} (hA : ACT n kd sz cnt nxt M acts book) (hN : 2000 ≤ N) : ∃ cnt' nxt' M' acts' book', x0_remember cnt nxt M W f = some (cnt', nxt', M') ∧ x8_note N acts pg book = some (acts', book') ∧ ACT n kd sz cnt' nxt' M' acts' book' := by
  obtain ⟨hG, hX, rfl, rfl, hM, rfl, h36⟩ := hS
  obtain ⟨k, x, hk, hx, rfl, rfl, rfl, hi⟩ := hA
  have hn := hG.n6
  obtain ⟨row, r1, r2, r3⟩ := storeX hX hn W (M x)
  have new : SN n kd sz row pg := ⟨c, W, hG, r2, r3, hM, h36⟩
  have er : x0_remember (nI k) (nI x) M W f = some (nI (min (k + 1) 14), nI ((x + 1) % 14), gSet M x row) := by
    unfold x0_remember
    rw [nI_clamp (by omega), r1, gIn_t hx (by omega), gChk_t, gB1_s]
    unfold x0_remember_b13
    simp (disch := omega) only [li, nI_add, remN, nI_ltI]
    by_cases q : 14 < k + 1
    · rw [if_pos q, Nat.min_eq_right (by omega)]
    · rw [if_neg q, Nat.min_eq_left (by omega)]
  by_cases h14 : k = 14
  · subst h14
    obtain ⟨book', b1, b2, b3⟩ := noteM_a (N := N) (pg := pg) (book0 := book) 481 0 (by omega) N (by omega) book (fun t ht => by omega) (fun _ _ => rfl) hN
    refine ⟨_, _, _, nI 14, book', er, ?_, 14, (x + 1) % 14, by omega, by omega, rfl, rfl, rfl, fun i hi14 => ?_⟩
    · unfold x8_note
      rw [if_pos (show nI 14 = (14 : Int32) from rfl)]
      exact b1
    · by_cases e : i = 13
      · subst e
        have ei : ((x + 1) % 14 + 14 - 14 + 13) % 14 = x := by omega
        rw [ei]
        refine new.congr hn (fun t _ => by rw [gSet_eq]) (fun t ht => (b2 t ht).symm)
      · have ei : ((x + 1) % 14 + 14 - 14 + i) % 14 = (x + 14 - 14 + (i + 1)) % 14 := by omega
        have ne : ¬ (x + 14 - 14 + (i + 1)) % 14 = x := by omega
        rw [ei]
        refine (hi (i + 1) (by omega)).congr hn (fun t _ => by rw [gSet_ne ne]) (fun t ht => ?_)
        rw [b3 (37 * i + t) (by omega)]
        congr 1
        omega
  · obtain ⟨book', b1, b2, b3⟩ := noteM_b (N := N) (pg := pg) trivial (a := k) (by omega) 37 0 (by omega) N (by omega) book (fun t ht => by omega)
    have em : min (k + 1) 14 = k + 1 := by omega
    refine ⟨_, _, _, nI (k + 1), book', er, ?_, k + 1, (x + 1) % 14, by omega, by omega, by rw [em], rfl, rfl, fun i hi1 => ?_⟩
    · unfold x8_note
      rw [if_neg (show ¬ nI k = (14 : Int32) from fun z => h14 ((nI_eq (by omega) (by omega)).mp (show nI k = nI 14 from z)))]
      exact b1
    · by_cases e : i = k
      · subst e
        have ei : ((x + 1) % 14 + 14 - (i + 1) + i) % 14 = x := by omega
        rw [ei]
        refine new.congr hn (fun t _ => by rw [gSet_eq]) (fun t ht => (b2 t ht).symm)
      · have ei : ((x + 1) % 14 + 14 - (k + 1) + i) % 14 = (x + 14 - k + i) % 14 := by omega
        have ne : ¬ (x + 14 - k + i) % 14 = x := by omega
        rw [ei]
        refine (hi i (by omega)).congr hn (fun t _ => by rw [gSet_ne ne]) (fun t ht => ?_)
        rw [b3 (37 * i + t) (by omega)]
theorem st_week (hS : SH n c w J W f Jm kd sz pg) {cnt nxt acts th : Int32} {M : Nat → Nat → Int32} {book : Nat → Int32} (hA : ACT n kd sz cnt nxt M acts book) (hN : 2000 ≤ N) : ∃ r W' f' cnt' nxt' M' acts' pg' book' c' w', x7_week N J W f cnt nxt M = some (r, W', f', cnt', nxt', M') ∧ x8_week N th Jm acts kd pg book = some (r, 0, acts', pg', book') ∧ SH n c' w' J W' f' Jm kd sz pg' ∧ ACT n kd sz cnt' nxt' M' acts' book' := by
  obtain ⟨cnt', nxt', M', acts', book', a1, a2, a3⟩ := act_note (N := N) hS hA hN
  obtain ⟨hG, hX, rfl, rfl, hM, rfl, h36⟩ := hS
  obtain ⟨f', x1, x2⟩ := weekX (N := N) hX hG (by omega) W
  obtain ⟨pg', m1, m2, m3⟩ := weekM (N := N) hM hG (by omega) h36
  have hG' := hG.week (ev := evn W)
  refine ⟨nI (sumF (weekC (evn W) c) n), W + nI 1, f', cnt', nxt', M', acts', pg', book', weekC (evn W) c, W + nI 1, ?_, ?_, ⟨hG', x2, rfl, rfl, m2, rfl, m3⟩, a3⟩
  · unfold x7_week
    rw [a1, gB3_s, x1, gB2_s, flavX x2 hG' (by omega), gB1_s]
  · unfold x8_week
    rw [a2, gB2_s, m1, gB1_s, flavM m2 hG' (by omega), gB1_s]
theorem st_shake (hS : SH n c w J W f Jm kd sz pg) {cnt nxt acts th : Int32} {M : Nat → Nat → Int32} {book : Nat → Int32} (hA : ACT n kd sz cnt nxt M acts book) (hN : 2000 ≤ N) : ∃ r f' cnt' nxt' M' acts' pg' book' c' w', x7_shake N J W f cnt nxt M = some (r, f', cnt', nxt', M') ∧ x8_shake N th Jm acts kd sz pg book = some (r, 0, acts', pg', book') ∧ SH n c' w' J W f' Jm kd sz pg' ∧ ACT n kd sz cnt' nxt' M' acts' book' := by
  obtain ⟨cnt', nxt', M', acts', book', a1, a2, a3⟩ := act_note (N := N) hS hA hN
  obtain ⟨hG, hX, rfl, rfl, hM, rfl, h36⟩ := hS
  obtain ⟨f', x1, x2⟩ := shkX (N := N) hX hG (by omega)
  obtain ⟨pg', m1, m2, m3⟩ := shkM (N := N) hM hG (by omega)
  have hG' : Good n (shkC c) := hG.map shk_ok shk_0 shk_7
  refine ⟨nI (crkS c n), f', cnt', nxt', M', acts', pg', book', shkC c, W, ?_, ?_, ⟨hG', x2, rfl, rfl, m2, rfl, by rw [m3, h36]⟩, a3⟩
  · unfold x7_shake
    rw [a1, gB3_s, x1, gB2_s]
  · unfold x8_shake
    rw [a2, gB2_s, m1, gB2_s]
end ACTS
