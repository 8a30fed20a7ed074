/-! PURE: the whole jars and their places -/
section GATHER
variable {N n : Nat} {c : Nat → Nat → Nat} {f kd sz pg : Nat → Int32}
def en (p : Nat → Bool) : Nat → Nat → Nat
  | 0, _ => 0
  | n + 1, i => if p n = true ∧ fb_ct p n = i then n else en p n i
theorem ct_lt {p : Nat → Bool} {j n : Nat} (hj : j < n) (h : p j = true) : fb_ct p j < fb_ct p n := by
  have h1 := fb_ct_mono p (show j + 1 ≤ n from hj)
  rw [fb_ct_succ, if_pos h] at h1
  omega
theorem en_eq {p : Nat → Bool} : ∀ {n j : Nat}, j < n → p j = true → en p n (fb_ct p j) = j
  | 0, _, h, _ => by omega
  | n + 1, j, hj, h => by
    rw [en]
    by_cases e : j = n
    · subst e
      rw [if_pos ⟨h, rfl⟩]
    · have := ct_lt (show j < n from by omega) h
      rw [if_neg (fun z => by omega)]
      exact en_eq (by omega) h
theorem en_ok {p : Nat → Bool} {n i : Nat} (h : i < fb_ct p n) : en p n i < n ∧ p (en p n i) = true ∧ fb_ct p (en p n i) = i := by
  obtain ⟨j, h1, h2, h3⟩ := fb_ct_kth h
  have e := en_eq h1 h2
  rw [h3] at e
  rw [e]
  exact ⟨h1, h2, h3⟩
theorem en_mono {p : Nat → Bool} {n a b : Nat} (hab : a < b) (h : b < fb_ct p n) : en p n a < en p n b := by
  obtain ⟨a1, a2, a3⟩ := en_ok (show a < fb_ct p n from by omega)
  obtain ⟨b1, b2, b3⟩ := en_ok h
  by_cases z : en p n a < en p n b
  · exact z
  · have := fb_ct_mono p (show en p n b ≤ en p n a from by omega)
    omega
def wh (c : Nat → Nat → Nat) (j : Nat) : Bool := decide (c j 7 = 0)
def wp (n : Nat) (c : Nat → Nat → Nat) (q : Nat) : Bool := match atS c q n with
  | some b => decide (c b 7 = 0)
  | none => false
theorem ct_sm (p : Nat → Bool) : ∀ n, fb_ct p n = fb_sm (fun i => if p i = true then 1 else 0) n
  | 0 => rfl
  | n + 1 => by rw [fb_ct_succ, fb_sm_succ, ct_sm p n]
theorem ct_W (hG : Good n c) : fb_ct (wp n c) 8 = fb_ct (wh c) n := by
  have e := sm_places hG (fun b => if wh c b = true then 1 else 0) (fun b hb h => by
    have : wh c b = false := decide_eq_false (by omega)
    simp only [this]
    rfl)
  rw [ct_sm (wh c), ← e, ct_sm]
  refine fb_sm_cong (fun q _ => ?_)
  unfold wp wh
  cases atS c q n with
  | none => rfl
  | some b => rfl
theorem wholeO (hX : XR n c f) (hG : Good n c) (q : Nat) : x2_isWhole (nI n) f (oI (atS c q n)) = some (bI (wp n c q)) := by
  have hn := hG.n6
  unfold wp
  cases e : atS c q n with
  | none =>
    rw [oI_none]
    unfold x2_isWhole x2_has
    rw [if_pos (show -nI 9 < (0 : Int32) from by decide), gB1_s]
    rfl
  | some b =>
    have hb := (atS_some e).1
    rw [oI_some]
    by_cases z : c b 7 = 0
    · rw [wholeX_t hX hb hn z]
      simp only [decide_eq_true z]
      rfl
    · rw [wholeX_f hX hb hn (hG.2.1 b hb).2.2.2.2.2.2.2.2 z]
      simp only [decide_eq_false z]
      rfl
theorem gatX_b (hX : XR n c f) (hG : Good n c) (hN : 100 ≤ N) {cnt : Int32} {mv : Nat → Int32} : ∀ d q, q + d = 8 → ∀ fl, d < fl → ∀ sp, (∀ k, k < fb_ct (wp n c) q → sp k = nI (en (wp n c) 8 k)) → ∃ sp', x6_gather_b62 N (nI n) f fl (nI (fb_ct (wp n c) q)) (nI q) cnt mv sp = some (cnt, mv, sp') ∧ ∀ k, k < fb_ct (wp n c) 8 → sp' k = nI (en (wp n c) 8 k) := by
  have hn := hG.n6
  have h6 : fb_ct (wp n c) 8 ≤ 6 := by
    rw [ct_W hG]
    have := fb_ct_le (wh c) n
    omega
  intro d
  induction d with
  | zero =>
    intro q hq fl hfl sp hs
    obtain ⟨fl, rfl⟩ : ∃ x, fl = x + 1 := ⟨fl - 1, by omega⟩
    have e : q = 8 := by omega
    subst e
    rw [x6_gather_b62, if_pos (show (8 : Int32) ≤ nI 8 from by decide)]
    exact ⟨sp, rfl, hs⟩
  | succ d ih =>
    intro q hq fl hfl sp hs
    obtain ⟨fl, rfl⟩ : ∃ x, fl = x + 1 := ⟨fl - 1, by omega⟩
    have hm := fb_ct_mono (wp n c) (show q ≤ 8 from by omega)
    rw [x6_gather_b62, if_neg (show ¬ (8 : Int32) ≤ nI q from nI_ge (a := q) (b := 8) (by omega) (by omega))]
    by_cases z : 6 ≤ fb_ct (wp n c) q
    · rw [if_pos (show (6 : Int32) ≤ nI (fb_ct (wp n c) q) from nI_le (a := 6) z (by omega))]
      exact ⟨sp, rfl, fun k hk => hs k (by omega)⟩
    · rw [if_neg (show ¬ (6 : Int32) ≤ nI (fb_ct (wp n c) q) from nI_ge (b := 6) (by omega) (by omega)), jarOnX hX hG (by omega) hN, gB1_s, wholeO hX hG, gB1_s, show nI q + (1 : Int32) = nI (q + 1) from nI_1 q]
      cases h : wp n c q with
      | false =>
        have step := ih (q + 1) (by omega) fl (by omega) sp (by rw [fb_ct_succ, h]; exact hs)
        rw [fb_ct_succ, h] at step
        rw [if_pos (show bI false = (0 : Int32) from rfl)]
        exact step
      | true =>
        have step := ih (q + 1) (by omega) fl (by omega) (upd sp (fb_ct (wp n c) q) (nI q)) (fun k hk => by
          rw [fb_ct_succ, if_pos h] at hk
          by_cases e : k = fb_ct (wp n c) q
          · rw [e, pk_us, en_eq (by omega) h]
          · rw [pk_un e]
            exact hs k (by omega))
        rw [fb_ct_succ, if_pos h] at step
        rw [if_neg (show ¬ bI true = (0 : Int32) from by decide), gIn_t (by omega) (by omega), gChk_t, nI_clamp (by omega), show nI (fb_ct (wp n c) q) + (1 : Int32) = nI (fb_ct (wp n c) q + 1) from nI_1 _]
        exact step
theorem gatX (hX : XR n c f) (hG : Good n c) (hN : 100 ≤ N) {cnt : Int32} (mv0 sp : Nat → Int32) : ∃ mv' sp', x6_gather N cnt mv0 sp (nI n) f = some (nI (fb_ct (wh c) n), mv', sp') ∧ (∀ k, k < fb_ct (wh c) n → mv' k = nI (en (wh c) n k)) ∧ ∀ k, k < fb_ct (wh c) n → sp' k = nI (en (wp n c) 8 k) := by
  have hn := hG.n6
  have loop : ∀ d i, i + d = n → ∀ fl, d < fl → ∀ mv, (∀ k, k < fb_ct (wh c) i → mv k = nI (en (wh c) n k)) → ∃ mv' sp', x6_gather_b7 N (nI n) f fl (nI i) (nI (fb_ct (wh c) i)) mv sp = some (nI (fb_ct (wh c) n), mv', sp') ∧ (∀ k, k < fb_ct (wh c) n → mv' k = nI (en (wh c) n k)) ∧ ∀ k, k < fb_ct (wh c) n → sp' k = nI (en (wp n c) 8 k) := by
    intro d
    induction d with
    | zero =>
      intro i hi fl hfl mv hs
      obtain ⟨fl, rfl⟩ : ∃ x, fl = x + 1 := ⟨fl - 1, by omega⟩
      have e : i = n := by omega
      subst e
      unfold x6_gather_b7 x2_jars x6_gather_b58
      rw [gB1_s, if_pos (nI_le (Nat.le_refl _) (by omega))]
      obtain ⟨sp', a1, a2⟩ := gatX_b (N := N) (cnt := nI (fb_ct (wh c) i)) (mv := mv) hX hG hN 8 0 (by omega) N (by omega) sp (fun k hk => by cases hk)
      rw [ct_W hG] at a2
      exact ⟨mv, sp', a1, hs, a2⟩
    | succ d ih =>
      intro i hi fl hfl mv hs
      obtain ⟨fl, rfl⟩ : ∃ x, fl = x + 1 := ⟨fl - 1, by omega⟩
      have hc := fb_ct_le (wh c) i
      rw [x6_gather_b7]
      unfold x2_jars
      rw [gB1_s, if_neg (nI_ge (by omega) (by omega)), if_neg (show ¬ (6 : Int32) ≤ nI (fb_ct (wh c) i) from nI_ge (b := 6) (by omega) (by omega)), show nI i + (1 : Int32) = nI (i + 1) from nI_1 i]
      by_cases z : c i 7 = 0
      · have h : wh c i = true := decide_eq_true z
        have step := ih (i + 1) (by omega) fl (by omega) (upd mv (fb_ct (wh c) i) (nI i)) (fun k hk => by
          rw [fb_ct_succ, if_pos h] at hk
          by_cases e : k = fb_ct (wh c) i
          · rw [e, pk_us, en_eq (by omega) h]
          · rw [pk_un e]
            exact hs k (by omega))
        rw [fb_ct_succ, if_pos h] at step
        rw [wholeX_t hX (by omega) hn z, gB1_s, if_neg n10, gIn_t (by omega) (by omega), gChk_t, nI_clamp (by omega), show nI (fb_ct (wh c) i) + (1 : Int32) = nI (fb_ct (wh c) i + 1) from nI_1 _]
        exact step
      · have h : wh c i = false := decide_eq_false z
        have step := ih (i + 1) (by omega) fl (by omega) mv (by rw [fb_ct_succ, h]; exact hs)
        rw [fb_ct_succ, h] at step
        rw [wholeX_f hX (by omega) hn (hG.2.1 i (by omega)).2.2.2.2.2.2.2.2 z, gB1_s, if_pos n00]
        exact step
  exact loop n 0 (by omega) N (by omega) mv0 (fun k hk => by cases hk)
section LAY
variable (k4 : Int32 → Int32 → (Nat → Int32) → (Nat → Int32) → Option (Int32 × (Nat → Int32) × (Nat → Int32)))
theorem lay_skip {q : Nat} (hM : MR n c kd sz pg) (hG : Good n c) (hq : q < 8) {X : Int32} {od sp : Nat → Int32} : ∀ d i, i + d = n → ∀ fl, d < fl → (∀ j, i ≤ j → j < n → ¬ (c j 7 = 0 ∧ c j 0 = q)) → x8_laySpots_b12 N (nI n) pg k4 fl X (nI q) (nI i) od sp = k4 X (nI (q + 1)) od sp := by
  have hn := hG.n6
  intro d
  induction d with
  | zero =>
    intro i hi fl hfl h
    obtain ⟨fl, rfl⟩ : ∃ x, fl = x + 1 := ⟨fl - 1, by omega⟩
    rw [x8_laySpots_b12, if_pos (nI_le (by omega) (by omega)), show nI q + (1 : Int32) = nI (q + 1) from nI_1 q]
  | succ d ih =>
    intro i hi fl hfl h
    obtain ⟨fl, rfl⟩ : ∃ x, fl = x + 1 := ⟨fl - 1, by omega⟩
    obtain ⟨g0, g1, g2, g3, g4, g4', g5, g6, g7⟩ := hG.2.1 i (by omega)
    have step := ih (i + 1) (by omega) fl (by omega) (fun j hj => h j (by omega))
    rw [x8_laySpots_b12, if_neg (nI_ge (by omega) (by omega)), show nI i + (1 : Int32) = nI (i + 1) from nI_1 i]
    by_cases z : c i 7 = 0
    · have hne : ¬ c i 0 = q := fun e => h i (by omega) (by omega) ⟨z, e⟩
      rw [wholeM_t hM (by omega) hn z, gB1_s, if_neg n10, gIn_t (by omega) (by omega), gChk_t, nI_clamp (by omega), hM.p0 (by omega), if_neg (nq q (by omega) (by omega) hne)]
      exact step
    · rw [wholeM_f hM (by omega) hn g7 z, gB1_s, if_pos n00]
      exact step
theorem lay_hit {q b x : Nat} (hM : MR n c kd sz pg) (hG : Good n c) (hq : q < 8) (hb : b < n) (hb7 : c b 7 = 0) (hb0 : c b 0 = q) (hx : x < 6) {od sp : Nat → Int32} : ∀ d i, i + d = n → ∀ fl, d < fl → i ≤ b → x8_laySpots_b12 N (nI n) pg k4 fl (nI x) (nI q) (nI i) od sp = k4 (nI (x + 1)) (nI (q + 1)) (upd od x (nI q)) sp := by
  have hn := hG.n6
  have uniq : ∀ j, j < n → c j 7 = 0 → c j 0 = q → j = b := fun j hj h7 h0 => hG.2.2 j b hj hb (by omega) (by omega) (by omega)
  intro d
  induction d with
  | zero =>
    intro i hi fl hfl h
    omega
  | succ d ih =>
    intro i hi fl hfl h
    obtain ⟨fl, rfl⟩ : ∃ x, fl = x + 1 := ⟨fl - 1, by omega⟩
    obtain ⟨g0, g1, g2, g3, g4, g4', g5, g6, g7⟩ := hG.2.1 i (by omega)
    rw [x8_laySpots_b12, if_neg (nI_ge (by omega) (by omega)), show nI i + (1 : Int32) = nI (i + 1) from nI_1 i]
    by_cases e : i = b
    · subst e
      rw [wholeM_t hM (by omega) hn hb7, gB1_s, if_neg n10, gIn_t (by omega) (by omega), gChk_t, nI_clamp (by omega), hM.p0 (by omega), if_pos (eqn q hb0), gIn_t (by omega) (by omega), gChk_t, nI_clamp (by omega), show nI x + (1 : Int32) = nI (x + 1) from nI_1 x]
      exact lay_skip k4 hM hG hq d (i + 1) (by omega) fl (by omega) (fun j h1 h2 h3 => by
        have := uniq j h2 h3.1 h3.2
        omega)
    · have step := ih (i + 1) (by omega) fl (by omega) (by omega)
      by_cases z : c i 7 = 0
      · have hne : ¬ c i 0 = q := fun e2 => e (uniq i (by omega) z e2)
        rw [wholeM_t hM (by omega) hn z, gB1_s, if_neg n10, gIn_t (by omega) (by omega), gChk_t, nI_clamp (by omega), hM.p0 (by omega), if_neg (nq q (by omega) (by omega) hne)]
        exact step
      · rw [wholeM_f hM (by omega) hn g7 z, gB1_s, if_pos n00]
        exact step
end LAY
theorem layM_c (hM : MR n c kd sz pg) (hG : Good n c) {od : Nat → Int32} : ∀ d i, i + d = n → ∀ fl, d < fl → ∀ sp, (∀ k, k < fb_ct (wh c) i → sp k = nI (en (wh c) n k)) → ∃ sp', x8_laySpots_b67 N (nI n) pg fl (nI (fb_ct (wh c) i)) (nI i) od sp = some (nI (fb_ct (wh c) n), od, sp') ∧ ∀ k, k < fb_ct (wh c) n → sp' k = nI (en (wh c) n k) := by
  have hn := hG.n6
  intro d
  induction d with
  | zero =>
    intro i hi fl hfl sp hs
    obtain ⟨fl, rfl⟩ : ∃ x, fl = x + 1 := ⟨fl - 1, by omega⟩
    have e : i = n := by omega
    subst e
    rw [x8_laySpots_b67, if_pos (nI_le (Nat.le_refl _) (by omega))]
    exact ⟨sp, rfl, hs⟩
  | succ d ih =>
    intro i hi fl hfl sp hs
    obtain ⟨fl, rfl⟩ : ∃ x, fl = x + 1 := ⟨fl - 1, by omega⟩
    have hc := fb_ct_le (wh c) i
    rw [x8_laySpots_b67, if_neg (nI_ge (by omega) (by omega)), show nI i + (1 : Int32) = nI (i + 1) from nI_1 i]
    by_cases z : c i 7 = 0
    · have h : wh c i = true := decide_eq_true z
      have step := ih (i + 1) (by omega) fl (by omega) (upd sp (fb_ct (wh c) i) (nI i)) (fun k hk => by
        rw [fb_ct_succ, if_pos h] at hk
        by_cases e : k = fb_ct (wh c) i
        · rw [e, pk_us, en_eq (by omega) h]
        · rw [pk_un e]
          exact hs k (by omega))
      rw [fb_ct_succ, if_pos h] at step
      rw [wholeM_t hM (by omega) hn z, gB1_s, if_neg n10, gIn_t (by omega) (by omega), gChk_t, nI_clamp (by omega), show nI (fb_ct (wh c) i) + (1 : Int32) = nI (fb_ct (wh c) i + 1) from nI_1 _]
      exact step
    · have h : wh c i = false := decide_eq_false z
      have step := ih (i + 1) (by omega) fl (by omega) sp (by rw [fb_ct_succ, h]; exact hs)
      rw [fb_ct_succ, h] at step
      rw [wholeM_f hM (by omega) hn (hG.2.1 i (by omega)).2.2.2.2.2.2.2.2 z, gB1_s, if_pos n00]
      exact step
theorem layM (hM : MR n c kd sz pg) (hG : Good n c) (hN : 100 ≤ N) (od0 sp : Nat → Int32) : ∃ od' sp', x8_laySpots N (nI n) pg od0 sp = some (nI (fb_ct (wh c) n), od', sp') ∧ (∀ k, k < fb_ct (wh c) n → od' k = nI (en (wp n c) 8 k)) ∧ ∀ k, k < fb_ct (wh c) n → sp' k = nI (en (wh c) n k) := by
  have hn := hG.n6
  have h6 : fb_ct (wp n c) 8 ≤ 6 := by
    rw [ct_W hG]
    have := fb_ct_le (wh c) n
    omega
  have loop : ∀ d q, q + d = 8 → ∀ fl, d < fl → ∀ od, (∀ k, k < fb_ct (wp n c) q → od k = nI (en (wp n c) 8 k)) → ∃ od' sp', x8_laySpots_b4 N (nI n) pg fl (nI (fb_ct (wp n c) q)) (nI q) od sp = some (nI (fb_ct (wh c) n), od', sp') ∧ (∀ k, k < fb_ct (wh c) n → od' k = nI (en (wp n c) 8 k)) ∧ ∀ k, k < fb_ct (wh c) n → sp' k = nI (en (wh c) n k) := by
    intro d
    induction d with
    | zero =>
      intro q hq fl hfl od hs
      obtain ⟨fl, rfl⟩ : ∃ x, fl = x + 1 := ⟨fl - 1, by omega⟩
      have e : q = 8 := by omega
      subst e
      rw [x8_laySpots_b4, if_pos (show (8 : Int32) ≤ nI 8 from by decide)]
      obtain ⟨sp', a1, a2⟩ := layM_c (N := N) (od := od) hM hG n 0 (by omega) N (by omega) sp (fun k hk => by cases hk)
      rw [ct_W hG] at hs
      exact ⟨od, sp', a1, hs, a2⟩
    | succ d ih =>
      intro q hq fl hfl od hs
      obtain ⟨fl, rfl⟩ : ∃ x, fl = x + 1 := ⟨fl - 1, by omega⟩
      rw [x8_laySpots_b4, if_neg (show ¬ (8 : Int32) ≤ nI q from nI_ge (a := q) (b := 8) (by omega) (by omega))]
      cases h : wp n c q with
      | false =>
        have step := ih (q + 1) (by omega) fl (by omega) od (by rw [fb_ct_succ, h]; exact hs)
        rw [fb_ct_succ, h] at step
        have no : ∀ j, 0 ≤ j → j < n → ¬ (c j 7 = 0 ∧ c j 0 = q) := fun j _ hj hh => by
          have e := atS_of hG hj (by omega) hh.2
          unfold wp at h
          rw [e] at h
          simp [hh.1] at h
        rw [show x8_laySpots_b12 N (nI n) pg (x8_laySpots_b4 N (nI n) pg fl) N (nI (fb_ct (wp n c) q)) (nI q) 0 od sp = _ from lay_skip (x8_laySpots_b4 N (nI n) pg fl) hM hG (by omega) n 0 (by omega) N (by omega) no]
        exact step
      | true =>
        have hlt := ct_lt (show q < 8 from by omega) h
        have step := ih (q + 1) (by omega) fl (by omega) (upd od (fb_ct (wp n c) q) (nI q)) (fun k hk => by
          rw [fb_ct_succ, if_pos h] at hk
          by_cases e : k = fb_ct (wp n c) q
          · rw [e, pk_us, en_eq (by omega) h]
          · rw [pk_un e]
            exact hs k (by omega))
        rw [fb_ct_succ, if_pos h] at step
        obtain ⟨b, hb, hb7, hb0⟩ : ∃ b, b < n ∧ c b 7 = 0 ∧ c b 0 = q := by
          unfold wp at h
          cases e : atS c q n with
          | none =>
            rw [e] at h
            cases h
          | some b =>
            rw [e] at h
            obtain ⟨q1, -, q3⟩ := atS_some e
            exact ⟨b, q1, of_decide_eq_true h, q3⟩
        rw [show x8_laySpots_b12 N (nI n) pg (x8_laySpots_b4 N (nI n) pg fl) N (nI (fb_ct (wp n c) q)) (nI q) 0 od sp = _ from lay_hit (x8_laySpots_b4 N (nI n) pg fl) hM hG (by omega) hb hb7 hb0 (by omega) n 0 (by omega) N (by omega) (by omega)]
        exact step
  exact loop 8 0 (by omega) N (by omega) od0 (fun k hk => by cases hk)
end GATHER
