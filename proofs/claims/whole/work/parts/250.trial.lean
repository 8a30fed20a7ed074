/-! PURE: a trial: later, becomes, fails, stuff -/
section RNG
variable {α : Type} {A B : α} {x lo hi : Int32}
theorem r_bad (z : x < lo ∨ hi < x) : (if x < lo then A else if hi < x then A else B) = A := by
  rcases z with z | z
  · rw [if_pos z]
  · rw [if_pos z, ite_self]
theorem r_bad' (z : x < lo ∨ hi < x) : (if x < lo then A else if x ≤ hi then B else A) = A := by
  rcases z with z | z
  · rw [if_pos z]
  · rw [if_neg (show ¬ x ≤ hi from fun q => (leI _ _).mp q z), ite_self]
theorem r_ok (z1 : ¬ x < lo) (z2 : ¬ hi < x) : (if x < lo then A else if hi < x then A else B) = B := by rw [if_neg z1, if_neg z2]
theorem r_ok' (z1 : ¬ x < lo) (z2 : ¬ hi < x) : (if x < lo then A else if x ≤ hi then B else A) = B := by rw [if_neg z1, if_pos ((leI _ _).mpr z2)]
theorem inC (lo hi : Nat) (h : hi < 1000) (hl : lo < 1000) (x : Int32) : (x < nI lo ∨ nI hi < x) ∨ ∃ q, lo ≤ q ∧ q ≤ hi ∧ x = nI q ∧ ¬ x < nI lo ∧ ¬ nI hi < x := by
  by_cases z1 : x < nI lo
  · exact Or.inl (Or.inl z1)
  · by_cases z2 : nI hi < x
    · exact Or.inl (Or.inr z2)
    · refine Or.inr ⟨x.toNatClampNeg, ?_⟩
      have a := z1
      have b := z2
      rw [fa_lt, nI_toInt (by omega)] at a
      rw [fa_lt, nI_toInt (by omega)] at b
      obtain ⟨q, hq, rfl⟩ : ∃ q, q < 1000 ∧ x = nI q := by
        rcases pk_ix x (n := 1000) (by omega) with z | z | z
        · rw [fa_lt, show (0 : Int32).toInt = 0 from by decide] at z
          omega
        · rw [fa_le, nI_toInt (by omega)] at z
          omega
        · exact z
      rw [nI_toInt (by omega)] at a b
      rw [nI_clamp (by omega)]
      exact ⟨by omega, by omega, rfl, z1, z2⟩
theorem figC (x : Int32) : (x7_isFigure x = some (nI 0) ∧ x8_in x.toInt64 (0 : Int64) (9 : Int64) = some (nI 0)) ∨ ∃ q, q ≤ 9 ∧ x = nI q ∧ x7_isFigure x = some (nI 1) ∧ x8_in x.toInt64 (0 : Int64) (9 : Int64) = some (nI 1) := by
  rcases inC 0 9 (by omega) (by omega) x with z | ⟨q, h1, h2, h3, h4, h5⟩
  · refine Or.inl ⟨?_, in_f 0 9 (by decide) (by decide) z⟩
    rw [figX]
    exact congrArg some (r_bad z)
  · refine Or.inr ⟨q, h2, h3, ?_, in_t 0 9 (by decide) (by decide) h4 h5⟩
    rw [figX]
    exact congrArg some (r_ok h4 h5)
end RNG
section TRIAL
variable {N n : Nat} {c : Nat → Nat → Nat} {w J W Jm : Int32} {f kd sz pg tr : Nat → Int32} {j : Nat}
theorem copyX (hX : XR n c f) (hn : n ≤ 6) (a b : Int32) (d : Nat → Int32) (w : Int32) : ∃ f', x2_copy a b d (nI n) w f = some (nI n, w, f') ∧ XR n c f' := by
  refine ⟨_, rfl, fun j hj p hp => ?_⟩
  rw [pk_cpy_in (by omega) (by omega), ← hX j hj p hp]
  congr 1
  omega
theorem beginM_l {sm : Int32} : ∀ k i, i + k = 37 → ∀ fl, k < fl → ∀ y, (∀ t, t < i → y t = pg t) → ∃ y', x8_begin_b8 N pg fl (nI i) sm y = some (sm, y') ∧ ∀ t, t < 37 → y' t = pg t := by
  intro k
  induction k with
  | zero =>
    intro i hi fl hfl y hy
    obtain ⟨fl, rfl⟩ : ∃ m, fl = m + 1 := ⟨fl - 1, by omega⟩
    have e : i = 37 := by omega
    subst e
    refine ⟨y, ?_, hy⟩
    rw [x8_begin_b8, if_pos (show (37 : Int32) ≤ nI 37 from nI_le (Nat.le_refl 37) (by omega))]
  | succ k ih =>
    intro i hi fl hfl y hy
    obtain ⟨fl, rfl⟩ : ∃ m, fl = m + 1 := ⟨fl - 1, by omega⟩
    obtain ⟨y', a1, a2⟩ := ih (i + 1) (by omega) fl (by omega) (upd y i (pg i)) (fun t ht => by
      by_cases e : t = i
      · rw [e]; exact pk_us
      · rw [pk_un (by omega)]
        exact hy t (by omega))
    refine ⟨y', ?_, a2⟩
    rw [x8_begin_b8, if_neg (show ¬ (37 : Int32) ≤ nI i from nI_ge (a := i) (b := 37) (by omega) (by omega))]
    simp (disch := omega) only [li, nI_add, nI_clamp, gIn_t, gChk_t]
    exact a1
theorem beginM (hM : MR n c kd sz pg) (hn : n ≤ 6) (hN : 100 ≤ N) (sm : Int32) (tr : Nat → Int32) : ∃ tr', x8_begin N sm pg tr = some (nI 63, tr') ∧ MR n c kd sz tr' ∧ tr' 36 = pg 36 := by
  obtain ⟨y', a1, a2⟩ := beginM_l (N := N) (pg := pg) (sm := nI 63) 37 0 (by omega) N (by omega) tr (fun t ht => by omega)
  refine ⟨y', a1, fun j hj => ?_, a2 36 (by omega)⟩
  rw [a2 j (by omega), a2 (6 + j) (by omega), a2 (12 + j) (by omega), a2 (18 + j) (by omega), a2 (24 + j) (by omega), a2 (30 + j) (by omega)]
  exact hM j hj
/-- m weeks -/
def wkW : Nat → Int32 → Int32
  | 0, w => w
  | m + 1, w => wkW m (w + nI 1)
def wkC : Nat → Int32 → (Nat → Nat → Nat) → (Nat → Nat → Nat)
  | 0, _, c => c
  | m + 1, w, c => wkC m (w + nI 1) (weekC (evn w) c)
theorem Good.wk : ∀ (m : Nat) (w : Int32) {c : Nat → Nat → Nat}, Good n c → Good n (wkC m w c)
  | 0, _, _, h => h
  | m + 1, w, _, h => Good.wk m (w + nI 1) (h.week (ev := evn w))
theorem weeksX {m : Nat} (hm : m < 1000) (hN : 100 ≤ N) : ∀ k i, i + k = m → ∀ fl, k < fl → ∀ c w y, XR n c y → Good n c → ∃ y', x2_passWeeks_b2 N (nI n) (nI m) fl (nI i) w y = some (wkW k w, y') ∧ XR n (wkC k w c) y' := by
  intro k
  induction k with
  | zero =>
    intro i hi fl hfl c w y hX hG
    obtain ⟨fl, rfl⟩ : ∃ m, fl = m + 1 := ⟨fl - 1, by omega⟩
    have e : i = m := by omega
    subst e
    refine ⟨y, ?_, hX⟩
    rw [x2_passWeeks_b2, if_pos (nI_le (Nat.le_refl _) (by omega))]
    rfl
  | succ k ih =>
    intro i hi fl hfl c w y hX hG
    obtain ⟨fl, rfl⟩ : ∃ m, fl = m + 1 := ⟨fl - 1, by omega⟩
    obtain ⟨y1, a1, a2⟩ := weekX (N := N) hX hG hN w
    obtain ⟨y', b1, b2⟩ := ih (i + 1) (by omega) fl (by omega) _ (w + nI 1) y1 a2 (hG.week (ev := evn w))
    refine ⟨y', ?_, b2⟩
    rw [x2_passWeeks_b2, if_neg (nI_ge (by omega) (by omega)), a1, gB2_s, show nI i + (1 : Int32) = nI (i + 1) from nI_1 i]
    exact b1
theorem weeksM {m : Nat} (hm : m < 1000) (hN : 100 ≤ N) : ∀ k i, i + k = m → ∀ fl, k < fl → ∀ c w y, MR n c kd sz y → Good n c → y 36 = w → ∃ y', x8_goWeeks_b2 N (nI n) kd (nI m) fl (nI i) y = some y' ∧ MR n (wkC k w c) kd sz y' ∧ y' 36 = wkW k w := by
  intro k
  induction k with
  | zero =>
    intro i hi fl hfl c w y hX hG hw
    obtain ⟨fl, rfl⟩ : ∃ m, fl = m + 1 := ⟨fl - 1, by omega⟩
    have e : i = m := by omega
    subst e
    refine ⟨y, ?_, hX, hw⟩
    rw [x8_goWeeks_b2, if_pos (nI_le (Nat.le_refl _) (by omega))]
  | succ k ih =>
    intro i hi fl hfl c w y hX hG hw
    obtain ⟨fl, rfl⟩ : ∃ m, fl = m + 1 := ⟨fl - 1, by omega⟩
    obtain ⟨y1, a1, a2, a3⟩ := weekM (N := N) hX hG hN hw
    obtain ⟨y', b1, b2, b3⟩ := ih (i + 1) (by omega) fl (by omega) _ (w + nI 1) y1 a2 (hG.week (ev := evn w)) a3
    refine ⟨y', ?_, b2, b3⟩
    rw [x8_goWeeks_b2, if_neg (nI_ge (by omega) (by omega)), a1, gB1_s, show nI i + (1 : Int32) = nI (i + 1) from nI_1 i]
    exact b1
theorem st_later (hS : SH n c w J W f Jm kd sz pg) {th sm tJ tW : Int32} {tf : Nat → Int32} (hN : 2000 ≤ N) (a1 a2 a3 : Int32) : ∃ r tJ' tW' tf' s' tr', x7_later N J W f tJ tW tf a1 a2 a3 = some (r, tJ', tW', tf') ∧ x8_later N th Jm sm kd pg tr a1 a2 a3 = some (r, 0, s', tr') := by
  obtain ⟨hG, hX, rfl, rfl, hM, rfl, h36⟩ := hS
  have hn := hG.n6
  unfold x7_later x8_later
  rcases jarC hn a1 with ⟨q1, q2⟩ | ⟨j, hj, rfl, q1, q2⟩
  · rw [q1, q2]
    exact ⟨_, _, _, _, _, _, rfl, rfl⟩
  · rw [q1, q2, gB1_s, gB1_s, if_neg n10, if_pos n00]
    rcases inC 0 20 (by omega) (by omega) a2 with z | ⟨m, -, hm, rfl, g1, g2⟩
    · rw [r_bad (lo := (0 : Int32)) (hi := (20 : Int32)) z, in_f 0 20 (by decide) (by decide) z]
      exact ⟨_, _, _, _, _, _, rfl, rfl⟩
    · rw [r_ok (lo := (0 : Int32)) (hi := (20 : Int32)) g1 g2, in_t 0 20 (by decide) (by decide) g1 g2, gB1_s, if_neg n10]
      rcases inC 0 1 (by omega) (by omega) a3 with z | ⟨u, -, hu, rfl, g3, g4⟩
      · rw [r_bad' (lo := (0 : Int32)) (hi := (1 : Int32)) z, in_f 0 1 (by decide) (by decide) z]
        exact ⟨_, _, _, _, _, _, rfl, rfl⟩
      · rw [r_ok' (lo := (0 : Int32)) (hi := (1 : Int32)) g3 g4, in_t 0 1 (by decide) (by decide) g3 g4, gB1_s, if_neg n10]
        obtain ⟨f1, x1, x2⟩ := copyX hX hn tJ tW tf W
        obtain ⟨t1, y1, y2, y3⟩ := beginM (N := N) hM hn (by omega) sm tr
        obtain ⟨f2, x3, x4⟩ := weeksX (N := N) (m := m) (by omega) (by omega) m 0 (by omega) N (by omega) c W f1 x2 hG
        obtain ⟨t2, y4, y5, y6⟩ := weeksM (N := N) (m := m) (by omega) (by omega) m 0 (by omega) N (by omega) c W t1 y2 hG (y3.trans h36)
        have hG2 : Good n (wkC m W c) := Good.wk m W hG
        unfold x2_passWeeks x8_goWeeks
        rw [x1, y1, gB3_s, gB2_s, show x2_passWeeks_b2 N (nI n) (nI m) N 0 W f1 = _ from x3, show x8_goWeeks_b2 N (nI n) kd (nI m) N 0 t1 = _ from y4, gB2_s, gB1_s]
        by_cases h : u = 0
        · rw [h, if_pos n00, if_pos n00]
          refine ⟨nI (wkC m W c j 1), nI n, wkW m W, f2, nI 63, t2, ?_, ?_⟩
          · simp (disch := omega) only [li, partX x4, gB1_s]
          · simp (disch := omega) only [li, nI_add, gIn_t, gChk_t, nI_clamp, y5.p1]
        · have e : u = 1 := by omega
          rw [e, if_neg n10, if_neg n10, seesX (x4.m63 hn) (hG2.mask 63) hj (by omega), seesM y5 hG2 hj (by omega) (by omega), gB1_s, gB1_s]
          exact ⟨_, _, _, _, _, _, rfl, rfl⟩
end TRIAL
