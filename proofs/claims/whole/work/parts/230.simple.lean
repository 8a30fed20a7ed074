/-! PURE: what the two states have in common; the simple calls -/
def SH (n : Nat) (c : Nat → Nat → Nat) (w : Int32) (J W : Int32) (f : Nat → Int32) (Jm : Int32) (kd sz pg : Nat → Int32) : Prop := Good n c ∧ XR n c f ∧ J = nI n ∧ W = w ∧ MR n c kd sz pg ∧ Jm = nI n ∧ pg 36 = w
def SN (n : Nat) (kd sz row pgr : Nat → Int32) : Prop := ∃ (c : Nat → Nat → Nat) (w : Int32), Good n c ∧ XR n c row ∧ row 48 = w ∧ MR n c kd sz pgr ∧ pgr 36 = w
def ACT (n : Nat) (kd sz : Nat → Int32) (cnt nxt : Int32) (M : Nat → Nat → Int32) (acts : Int32) (book : Nat → Int32) : Prop := ∃ k x : Nat, k ≤ 14 ∧ x < 14 ∧ cnt = nI k ∧ acts = nI k ∧ nxt = nI x ∧ ∀ i, i < k → SN n kd sz (M ((x + 14 - k + i) % 14)) (fun t => book (37 * i + t))
def SLT (n : Nat) (kd sz : Nat → Int32) (rows : Nat → Nat → Int32) (fil : Nat → Int32) (kept isK : Nat → Int32) : Prop := ∀ i, i < 2 → fil i = isK i ∧ (fil i = nI 0 ∨ (fil i = nI 1 ∧ SN n kd sz (rows i) (fun t => kept (37 * i + t))))
def TXT (len : Int32) (bs : Nat → Int32) (ts : Int32) (tx : Nat → Int32) : Prop := ∃ k : Nat, k ≤ 48 ∧ len = nI k ∧ ts = nI k ∧ ∀ i, i < k → bs i = tx i ∧ ∃ b, b < 256 ∧ tx i = nI b
def TST (cnt : Int32) (wn cm : Nat → Int32) (td : Int32) (fr to : Nat → Int32) : Prop := ∃ k : Nat, k ≤ 6 ∧ cnt = nI k ∧ td = nI k ∧ ∀ i, i < k → wn i = fr i ∧ cm i = to i ∧ ∃ a b, a ≤ 9 ∧ b ≤ 9 ∧ fr i = nI a ∧ to i = nI b
section CMP
theorem cmp_lt (x y : Int64) : (lg_cmp x y < 0) ↔ x < y := by
  unfold lg_cmp
  by_cases h1 : x > y
  · rw [if_pos h1]
    rw [gt_iff_lt, fa_lt64] at h1
    rw [fa_lt64]
    constructor
    · intro h; exact absurd h (by decide)
    · intro h; omega
  · rw [if_neg h1]
    by_cases h2 : x = y
    · rw [if_pos h2, h2, fa_lt64]
      constructor
      · intro h; exact absurd h (by decide)
      · intro h; omega
    · rw [if_neg h2]
      rw [gt_iff_lt, fa_lt64] at h1
      rw [fa_eq64] at h2
      rw [fa_lt64]
      constructor
      · intro _; omega
      · intro _; decide
theorem cmp_gt (x y : Int64) : (0 < lg_cmp x y) ↔ y < x := by
  unfold lg_cmp
  by_cases h1 : x > y
  · rw [if_pos h1]
    exact ⟨fun _ => h1, fun _ => by decide⟩
  · rw [if_neg h1]
    constructor
    · intro h
      split at h
      · exact absurd h (by decide)
      · exact absurd h (by decide)
    · intro h
      exact absurd h h1
theorem inK (lo hi : Int32) {l h : Int64} (e1 : l = lo.toInt64) (e2 : h = hi.toInt64) (x : Int32) : x8_in x.toInt64 l h = some (if x < lo then nI 0 else if hi < x then nI 0 else nI 1) := by
  subst e1
  subst e2
  unfold x8_in
  have a := cmp_lt x.toInt64 lo.toInt64
  rw [fa_wide_lt] at a
  have b := cmp_gt x.toInt64 hi.toInt64
  rw [fa_wide_lt] at b
  by_cases h1 : x < lo
  · rw [if_pos (a.mpr h1), if_pos h1]
    rfl
  · rw [if_neg (fun z => h1 (a.mp z)), if_neg h1]
    by_cases h2 : hi < x
    · rw [if_pos (b.mpr h2), if_pos h2]
      rfl
    · rw [if_neg (fun z => h2 (b.mp z)), if_neg h2]
      rfl
theorem leI (x y : Int32) : x ≤ y ↔ ¬ y < x := by rw [fa_le, fa_lt]; omega
theorem ltI (x y : Int32) : x < y ↔ ¬ y ≤ x := by rw [fa_le, fa_lt]; omega
end CMP
section JAR
variable {n : Nat} {x : Int32}
theorem hasX_f (h : x < 0 ∨ nI n ≤ x) : x2_has (nI n) x = some (nI 0) := by
  unfold x2_has
  by_cases h0 : x < 0
  · rw [if_pos h0]; rfl
  · rw [if_neg h0, if_pos (h.resolve_left h0)]; rfl
theorem noJar_t (hn : n ≤ 6) (h : x < 0 ∨ nI n ≤ x) : x8_noJar (nI n) x = some (nI 1) := by
  unfold x8_noJar
  rw [inK 0 (nI n - 1) (by decide) rfl]
  by_cases h0 : x < 0
  · rw [if_pos h0]; rfl
  · rw [if_neg h0, if_pos]
    · rfl
    · have h1 := h.resolve_left h0
      rw [fa_le, nI_toInt (by omega)] at h1
      rw [fa_lt] at h0 ⊢
      have z : ∀ k : Fin 7, (nI k.val - 1).toInt = (k.val : Int) - 1 := by decide +kernel
      have z2 := z ⟨n, by omega⟩
      simp only at z2
      rw [z2]
      omega
theorem noJar_f (hn : n ≤ 6) {j : Nat} (hj : j < n) : x8_noJar (nI n) (nI j) = some (nI 0) := by
  have z : ∀ a : Fin 7, ∀ b : Fin 6, b.val < a.val → x8_noJar (nI a.val) (nI b.val) = some (nI 0) := by decide +kernel
  exact z ⟨n, by omega⟩ ⟨j, by omega⟩ hj
end JAR
section SIMPLE
variable {N n : Nat} {c : Nat → Nat → Nat} {w J W Jm : Int32} {f kd sz pg : Nat → Int32}
theorem st_write {len ts th : Int32} {bs tx : Nat → Int32} (h : TXT len bs ts tx) (a1 : Int32) : ∃ r l' b' s' t', x7_write len bs a1 = some (r, l', b') ∧ x8_write th ts tx a1 = some (r, 0, s', t') ∧ TXT l' b' s' t' := by
  obtain ⟨k, hk, rfl, rfl, hb⟩ := h
  unfold x7_write x8_write
  rw [inK 0 255 (by decide) (by decide)]
  by_cases h0 : a1 < 0
  · rw [if_pos h0, if_pos h0]
    exact ⟨_, _, _, _, _, rfl, rfl, k, hk, rfl, rfl, hb⟩
  · rw [if_neg h0, if_neg h0]
    by_cases h1 : 255 < a1
    · rw [if_neg (by rw [leI]; exact fun z => z h1), if_pos h1]
      exact ⟨_, _, _, _, _, rfl, rfl, k, hk, rfl, rfl, hb⟩
    · rw [if_pos ((leI _ _).mpr h1), if_neg h1]
      obtain ⟨a, ha, rfl⟩ : ∃ a, a < 256 ∧ a1 = nI a := by
        rcases pk_ix a1 (n := 256) (by omega) with z | z | z
        · exact absurd z h0
        · exfalso
          apply h1
          rw [fa_lt]
          rw [fa_le] at z
          have q : (nI 256).toInt = 256 := by decide
          have q2 : (255 : Int32).toInt = 255 := by decide
          omega
        · exact z
      by_cases h48 : k = 48
      · subst h48
        refine ⟨_, _, _, _, _, rfl, rfl, 48, hk, rfl, rfl, hb⟩
      · have hk2 : k < 48 := by omega
        refine ⟨nI (k + 1), nI (k + 1), upd bs k (nI a), nI (k + 1), upd tx k (nI a), ?_, ?_, k + 1, by omega, rfl, rfl, fun i hi => ?_⟩
        · unfold x5_add x5_length
          simp (disch := omega) only [li, nI_ltI, nI_clamp, gIn_t, gChk_t, nI_add, nI_eq]
          rw [if_pos hk2]
          simp (disch := omega) only [gB3_s, gB1_s, nI_eq]
          rw [if_neg (by omega)]
        · simp (disch := omega) only [li, gB1_s, nI_clamp, gIn_t, gChk_t, nI_add, nI_eq]
          rw [if_neg (by omega), if_neg h48]
        · by_cases e : i = k
          · subst e
            rw [pk_us, pk_us]
            exact ⟨rfl, a, ha, rfl⟩
          · rw [pk_un e, pk_un e]
            exact hb i (by omega)
theorem st_wipe {len ts th : Int32} {bs tx : Nat → Int32} (h : TXT len bs ts tx) : ∃ r l' s', x7_wipe len = some (r, l') ∧ x8_wipe th ts = some (r, 0, s') ∧ TXT l' bs s' tx := by
  obtain ⟨k, hk, rfl, rfl, hb⟩ := h
  exact ⟨_, _, _, rfl, rfl, 0, by omega, rfl, rfl, fun i hi => by omega⟩
theorem figX (x : Int32) : x7_isFigure x = some (if x < 0 then nI 0 else if 9 < x then nI 0 else nI 1) := by
  unfold x7_isFigure
  by_cases h0 : x < 0
  · rw [if_pos h0, if_pos h0]; rfl
  · rw [if_neg h0, if_neg h0]
    by_cases h1 : 9 < x
    · rw [if_pos h1]
      first | rw [if_pos h1] | rw [if_neg (by rw [leI]; exact fun z => z h1)]
      rfl
    · rw [if_neg h1]
      first | rw [if_neg h1] | rw [if_pos ((leI _ _).mpr h1)]
      rfl
theorem fig_of {x : Int32} (h0 : ¬ x < 0) (h1 : ¬ 9 < x) : ∃ a, a ≤ 9 ∧ x = nI a := by
  rcases pk_ix x (n := 10) (by omega) with z | z | ⟨j, hj, e⟩
  · exact absurd z h0
  · exfalso
    apply h1
    rw [fa_lt]
    rw [fa_le] at z
    have q : (nI 10).toInt = 10 := by decide
    have q2 : (9 : Int32).toInt = 9 := by decide
    omega
  · exact ⟨j, by omega, e⟩
theorem st_taste {cnt td th : Int32} {wn cm fr to : Nat → Int32} (h : TST cnt wn cm td fr to) (a1 a2 : Int32) : ∃ r l' b' d' s' t' u', x7_taste cnt wn cm a1 a2 = some (r, l', b', d') ∧ x8_taste th td fr to a1 a2 = some (r, 0, s', t', u') ∧ TST l' b' d' s' t' u' := by
  obtain ⟨k, hk, rfl, rfl, hb⟩ := h
  unfold x7_taste x8_taste
  rw [figX, figX, inK 0 9 (by decide) (by decide), inK 0 9 (by decide) (by decide)]
  by_cases p0 : a1 < 0
  · rw [if_pos p0]
    exact ⟨_, _, _, _, _, _, _, rfl, rfl, k, hk, rfl, rfl, hb⟩
  · rw [if_neg p0]
    by_cases p1 : 9 < a1
    · rw [if_pos p1]
      exact ⟨_, _, _, _, _, _, _, rfl, rfl, k, hk, rfl, rfl, hb⟩
    · rw [if_neg p1]
      by_cases q0 : a2 < 0
      · rw [if_pos q0]
        exact ⟨_, _, _, _, _, _, _, rfl, rfl, k, hk, rfl, rfl, hb⟩
      · rw [if_neg q0]
        by_cases q1 : 9 < a2
        · rw [if_pos q1]
          exact ⟨_, _, _, _, _, _, _, rfl, rfl, k, hk, rfl, rfl, hb⟩
        · rw [if_neg q1]
          obtain ⟨a, ha, rfl⟩ := fig_of p0 p1
          obtain ⟨b, hb2, rfl⟩ := fig_of q0 q1
          by_cases h6 : k = 6
          · subst h6
            exact ⟨_, _, _, _, _, _, _, rfl, rfl, 6, hk, rfl, rfl, hb⟩
          · refine ⟨nI (k + 1), nI (k + 1), upd wn k (nI a), upd cm k (nI b), nI (k + 1), upd fr k (nI a), upd to k (nI b), ?_, ?_, k + 1, by omega, rfl, rfl, fun i hi => ?_⟩
            · unfold x4_add x4_count
              simp (disch := omega) only [li, nI_ltI, nI_clamp, gIn_t, gChk_t, nI_add, nI_eq, gB1_s]
              rw [if_neg (by omega), if_neg (by omega), if_pos (by omega)]
              simp (disch := omega) only [gB4_s, gB1_s, nI_eq]
              rw [if_neg (by omega)]
            · simp (disch := omega) only [li, gB1_s, nI_clamp, gIn_t, gChk_t, nI_add, nI_eq]
              rw [if_neg (by omega), if_neg (by omega), if_neg h6]
            · by_cases e : i = k
              · subst e
                rw [pk_us, pk_us, pk_us, pk_us]
                exact ⟨rfl, rfl, a, b, ha, hb2, rfl, rfl⟩
              · rw [pk_un e, pk_un e, pk_un e, pk_un e]
                exact hb i (by omega)
theorem st_untaste {cnt td th : Int32} {wn cm fr to : Nat → Int32} (h : TST cnt wn cm td fr to) : ∃ r l' s', x7_untaste cnt = some (r, l') ∧ x8_untaste th td = some (r, 0, s') ∧ TST l' wn cm s' fr to := by
  obtain ⟨k, hk, rfl, rfl, hb⟩ := h
  exact ⟨_, _, _, rfl, rfl, 0, by omega, rfl, rfl, fun i hi => by omega⟩
theorem st_seed (x v : Int64) (th : Int32) : ∃ r s', x7_seed x v = some (r, s') ∧ x8_seed th x v = some (r, 0, s') := ⟨_, _, rfl, rfl⟩
theorem st_at (hS : SH n c w J W f Jm kd sz pg) (hN : 100 ≤ N) {th sm : Int32} (a1 : Int32) : ∃ r s', x7_at N J f a1 = some r ∧ x8_at N th Jm sm pg a1 = some (r, 0, s') := by
  obtain ⟨hG, hX, rfl, rfl, hM, rfl, h36⟩ := hS
  have hn := hG.n6
  unfold x7_at x8_at
  rw [inK 0 7 (by decide) (by decide)]
  rcases pk_ix a1 (n := 8) (by omega) with z | z | ⟨q, hq, rfl⟩
  · rw [if_pos z]
    have e : x7_isPlace a1 = some (nI 0) := by
      unfold x7_isPlace
      rw [if_pos z]; rfl
    rw [e]
    exact ⟨_, _, rfl, rfl⟩
  · have z0 : ¬ a1 < 0 := by
      rw [fa_le] at z
      rw [fa_lt]
      have q : (nI 8).toInt = 8 := by decide
      have q2 : (0 : Int32).toInt = 0 := by decide
      omega
    have z7 : 7 < a1 := by
      rw [fa_le] at z
      rw [fa_lt]
      have q : (nI 8).toInt = 8 := by decide
      have q2 : (7 : Int32).toInt = 7 := by decide
      omega
    rw [if_neg z0, if_pos z7]
    have e : x7_isPlace a1 = some (nI 0) := by
      unfold x7_isPlace
      rw [if_neg z0]
      rw [if_pos (show (8 : Int32) ≤ a1 from z)]
      rfl
    rw [e]
    exact ⟨_, _, rfl, rfl⟩
  · rw [isPlace_t hq, jarOnX (hX.congr (fun j hj p hp => (mask_63 hn c j hj p hp).symm)) (hG.mask 63) (by omega) hN]
    have e := jarAtM (N := N) (q := q) (s := 63) hM hG (by omega) (by omega) hN
    rw [if_neg (nI_pos (by omega)), if_neg (show ¬ (7 : Int32) < nI q from nI_nlt (b := q) (a := 7) (by omega) (by omega))]
    refine ⟨oI (atS (maskC 63 c) q n), 63, ?_, ?_⟩
    · rfl
    · simp (disch := omega) only [gB1_s, li, nI_eq]
      rw [if_neg (by omega), e]
      rfl
end SIMPLE
