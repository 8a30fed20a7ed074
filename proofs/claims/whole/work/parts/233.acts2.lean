/-! PURE: set, pour, open, undo, keep, again -/
section ACTS2
variable {N n : Nat} {c : Nat → Nat → Nat} {w J W Jm : Int32} {f kd sz pg : Nat → Int32} {j : Nat}
theorem setC_ne {p v i q : Nat} (h : ¬ (i = j ∧ q = p)) : setC c j p v i q = c i q := if_neg h
theorem setC_eq {p v : Nat} : setC c j p v j p = v := if_pos ⟨rfl, rfl⟩
theorem Good.set0 (hG : Good n c) {q : Nat} (hq : q < 8) (h : ∀ i, i < n → ¬ (¬ c i 7 = 2 ∧ c i 0 = q)) : Good n (setC c j 0 q) := by
  refine ⟨hG.1, fun i hi => ?_, fun a b ha hb p r e => ?_⟩
  · obtain ⟨g0, g1, g2, g3, g4, g4', g5, g6, g7⟩ := hG.2.1 i hi
    rw [setC_ne (q := 1) (by omega), setC_ne (q := 2) (by omega), setC_ne (q := 3) (by omega), setC_ne (q := 4) (by omega), setC_ne (q := 5) (by omega), setC_ne (q := 6) (by omega), setC_ne (q := 7) (by omega)]
    refine ⟨?_, g1, g2, g3, g4, g4', g5, g6, g7⟩
    unfold setC
    split <;> omega
  · rw [setC_ne (q := 7) (by omega)] at p r
    by_cases ea : a = j
    · by_cases eb : b = j
      · rw [ea, eb]
      · rw [ea, setC_eq, setC_ne (fun z => eb z.1)] at e
        exact absurd ⟨r, e.symm⟩ (h b hb)
    · by_cases eb : b = j
      · rw [eb, setC_eq, setC_ne (fun z => ea z.1)] at e
        exact absurd ⟨p, e⟩ (h a ha)
      · rw [setC_ne (fun z => ea z.1), setC_ne (fun z => eb z.1)] at e
        exact hG.2.2 a b ha hb p r e
theorem Good.put (hG : Good n c) {p v : Nat} (h : (p = 1 ∧ v ≤ 9) ∨ (p = 2 ∧ v ≤ 3) ∨ (p = 5 ∧ v ≤ 9) ∨ (p = 6 ∧ v ≤ 3) ∨ (p = 7 ∧ v = 2)) : Good n (setC c j p v) := by
  refine ⟨hG.1, fun i hi => ?_, fun a b ha hb x y e => ?_⟩
  · obtain ⟨g0, g1, g2, g3, g4, g4', g5, g6, g7⟩ := hG.2.1 i hi
    unfold setC
    refine ⟨?_, ?_, ?_, ?_, ?_, ?_, ?_, ?_, ?_⟩ <;> split <;> omega
  · rw [setC_ne (q := 0) (by omega), setC_ne (q := 0) (by omega)] at e
    have k : ∀ i, ¬ setC c j p v i 7 = 2 → ¬ c i 7 = 2 := fun i z => by
      by_cases q : i = j ∧ 7 = p
      · exfalso
        apply z
        unfold setC
        rw [if_pos q]
        omega
      · rwa [setC_ne q] at z
    exact hG.2.2 a b ha hb (k a x) (k b y) e
theorem isPlace_f {x : Int32} (h : x < 0 ∨ nI 8 ≤ x) : x7_isPlace x = some (nI 0) ∧ x8_in x.toInt64 (0 : Int64) (7 : Int64) = some (nI 0) := by
  rw [inK 0 7 (by decide) (by decide)]
  unfold x7_isPlace
  by_cases h0 : x < 0
  · rw [if_pos h0, if_pos h0]
    exact ⟨rfl, rfl⟩
  · have h1 := h.resolve_left h0
    have h7 : 7 < x := by
      rw [fa_le] at h1
      rw [fa_lt]
      have q : (nI 8).toInt = 8 := by decide
      have q2 : (7 : Int32).toInt = 7 := by decide
      omega
    rw [if_neg h0, if_neg h0, if_pos (show (8 : Int32) ≤ x from h1), if_pos h7]
    exact ⟨rfl, rfl⟩
theorem isStuff_t {q : Nat} (h : q < 4) : x7_isStuff (nI q) = some (nI 1) ∧ x8_in (nI q).toInt64 (0 : Int64) (3 : Int64) = some (nI 1) := by
  have z : ∀ a : Fin 4, x7_isStuff (nI a.val) = some (nI 1) ∧ x8_in (nI a.val).toInt64 (0 : Int64) (3 : Int64) = some (nI 1) := by decide +kernel
  exact z ⟨q, h⟩
theorem isStuff_f {x : Int32} (h : x < 0 ∨ nI 4 ≤ x) : x7_isStuff x = some (nI 0) ∧ x8_in x.toInt64 (0 : Int64) (3 : Int64) = some (nI 0) := by
  rw [inK 0 3 (by decide) (by decide)]
  unfold x7_isStuff
  by_cases h0 : x < 0
  · rw [if_pos h0, if_pos h0]
    exact ⟨rfl, rfl⟩
  · have h1 := h.resolve_left h0
    have h7 : 3 < x := by
      rw [fa_le] at h1
      rw [fa_lt]
      have q : (nI 4).toInt = 4 := by decide
      have q2 : (3 : Int32).toInt = 3 := by decide
      omega
    rw [if_neg h0, if_neg h0, if_pos (show (4 : Int32) ≤ x from h1), if_pos h7]
    exact ⟨rfl, rfl⟩
/-- may j be set at q; may it be poured u -/
def canS (n : Nat) (c : Nat → Nat → Nat) (j q : Nat) : Bool := decide (c j 7 = 0) && decide (atS (maskC 63 c) q n = none)
def canP (c : Nat → Nat → Nat) (j u : Nat) : Bool := decide (c j 7 = 0) && decide (¬ c j 2 = u)
theorem canSX (hX : XR n c f) (hG : Good n c) (hj : j < n) {q : Nat} (hq : q < 8) (hN : 100 ≤ N) : x2_canStand N (nI n) f (nI j) (nI q) = some (if canS n c j q = true then nI 1 else nI 0) := by
  have hn := hG.n6
  have g7 := (hG.2.1 j hj).2.2.2.2.2.2.2.2
  unfold x2_canStand canS
  by_cases h : c j 7 = 0
  · rw [wholeX_t hX hj hn h, isPlace_t hq, jarOnX (hX.m63 hn) (hG.mask 63) (by omega) hN]
    simp only [gB1_s, li, h, decide_true, Bool.true_and, decide_eq_true_eq]
    rw [if_neg (show ¬ nI 1 = nI 0 from by decide), if_neg (show ¬ nI 1 = nI 0 from by decide)]
    cases e : atS (maskC 63 c) q n with
    | none => rfl
    | some o =>
      obtain ⟨ho, -⟩ := atS_some e
      simp only [oI_some]
      rw [if_neg (ne9 (by omega)), if_neg (by intro z; cases z)]
  · rw [wholeX_f hX hj hn g7 h]
    simp only [gB1_s, li, h, decide_false, Bool.false_and, if_true]
    rfl
theorem canSM (hM : MR n c kd sz pg) (hG : Good n c) (hj : j < n) {q : Nat} (hq : q < 8) (hN : 100 ≤ N) : x8_canSet N (nI n) (nI 63) pg (nI j) (nI q) = some (if canS n c j q = true then nI 1 else nI 0) := by
  have hn := hG.n6
  have g7 := (hG.2.1 j hj).2.2.2.2.2.2.2.2
  unfold x8_canSet canS
  by_cases h : c j 7 = 0
  · rw [wholeM_t hM hj hn h, jarAtM (s := 63) hM hG (by omega) (by omega) hN]
    simp only [gB1_s, li, h, decide_true, Bool.true_and, decide_eq_true_eq]
    rw [if_neg (show ¬ nI 1 = nI 0 from by decide)]
    cases e : atS (maskC 63 c) q n with
    | none => rfl
    | some o =>
      obtain ⟨ho, -⟩ := atS_some e
      simp only [oI_some]
      rw [if_neg (ne9 (by omega)), if_neg (by intro z; cases z)]
  · rw [wholeM_f hM hj hn g7 h]
    simp only [gB1_s, li, h, decide_false, Bool.false_and, if_true]
    rfl
theorem canPX (hX : XR n c f) (hG : Good n c) (hj : j < n) {u : Nat} (hu : u < 4) : x2_canFill (nI n) f (nI j) (nI u) = some (if canP c j u = true then nI 1 else nI 0) := by
  have hn := hG.n6
  obtain ⟨g0, g1, g2, g3, g4, g4', g5, g6, g7⟩ := hG.2.1 j hj
  unfold x2_canFill canP
  by_cases h : c j 7 = 0
  · rw [wholeX_t hX hj hn h, (isStuff_t hu).1]
    simp (disch := omega) only [gB1_s, li, h, decide_true, Bool.true_and, decide_eq_true_eq, partX hX, nI_eq]
    rw [if_neg (by omega), if_neg (by omega)]
    by_cases e : c j 2 = u
    · simp [e]
    · simp [e]
  · rw [wholeX_f hX hj hn g7 h]
    simp only [gB1_s, li, h, decide_false, Bool.false_and, if_true]
    rfl
theorem canPM (hM : MR n c kd sz pg) (hG : Good n c) (hj : j < n) {u : Nat} (hu : u < 4) : x8_canPour pg (nI j) (nI u) = some (if canP c j u = true then nI 1 else nI 0) := by
  have hn := hG.n6
  obtain ⟨g0, g1, g2, g3, g4, g4', g5, g6, g7⟩ := hG.2.1 j hj
  unfold x8_canPour canP
  by_cases h : c j 7 = 0
  · rw [wholeM_t hM hj hn h]
    simp (disch := omega) only [gB1_s, li, h, decide_true, Bool.true_and, decide_eq_true_eq, nI_eq, nI_add, nI_clamp, gIn_t, gChk_t, hM.p2]
    rw [if_neg (by omega)]
    by_cases e : c j 2 = u
    · simp [e]
    · simp [e]
  · rw [wholeM_f hM hj hn g7 h]
    simp only [gB1_s, li, h, decide_false, Bool.false_and, if_true]
    rfl
abbrev pourC (c : Nat → Nat → Nat) (j u : Nat) : Nat → Nat → Nat := setC (setC c j 2 u) j 5 0
theorem fillX2 (hX : XR n c f) (hn : n ≤ 6) (hj : j < n) (u : Nat) : ∃ f', x2_fill f (nI j) (nI u) = some f' ∧ XR n (pourC c j u) f' := by
  refine ⟨upd (upd f (8 * j + 2) (nI u)) (8 * j + 5) (nI 0), ?_, (hX.put hj (by omega)).put hj (by omega)⟩
  unfold x2_fill
  simp (disch := omega) only [li, put_eq, gB1_s]
theorem pourM2 (hM : MR n c kd sz pg) (hn : n ≤ 6) (hj : j < n) (u : Nat) : ∃ pg', x8_goPour pg (nI j) (nI u) = some pg' ∧ MR n (pourC c j u) kd sz pg' ∧ pg' 36 = pg 36 := by
  refine ⟨upd (upd pg (12 + j) (nI u)) (18 + j) (nI 0), ?_, (hM.put hn hj 2 12 (by omega)).put hn hj 5 18 (by omega), ?_⟩
  · unfold x8_goPour
    simp (disch := omega) only [li, nI_add, nI_clamp, gIn_t, gChk_t]
  · simp (disch := omega) only [pk_un]
theorem Good.pour (hG : Good n c) {u : Nat} (hu : u < 4) : Good n (pourC c j u) := (hG.put (by omega)).put (by omega)
theorem canS_no (hn : n ≤ 6) {q : Nat} (h : canS n c j q = true) : ∀ i, i < n → ¬ (¬ c i 7 = 2 ∧ c i 0 = q) := by
  unfold canS at h
  simp only [Bool.and_eq_true, decide_eq_true_eq] at h
  intro i hi
  have z := atS_none h.2 i hi
  rw [mask_63 hn c i hi 7 (by omega), mask_63 hn c i hi 0 (by omega)] at z
  exact z
theorem st_set (hS : SH n c w J W f Jm kd sz pg) {cnt nxt acts th sm : Int32} {M : Nat → Nat → Int32} {book : Nat → Int32} (hA : ACT n kd sz cnt nxt M acts book) (hN : 2000 ≤ N) (a1 a2 : Int32) : ∃ r f' cnt' nxt' M' acts' s' pg' book' c', x7_set N J W f cnt nxt M a1 a2 = some (r, f', cnt', nxt', M') ∧ x8_set N th Jm acts sm pg book a1 a2 = some (r, 0, acts', s', pg', book') ∧ SH n c' w J W f' Jm kd sz pg' ∧ ACT n kd sz cnt' nxt' M' acts' book' := by
  obtain ⟨cnt', nxt', M', acts', book', m1, m2, m3⟩ := act_note (N := N) hS hA hN
  have hS0 := hS
  obtain ⟨hG, hX, rfl, rfl, hM, rfl, h36⟩ := hS
  have hn := hG.n6
  unfold x7_set x8_set
  have bad : (a1 < 0 ∨ nI n ≤ a1) → _ := fun h => (⟨hasX_f (n := n) h, noJar_t hn h⟩ : x2_has (nI n) a1 = some (nI 0) ∧ x8_noJar (nI n) a1 = some (nI 1))
  have bad2 : (a1 < 0 ∨ nI n ≤ a1) → ∃ r f' cnt' nxt' M' acts' s' pg' book' c', gB1 (x2_has (nI n) a1) (fun r1 => (if r1 = (0 : Int32) then some ((-1 : Int32), f, cnt, nxt, M) else gB1 (x7_isPlace a2) (fun r4 => (if r4 = (0 : Int32) then some ((-1 : Int32), f, cnt, nxt, M) else gB1 (x2_canStand N (nI n) f a1 a2) (fun r7 => (if r7 = (0 : Int32) then some ((-3 : Int32), f, cnt, nxt, M) else gB3 (x0_remember cnt nxt M W f) (fun y10 y11 y12 => gB1 (x2_part f a1 (0 : Int32)) (fun r14 => gB1 (x2_stand f a1 a2) (fun y16 => some (r14, y16, y10, y11, y12)))))))))) = some (r, f', cnt', nxt', M') ∧ gB1 (x8_noJar (nI n) a1) (fun r1 => (if r1 = (0 : Int32) then gB1 (x8_in a2.toInt64 (0 : Int64) (7 : Int64)) (fun r4 => (if r4 = (0 : Int32) then some ((-1 : Int32), (0 : Int32), acts, (63 : Int32), pg, book) else gB1 (x8_canSet N (nI n) (63 : Int32) pg a1 a2) (fun r7 => (if r7 = (0 : Int32) then some ((-3 : Int32), (0 : Int32), acts, (63 : Int32), pg, book) else gB2 (x8_note N acts pg book) (fun y10 y11 => gChk (gIn a1 37) (gChk (gIn a1 37) (some ((pg a1.toNatClampNeg), (0 : Int32), y10, (63 : Int32), (upd pg a1.toNatClampNeg a2), y11)))))))) else some ((-1 : Int32), (0 : Int32), acts, (63 : Int32), pg, book))) = some (r, 0, acts', s', pg', book') ∧ SH n c' W (nI n) W f' (nI n) kd sz pg' ∧ ACT n kd sz cnt' nxt' M' acts' book' := fun h => by
    rw [hasX_f h, noJar_t hn h]
    exact ⟨_, _, _, _, _, _, _, _, _, c, rfl, rfl, hS0, hA⟩
  rcases pk_ix a1 (n := n) (by omega) with z | z | ⟨j, hj, rfl⟩
  · exact bad2 (Or.inl z)
  · exact bad2 (Or.inr z)
  · clear bad2 bad
    rw [hasX hj hn, noJar_f hn hj, gB1_s, gB1_s, if_neg (show ¬ nI 1 = (0 : Int32) from by decide), if_pos (show nI 0 = (0 : Int32) from rfl)]
    rcases pk_ix a2 (n := 8) (by omega) with z | z | ⟨q, hq, rfl⟩
    · obtain ⟨p1, p2⟩ := isPlace_f (Or.inl z)
      rw [p1, p2]
      exact ⟨_, _, _, _, _, _, _, _, _, c, rfl, rfl, hS0, hA⟩
    · obtain ⟨p1, p2⟩ := isPlace_f (Or.inr z)
      rw [p1, p2]
      exact ⟨_, _, _, _, _, _, _, _, _, c, rfl, rfl, hS0, hA⟩
    · have q2 := canSM (N := N) hM hG hj hq (by omega)
      rw [isPlace_t hq, in07_t hq, gB1_s, gB1_s, if_neg (show ¬ nI 1 = (0 : Int32) from by decide), if_neg (show ¬ nI 1 = (0 : Int32) from by decide), canSX hX hG hj hq (by omega), show x8_canSet N (nI n) 63 pg (nI j) (nI q) = some (if canS n c j q = true then nI 1 else nI 0) from q2]
      by_cases h : canS n c j q = true
      · rw [if_pos h, gB1_s, gB1_s, if_neg (show ¬ nI 1 = (0 : Int32) from by decide), if_neg (show ¬ nI 1 = (0 : Int32) from by decide), m1, m2]
        refine ⟨nI (c j 0), upd f (8 * j + 0) (nI q), cnt', nxt', M', acts', 63, upd pg (0 + j) (nI q), book', setC c j 0 q, ?_, ?_, ⟨hG.set0 hq (canS_no hn h), hX.put hj (by omega), rfl, rfl, hM.put hn hj 0 0 (by omega), rfl, ?_⟩, m3⟩
        · unfold x2_stand
          simp (disch := omega) only [li, gB3_s, gB1_s, partX hX, put_eq]
        · simp (disch := omega) only [gB2_s, gIn_t, gChk_t, nI_clamp, hM.p0, Nat.zero_add]
        · rw [pk_un (by omega), h36]
      · rw [if_neg h]
        exact ⟨_, _, _, _, _, _, _, _, _, c, rfl, rfl, hS0, hA⟩
end ACTS2
