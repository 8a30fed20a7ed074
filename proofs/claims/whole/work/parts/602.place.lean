/-! PURE: how many may pair; jars set on the spots -/
section PLACE
variable {N n : Nat} {c : Nat → Nat → Nat} {f kd sz pg : Nat → Int32}
def lkp (c : Nat → Nat → Nat) (look : Nat) (j : Nat) : Bool := wh c j && decide (c j 6 = look)
theorem lookCX {look : Nat} (hX : XR n c f) (hG : Good n c) (hl : look < 4) (hN : 100 ≤ N) : x2_countLooking N (nI n) f (nI look) = some (nI (fb_ct (lkp c look) n)) := by
  have hn := hG.n6
  have loop : ∀ d i, i + d = n → ∀ fl, d < fl → x2_countLooking_b4 N (nI n) f (nI look) fl (nI (fb_ct (lkp c look) i)) (nI i) = some (nI (fb_ct (lkp c look) n)) := by
    intro d
    induction d with
    | zero =>
      intro i hi fl hfl
      obtain ⟨fl, rfl⟩ : ∃ x, fl = x + 1 := ⟨fl - 1, by omega⟩
      have e : i = n := by omega
      subst e
      rw [x2_countLooking_b4, if_pos (nI_le (Nat.le_refl _) (by omega))]
    | succ d ih =>
      intro i hi fl hfl
      obtain ⟨fl, rfl⟩ : ∃ x, fl = x + 1 := ⟨fl - 1, by omega⟩
      obtain ⟨g0, g1, g2, g3, g4, g4', g5, g6, g7⟩ := hG.2.1 i (by omega)
      have step := ih (i + 1) (by omega) fl (by omega)
      rw [fb_ct_succ] at step
      rw [x2_countLooking_b4, if_neg (nI_ge (by omega) (by omega))]
      unfold x2_countLooking_b36 x2_countLooking_b37
      rw [show nI i + (1 : Int32) = nI (i + 1) from nI_1 i]
      by_cases z : c i 7 = 0
      · rw [wholeX_t hX (by omega) hn z, gB1_s, if_neg n10, show x2_part f (nI i) (6 : Int32) = some (nI (c i 6)) from partX (p := 6) hX (by omega) hn (by omega), gB1_s]
        by_cases z2 : c i 6 = look
        · have h : lkp c look i = true := by unfold lkp wh; rw [decide_eq_true z, decide_eq_true z2]; rfl
          rw [if_pos h] at step
          rw [if_pos (eqn look z2), show nI (fb_ct (lkp c look) i) + (1 : Int32) = nI (fb_ct (lkp c look) i + 1) from nI_1 _]
          exact step
        · have h : lkp c look i = false := by unfold lkp; rw [decide_eq_false z2, Bool.and_false]
          rw [h] at step
          rw [if_neg (nq look (by omega) (by omega) z2), show nI (fb_ct (lkp c look) i) + (0 : Int32) = nI (fb_ct (lkp c look) i + 0) from nI_add _ 0]
          exact step
      · have h : lkp c look i = false := by unfold lkp wh; rw [decide_eq_false z, Bool.false_and]
        rw [h] at step
        rw [wholeX_f hX (by omega) hn g7 z, gB1_s, if_pos n00, show nI (fb_ct (lkp c look) i) + (0 : Int32) = nI (fb_ct (lkp c look) i + 0) from nI_add _ 0]
        exact step
  exact loop n 0 (by omega) N (by omega)
theorem mtl_look (hG : Good n c) {i k : Nat} (hi : i < n) (hk : k < n) (h : mtl n c i k = true) (hp : c k 0 < c i 0) : lkp c 0 i = true ∧ lkp c 2 k = true := by
  obtain ⟨h1, h2⟩ := mtl_iff.mp h
  obtain ⟨-, -, a3, a4⟩ := sees_lt hG hi h1
  obtain ⟨-, -, b3, b4⟩ := sees_lt hG hk h2
  have l1 := near_ne hG hi a4
  have l2 := near_ne hG hk b4
  unfold lkp wh
  rw [decide_eq_true a3, decide_eq_true b3, decide_eq_true (show c i 6 = 0 from by omega), decide_eq_true (show c k 6 = 2 from by omega)]
  exact ⟨rfl, rfl⟩
theorem one_le {n k0 : Nat} {g : Nat → Nat} (h : ∀ k, k < n → g k ≤ if k = k0 then 1 else 0) : fb_sm g n ≤ 1 := by
  refine Nat.le_trans (fb_sm_le h) ?_
  by_cases hk : k0 < n
  · rw [sm_one hk]
    exact Nat.le_refl 1
  · have e : fb_sm (fun k => if k = k0 then 1 else 0) n = fb_sm (fun _ => 0) n := fb_sm_cong (fun k hk2 => if_neg (by omega))
    rw [e, sm_none]
    exact Nat.zero_le 1
theorem zero_le' {n : Nat} {g : Nat → Nat} (h : ∀ k, k < n → g k = 0) : fb_sm g n = 0 := by
  rw [fb_sm_cong (g := fun _ => 0) h, sm_none]
theorem pm_le (hG : Good n c) : pmS n c n ≤ fb_ct (lkp c 0) n ∧ pmS n c n ≤ fb_ct (lkp c 2) n := by
  have e := pc_2 hG
  rw [pairs_eq hG] at e
  rw [e]
  unfold pr2
  refine ⟨?_, ?_⟩
  · rw [ct_sm]
    refine fb_sm_le (fun i hi => ?_)
    by_cases h : lkp c 0 i = true
    · rw [if_pos h]
      cases e : seesS n c i with
      | none =>
        rw [zero_le' (fun k hk => if_neg (fun z => by
          rw [Bool.and_eq_true] at z
          have := (mtl_iff.mp z.1).1
          rw [e] at this
          cases this))]
        exact Nat.zero_le 1
      | some k0 =>
        refine one_le (k0 := k0) (fun k hk => ?_)
        by_cases q : k = k0
        · rw [if_pos q]
          split <;> omega
        · rw [if_neg q, if_neg (fun z => by
            rw [Bool.and_eq_true] at z
            have := (mtl_iff.mp z.1).1
            rw [e] at this
            injection this with this
            exact q this.symm)]
          exact Nat.le_refl 0
    · rw [if_neg h, zero_le' (fun k hk => if_neg (fun z => by
        rw [Bool.and_eq_true] at z
        exact h (mtl_look hG hi hk z.1 (of_decide_eq_true z.2)).1))]
      exact Nat.le_refl 0
  · rw [ct_sm, sm_swap]
    refine fb_sm_le (fun k hk => ?_)
    by_cases h : lkp c 2 k = true
    · rw [if_pos h]
      cases e : seesS n c k with
      | none =>
        rw [zero_le' (fun i hi => if_neg (fun z => by
          rw [Bool.and_eq_true] at z
          have := (mtl_iff.mp z.1).2
          rw [e] at this
          cases this))]
        exact Nat.zero_le 1
      | some i0 =>
        refine one_le (k0 := i0) (fun i hi => ?_)
        by_cases q : i = i0
        · rw [if_pos q]
          split <;> omega
        · rw [if_neg q, if_neg (fun z => by
            rw [Bool.and_eq_true] at z
            have := (mtl_iff.mp z.1).2
            rw [e] at this
            injection this with this
            exact q this.symm)]
          exact Nat.le_refl 0
    · rw [if_neg h, zero_le' (fun i hi => if_neg (fun z => by
        rw [Bool.and_eq_true] at z
        exact h (mtl_look hG hi hk z.1 (of_decide_eq_true z.2)).2))]
      exact Nat.le_refl 0
/-- the whole jars set on the spots that g names, one after another -/
def pI (i : Nat) (g : Nat → Nat) (c0 c : Nat → Nat → Nat) : Nat → Nat → Nat := fun j p => if p = 0 ∧ wh c0 j = true ∧ fb_ct (wh c0) j < i then g (fb_ct (wh c0) j) else c j p
def pC (g : Nat → Nat) (c : Nat → Nat → Nat) : Nat → Nat → Nat := fun j p => if p = 0 ∧ wh c j = true then g (fb_ct (wh c) j) else c j p
/-- like c0 but for the places of whole jars -/
def lkC (n : Nat) (c0 c : Nat → Nat → Nat) : Prop := ∀ j, j < n → ∀ p, p < 8 → ¬ (p = 0 ∧ wh c0 j = true) → c j p = c0 j p
theorem pI_0 {g : Nat → Nat} {c0 c : Nat → Nat → Nat} : pI 0 g c0 c = c := by
  funext j p
  exact if_neg (fun z => by omega)
theorem pI_s {i : Nat} {g : Nat → Nat} {c0 c : Nat → Nat → Nat} (hi : i < fb_ct (wh c0) n) : ∀ j, j < n → ∀ p, p < 8 → setC (pI i g c0 c) (en (wh c0) n i) 0 (g i) j p = pI (i + 1) g c0 c j p := fun j hj p hp => by
  obtain ⟨e1, e2, e3⟩ := en_ok hi
  unfold setC pI
  by_cases z : j = en (wh c0) n i ∧ p = 0
  · rw [if_pos z, z.1, e3, if_pos ⟨z.2, e2, by omega⟩]
  · rw [if_neg z]
    by_cases y : p = 0 ∧ wh c0 j = true ∧ fb_ct (wh c0) j < i
    · rw [if_pos y, if_pos ⟨y.1, y.2.1, by omega⟩]
    · rw [if_neg y, if_neg (fun q => ?_)]
      by_cases e : fb_ct (wh c0) j = i
      · apply z
        have := en_eq hj q.2.1
        rw [e] at this
        exact ⟨this.symm, q.1⟩
      · exact y ⟨q.1, q.2.1, by omega⟩
theorem pI_m {g : Nat → Nat} {c0 c : Nat → Nat → Nat} (h : lkC n c0 c) : ∀ j, j < n → ∀ p, p < 8 → pI (fb_ct (wh c0) n) g c0 c j p = pC g c0 j p := fun j hj p hp => by
  unfold pI pC
  by_cases z : p = 0 ∧ wh c0 j = true
  · rw [if_pos z, if_pos ⟨z.1, z.2, ct_lt hj z.2⟩]
  · rw [if_neg z, if_neg (fun q => z ⟨q.1, q.2.1⟩)]
    exact h j hj p hp z
theorem lk_self (c : Nat → Nat → Nat) : lkC n c c := fun _ _ _ _ _ => rfl
theorem lk_pC (g : Nat → Nat) (c : Nat → Nat → Nat) : lkC n c (pC g c) := fun j _ p _ h => if_neg h
theorem pC_ne {g : Nat → Nat} {p : Nat} (hp : ¬ p = 0) (j : Nat) : pC g c j p = c j p := if_neg (fun z => hp z.1)
theorem wh_pC (g : Nat → Nat) (j : Nat) : wh (pC g c) j = wh c j := by
  unfold wh
  rw [pC_ne (by omega)]
theorem lkp_pC (g : Nat → Nat) (look j : Nat) : lkp (pC g c) look j = lkp c look j := by
  unfold lkp
  rw [wh_pC, pC_ne (by omega)]
theorem vm_en (hG : Good n c) : VM (fb_ct (wh c) n) (en (wp n c) 8) := by
  have hn := hG.n6
  have h := fb_ct_le (wh c) n
  have e := ct_W hG
  refine ⟨by omega, fun a b hab hb => en_mono hab (by omega), fun a ha => (en_ok (show a < fb_ct (wp n c) 8 from by omega)).1⟩
theorem Good.pC (hG : Good n c) {L : List Nat} (hP : PM (fb_ct (wh c) n) L) : Good n (pC (fun i => en (wp n c) 8 (gd L i)) c) := by
  have hv := vm_en hG
  have eW := ct_W hG
  have val : ∀ j, j < n → wh c j = true → en (wp n c) 8 (gd L (fb_ct (wh c) j)) < 8 ∧ wp n c (en (wp n c) 8 (gd L (fb_ct (wh c) j))) = true := fun j hj h => by
    have h1 := hP.2.1 _ (ct_lt hj h)
    obtain ⟨q1, q2, -⟩ := en_ok (show gd L (fb_ct (wh c) j) < fb_ct (wp n c) 8 from by omega)
    exact ⟨q1, q2⟩
  have own : ∀ q, wp n c q = true → ∃ b, b < n ∧ c b 7 = 0 ∧ c b 0 = q := fun q h => by
    unfold wp at h
    cases e : atS c q n with
    | none =>
      rw [e] at h
      cases h
    | some b =>
      rw [e] at h
      obtain ⟨q1, -, q3⟩ := atS_some e
      exact ⟨b, q1, of_decide_eq_true h, q3⟩
  refine ⟨hG.1, fun j hj => ?_, fun a b ha hb x y e => ?_⟩
  · obtain ⟨g0, g1, g2, g3, g4, g4', g5, g6, g7⟩ := hG.2.1 j hj
    rw [pC_ne (p := 1) (by omega), pC_ne (p := 2) (by omega), pC_ne (p := 3) (by omega), pC_ne (p := 4) (by omega), pC_ne (p := 5) (by omega), pC_ne (p := 6) (by omega), pC_ne (p := 7) (by omega)]
    refine ⟨?_, g1, g2, g3, g4, g4', g5, g6, g7⟩
    unfold Jvm.Pilot.CGreenJarsLaw_law_r4969_20be1c.pC
    by_cases z : wh c j = true
    · rw [if_pos ⟨rfl, z⟩]
      exact (val j hj z).1
    · rw [if_neg (fun q => z q.2)]
      exact g0
  · rw [pC_ne (p := 7) (by omega)] at x y
    unfold Jvm.Pilot.CGreenJarsLaw_law_r4969_20be1c.pC at e
    by_cases za : wh c a = true
    · rw [if_pos ⟨rfl, za⟩] at e
      by_cases zb : wh c b = true
      · rw [if_pos ⟨rfl, zb⟩] at e
        have e1 := hv.inj (hP.2.1 _ (ct_lt ha za)) (hP.2.1 _ (ct_lt hb zb)) e
        have e2 := hP.2.2 _ _ (ct_lt ha za) (ct_lt hb zb) e1
        exact fb_ct_kth_one za zb e2
      · rw [if_neg (fun q => zb q.2)] at e
        obtain ⟨d, d1, d2, d3⟩ := own _ (val a ha za).2
        have := hG.2.2 d b d1 hb (by omega) y (d3.trans e)
        subst this
        exact absurd (decide_eq_true d2) zb
    · rw [if_neg (fun q => za q.2)] at e
      by_cases zb : wh c b = true
      · rw [if_pos ⟨rfl, zb⟩] at e
        obtain ⟨d, d1, d2, d3⟩ := own _ (val b hb zb).2
        have := hG.2.2 d a d1 ha (by omega) x (d3.trans e.symm)
        subst this
        exact absurd (decide_eq_true d2) za
      · rw [if_neg (fun q => zb q.2)] at e
        exact hG.2.2 a b ha hb x y e
/-- the figures told -/
def td (g : Nat → Nat) : Nat → Int32
  | 0 => 0
  | i + 1 => td g i * 10 + nI (g i) + 1
theorem conX {g : Nat → Nat} {m0 : Nat} {most fig : Int32} {mvf spf : Nat → Int32} {c' : Nat → Nat → Nat} {c0 : Nat → Nat → Nat} (hm0 : m0 = fb_ct (wh c0) n) (hn : n ≤ 6) (hmv : ∀ k, k < m0 → mvf k = nI (en (wh c0) n k)) (hsp : ∀ k, k < m0 → spf k = nI (g k)) (hl : lkC n c0 c') (hG : Good n (pC g c0)) (hN : 100 ≤ N) {y : Nat → Int32} (hX : XR n c' y) (st : Nat → Int32) : ∃ y' st', x6_consider N (nI m0) most fig mvf spf (nI n) y st = some (if nI (pmS n (maskC 63 (pC g c0)) n) ≤ most then most else nI (pmS n (maskC 63 (pC g c0)) n), if nI (pmS n (maskC 63 (pC g c0)) n) ≤ most then fig else td g m0, y', st') ∧ XR n (pC g c0) y' := by
  have hm6 : m0 ≤ 6 := by
    have := fb_ct_le (wh c0) n
    omega
  have loop : ∀ d i, i + d = m0 → ∀ fl, d < fl → ∀ y, XR n (pI i g c0 c') y → ∃ y' st', x6_consider_b4 N (nI m0) mvf spf (nI n) fl (td g i) (nI i) most fig y st = some (if nI (pmS n (maskC 63 (pC g c0)) n) ≤ most then most else nI (pmS n (maskC 63 (pC g c0)) n), if nI (pmS n (maskC 63 (pC g c0)) n) ≤ most then fig else td g m0, y', st') ∧ XR n (pC g c0) y' := by
    intro d
    induction d with
    | zero =>
      intro i hi fl hfl y hy
      obtain ⟨fl, rfl⟩ : ∃ x, fl = x + 1 := ⟨fl - 1, by omega⟩
      have e : i = m0 := by omega
      subst e
      have hy2 : XR n (pC g c0) y := by
        rw [hm0] at hy
        exact hy.congr (pI_m hl)
      obtain ⟨st', p1⟩ := pairsX (N := N) (hy2.m63 hn) (hG.mask 63) hN st
      rw [x6_consider_b4, if_pos (nI_le (Nat.le_refl _) (by omega)), p1, gB2_s]
      by_cases z : nI (pmS n (maskC 63 (pC g c0)) n) ≤ most
      · rw [if_pos z, if_pos z, if_pos z]
        exact ⟨_, _, rfl, hy2⟩
      · rw [if_neg z, if_neg z, if_neg z]
        exact ⟨_, _, rfl, hy2⟩
    | succ d ih =>
      intro i hi fl hfl y hy
      obtain ⟨fl, rfl⟩ : ∃ x, fl = x + 1 := ⟨fl - 1, by omega⟩
      obtain ⟨e1, -, -⟩ := en_ok (show i < fb_ct (wh c0) n from by omega)
      have eS : x2_stand y (nI (en (wh c0) n i)) (nI (g i)) = some (upd y (8 * en (wh c0) n i + 0) (nI (g i))) := by
        unfold x2_stand
        simp (disch := omega) only [li, put_eq, gB1_s]
      rw [x6_consider_b4, if_neg (nI_ge (by omega) (by omega)), gIn_t (by omega) (by omega), gChk_t, gChk_t, nI_clamp (by omega), hmv i (by omega), hsp i (by omega), eS, gB1_s, gChk_t, show nI i + (1 : Int32) = nI (i + 1) from nI_1 i]
      exact ih (i + 1) (by omega) fl (by omega) _ ((hy.put e1 (by omega)).congr (pI_s (show i < fb_ct (wh c0) n from by omega)))
  unfold x6_consider
  exact loop m0 0 (by omega) N (by omega) y (by rw [pI_0]; exact hX)
theorem conM {g : Nat → Nat} {m0 : Nat} {most way sm : Int32} {od spf : Nat → Int32} {c0 : Nat → Nat → Nat} (hm0 : m0 = fb_ct (wh c0) n) (hn : n ≤ 6) (hmv : ∀ k, k < m0 → spf k = nI (en (wh c0) n k)) (hsp : ∀ k, k < m0 → od k = nI (g k)) (hG : Good n (pC g c0)) (hN : 100 ≤ N) (hM : MR n c0 kd sz pg) (k34 : Int32 → Int32 → Int32 → Int32 → Int32 → (Nat → Int32) → (Nat → Int32) → (Nat → Int32) → Option ((Int32) × (Int32) × (Int32) × (Nat → Int32) × (Nat → Int32) × (Nat → Int32))) (tr : Nat → Int32) : ∃ tr', gB2 (x8_begin N sm pg tr) (fun y14 y15 => x8_findRow_b47 N (nI n) kd pg k34 N (nI m0) (0 : Int32) (0 : Int32) y14 most way y15 od spf) = gB2 (x8_nextOrder N od (nI m0)) (fun r1 y2 => k34 (nI m0) r1 (nI 63) (if nI (pmS n (maskC 63 (pC g c0)) n) ≤ most then most else nI (pmS n (maskC 63 (pC g c0)) n)) (if nI (pmS n (maskC 63 (pC g c0)) n) ≤ most then way else td g m0) tr' y2 spf) := by
  have hm6 : m0 ≤ 6 := by
    have := fb_ct_le (wh c0) n
    omega
  have loop : ∀ d i, i + d = m0 → ∀ fl, d < fl → ∀ y, MR n (pI i g c0 c0) kd sz y → ∃ tr', x8_findRow_b47 N (nI n) kd pg k34 fl (nI m0) (td g i) (nI i) (nI 63) most way y od spf = gB2 (x8_nextOrder N od (nI m0)) (fun r1 y2 => k34 (nI m0) r1 (nI 63) (if nI (pmS n (maskC 63 (pC g c0)) n) ≤ most then most else nI (pmS n (maskC 63 (pC g c0)) n)) (if nI (pmS n (maskC 63 (pC g c0)) n) ≤ most then way else td g m0) tr' y2 spf) := by
    intro d
    induction d with
    | zero =>
      intro i hi fl hfl y hy
      obtain ⟨fl, rfl⟩ : ∃ x, fl = x + 1 := ⟨fl - 1, by omega⟩
      have e : i = m0 := by omega
      subst e
      have hy2 : MR n (pC g c0) kd sz y := by
        rw [hm0] at hy
        exact hy.congr (pI_m (lk_self c0))
      refine ⟨y, ?_⟩
      rw [x8_findRow_b47, if_pos (nI_le (Nat.le_refl _) (by omega)), pairsM hy2 hG (by omega) hN, gB1_s]
      unfold x8_findRow_b121 x8_findRow_b143
      by_cases z : nI (pmS n (maskC 63 (pC g c0)) n) ≤ most
      · rw [if_pos z, if_pos z, if_pos z, if_pos z]
      · rw [if_neg z, if_neg z, if_neg z, if_neg z]
    | succ d ih =>
      intro i hi fl hfl y hy
      obtain ⟨fl, rfl⟩ : ∃ x, fl = x + 1 := ⟨fl - 1, by omega⟩
      obtain ⟨e1, -, -⟩ := en_ok (show i < fb_ct (wh c0) n from by omega)
      have et : (10 : Int32) * td g i + nI (g i) + 1 = td g (i + 1) := by
        rw [td, Int32.mul_comm]
      rw [x8_findRow_b47, if_neg (nI_ge (by omega) (by omega)), gIn_t (by omega) (by omega), gChk_t, gChk_t, nI_clamp (by omega), hmv i (by omega), hsp i (by omega), gIn_t (by omega) (by omega), gChk_t, gChk_t, nI_clamp (by omega), et, show nI i + (1 : Int32) = nI (i + 1) from nI_1 i]
      have hp : MR n (setC (pI i g c0 c0) (en (wh c0) n i) 0 (g i)) kd sz (upd y (0 + en (wh c0) n i) (nI (g i))) := hy.put hn e1 0 0 (by omega)
      rw [Nat.zero_add] at hp
      exact ih (i + 1) (by omega) fl (by omega) _ (hp.congr (pI_s (show i < fb_ct (wh c0) n from by omega)))
  obtain ⟨t1, y1, y2, -⟩ := beginM (N := N) hM hn hN sm tr
  rw [y1, gB2_s]
  exact loop m0 0 (by omega) N (by omega) t1 (by rw [pI_0]; exact y2)
end PLACE
