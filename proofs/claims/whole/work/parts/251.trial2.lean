/-! PURE: becomes, fails, stuff -/
section TRIAL2
variable {N n : Nat} {w J W Jm : Int32} {f kd sz pg tr : Nat → Int32} {j : Nat}
theorem bec_l {nJ nW : Int32} {nf : Nat → Int32} {th sm : Int32} {v : Nat} (hv : v ≤ 9) (hj : j < n) (hN : 100 ≤ N) : ∀ k i, i + k = 21 → ∀ fl fl', k < fl → k < fl' → ∀ c w f tr, Good n c → XR n c f → MR n c kd sz tr → tr 36 = w → ∃ r W' f' tr', x7_becomes_b50 N nJ nW nf (nI j) (nI v) fl (nI i) (nI n) w f = some (r, nI n, W', f') ∧ x8_becomes_b50 N (nI n) kd pg (nI j) (nI v) fl' (nI i) th sm tr = some (r, th, sm, tr') := by
  intro k
  induction k with
  | zero =>
    intro i hi fl fl' hfl hfl' c w f tr hG hX hM hw
    obtain ⟨fl, rfl⟩ : ∃ m, fl = m + 1 := ⟨fl - 1, by omega⟩
    obtain ⟨fl', rfl⟩ : ∃ m, fl' = m + 1 := ⟨fl' - 1, by omega⟩
    have e : i = 21 := by omega
    subst e
    rw [x7_becomes_b50, x8_becomes_b50, if_pos (show (20 : Int32) < nI 21 from by decide), if_pos (show (20 : Int32) < nI 21 from by decide)]
    exact ⟨_, _, _, _, rfl, rfl⟩
  | succ k ih =>
    intro i hi fl fl' hfl hfl' c w f tr hG hX hM hw
    have hn := hG.n6
    obtain ⟨g0, g1, g2, g3, g4, g4', g5, g6, g7⟩ := hG.2.1 j hj
    obtain ⟨fl, rfl⟩ : ∃ m, fl = m + 1 := ⟨fl - 1, by omega⟩
    obtain ⟨fl', rfl⟩ : ∃ m, fl' = m + 1 := ⟨fl' - 1, by omega⟩
    rw [x7_becomes_b50, x8_becomes_b50, if_neg (show ¬ (20 : Int32) < nI i from nI_nlt (a := 20) (b := i) (by omega) (by omega)), if_neg (show ¬ (20 : Int32) < nI i from nI_nlt (a := 20) (b := i) (by omega) (by omega))]
    simp (disch := omega) only [li, partX hX, gB1_s, nI_add, gIn_t, gChk_t, nI_clamp, hM.p1, nI_eq]
    by_cases h : c j 1 = v
    · rw [if_pos h, if_pos h]
      exact ⟨_, _, _, _, rfl, rfl⟩
    · rw [if_neg h, if_neg h]
      obtain ⟨f1, x1, x2⟩ := weekX (N := N) hX hG hN w
      obtain ⟨t1, y1, y2, y3⟩ := weekM (N := N) hM hG hN hw
      rw [x1, y1, gB2_s, gB1_s]
      exact ih (i + 1) (by omega) fl fl' (by omega) (by omega) _ _ f1 t1 (hG.week (ev := evn w)) x2 y2 y3
theorem st_becomes {c : Nat → Nat → Nat} (hS : SH n c w J W f Jm kd sz pg) {th sm tJ tW : Int32} {tf : Nat → Int32} (hN : 2000 ≤ N) (a1 a2 : Int32) : ∃ r tJ' tW' tf' s' tr', x7_becomes N J W f tJ tW tf a1 a2 = some (r, tJ', tW', tf') ∧ x8_becomes N th Jm sm kd pg tr a1 a2 = some (r, 0, s', tr') := by
  obtain ⟨hG, hX, rfl, rfl, hM, rfl, h36⟩ := hS
  have hn := hG.n6
  unfold x7_becomes x8_becomes
  rcases jarC hn a1 with ⟨q1, q2⟩ | ⟨j, hj, rfl, q1, q2⟩
  · rw [q1, q2]
    exact ⟨_, _, _, _, _, _, rfl, rfl⟩
  · rw [q1, q2, gB1_s, gB1_s, if_neg n10, if_pos n00]
    rcases figC a2 with ⟨p1, p2⟩ | ⟨v, hv, rfl, p1, p2⟩
    · rw [p1, p2]
      exact ⟨_, _, _, _, _, _, rfl, rfl⟩
    · rw [p1, p2, gB1_s, gB1_s, if_neg n10, if_neg n10]
      by_cases h : c j 7 = 0
      · rw [wholeX_t hX hj hn h, wholeM_t hM hj hn h, gB1_s, gB1_s, if_neg n10, if_neg n10]
        obtain ⟨f1, x1, x2⟩ := copyX hX hn tJ tW tf W
        obtain ⟨t1, y1, y2, y3⟩ := beginM (N := N) hM hn (by omega) sm tr
        rw [x1, y1, gB3_s, gB2_s]
        obtain ⟨r, W', f', tr', e1, e2⟩ := bec_l (N := N) (nJ := nI n) (nW := W) (nf := f) (pg := pg) (th := 0) (sm := nI 63) hv hj (by omega) 21 0 (by omega) N N (by omega) (by omega) c W f1 t1 hG x2 y2 (y3.trans h36)
        exact ⟨r, nI n, W', f', nI 63, tr', e1, e2⟩
      · have g7 := (hG.2.1 j hj).2.2.2.2.2.2.2.2
        rw [wholeX_f hX hj hn g7 h, wholeM_f hM hj hn g7 h]
        exact ⟨_, _, _, _, _, _, rfl, rfl⟩
theorem weekC_7 (ev : Nat) (c : Nat → Nat → Nat) (j : Nat) : weekC ev c j 7 = c j 7 := by
  unfold weekC
  split
  · exact weekJ_7 ev (c j)
  · rfl
theorem fai_l {nJ nW : Int32} {nf : Nat → Int32} {th sm : Int32} (hj : j < n) (hN : 100 ≤ N) : ∀ k i, i + k = 21 → ∀ fl fl', k < fl → k < fl' → ∀ c w f tr, Good n c → XR n c f → MR n c kd sz tr → tr 36 = w → c j 7 = 0 → ∃ r W' f' tr', x7_fails_b40 N nJ nW nf (nI j) fl (nI i) (nI n) w f = some (r, nI n, W', f') ∧ x8_fails_b35 N (nI n) kd sz pg (nI j) fl' (nI i) th sm tr = some (r, th, sm, tr') := by
  intro k
  induction k with
  | zero =>
    intro i hi fl fl' hfl hfl' c w f tr hG hX hM hw h7
    obtain ⟨fl, rfl⟩ : ∃ m, fl = m + 1 := ⟨fl - 1, by omega⟩
    obtain ⟨fl', rfl⟩ : ∃ m, fl' = m + 1 := ⟨fl' - 1, by omega⟩
    have e : i = 21 := by omega
    subst e
    rw [x7_fails_b40, x8_fails_b35, if_pos (show (20 : Int32) < nI 21 from by decide), if_pos (show (20 : Int32) < nI 21 from by decide)]
    exact ⟨_, _, _, _, rfl, rfl⟩
  | succ k ih =>
    intro i hi fl fl' hfl hfl' c w f tr hG hX hM hw h7
    have hn := hG.n6
    obtain ⟨g0, g1, g2, g3, g4, g4', g5, g6, g7⟩ := hG.2.1 j hj
    obtain ⟨fl, rfl⟩ : ∃ m, fl = m + 1 := ⟨fl - 1, by omega⟩
    obtain ⟨fl', rfl⟩ : ∃ m, fl' = m + 1 := ⟨fl' - 1, by omega⟩
    rw [x7_fails_b40, x8_fails_b35, if_neg (show ¬ (20 : Int32) < nI i from nI_nlt (a := 20) (b := i) (by omega) (by omega)), if_neg (show ¬ (20 : Int32) < nI i from nI_nlt (a := 20) (b := i) (by omega) (by omega))]
    simp (disch := omega) only [li, nI_add, gIn_t, gChk_t, nI_clamp, hM.p5, hM.p4, nI_leI]
    by_cases h : c j 4 < c j 5
    · rw [crackX_t hX hj hG h7 h, gB1_s, if_neg (show ¬ nI 1 = nI 0 from by decide), if_neg (by omega)]
      exact ⟨_, _, _, _, rfl, rfl⟩
    · rw [crackX_f hX hj hG (fun z => h z.2), gB1_s, if_pos rfl, if_pos (by omega)]
      obtain ⟨f1, x1, x2⟩ := weekX (N := N) hX hG hN w
      obtain ⟨t1, y1, y2, y3⟩ := weekM (N := N) hM hG hN hw
      rw [x1, y1, gB2_s, gB1_s]
      exact ih (i + 1) (by omega) fl fl' (by omega) (by omega) _ _ f1 t1 (hG.week (ev := evn w)) x2 y2 y3 ((weekC_7 _ _ _).trans h7)
theorem st_fails {c : Nat → Nat → Nat} (hS : SH n c w J W f Jm kd sz pg) {th sm tJ tW : Int32} {tf : Nat → Int32} (hN : 2000 ≤ N) (a1 : Int32) : ∃ r tJ' tW' tf' s' tr', x7_fails N J W f tJ tW tf a1 = some (r, tJ', tW', tf') ∧ x8_fails N th Jm sm kd sz pg tr a1 = some (r, 0, s', tr') := by
  obtain ⟨hG, hX, rfl, rfl, hM, rfl, h36⟩ := hS
  have hn := hG.n6
  unfold x7_fails x8_fails
  rcases jarC hn a1 with ⟨q1, q2⟩ | ⟨j, hj, rfl, q1, q2⟩
  · rw [q1, q2]
    exact ⟨_, _, _, _, _, _, rfl, rfl⟩
  · rw [q1, q2, gB1_s, gB1_s, if_neg n10, if_pos n00]
    by_cases h : c j 7 = 0
    · rw [wholeX_t hX hj hn h, wholeM_t hM hj hn h, gB1_s, gB1_s, if_neg n10, if_neg n10]
      obtain ⟨f1, x1, x2⟩ := copyX hX hn tJ tW tf W
      obtain ⟨t1, y1, y2, y3⟩ := beginM (N := N) hM hn (by omega) sm tr
      rw [x1, y1, gB3_s, gB2_s]
      obtain ⟨r, W', f', tr', e1, e2⟩ := fai_l (N := N) (nJ := nI n) (nW := W) (nf := f) (pg := pg) (th := 0) (sm := nI 63) hj (by omega) 21 0 (by omega) N N (by omega) (by omega) c W f1 t1 hG x2 y2 (y3.trans h36) h
      exact ⟨r, nI n, W', f', nI 63, tr', e1, e2⟩
    · have g7 := (hG.2.1 j hj).2.2.2.2.2.2.2.2
      rw [wholeX_f hX hj hn g7 h, wholeM_f hM hj hn g7 h]
      exact ⟨_, _, _, _, _, _, rfl, rfl⟩
/-- haze doesn't matter for what is like what -/
def eqN5 (c c' : Nat → Nat → Nat) : Prop := ∀ j p, ¬ p = 5 → c j p = c' j p
theorem week_N5 {c c' : Nat → Nat → Nat} (h : eqN5 c c') (ev : Nat) : eqN5 (weekC ev c) (weekC ev c') := fun j p hp => by
  unfold weekC
  rw [h j 7 (by omega)]
  by_cases z : c' j 7 = 0
  · rw [if_pos z, if_pos z]
    unfold weekJ
    rw [h j 3 (by omega), h j 1 (by omega), h j 2 (by omega), h j 6 (by omega), h j p hp, if_neg hp, if_neg hp]
  · rw [if_neg z, if_neg z]
    exact h j p hp
theorem wk_N5 : ∀ (m : Nat) (w : Int32) {c c' : Nat → Nat → Nat}, eqN5 c c' → eqN5 (wkC m w c) (wkC m w c')
  | 0, _, _, _, h => h
  | m + 1, w, _, _, h => wk_N5 m (w + nI 1) (week_N5 h (evn w))
theorem abs9X {a b : Nat} (ha : a ≤ 9) (hb : b ≤ 9) : (if (0 : Int32) ≤ nI a - nI b then nI a - nI b else (0 : Int32) - (nI a - nI b)) = nI (dst b a) := by
  have z : ∀ a b : Fin 10, (if (0 : Int32) ≤ nI a.val - nI b.val then nI a.val - nI b.val else (0 : Int32) - (nI a.val - nI b.val)) = nI (dst b.val a.val) := by decide +kernel
  exact z ⟨a, by omega⟩ ⟨b, by omega⟩
theorem abs9M {a b : Nat} (ha : a ≤ 9) (hb : b ≤ 9) : ((0 : Int32) ≤ nI a - nI b → nI a - nI b = nI (dst b a)) ∧ (¬ (0 : Int32) ≤ nI a - nI b → -(nI a - nI b) = nI (dst b a)) := by
  have z : ∀ a b : Fin 10, ((0 : Int32) ≤ nI a.val - nI b.val → nI a.val - nI b.val = nI (dst b.val a.val)) ∧ (¬ (0 : Int32) ≤ nI a.val - nI b.val → -(nI a.val - nI b.val) = nI (dst b.val a.val)) := by decide +kernel
  exact z ⟨a, by omega⟩ ⟨b, by omega⟩
theorem dst9 {a b : Nat} (ha : a ≤ 9) (hb : b ≤ 9) : dst a b ≤ 9 := by
  unfold dst
  split <;> omega
/-- how far off it comes -/
def offS (m : Nat) (w : Int32) (c : Nat → Nat → Nat) (j v u : Nat) : Nat := dst v (wkC m w (pourC c j u) j 1)
theorem offX {c : Nat → Nat → Nat} {m v u : Nat} (hX : XR n c f) (hG : Good n c) (hj : j < n) (hm : m ≤ 12) (hv : v ≤ 9) (hu : u < 4) (hN : 100 ≤ N) (w tJ tW : Int32) (tf : Nat → Int32) : ∃ W' f', x7_distanceIn N (nI n) w f tJ tW tf (nI j) (nI u) (nI m) (nI v) = some (nI (offS m w c j v u), nI n, W', f') := by
  have hn := hG.n6
  obtain ⟨f1, x1, x2⟩ := copyX hX hn tJ tW tf w
  obtain ⟨f2, x3, x4⟩ := fillX2 x2 hn hj u
  obtain ⟨f3, x5, x6⟩ := weeksX (N := N) (m := m) (by omega) hN m 0 (by omega) N (by omega) _ w f2 x4 (hG.pour hu)
  have g1 := ((Good.wk m w (hG.pour (j := j) hu)).2.1 j hj).2.1
  refine ⟨wkW m w, f3, ?_⟩
  unfold x7_distanceIn x2_passWeeks
  rw [x1, gB3_s, x3, gB1_s, show x2_passWeeks_b2 N (nI n) (nI m) N 0 w f2 = _ from x5, gB2_s]
  have e : x2_part f3 (nI j) (1 : Int32) = _ := partX (p := 1) x6 hj hn (by omega)
  rw [e, gB1_s, abs9X g1 hv]
  rfl
theorem stu_l {c : Nat → Nat → Nat} {m v : Nat} {th a4 : Int32} (hX : XR n c f) (hM : MR n c kd sz pg) (h36 : pg 36 = w) (hG : Good n c) (hj : j < n) (hm : m ≤ 12) (hv : v ≤ 9) (hN : 100 ≤ N) : ∀ k u, u + k = 4 → ∀ fl fl', k < fl → k < fl' → ∀ b d tJ tW tf sm tr, d ≤ 99 → ∃ r tJ' tW' tf' sm' b' d' tr', (1 ≤ u → x7_stuff_b75 N (nI n) w f (nI j) (nI m) (nI v) a4 fl b (nI d) (nI u) tJ tW tf = some (r, tJ', tW', tf')) ∧ x8_stuff_b82 N (nI n) kd pg (nI j) (nI m) (nI v) a4 fl' (nI u) th sm b (nI d) tr = some (r, th, sm', b', d', tr') ∧ (u = 0 → d = 99 → ∀ fx, 4 ≤ fx → ∀ sJ sW sf, ∃ uJ uW uf, x7_stuff_b75 N (nI n) w f (nI j) (nI m) (nI v) a4 fx (nI 0) (nI (offS m w c j v 0)) (nI 1) sJ sW sf = some (r, uJ, uW, uf)) := by
  intro k
  induction k with
  | zero =>
    intro u hu fl fl' hfl hfl' b d tJ tW tf sm tr hd
    obtain ⟨fl, rfl⟩ : ∃ m, fl = m + 1 := ⟨fl - 1, by omega⟩
    obtain ⟨fl', rfl⟩ : ∃ m, fl' = m + 1 := ⟨fl' - 1, by omega⟩
    have e : u = 4 := by omega
    subst e
    rw [x7_stuff_b75, x8_stuff_b82, if_pos (show (4 : Int32) ≤ nI 4 from by decide), if_pos (show (4 : Int32) ≤ nI 4 from by decide)]
    by_cases h : a4 = 0
    · rw [if_pos h, if_pos h]
      exact ⟨_, _, _, _, _, _, _, _, fun _ => rfl, rfl, fun z => absurd z (by omega)⟩
    · rw [if_neg h, if_neg h]
      exact ⟨_, _, _, _, _, _, _, _, fun _ => rfl, rfl, fun z => absurd z (by omega)⟩
  | succ k ih =>
    intro u hu fl fl' hfl hfl' b d tJ tW tf sm tr hd
    have hn := hG.n6
    obtain ⟨fl, rfl⟩ : ∃ m, fl = m + 1 := ⟨fl - 1, by omega⟩
    obtain ⟨fl', rfl⟩ : ∃ m, fl' = m + 1 := ⟨fl' - 1, by omega⟩
    have hu4 : u < 4 := by omega
    -- the class
    obtain ⟨W1, f1, x1⟩ := offX (N := N) hX hG hj hm hv hu4 hN w tJ tW tf
    -- the reference
    obtain ⟨t1, y1, y2, y3⟩ := beginM (N := N) hM hn hN sm tr
    have y4 : MR n (setC c j 2 u) kd sz (upd t1 (12 + j) (nI u)) := y2.put hn hj 2 12 (by omega)
    have hG4 : Good n (setC c j 2 u) := hG.put (by omega)
    obtain ⟨t2, y5, y6, -⟩ := weeksM (N := N) (m := m) (by omega) hN m 0 (by omega) N (by omega) _ w _ y4 hG4 (by rw [pk_un (by omega), y3, h36])
    have g1 := ((Good.wk m w hG4).2.1 j hj).2.1
    have eo : wkC m w (setC c j 2 u) j 1 = wkC m w (pourC c j u) j 1 := wk_N5 m w (fun i p hp => (setC_ne (by omega)).symm) j 1 (by omega)
    have ed : dst v (wkC m w (setC c j 2 u) j 1) = offS m w c j v u := by unfold offS; rw [eo]
    have hd9 : offS m w c j v u ≤ 9 := by rw [← ed]; exact dst9 hv g1
    have eM : x8_stuff_b82 N (nI n) kd pg (nI j) (nI m) (nI v) a4 (fl' + 1) (nI u) th sm b (nI d) tr = x8_stuff_b134 N (nI n) kd pg (nI j) (nI m) (nI v) a4 (x8_stuff_b82 N (nI n) kd pg (nI j) (nI m) (nI v) a4 fl') (nI u) (nI (offS m w c j v u)) th (nI 63) b (nI d) t2 := by
      rw [x8_stuff_b82, if_neg (show ¬ (4 : Int32) ≤ nI u from nI_ge (a := u) (b := 4) hu4 (by omega)), y1, gB2_s]
      unfold x8_goWeeks
      simp (disch := omega) only [li, nI_add, gIn_t, gChk_t, nI_clamp]
      rw [y5, gB1_s, y6.p1 hj]
      obtain ⟨q1, q2⟩ := abs9M g1 hv
      by_cases z : (0 : Int32) ≤ nI (wkC m w (setC c j 2 u) j 1) - nI v
      · rw [if_pos (show nI 0 ≤ nI (wkC m w (setC c j 2 u) j 1) - nI v from z), q1 z, ed]
      · rw [if_neg (show ¬ nI 0 ≤ nI (wkC m w (setC c j 2 u) j 1) - nI v from z), q2 z, ed]
    rw [eM]
    unfold x8_stuff_b134 x8_stuff_b155 x8_stuff_b177
    have e1 : nI u + (1 : Int32) = nI (u + 1) := nI_1 u
    by_cases h : d ≤ offS m w c j v u
    · rw [if_pos (nI_le h (by omega)), if_pos (nI_le h (by omega)), e1]
      obtain ⟨r, tJ', tW', tf', sm', b', d', tr', a1, a2, -⟩ := ih (u + 1) (by omega) fl fl' (by omega) (by omega) b d (nI n) W1 f1 (nI 63) t2 hd
      refine ⟨r, tJ', tW', tf', sm', b', d', tr', fun hu1 => ?_, a2, fun z1 z2 => by omega⟩
      rw [x7_stuff_b75, if_neg (show ¬ (4 : Int32) ≤ nI u from nI_ge (a := u) (b := 4) hu4 (by omega)), x1, gB4_s, if_pos (nI_le h (by omega)), e1]
      exact a1 (by omega)
    · rw [if_neg (nI_ge (by omega) (by omega)), if_neg (nI_ge (by omega) (by omega)), e1]
      obtain ⟨r, tJ', tW', tf', sm', b', d', tr', a1, a2, -⟩ := ih (u + 1) (by omega) fl fl' (by omega) (by omega) (nI u) (offS m w c j v u) (nI n) W1 f1 (nI 63) t2 (by omega)
      refine ⟨r, tJ', tW', tf', sm', b', d', tr', fun hu1 => ?_, a2, fun z1 z2 fx hfx sJ sW sf => ?_⟩
      · rw [x7_stuff_b75, if_neg (show ¬ (4 : Int32) ≤ nI u from nI_ge (a := u) (b := 4) hu4 (by omega)), x1, gB4_s, if_neg (nI_ge (by omega) (by omega)), e1]
        exact a1 (by omega)
      · subst z1
        obtain ⟨r2, tJ2, tW2, tf2, sm2, b2, d2, tr2, a3, a4', -⟩ := ih (0 + 1) (by omega) fx fl' (by omega) (by omega) (nI 0) (offS m w c j v 0) sJ sW sf (nI 63) t2 (by omega)
        have er : r2 = r := by
          rw [a2] at a4'
          injection a4' with z
          injection z with z _
          exact z.symm
        rw [← er]
        exact ⟨tJ2, tW2, tf2, a3 (by omega)⟩
theorem st_stuff {c : Nat → Nat → Nat} (hS : SH n c w J W f Jm kd sz pg) {th sm tJ tW sw sn : Int32} {tf : Nat → Int32} (hN : 2000 ≤ N) (a1 a2 a3 a4 : Int32) : ∃ r tJ' tW' tf' s' sw' sn' tr', x7_stuff N J W f tJ tW tf a1 a2 a3 a4 = some (r, tJ', tW', tf') ∧ x8_stuff N th Jm sm sw sn kd pg tr a1 a2 a3 a4 = some (r, 0, s', sw', sn', tr') := by
  obtain ⟨hG, hX, rfl, rfl, hM, rfl, h36⟩ := hS
  have hn := hG.n6
  unfold x7_stuff x8_stuff
  rcases jarC hn a1 with ⟨q1, q2⟩ | ⟨j, hj, rfl, q1, q2⟩
  · rw [q1, q2]
    exact ⟨_, _, _, _, _, _, _, _, rfl, rfl⟩
  · rw [q1, q2, gB1_s, gB1_s, if_neg n10, if_pos n00]
    rcases inC 1 12 (by omega) (by omega) a2 with z | ⟨m, hm1, hm, rfl, g1, g2⟩
    · rw [r_bad (lo := (1 : Int32)) (hi := (12 : Int32)) z, in_f 1 12 (by decide) (by decide) z]
      exact ⟨_, _, _, _, _, _, _, _, rfl, rfl⟩
    · rw [r_ok (lo := (1 : Int32)) (hi := (12 : Int32)) g1 g2, in_t 1 12 (by decide) (by decide) g1 g2, gB1_s, if_neg n10]
      rcases figC a3 with ⟨p1, p2⟩ | ⟨v, hv, rfl, p1, p2⟩
      · rw [p1, p2]
        exact ⟨_, _, _, _, _, _, _, _, rfl, rfl⟩
      · rw [p1, p2, gB1_s, gB1_s, if_neg n10, if_neg n10]
        rcases inC 0 1 (by omega) (by omega) a4 with z | ⟨u, -, hu, rfl, g3, g4⟩
        · rw [r_bad' (lo := (0 : Int32)) (hi := (1 : Int32)) z, in_f 0 1 (by decide) (by decide) z]
          exact ⟨_, _, _, _, _, _, _, _, rfl, rfl⟩
        · rw [r_ok' (lo := (0 : Int32)) (hi := (1 : Int32)) g3 g4, in_t 0 1 (by decide) (by decide) g3 g4, gB1_s, if_neg n10]
          by_cases h : c j 7 = 0
          · rw [wholeX_t hX hj hn h, wholeM_t hM hj hn h, gB1_s, gB1_s, if_neg n10, if_neg n10]
            obtain ⟨W1, f1, x1⟩ := offX (N := N) hX hG hj hm hv (u := 0) (by omega) (by omega) W tJ tW tf
            rw [show x7_distanceIn N (nI n) W f tJ tW tf (nI j) 0 (nI m) (nI v) = _ from x1, gB4_s]
            obtain ⟨r, tJ', tW', tf', sm', b', d', tr', -, e2, e3⟩ := stu_l (N := N) (th := 0) (a4 := nI u) hX hM h36 hG hj hm hv (by omega) 4 0 (by omega) N N (by omega) (by omega) (-nI 9) 99 tJ tW tf sm tr (by omega)
            obtain ⟨uJ, uW, uf, e4⟩ := e3 rfl rfl N (by omega) (nI n) W1 f1
            exact ⟨r, uJ, uW, uf, sm', b', d', tr', e4, e2⟩
          · have g7 := (hG.2.1 j hj).2.2.2.2.2.2.2.2
            rw [wholeX_f hX hj hn g7 h, wholeM_f hM hj hn g7 h]
            exact ⟨_, _, _, _, _, _, _, _, rfl, rfl⟩
end TRIAL2
