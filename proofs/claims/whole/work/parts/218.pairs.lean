/-! PURE: pairs that see one another -/
theorem sm_swap (g : Nat → Nat → Nat) (m : Nat) : ∀ n, fb_sm (fun i => fb_sm (fun k => g i k) m) n = fb_sm (fun k => fb_sm (fun i => g i k) n) m
  | 0 => by
    rw [fb_sm]
    rw [show (fun k => fb_sm (fun i => g i k) 0) = fun _ => 0 from rfl, fb_sm_const, Nat.mul_zero]
  | n + 1 => by
    rw [fb_sm_succ, sm_swap g m n, ← fb_sm_add]
    exact fb_sm_cong (fun k _ => (fb_sm_succ _ n).symm)
/-- one place alone counts -/
theorem sm_one {n k v : Nat} (hk : k < n) : fb_sm (fun i => if i = k then v else 0) n = v := by
  have h := fb_sm_upd (fun _ => 0) v hk
  rw [fb_sm_const, Nat.mul_zero] at h
  omega
theorem sm_none (n : Nat) : fb_sm (fun _ => 0) n = 0 := by rw [fb_sm_const, Nat.mul_zero]
section PAIRS
variable {n : Nat} {c : Nat → Nat → Nat} {f kd sz pg : Nat → Int32} {N : Nat} {j : Nat}
/-- j and k see one another -/
def mtl (n : Nat) (c : Nat → Nat → Nat) (j k : Nat) : Bool := decide (seesS n c j = some k) && decide (seesS n c k = some j)
theorem mtl_comm (n : Nat) (c : Nat → Nat → Nat) (j k : Nat) : mtl n c j k = mtl n c k j := by
  unfold mtl
  rw [Bool.and_comm]
theorem mtl_iff {k : Nat} : mtl n c j k = true ↔ seesS n c j = some k ∧ seesS n c k = some j := by
  unfold mtl
  rw [Bool.and_eq_true, decide_eq_true_eq, decide_eq_true_eq]
/-- the pairs, counted by the lesser number -/
def pmS (n : Nat) (c : Nat → Nat → Nat) : Nat → Nat := fb_sm (fun j => match seesS n c j with
  | some o => if j < o ∧ seesS n c o = some j then 1 else 0
  | none => 0)
/-- the pairs, counted by the right place -/
def facing (c : Nat → Nat → Nat) (a b : Nat) : Bool := decide (c a 6 = 2) && decide (c b 6 = 0) && decide (c a 7 = 0) && decide (c b 7 = 0) && clr c a b && clr c b a
def pcS (n : Nat) (c : Nat → Nat → Nat) : Nat → Nat := fb_sm (fun q => match atS c q n with
  | some b => (match scanL c n q with
    | some a => if facing c a b = true then 1 else 0
    | none => 0)
  | none => 0)
theorem sees_lt (hG : Good n c) (hj : j < n) {o : Nat} (h : seesS n c j = some o) : o < n ∧ ¬ c o 7 = 2 ∧ c j 7 = 0 ∧ nearS n c j = some o := by
  unfold seesS at h
  split at h
  · rename_i h7
    cases e : nearS n c j with
    | none => rw [e] at h; cases h
    | some p =>
      rw [e] at h
      simp only at h
      split at h
      · cases h
        obtain ⟨a, b⟩ := near_ok hG hj e
        exact ⟨a, b, h7, rfl⟩
      · cases h
  · cases h
theorem near_ne (hG : Good n c) (hj : j < n) {o : Nat} (h : nearS n c j = some o) : (c j 6 = 0 ∧ c o 0 < c j 0) ∨ (c j 6 = 2 ∧ c j 0 < c o 0) := by
  have gj := (hG.2.1 j hj).1
  unfold nearS at h
  split at h
  · obtain ⟨-, -, a, -⟩ := scanL_some h
    exact Or.inl ⟨by assumption, a⟩
  · split at h
    · obtain ⟨-, -, a, -⟩ := scanR_some (by omega) h
      exact Or.inr ⟨by assumption, by omega⟩
    · cases h
/-- a is next to b, to its left -/
theorem next_R (hG : Good n c) {a b : Nat} (hb : b < n) (h7 : ¬ c b 7 = 2) (h : scanL c n (c b 0) = some a) : scanR c n (7 - c a 0) = some b := by
  obtain ⟨a1, a2, a3, a4⟩ := scanL_some h
  have gb := (hG.2.1 b hb).1
  cases e : scanR c n (7 - c a 0) with
  | none => exact absurd (show 7 - (7 - c a 0) < c b 0 by omega) (scanR_none (by omega) e b hb h7 gb)
  | some p =>
    obtain ⟨b1, b2, b3, b4, b5⟩ := scanR_some (by omega) e
    have l1 := b5 b hb h7 (by omega)
    have l2 : ¬ c p 0 < c b 0 := fun z => by
      have := a4 p b1 b2 z
      omega
    rw [hG.2.2 p b b1 hb b2 h7 (by omega)]
theorem facing_iff (hG : Good n c) {a b : Nat} (hb : b < n) (h7 : ¬ c b 7 = 2) (h : scanL c n (c b 0) = some a) : facing c a b = true ↔ (seesS n c b = some a ∧ seesS n c a = some b) := by
  obtain ⟨a1, a2, a3, a4⟩ := scanL_some h
  have hR := next_R hG hb h7 h
  unfold facing
  simp only [Bool.and_eq_true, decide_eq_true_eq]
  constructor
  · rintro ⟨⟨⟨⟨⟨e1, e2⟩, e3⟩, e4⟩, e5⟩, e6⟩
    refine ⟨?_, ?_⟩
    · unfold seesS nearS
      rw [if_pos e4, if_pos e2, h]
      simp only [e6, if_true]
    · unfold seesS nearS
      rw [if_pos e3, if_neg (by omega), if_pos e1, hR]
      simp only [e5, if_true]
  · rintro ⟨e1, e2⟩
    obtain ⟨-, -, w1, n1⟩ := sees_lt hG hb e1
    obtain ⟨-, -, w2, n2⟩ := sees_lt hG a1 e2
    have l1 : c b 6 = 0 := by
      rcases near_ne hG hb n1 with ⟨z, -⟩ | ⟨-, z⟩
      · exact z
      · omega
    have l2 : c a 6 = 2 := by
      rcases near_ne hG a1 n2 with ⟨-, z⟩ | ⟨z, -⟩
      · omega
      · exact z
    have k1 : clr c b a = true := by
      unfold seesS at e1
      rw [if_pos w1, n1] at e1
      simp only at e1
      split at e1
      · assumption
      · cases e1
    have k2 : clr c a b = true := by
      unfold seesS at e2
      rw [if_pos w2, n2] at e2
      simp only at e2
      split at e2
      · assumption
      · cases e2
    exact ⟨⟨⟨⟨⟨l2, l1⟩, w2⟩, w1⟩, k2⟩, k1⟩
/-- the pairs as a sum over two -/
def pr2 (n : Nat) (c : Nat → Nat → Nat) (ord : Nat → Nat → Bool) : Nat := fb_sm (fun i => fb_sm (fun k => if mtl n c i k && ord i k then 1 else 0) n) n
theorem pm_2 (hG : Good n c) : pmS n c n = pr2 n c (fun i k => decide (i < k)) := by
  unfold pmS pr2
  refine fb_sm_cong (fun i hi => ?_)
  cases e : seesS n c i with
  | none =>
    simp only
    refine Eq.trans (sm_none n).symm (fb_sm_cong (fun k _ => ?_))
    rw [if_neg]
    intro z
    rw [Bool.and_eq_true, mtl_iff, e] at z
    cases z.1.1
  | some o =>
    obtain ⟨ho, -⟩ := sees_lt hG hi e
    simp only
    refine Eq.trans (sm_one (v := if i < o ∧ seesS n c o = some i then 1 else 0) ho).symm (fb_sm_cong (fun k _ => ?_))
    by_cases ek : k = o
    · subst ek
      rw [if_pos rfl]
      by_cases z : i < k ∧ seesS n c k = some i
      · rw [if_pos z, if_pos]
        rw [Bool.and_eq_true, mtl_iff, decide_eq_true_eq]
        exact ⟨⟨e, z.2⟩, z.1⟩
      · rw [if_neg z, if_neg]
        rw [Bool.and_eq_true, mtl_iff, decide_eq_true_eq]
        exact fun q => z ⟨q.2, q.1.2⟩
    · rw [if_neg ek, if_neg]
      rw [Bool.and_eq_true, mtl_iff, e]
      exact fun q => ek (Option.some.inj q.1.1).symm
theorem pr2_flip (ord : Nat → Nat → Bool) : pr2 n c ord = pr2 n c (fun i k => ord k i) := by
  unfold pr2
  rw [sm_swap]
  refine fb_sm_cong (fun i _ => fb_sm_cong (fun k _ => ?_))
  rw [mtl_comm]
theorem pr2_add (o1 o2 : Nat → Nat → Bool) (h : ∀ i k, i < n → k < n → mtl n c i k = true → ((o1 i k = true ∧ o2 i k = false) ∨ (o1 i k = false ∧ o2 i k = true))) : pr2 n c o1 + pr2 n c o2 = pr2 n c (fun _ _ => true) := by
  unfold pr2
  rw [← fb_sm_add]
  refine fb_sm_cong (fun i hi => ?_)
  rw [← fb_sm_add]
  refine fb_sm_cong (fun k hk => ?_)
  by_cases m : mtl n c i k = true
  · rcases h i k hi hk m with ⟨a, b⟩ | ⟨a, b⟩ <;> simp [m, a, b]
  · simp [m]
theorem mtl_ne (hG : Good n c) {i k : Nat} (hi : i < n) (hk : k < n) (h : mtl n c i k = true) : i ≠ k ∧ c i 0 ≠ c k 0 := by
  rw [mtl_iff] at h
  obtain ⟨-, -, -, e⟩ := sees_lt hG hi h.1
  have z := near_ne hG hi e
  have : c i 0 ≠ c k 0 := by rcases z with ⟨-, z⟩ | ⟨-, z⟩ <;> omega
  exact ⟨fun q => this (by rw [q]), this⟩
theorem pr2_same (hG : Good n c) : pr2 n c (fun i k => decide (i < k)) = pr2 n c (fun i k => decide (c k 0 < c i 0)) := by
  have a1 := pr2_add (n := n) (c := c) (fun i k => decide (i < k)) (fun i k => decide (k < i)) (fun i k hi hk m => by
    have z := (mtl_ne hG hi hk m).1
    by_cases q : i < k
    · exact Or.inl ⟨by simp [q], by simp; omega⟩
    · exact Or.inr ⟨by simp [q], by simp; omega⟩)
  have a2 := pr2_add (n := n) (c := c) (fun i k => decide (c k 0 < c i 0)) (fun i k => decide (c i 0 < c k 0)) (fun i k hi hk m => by
    have z := (mtl_ne hG hi hk m).2
    by_cases q : c k 0 < c i 0
    · exact Or.inl ⟨by simp [q], by simp; omega⟩
    · exact Or.inr ⟨by simp [q], by simp; omega⟩)
  have f1 := pr2_flip (n := n) (c := c) (fun i k => decide (i < k))
  have f2 := pr2_flip (n := n) (c := c) (fun i k => decide (c k 0 < c i 0))
  omega
/-- sums over places and over jars -/
theorem sm_places (hG : Good n c) (g : Nat → Nat) (hg : ∀ b, b < n → c b 7 = 2 → g b = 0) : fb_sm (fun q => match atS c q n with
  | some b => g b
  | none => 0) 8 = fb_sm g n := by
  have e1 : ∀ q, q < 8 → (match atS c q n with
      | some b => g b
      | none => 0) = fb_sm (fun b => if c b 0 = q then g b else 0) n := by
    intro q hq
    cases e : atS c q n with
    | none =>
      simp only
      refine Eq.trans (sm_none n).symm (fb_sm_cong (fun b hb => ?_))
      by_cases z : c b 0 = q
      · rw [if_pos z]
        have y := atS_none e b hb
        by_cases w : c b 7 = 2
        · exact (hg b hb w).symm
        · exact absurd ⟨w, z⟩ y
      · rw [if_neg z]
    | some p =>
      obtain ⟨hp, h7, h0⟩ := atS_some e
      simp only
      refine Eq.trans (sm_one (v := g p) hp).symm (fb_sm_cong (fun b hb => ?_))
      by_cases eb : b = p
      · rw [if_pos eb, eb, if_pos h0]
      · rw [if_neg eb]
        by_cases z : c b 0 = q
        · rw [if_pos z]
          by_cases w : c b 7 = 2
          · exact (hg b hb w).symm
          · exact absurd (hG.2.2 b p hb hp w h7 (by rw [z, h0])) eb
        · rw [if_neg z]
  rw [fb_sm_cong e1, sm_swap]
  refine fb_sm_cong (fun b hb => ?_)
  refine Eq.trans (fb_sm_cong (fun q _ => ?_)) (sm_one (v := g b) (hG.2.1 b hb).1)
  by_cases z : c b 0 = q
  · rw [if_pos z, if_pos z.symm]
  · rw [if_neg z, if_neg (fun y => z y.symm)]
theorem pc_2 (hG : Good n c) : pcS n c 8 = pr2 n c (fun i k => decide (c k 0 < c i 0)) := by
  have h := sm_places hG (fun b => fb_sm (fun k => if mtl n c b k && decide (c k 0 < c b 0) then 1 else 0) n) (fun b hb h2 => by
    refine Eq.trans (fb_sm_cong (fun k _ => ?_)) (sm_none n)
    rw [if_neg]
    intro z
    rw [Bool.and_eq_true, mtl_iff] at z
    obtain ⟨-, -, w, -⟩ := sees_lt hG hb z.1.1
    omega)
  unfold pr2
  rw [← h]
  unfold pcS
  refine fb_sm_cong (fun q hq => ?_)
  cases e : atS c q n with
  | none => rfl
  | some b =>
    obtain ⟨hb, h7, h0⟩ := atS_some e
    simp only
    subst h0
    cases es : scanL c n (c b 0) with
    | none =>
      simp only
      refine Eq.trans (sm_none n).symm (fb_sm_cong (fun k hk => ?_))
      rw [if_neg]
      intro z
      rw [Bool.and_eq_true, mtl_iff, decide_eq_true_eq] at z
      obtain ⟨hk', h7', -, en⟩ := sees_lt hG hb z.1.1
      exact scanL_none es k hk h7' z.2
    | some a =>
      obtain ⟨a1, a2, a3, a4⟩ := scanL_some es
      simp only
      refine Eq.trans (sm_one (v := if facing c a b = true then 1 else 0) a1).symm (fb_sm_cong (fun k hk => ?_))
      by_cases ek : k = a
      · subst ek
        rw [if_pos rfl]
        by_cases z : facing c k b = true
        · rw [if_pos z, if_pos]
          rw [Bool.and_eq_true, mtl_iff, decide_eq_true_eq]
          exact ⟨(facing_iff hG hb h7 es).mp z, a3⟩
        · rw [if_neg z, if_neg]
          rw [Bool.and_eq_true, mtl_iff, decide_eq_true_eq]
          exact fun y => z ((facing_iff hG hb h7 es).mpr y.1)
      · rw [if_neg ek, if_neg]
        rw [Bool.and_eq_true, mtl_iff, decide_eq_true_eq]
        intro y
        obtain ⟨-, -, -, en⟩ := sees_lt hG hb y.1.1
        have l1 : c b 6 = 0 := by
          rcases near_ne hG hb en with ⟨w, -⟩ | ⟨-, w⟩
          · exact w
          · omega
        unfold nearS at en
        rw [if_pos l1, es] at en
        exact ek (Option.some.inj en).symm
/-- the two ways to count the pairs -/
theorem pairs_eq (hG : Good n c) : pcS n c 8 = pmS n c n := by rw [pc_2 hG, pm_2 hG, pr2_same hG]
end PAIRS
