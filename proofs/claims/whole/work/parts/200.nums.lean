/-! PURE: numbers, checks, binds -/
theorem li0 (n : Nat) : (OfNat.ofNat n : Int32) = nI n := rfl
theorem li (n : Nat) : (OfNat.ofNat n : Int32) = nI n := Int32.toInt_inj.mp (congrArg Int32.toInt (li0 n))
theorem gIn_t {k n : Nat} (h : k < n) (hn : n < 2 ^ 31) : gIn (nI k) n = true := by
  unfold gIn
  rw [nI_clamp (Nat.lt_trans h hn)]
  simp [h, nI_pos (Nat.lt_trans h hn)]
theorem gChk_t {α : Type} (k : Option α) : gChk true k = k := rfl
theorem gBl_0 : gBl (nI 0) = true := by decide
theorem gBl_1 : gBl (nI 1) = true := by decide
theorem gB1_s {α1 β : Type} (a1 : α1) (k : α1 → Option β) : gB1 (some a1) k = k a1 := rfl
theorem gB2_s {α1 α2 β : Type} (a1 : α1) (a2 : α2) (k : α1 → α2 → Option β) : gB2 (some (a1, a2)) k = k a1 a2 := rfl
theorem gB3_s {α1 α2 α3 β : Type} (a1 : α1) (a2 : α2) (a3 : α3) (k : α1 → α2 → α3 → Option β) : gB3 (some (a1, a2, a3)) k = k a1 a2 a3 := rfl
theorem gB4_s {α1 α2 α3 α4 β : Type} (a1 : α1) (a2 : α2) (a3 : α3) (a4 : α4) (k : α1 → α2 → α3 → α4 → Option β) : gB4 (some (a1, a2, a3, a4)) k = k a1 a2 a3 a4 := rfl
theorem gB5_s {α1 α2 α3 α4 α5 β : Type} (a1 : α1) (a2 : α2) (a3 : α3) (a4 : α4) (a5 : α5) (k : α1 → α2 → α3 → α4 → α5 → Option β) : gB5 (some (a1, a2, a3, a4, a5)) k = k a1 a2 a3 a4 a5 := rfl
theorem gB6_s {α1 α2 α3 α4 α5 α6 β : Type} (a1 : α1) (a2 : α2) (a3 : α3) (a4 : α4) (a5 : α5) (a6 : α6) (k : α1 → α2 → α3 → α4 → α5 → α6 → Option β) : gB6 (some (a1, a2, a3, a4, a5, a6)) k = k a1 a2 a3 a4 a5 a6 := rfl
theorem gB7_s {α1 α2 α3 α4 α5 α6 α7 β : Type} (a1 : α1) (a2 : α2) (a3 : α3) (a4 : α4) (a5 : α5) (a6 : α6) (a7 : α7) (k : α1 → α2 → α3 → α4 → α5 → α6 → α7 → Option β) : gB7 (some (a1, a2, a3, a4, a5, a6, a7)) k = k a1 a2 a3 a4 a5 a6 a7 := rfl
theorem gB8_s {α1 α2 α3 α4 α5 α6 α7 α8 β : Type} (a1 : α1) (a2 : α2) (a3 : α3) (a4 : α4) (a5 : α5) (a6 : α6) (a7 : α7) (a8 : α8) (k : α1 → α2 → α3 → α4 → α5 → α6 → α7 → α8 → Option β) : gB8 (some (a1, a2, a3, a4, a5, a6, a7, a8)) k = k a1 a2 a3 a4 a5 a6 a7 a8 := rfl
theorem gB9_s {α1 α2 α3 α4 α5 α6 α7 α8 α9 β : Type} (a1 : α1) (a2 : α2) (a3 : α3) (a4 : α4) (a5 : α5) (a6 : α6) (a7 : α7) (a8 : α8) (a9 : α9) (k : α1 → α2 → α3 → α4 → α5 → α6 → α7 → α8 → α9 → Option β) : gB9 (some (a1, a2, a3, a4, a5, a6, a7, a8, a9)) k = k a1 a2 a3 a4 a5 a6 a7 a8 a9 := rfl
theorem gB10_s {α1 α2 α3 α4 α5 α6 α7 α8 α9 α10 β : Type} (a1 : α1) (a2 : α2) (a3 : α3) (a4 : α4) (a5 : α5) (a6 : α6) (a7 : α7) (a8 : α8) (a9 : α9) (a10 : α10) (k : α1 → α2 → α3 → α4 → α5 → α6 → α7 → α8 → α9 → α10 → Option β) : gB10 (some (a1, a2, a3, a4, a5, a6, a7, a8, a9, a10)) k = k a1 a2 a3 a4 a5 a6 a7 a8 a9 a10 := rfl
theorem gB11_s {α1 α2 α3 α4 α5 α6 α7 α8 α9 α10 α11 β : Type} (a1 : α1) (a2 : α2) (a3 : α3) (a4 : α4) (a5 : α5) (a6 : α6) (a7 : α7) (a8 : α8) (a9 : α9) (a10 : α10) (a11 : α11) (k : α1 → α2 → α3 → α4 → α5 → α6 → α7 → α8 → α9 → α10 → α11 → Option β) : gB11 (some (a1, a2, a3, a4, a5, a6, a7, a8, a9, a10, a11)) k = k a1 a2 a3 a4 a5 a6 a7 a8 a9 a10 a11 := rfl
theorem gB12_s {α1 α2 α3 α4 α5 α6 α7 α8 α9 α10 α11 α12 β : Type} (a1 : α1) (a2 : α2) (a3 : α3) (a4 : α4) (a5 : α5) (a6 : α6) (a7 : α7) (a8 : α8) (a9 : α9) (a10 : α10) (a11 : α11) (a12 : α12) (k : α1 → α2 → α3 → α4 → α5 → α6 → α7 → α8 → α9 → α10 → α11 → α12 → Option β) : gB12 (some (a1, a2, a3, a4, a5, a6, a7, a8, a9, a10, a11, a12)) k = k a1 a2 a3 a4 a5 a6 a7 a8 a9 a10 a11 a12 := rfl
theorem t31 {a : Nat} (h : a < 1000000) : a < 2 ^ 31 := by omega
theorem ne9 {a : Nat} (h : a < 2 ^ 31) : ¬ nI a = -nI 9 := by
  intro e
  have h1 := congrArg Int32.toInt e
  rw [nI_toInt h] at h1
  rw [show (-nI 9 : Int32).toInt = -9 from by decide] at h1
  omega
theorem ne9' {a : Nat} (h : a < 2 ^ 31) : ¬ -nI 9 = nI a := fun e => ne9 h e.symm
theorem remN {a d : Nat} (ha : a < 2 ^ 31) (h0 : 0 < d) (hd : d < 2 ^ 31) : nI a - nI a / nI d * nI d = nI (a % d) := pk_rem ha h0 hd
/-- the jars: jar, part -/
def XR (n : Nat) (c : Nat → Nat → Nat) (f : Nat → Int32) : Prop := ∀ j, j < n → ∀ p, p < 8 → f (8 * j + p) = nI (c j p)
def MR (n : Nat) (c : Nat → Nat → Nat) (kd sz p : Nat → Int32) : Prop := ∀ j, j < n → p j = nI (c j 0) ∧ p (6 + j) = nI (c j 1) ∧ p (12 + j) = nI (c j 2) ∧ kd j = nI (c j 3) ∧ sz j = nI (c j 4) ∧ p (18 + j) = nI (c j 5) ∧ p (24 + j) = nI (c j 6) ∧ p (30 + j) = nI (c j 7)
/-- what every shelf keeps to -/
def Good (n : Nat) (c : Nat → Nat → Nat) : Prop := n ≤ 6 ∧ (∀ j, j < n → c j 0 < 8 ∧ c j 1 ≤ 9 ∧ c j 2 ≤ 3 ∧ c j 3 ≤ 3 ∧ 1 ≤ c j 4 ∧ c j 4 ≤ 9 ∧ c j 5 ≤ 9 ∧ c j 6 ≤ 3 ∧ c j 7 ≤ 2) ∧ ∀ i j, i < n → j < n → c i 7 ≠ 2 → c j 7 ≠ 2 → c i 0 = c j 0 → i = j
section PM
variable {n : Nat} {c : Nat → Nat → Nat} {kd sz p : Nat → Int32} {j : Nat}
theorem MR.p0 (h : MR n c kd sz p) (hj : j < n) : p j = nI (c j 0) := (h j hj).1
theorem MR.p1 (h : MR n c kd sz p) (hj : j < n) : p (6 + j) = nI (c j 1) := (h j hj).2.1
theorem MR.p2 (h : MR n c kd sz p) (hj : j < n) : p (12 + j) = nI (c j 2) := (h j hj).2.2.1
theorem MR.p3 (h : MR n c kd sz p) (hj : j < n) : kd j = nI (c j 3) := (h j hj).2.2.2.1
theorem MR.p4 (h : MR n c kd sz p) (hj : j < n) : sz j = nI (c j 4) := (h j hj).2.2.2.2.1
theorem MR.p5 (h : MR n c kd sz p) (hj : j < n) : p (18 + j) = nI (c j 5) := (h j hj).2.2.2.2.2.1
theorem MR.p6 (h : MR n c kd sz p) (hj : j < n) : p (24 + j) = nI (c j 6) := (h j hj).2.2.2.2.2.2.1
theorem MR.p7 (h : MR n c kd sz p) (hj : j < n) : p (30 + j) = nI (c j 7) := (h j hj).2.2.2.2.2.2.2
end PM
theorem Good.n6 {n : Nat} {c : Nat → Nat → Nat} (h : Good n c) : n ≤ 6 := h.1
section PP
variable {f : Nat → Int32} {j p : Nat}
theorem part_eq (hj : j < 6) (hp : p < 8) : x2_part f (nI j) (nI p) = some (f (8 * j + p)) := by
  unfold x2_part
  simp (disch := omega) only [li, nI_ltI, nI_leI, pk_mul, nI_add, nI_clamp, gIn_t, gChk_t]
  rw [if_neg (by omega), if_neg (by omega), if_neg (by omega), if_pos hp]
  rw [Nat.mul_comm j 8]
theorem put_eq (hj : j < 6) (hp : p < 8) (x : Int32) : x2_put f (nI j) (nI p) x = some (upd f (8 * j + p) x) := by
  unfold x2_put
  simp (disch := omega) only [li, nI_ltI, nI_leI, pk_mul, nI_add, nI_clamp, gIn_t, gChk_t]
  rw [if_neg (by omega), if_neg (by omega), if_neg (by omega), if_neg (by omega)]
  rw [Nat.mul_comm j 8]
variable {n : Nat} {c : Nat → Nat → Nat}
theorem partX (hX : XR n c f) (hj : j < n) (hn : n ≤ 6) (hp : p < 8) : x2_part f (nI j) (nI p) = some (nI (c j p)) := by
  rw [part_eq (by omega) hp, hX j hj p hp]
theorem hasX (hj : j < n) (hn : n ≤ 6) : x2_has (nI n) (nI j) = some (nI 1) := by
  unfold x2_has
  simp (disch := omega) only [li, nI_ltI, nI_leI]
  rw [if_neg (by omega), if_neg (by omega)]
theorem wholeX_t (hX : XR n c f) (hj : j < n) (hn : n ≤ 6) (h : c j 7 = 0) : x2_isWhole (nI n) f (nI j) = some (nI 1) := by
  unfold x2_isWhole
  simp (disch := omega) only [li, hasX, gB1_s, partX hX, nI_eq, h]
  rfl
theorem wholeX_f (hX : XR n c f) (hj : j < n) (hn : n ≤ 6) (hg : c j 7 ≤ 2) (h : ¬ c j 7 = 0) : x2_isWhole (nI n) f (nI j) = some (nI 0) := by
  unfold x2_isWhole
  simp (disch := omega) only [li, hasX, gB1_s, partX hX, nI_eq, h]
  rfl
variable {kd sz : Nat → Int32} {pg : Nat → Int32}
theorem wholeM_t (hM : MR n c kd sz pg) (hj : j < n) (hn : n ≤ 6) (h : c j 7 = 0) : x8_isWhole pg (nI j) = some (nI 1) := by
  unfold x8_isWhole
  simp (disch := omega) only [li, nI_add, nI_clamp, gIn_t, gChk_t, hM.p7, nI_eq, h]
  rfl
theorem wholeM_f (hM : MR n c kd sz pg) (hj : j < n) (hn : n ≤ 6) (hg : c j 7 ≤ 2) (h : ¬ c j 7 = 0) : x8_isWhole pg (nI j) = some (nI 0) := by
  unfold x8_isWhole
  simp (disch := omega) only [li, nI_add, nI_clamp, gIn_t, gChk_t, hM.p7, nI_eq, h]
  rfl
end PP
