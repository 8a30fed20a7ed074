/-! my own words for the walks: checks, binds, the two kinds of contract, one row a call -/
def gIn (i : Int32) (n : Nat) : Bool := !decide (i < 0) && decide (i.toNatClampNeg < n)
theorem gIn_vp {i : Int32} {n : Nat} (h : gIn i n = true) : vp_in i n := by
  unfold gIn at h
  simp only [Bool.and_eq_true, Bool.not_eq_true', decide_eq_false_iff_not, decide_eq_true_eq] at h
  intro q
  rcases q with q | q
  · exact h.1 q
  · omega
def gNz (i : Int32) : Bool := !decide (i = 0)
theorem gNz_ne {i : Int32} (h : gNz i = true) : ¬ i = 0 := by
  unfold gNz at h
  simpa using h
def gNzL (i : Int64) : Bool := !decide (i = 0)
theorem gNzL_ne {i : Int64} (h : gNzL i = true) : ¬ i = 0 := by
  unfold gNzL at h
  simpa using h
def gBl (i : Int32) : Bool := decide (i = 0) || decide (i = 1)
theorem gBl_or {i : Int32} (h : gBl i = true) : narrow .boolean (.int i) = .int i := by
  unfold gBl at h
  simp only [Bool.or_eq_true, decide_eq_true_eq] at h
  rcases h with h | h <;> subst h <;> decide +kernel
def gChk {α : Type} (b : Bool) (k : Option α) : Option α := match b with
  | true => k
  | false => none
theorem g_chk {α : Type} {b : Bool} {k : Option α} {r : α} (h : gChk b k = some r) : b = true ∧ k = some r := by
  cases b
  · cases h
  · exact ⟨rfl, h⟩
theorem g_pos {c : Prop} [Decidable c] {α : Type} {a b : Option α} {r : α} (h : c) (e : (if c then a else b) = some r) : a = some r := by
  rwa [if_pos h] at e
theorem g_neg {c : Prop} [Decidable c] {α : Type} {a b : Option α} {r : α} (h : ¬ c) (e : (if c then a else b) = some r) : b = some r := by
  rwa [if_neg h] at e
theorem g_no {α : Type} {r : α} {P : Prop} (h : (none : Option α) = some r) : P := by cases h
def gB1 {α1 β : Type} (o : Option (α1)) (k : α1 → Option β) : Option β := match o with
  | some a1 => k a1
  | none => none
theorem g_b1 {α1 β : Type} {o : Option (α1)} {k : α1 → Option β} {r : β} (h : gB1 o k = some r) : ∃ a1, o = some a1 ∧ k a1 = some r := by
  cases o with
  | none => cases h
  | some q => exact ⟨q, rfl, h⟩
def gB2 {α1 α2 β : Type} (o : Option (α1 × α2)) (k : α1 → α2 → Option β) : Option β := match o with
  | some (a1, a2) => k a1 a2
  | none => none
theorem g_b2 {α1 α2 β : Type} {o : Option (α1 × α2)} {k : α1 → α2 → Option β} {r : β} (h : gB2 o k = some r) : ∃ a1 a2, o = some (a1, a2) ∧ k a1 a2 = some r := by
  cases o with
  | none => cases h
  | some q => exact ⟨q.1, q.2, rfl, h⟩
def gB3 {α1 α2 α3 β : Type} (o : Option (α1 × α2 × α3)) (k : α1 → α2 → α3 → Option β) : Option β := match o with
  | some (a1, a2, a3) => k a1 a2 a3
  | none => none
theorem g_b3 {α1 α2 α3 β : Type} {o : Option (α1 × α2 × α3)} {k : α1 → α2 → α3 → Option β} {r : β} (h : gB3 o k = some r) : ∃ a1 a2 a3, o = some (a1, a2, a3) ∧ k a1 a2 a3 = some r := by
  cases o with
  | none => cases h
  | some q => exact ⟨q.1, q.2.1, q.2.2, rfl, h⟩
def gB4 {α1 α2 α3 α4 β : Type} (o : Option (α1 × α2 × α3 × α4)) (k : α1 → α2 → α3 → α4 → Option β) : Option β := match o with
  | some (a1, a2, a3, a4) => k a1 a2 a3 a4
  | none => none
theorem g_b4 {α1 α2 α3 α4 β : Type} {o : Option (α1 × α2 × α3 × α4)} {k : α1 → α2 → α3 → α4 → Option β} {r : β} (h : gB4 o k = some r) : ∃ a1 a2 a3 a4, o = some (a1, a2, a3, a4) ∧ k a1 a2 a3 a4 = some r := by
  cases o with
  | none => cases h
  | some q => exact ⟨q.1, q.2.1, q.2.2.1, q.2.2.2, rfl, h⟩
def gB5 {α1 α2 α3 α4 α5 β : Type} (o : Option (α1 × α2 × α3 × α4 × α5)) (k : α1 → α2 → α3 → α4 → α5 → Option β) : Option β := match o with
  | some (a1, a2, a3, a4, a5) => k a1 a2 a3 a4 a5
  | none => none
theorem g_b5 {α1 α2 α3 α4 α5 β : Type} {o : Option (α1 × α2 × α3 × α4 × α5)} {k : α1 → α2 → α3 → α4 → α5 → Option β} {r : β} (h : gB5 o k = some r) : ∃ a1 a2 a3 a4 a5, o = some (a1, a2, a3, a4, a5) ∧ k a1 a2 a3 a4 a5 = some r := by
  cases o with
  | none => cases h
  | some q => exact ⟨q.1, q.2.1, q.2.2.1, q.2.2.2.1, q.2.2.2.2, rfl, h⟩
def gB6 {α1 α2 α3 α4 α5 α6 β : Type} (o : Option (α1 × α2 × α3 × α4 × α5 × α6)) (k : α1 → α2 → α3 → α4 → α5 → α6 → Option β) : Option β := match o with
  | some (a1, a2, a3, a4, a5, a6) => k a1 a2 a3 a4 a5 a6
  | none => none
theorem g_b6 {α1 α2 α3 α4 α5 α6 β : Type} {o : Option (α1 × α2 × α3 × α4 × α5 × α6)} {k : α1 → α2 → α3 → α4 → α5 → α6 → Option β} {r : β} (h : gB6 o k = some r) : ∃ a1 a2 a3 a4 a5 a6, o = some (a1, a2, a3, a4, a5, a6) ∧ k a1 a2 a3 a4 a5 a6 = some r := by
  cases o with
  | none => cases h
  | some q => exact ⟨q.1, q.2.1, q.2.2.1, q.2.2.2.1, q.2.2.2.2.1, q.2.2.2.2.2, rfl, h⟩
def gB7 {α1 α2 α3 α4 α5 α6 α7 β : Type} (o : Option (α1 × α2 × α3 × α4 × α5 × α6 × α7)) (k : α1 → α2 → α3 → α4 → α5 → α6 → α7 → Option β) : Option β := match o with
  | some (a1, a2, a3, a4, a5, a6, a7) => k a1 a2 a3 a4 a5 a6 a7
  | none => none
theorem g_b7 {α1 α2 α3 α4 α5 α6 α7 β : Type} {o : Option (α1 × α2 × α3 × α4 × α5 × α6 × α7)} {k : α1 → α2 → α3 → α4 → α5 → α6 → α7 → Option β} {r : β} (h : gB7 o k = some r) : ∃ a1 a2 a3 a4 a5 a6 a7, o = some (a1, a2, a3, a4, a5, a6, a7) ∧ k a1 a2 a3 a4 a5 a6 a7 = some r := by
  cases o with
  | none => cases h
  | some q => exact ⟨q.1, q.2.1, q.2.2.1, q.2.2.2.1, q.2.2.2.2.1, q.2.2.2.2.2.1, q.2.2.2.2.2.2, rfl, h⟩
def gB8 {α1 α2 α3 α4 α5 α6 α7 α8 β : Type} (o : Option (α1 × α2 × α3 × α4 × α5 × α6 × α7 × α8)) (k : α1 → α2 → α3 → α4 → α5 → α6 → α7 → α8 → Option β) : Option β := match o with
  | some (a1, a2, a3, a4, a5, a6, a7, a8) => k a1 a2 a3 a4 a5 a6 a7 a8
  | none => none
theorem g_b8 {α1 α2 α3 α4 α5 α6 α7 α8 β : Type} {o : Option (α1 × α2 × α3 × α4 × α5 × α6 × α7 × α8)} {k : α1 → α2 → α3 → α4 → α5 → α6 → α7 → α8 → Option β} {r : β} (h : gB8 o k = some r) : ∃ a1 a2 a3 a4 a5 a6 a7 a8, o = some (a1, a2, a3, a4, a5, a6, a7, a8) ∧ k a1 a2 a3 a4 a5 a6 a7 a8 = some r := by
  cases o with
  | none => cases h
  | some q => exact ⟨q.1, q.2.1, q.2.2.1, q.2.2.2.1, q.2.2.2.2.1, q.2.2.2.2.2.1, q.2.2.2.2.2.2.1, q.2.2.2.2.2.2.2, rfl, h⟩
def gB9 {α1 α2 α3 α4 α5 α6 α7 α8 α9 β : Type} (o : Option (α1 × α2 × α3 × α4 × α5 × α6 × α7 × α8 × α9)) (k : α1 → α2 → α3 → α4 → α5 → α6 → α7 → α8 → α9 → Option β) : Option β := match o with
  | some (a1, a2, a3, a4, a5, a6, a7, a8, a9) => k a1 a2 a3 a4 a5 a6 a7 a8 a9
  | none => none
theorem g_b9 {α1 α2 α3 α4 α5 α6 α7 α8 α9 β : Type} {o : Option (α1 × α2 × α3 × α4 × α5 × α6 × α7 × α8 × α9)} {k : α1 → α2 → α3 → α4 → α5 → α6 → α7 → α8 → α9 → Option β} {r : β} (h : gB9 o k = some r) : ∃ a1 a2 a3 a4 a5 a6 a7 a8 a9, o = some (a1, a2, a3, a4, a5, a6, a7, a8, a9) ∧ k a1 a2 a3 a4 a5 a6 a7 a8 a9 = some r := by
  cases o with
  | none => cases h
  | some q => exact ⟨q.1, q.2.1, q.2.2.1, q.2.2.2.1, q.2.2.2.2.1, q.2.2.2.2.2.1, q.2.2.2.2.2.2.1, q.2.2.2.2.2.2.2.1, q.2.2.2.2.2.2.2.2, rfl, h⟩
def gB10 {α1 α2 α3 α4 α5 α6 α7 α8 α9 α10 β : Type} (o : Option (α1 × α2 × α3 × α4 × α5 × α6 × α7 × α8 × α9 × α10)) (k : α1 → α2 → α3 → α4 → α5 → α6 → α7 → α8 → α9 → α10 → Option β) : Option β := match o with
  | some (a1, a2, a3, a4, a5, a6, a7, a8, a9, a10) => k a1 a2 a3 a4 a5 a6 a7 a8 a9 a10
  | none => none
theorem g_b10 {α1 α2 α3 α4 α5 α6 α7 α8 α9 α10 β : Type} {o : Option (α1 × α2 × α3 × α4 × α5 × α6 × α7 × α8 × α9 × α10)} {k : α1 → α2 → α3 → α4 → α5 → α6 → α7 → α8 → α9 → α10 → Option β} {r : β} (h : gB10 o k = some r) : ∃ a1 a2 a3 a4 a5 a6 a7 a8 a9 a10, o = some (a1, a2, a3, a4, a5, a6, a7, a8, a9, a10) ∧ k a1 a2 a3 a4 a5 a6 a7 a8 a9 a10 = some r := by
  cases o with
  | none => cases h
  | some q => exact ⟨q.1, q.2.1, q.2.2.1, q.2.2.2.1, q.2.2.2.2.1, q.2.2.2.2.2.1, q.2.2.2.2.2.2.1, q.2.2.2.2.2.2.2.1, q.2.2.2.2.2.2.2.2.1, q.2.2.2.2.2.2.2.2.2, rfl, h⟩
def gB11 {α1 α2 α3 α4 α5 α6 α7 α8 α9 α10 α11 β : Type} (o : Option (α1 × α2 × α3 × α4 × α5 × α6 × α7 × α8 × α9 × α10 × α11)) (k : α1 → α2 → α3 → α4 → α5 → α6 → α7 → α8 → α9 → α10 → α11 → Option β) : Option β := match o with
  | some (a1, a2, a3, a4, a5, a6, a7, a8, a9, a10, a11) => k a1 a2 a3 a4 a5 a6 a7 a8 a9 a10 a11
  | none => none
theorem g_b11 {α1 α2 α3 α4 α5 α6 α7 α8 α9 α10 α11 β : Type} {o : Option (α1 × α2 × α3 × α4 × α5 × α6 × α7 × α8 × α9 × α10 × α11)} {k : α1 → α2 → α3 → α4 → α5 → α6 → α7 → α8 → α9 → α10 → α11 → Option β} {r : β} (h : gB11 o k = some r) : ∃ a1 a2 a3 a4 a5 a6 a7 a8 a9 a10 a11, o = some (a1, a2, a3, a4, a5, a6, a7, a8, a9, a10, a11) ∧ k a1 a2 a3 a4 a5 a6 a7 a8 a9 a10 a11 = some r := by
  cases o with
  | none => cases h
  | some q => exact ⟨q.1, q.2.1, q.2.2.1, q.2.2.2.1, q.2.2.2.2.1, q.2.2.2.2.2.1, q.2.2.2.2.2.2.1, q.2.2.2.2.2.2.2.1, q.2.2.2.2.2.2.2.2.1, q.2.2.2.2.2.2.2.2.2.1, q.2.2.2.2.2.2.2.2.2.2, rfl, h⟩
def gB12 {α1 α2 α3 α4 α5 α6 α7 α8 α9 α10 α11 α12 β : Type} (o : Option (α1 × α2 × α3 × α4 × α5 × α6 × α7 × α8 × α9 × α10 × α11 × α12)) (k : α1 → α2 → α3 → α4 → α5 → α6 → α7 → α8 → α9 → α10 → α11 → α12 → Option β) : Option β := match o with
  | some (a1, a2, a3, a4, a5, a6, a7, a8, a9, a10, a11, a12) => k a1 a2 a3 a4 a5 a6 a7 a8 a9 a10 a11 a12
  | none => none
theorem g_b12 {α1 α2 α3 α4 α5 α6 α7 α8 α9 α10 α11 α12 β : Type} {o : Option (α1 × α2 × α3 × α4 × α5 × α6 × α7 × α8 × α9 × α10 × α11 × α12)} {k : α1 → α2 → α3 → α4 → α5 → α6 → α7 → α8 → α9 → α10 → α11 → α12 → Option β} {r : β} (h : gB12 o k = some r) : ∃ a1 a2 a3 a4 a5 a6 a7 a8 a9 a10 a11 a12, o = some (a1, a2, a3, a4, a5, a6, a7, a8, a9, a10, a11, a12) ∧ k a1 a2 a3 a4 a5 a6 a7 a8 a9 a10 a11 a12 = some r := by
  cases o with
  | none => cases h
  | some q => exact ⟨q.1, q.2.1, q.2.2.1, q.2.2.2.1, q.2.2.2.2.1, q.2.2.2.2.2.1, q.2.2.2.2.2.2.1, q.2.2.2.2.2.2.2.1, q.2.2.2.2.2.2.2.2.1, q.2.2.2.2.2.2.2.2.2.1, q.2.2.2.2.2.2.2.2.2.2.1, q.2.2.2.2.2.2.2.2.2.2.2, rfl, h⟩
theorem gIn_lt {i : Int32} {n : Nat} (h : gIn i n = true) : i.toNatClampNeg < n := by
  unfold gIn at h
  simp only [Bool.and_eq_true, decide_eq_true_eq] at h
  exact h.2
/-- rows of a grid: where they are, and one row set -/
def gRf (n : Nat) (r : Nat → Nat) : Nat → Option Nat := fun i => if i < n then some (r i) else none
def gSet (M : Nat → Nat → Int32) (k : Nat) (x : Nat → Int32) : Nat → Nat → Int32 := fun j => if j = k then x else M j
theorem gCase2 {k : Nat} (h : k < 2) : k = 0 ∨ k = 1 := by omega
theorem gCase14 {k : Nat} (h : k < 14) : k = 0 ∨ k = 1 ∨ k = 2 ∨ k = 3 ∨ k = 4 ∨ k = 5 ∨ k = 6 ∨ k = 7 ∨ k = 8 ∨ k = 9 ∨ k = 10 ∨ k = 11 ∨ k = 12 ∨ k = 13 := by omega
/-- the nest's links -/
def gNL : List (String × Nat × MethodName × String) := [("GreenJars", 9, ⟨"GreenJars$Text", "<init>", "()V"⟩, "GreenJars"), ("GreenJars", 18, ⟨"GreenJars$Shelf", "<init>", "()V"⟩, "GreenJars"), ("GreenJars", 28, ⟨"GreenJars$Acts", "<init>", "()V"⟩, "GreenJars"), ("GreenJars", 35, ⟨"GreenJars$Slots", "<init>", "()V"⟩, "GreenJars"), ("GreenJars", 42, ⟨"GreenJars$Tastes", "<init>", "()V"⟩, "GreenJars"), ("GreenJars", 49, ⟨"GreenJars$Ways", "<init>", "()V"⟩, "GreenJars"), ("GreenJars", 56, ⟨"GreenJars$Fraction", "<init>", "()V"⟩, "GreenJars"), ("GreenJars$Text", 33, ⟨"GreenJars", "isPlace", "(I)Z"⟩, "GreenJars"), ("GreenJars$Text", 37, ⟨"GreenJars", "isIn", "(II)Z"⟩, "GreenJars"), ("GreenJars$Text", 40, ⟨"GreenJars", "isFigure", "(I)Z"⟩, "GreenJars"), ("GreenJars$Text", 43, ⟨"GreenJars", "isStuff", "(I)Z"⟩, "GreenJars"), ("GreenJars$Shelf", 76, ⟨"GreenJars", "isPlace", "(I)Z"⟩, "GreenJars"), ("GreenJars$Shelf", 61, ⟨"GreenJars", "ripened", "(II)I"⟩, "GreenJars"), ("GreenJars$Shelf", 83, ⟨"GreenJars", "isStuff", "(I)Z"⟩, "GreenJars"), ("GreenJars$Shelf", 47, ⟨"GreenJars", "isIn", "(II)Z"⟩, "GreenJars"), ("GreenJars$Tastes", 30, ⟨"GreenJars", "ripened", "(II)I"⟩, "GreenJars")]
def gNW (U : State) : Prop := ∀ q ∈ gNL, va_Nw (.methodLinkNest q.1 q.2.1 q.2.2.1 q.2.2.2) U
theorem gNW.warm {s U : State} (hW : s.WarmedH U.vm) (h : gNW s) : gNW U := fun q hq => va_Nw.warmM hW (h q hq)
theorem gNW.same {s U : State} (e : s.vm = U.vm) (h : gNW s) : gNW U := fun q hq => va_Nw.same rfl e (h q hq)
abbrev gT (cI cZ cG : ClassId) : List (ClassId × FieldType) := [(cI, .int), (cZ, .boolean), (cG, .array .int)]
/-- a reading method's start -/
def gR (D : va_G) (cl : List vw_C) (tys : List (ClassId × FieldType)) (ws : va_W) (U : State) : Prop := va_P D cl ws U.heap ∧ va_K D cl tys U ∧ gNW U
/-- a writing method's start -/
def gW (D : va_G) (cl : List vw_C) (tys : List (ClassId × FieldType)) (ws : va_W) (sz : Nat) (U : State) : Prop := U.heap.size = sz ∧ va_P D cl ws U.heap ∧ va_K D cl tys U ∧ gNW U ∧ va_D (fun _ => True) ws
/-- a writing method's end -/
def gE (D : va_G) (cl : List vw_C) (tys : List (ClassId × FieldType)) (ws : va_W) (A : Nat → Prop) (_ : Unit) (t : State) : Prop := va_P D cl ws t.heap ∧ va_K D cl tys t ∧ va_D A ws
theorem gR_blind {av : List Value} {D : va_G} {cl : List vw_C} {tys : List (ClassId × FieldType)} {ws : va_W} : FrameBlind (va_Pc av (gR D cl tys ws)) := fun a U g mk q => by
  obtain ⟨q0, qP, qK, qN⟩ := q
  exact ⟨q0, qP, va_K.moved (u := U) (U := U.calling g mk a) (Vm.Alike.refl U.vm) qK, gNW.same rfl qN⟩
theorem gW_blind {av : List Value} {D : va_G} {cl : List vw_C} {tys : List (ClassId × FieldType)} {ws : va_W} {sz : Nat} : FrameBlind (va_Pc av (gW D cl tys ws sz)) := fun a U g mk q => by
  obtain ⟨q0, qs, qP, qK, qN, qD⟩ := q
  exact ⟨q0, qs, qP, va_K.moved (u := U) (U := U.calling g mk a) (Vm.Alike.refl U.vm) qK, gNW.same rfl qN, qD⟩
theorem gRun {p : Program} {l : Launch} {e : Env} {R : Room} {s : State} {m : MethodId} {args : Array Value} {below : List Frame} {meth : Method} {c : Code} {H : Heap} {locs : List Loc} {cells slots mc ms : Nat} {g : JFrame} {rest : List Value} {Qa : State → Outcome → State → Prop} {free : Addr → Prop} (h : va_Run p l e R s m args below meth c H locs cells slots mc ms g rest Qa free) : CallRun p l e R s m args below meth c H locs cells slots mc ms g rest Qa free := fun T hT X => by
  obtain ⟨v, st₀, t, T', L, h1, h2, h3, h4, -, h6, h7⟩ := h T hT X
  exact ⟨v, st₀, t, T', L, h1, h2, h3, h4, h6, h7⟩
theorem g_aldA {p : Program} {l : Launch} {e : Env} {R : Room} {s : State} {m : MethodId} {args : Array Value} {below : List Frame} {meth : Method} {c : Code} {H : Heap} {locs : List Loc} {cells slots : Nat} {Q : State → Prop} {cc : ByteArray} {pc : Nat} {ls : Array Slot} {rest : List Value} {D : va_G} {cl : List vw_C} {a : Nat} {tys : List (ClassId × FieldType)} {ws : va_W} (hexec : p.tables.exec = Jvm.exec) (hb : c.code = cc) (hK : va_K D cl tys s) (hP : va_P D cl ws H) (q0 t0 : Nat) {cA : ClassId} {ty : FieldType} {n : Nat} {f : Nat → Option Nat} (ha : ws[q0]? = some (a, .inl (cA, n, .inr (.inr (.inr (.inr f)))))) (ht : tys[t0]? = some (cA, .array ty)) {i : Int32} (hin : vp_in i n) (hdg : decode cc pc = .ok (.aaload, 1))
    (kk : W p l e R s m args below meth c H locs cells slots Q (F0 m (pc + 1) ls (va_rf (f i.toNatClampNeg) :: rest))) : W p l e R s m args below meth c H locs cells slots Q (F0 m pc ls (.int i :: .ref a :: rest)) := by
  have hlt : i.toNatClampNeg < n := Nat.not_le.mp fun q => hin (Or.inr q)
  exact W.aald (v := va_rf (f i.toNatClampNeg)) (ty := .array ty) hexec hb (hP q0 _ ha) ((hK.2 t0 _ ht).1 n (fun j => va_rf (f j))) rfl (fun q => by cases q) (by show ¬ (i < 0 ∨ (arrV _ _ _).slots.size ≤ _); rw [arrV_size]; exact hin) (by show (arrV _ _ _).slots[_]? = _; rw [arrV_read _ _ hlt]) rfl rfl hdg kk
/-- the table of orders: a static row that nobody writes -/
def gOrd (j : Nat) : Int32 := match j with
  | 0 => 1
  | 1 => 1
  | 2 => 2
  | 3 => 6
  | 4 => 24
  | 5 => 120
  | 6 => 720
  | _ => 0
def gO (t : Nat) (A : Nat → Prop) (U : State) : Prop := va_Z "GreenJars" "ORDERS" "[I" (.ref t) A U U.heap ∧ va_T .int t 7 (fun j => .int (gOrd j)) A U U.heap
theorem gO.to {t : Nat} {A B : Nat → Prop} {s U : State} {H : Heap} {locs : List Loc} (h : gO t A s) (hS : va_S A s.heap H locs) (hU : U.heap = H) (hvm : s.vm.Alike U.vm) (hAB : ∀ q, B q → A q) : gO t B U := by
  subst hU
  exact ⟨(va_Z.moved hvm (h.1.kept (fun a h1 h2 => hS.2.1 a h1 h2))).narrow hAB, (va_T.moved hvm (h.2.kept (fun a h1 h2 => hS.2.1 a h1 h2))).narrow hAB⟩
theorem gO.call {t : Nat} {A : Nat → Prop} {U : State} {g : JFrame} {mk : MethodId} {a : Array Value} (h : gO t A U) : gO t A (U.calling g mk a) := ⟨va_Z.moved (u := U) (U := U.calling g mk a) (Vm.Alike.refl U.vm) h.1, va_T.moved (u := U) (U := U.calling g mk a) (Vm.Alike.refl U.vm) h.2⟩
section GCALL
variable {p : Program} {l : Launch} {e : Env} {R : Room} {s : State} {m : MethodId} {args : Array Value} {below : List Frame} {meth : Method} {c : Code} {H : Heap} {locs : List Loc} {cells slots : Nat} {Q : State → Prop}
variable {y : MethodName} {bytes cc : ByteArray} {maxL nL mc ms n index pc : Nat} {ret : Option FieldType} {wsy : List Cond} {rm : Room} {Ts : List Cond} {own C host : String} {b : Addr} {As rest st : List Value} {ls : Array Slot} {D : va_G} {cl : List vw_C} {tys : List (ClassId × FieldType)} {ws wc w1 wr wn : va_W} {A0 : Nat → Prop} {r0 : Int32} {r0L : Int64}
theorem gR_preV (hK : va_K D cl tys s) (hN : gNW s) (hP : va_P D cl wc H) (hrec : ∃ cellB : Cell, H[b]? = some cellB ∧ cellB.vm.isStatics = false ∧ s.vm.findClass C = some cellB.cls) : PreV s H C b (va_Pc (Value.ref b :: As) (gR D cl tys wc)) As := ⟨gR_blind, hrec, fun U hU hW => ⟨rfl, by rw [hU]; exact hP, va_K.moved hW.alike hK, gNW.warm hW hN⟩⟩
theorem gR_preS (hK : va_K D cl tys s) (hN : gNW s) (hP : va_P D cl wc H) : PreS s H (va_Pc As (gR D cl tys wc)) As := ⟨gR_blind, fun U hU hW => ⟨rfl, by rw [hU]; exact hP, va_K.moved hW.alike hK, gNW.warm hW hN⟩⟩
theorem gW_preV (hK : va_K D cl tys s) (hN : gNW s) (hP : va_P D cl wc H) (hD : va_D A0 wc) (hrec : ∃ cellB : Cell, H[b]? = some cellB ∧ cellB.vm.isStatics = false ∧ s.vm.findClass C = some cellB.cls) : PreV s H C b (va_Pc (Value.ref b :: As) (gW D cl tys wc H.size)) As := ⟨gW_blind, hrec, fun U hU hW => ⟨rfl, by rw [hU], by rw [hU]; exact hP, va_K.moved hW.alike hK, gNW.warm hW hN, hD.weaken (fun _ _ _ _ => trivial)⟩⟩
theorem gW_preS (hK : va_K D cl tys s) (hN : gNW s) (hP : va_P D cl wc H) (hD : va_D A0 wc) : PreS s H (va_Pc As (gW D cl tys wc H.size)) As := ⟨gW_blind, fun U hU hW => ⟨rfl, by rw [hU], by rw [hU]; exact hP, va_K.moved hW.alike hK, gNW.warm hW hN, hD.weaken (fun _ _ _ _ => trivial)⟩⟩
/-- a call of a reading method -/
theorem g_rV (S : CallFix p m c cc nL s args Ts own) (hM : Met l y wsy rm (va_Pc (Value.ref b :: As) (gR D cl tys wc)) (vp_Si (fun r => r = r0)) 0 0 (fun _ => False)) (cw : CallW R s args own C index y bytes maxL ret wsy rm 0 0 n) (hK : va_K D cl tys s) (hN : gNW s) (hP : va_P D cl wc H) (hrec : ∃ cellB : Cell, H[b]? = some cellB ∧ cellB.vm.isStatics = false ∧ s.vm.findClass C = some cellB.cls) (hn : As.length = n) (hsize : ls.size = nL) (hst : st = As.reverse ++ .ref b :: rest) (hW : (rest.map fun v => v.category).sum ≤ 8) (hdg : decode cc pc = .ok (.invokevirtual index, 3)) (hcs : cells ≤ R.cells ∧ slots ≤ R.slots)
    (k : W p l e R s m args below meth c H locs cells slots Q (F0 m (pc + 3) ls (.int r0 :: rest))) : W p l e R s m args below meth c H locs cells slots Q (F0 m pc ls st) :=
  vp_callSi (W.runV S hM cw (gR_preV hK hN hP hrec) rfl hn hsize hst (lv_room hW) hdg hcs) (fun r hr => by subst hr; exact k)
theorem g_rVl (S : CallFix p m c cc nL s args Ts own) (hM : Met l y wsy rm (va_Pc (Value.ref b :: As) (gR D cl tys wc)) (vp_Sl (fun r => r = r0L)) 0 0 (fun _ => False)) (cw : CallW R s args own C index y bytes maxL ret wsy rm 0 0 n) (hK : va_K D cl tys s) (hN : gNW s) (hP : va_P D cl wc H) (hrec : ∃ cellB : Cell, H[b]? = some cellB ∧ cellB.vm.isStatics = false ∧ s.vm.findClass C = some cellB.cls) (hn : As.length = n) (hsize : ls.size = nL) (hst : st = As.reverse ++ .ref b :: rest) (hW : (rest.map fun v => v.category).sum ≤ 8) (hdg : decode cc pc = .ok (.invokevirtual index, 3)) (hcs : cells ≤ R.cells ∧ slots ≤ R.slots)
    (k : W p l e R s m args below meth c H locs cells slots Q (F0 m (pc + 3) ls (.long r0L :: rest))) : W p l e R s m args below meth c H locs cells slots Q (F0 m pc ls st) :=
  vp_callSl (W.runV S hM cw (gR_preV hK hN hP hrec) rfl hn hsize hst (lv_room hW) hdg hcs) (fun r hr => by subst hr; exact k)
theorem g_rS (S : CallFix p m c cc nL s args Ts own) (hM : Met l y wsy rm (va_Pc As (gR D cl tys wc)) (vp_Si (fun r => r = r0)) 0 0 (fun _ => False)) (cw : CallB R s args own index y bytes maxL ret wsy rm 0 0 n ∧ (Cond.static y).before args s = true) (hK : va_K D cl tys s) (hN : gNW s) (hP : va_P D cl wc H) (hn : As.length = n) (hsize : ls.size = nL) (hst : st = As.reverse ++ rest) (hW : (rest.map fun v => v.category).sum ≤ 8) (hdg : decode cc pc = .ok (.invokestatic index, 3)) (hcs : cells ≤ R.cells ∧ slots ≤ R.slots)
    (k : W p l e R s m args below meth c H locs cells slots Q (F0 m (pc + 3) ls (.int r0 :: rest))) : W p l e R s m args below meth c H locs cells slots Q (F0 m pc ls st) :=
  vp_callSi (W.runS S hM cw (gR_preS hK hN hP) rfl hn hsize hst (lv_room hW) hdg hcs) (fun r hr => by subst hr; exact k)
theorem g_rSl (S : CallFix p m c cc nL s args Ts own) (hM : Met l y wsy rm (va_Pc As (gR D cl tys wc)) (vp_Sl (fun r => r = r0L)) 0 0 (fun _ => False)) (cw : CallB R s args own index y bytes maxL ret wsy rm 0 0 n ∧ (Cond.static y).before args s = true) (hK : va_K D cl tys s) (hN : gNW s) (hP : va_P D cl wc H) (hn : As.length = n) (hsize : ls.size = nL) (hst : st = As.reverse ++ rest) (hW : (rest.map fun v => v.category).sum ≤ 8) (hdg : decode cc pc = .ok (.invokestatic index, 3)) (hcs : cells ≤ R.cells ∧ slots ≤ R.slots)
    (k : W p l e R s m args below meth c H locs cells slots Q (F0 m (pc + 3) ls (.long r0L :: rest))) : W p l e R s m args below meth c H locs cells slots Q (F0 m pc ls st) :=
  vp_callSl (W.runS S hM cw (gR_preS hK hN hP) rfl hn hsize hst (lv_room hW) hdg hcs) (fun r hr => by subst hr; exact k)
theorem g_rSN (S : CallFix p m c cc nL s args Ts own) (hM : Met l y wsy rm (va_Pc As (gR D cl tys wc)) (vp_Si (fun r => r = r0)) 0 0 (fun _ => False)) (cw : va_CN R s args own index y host bytes maxL ret wsy rm 0 0 n ∧ (Cond.static y).before args s = true ∧ True) (hK : va_K D cl tys s) (hN : gNW s) (hP : va_P D cl wc H) (hn : As.length = n) (hsize : ls.size = nL) (hst : st = As.reverse ++ rest) (hW : (rest.map fun v => v.category).sum ≤ 8) (hdg : decode cc pc = .ok (.invokestatic index, 3)) (hcs : cells ≤ R.cells ∧ slots ≤ R.slots)
    (k : W p l e R s m args below meth c H locs cells slots Q (F0 m (pc + 3) ls (.int r0 :: rest))) : W p l e R s m args below meth c H locs cells slots Q (F0 m pc ls st) :=
  vp_callSi (gRun (va_runSN S hM cw (gR_preS hK hN hP) rfl hn hsize hst (lv_room hW) hdg hcs)) (fun r hr => by subst hr; exact k)
theorem g_rSo {t : Nat} (S : CallFix p m c cc nL s args Ts own) (hM : Met l y wsy rm (va_Pc As (fun U => gR D cl tys wc U ∧ gO t (fun _ => False) U)) (vp_Si (fun r => r = r0)) 0 0 (fun _ => False)) (cw : CallB R s args own index y bytes maxL ret wsy rm 0 0 n ∧ (Cond.static y).before args s = true) (hK : va_K D cl tys s) (hN : gNW s) (hP : va_P D cl wc H) (hO : gO t A0 s) (hS : va_S A0 s.heap H locs) (hn : As.length = n) (hsize : ls.size = nL) (hst : st = As.reverse ++ rest) (hW : (rest.map fun v => v.category).sum ≤ 8) (hdg : decode cc pc = .ok (.invokestatic index, 3)) (hcs : cells ≤ R.cells ∧ slots ≤ R.slots)
    (k : W p l e R s m args below meth c H locs cells slots Q (F0 m (pc + 3) ls (.int r0 :: rest))) : W p l e R s m args below meth c H locs cells slots Q (F0 m pc ls st) :=
  vp_callSi (W.runS S hM cw ⟨fun a U g mk q => by
      obtain ⟨q0, ⟨qP, qK, qN⟩, qO⟩ := q
      exact ⟨q0, ⟨qP, va_K.moved (u := U) (U := U.calling g mk a) (Vm.Alike.refl U.vm) qK, gNW.same rfl qN⟩, qO.call⟩, fun U hU hW => ⟨rfl, ⟨by rw [hU]; exact hP, va_K.moved hW.alike hK, gNW.warm hW hN⟩, hO.to hS hU hW.alike (fun _ h => h.elim)⟩⟩ rfl hn hsize hst (lv_room hW) hdg hcs) (fun r hr => by subst hr; exact k)
/-- behind a writing call: the world in its old order -/
theorem g_back {H1 : Heap} (hP : va_P D cl ws H) (hD : va_D A0 ws) (isC isR isN : List Nat) (hC : isC.map (fun i => ws[i]?) = wc.map some) (hR : isR.map (fun i => ws[i]?) = wr.map some) (hnd : va_nd isR = true) (hdis : ∀ i ∈ isR, i ∉ isC) (hNw : isN.map (fun i => (wr ++ w1)[i]?) = wn.map some) (hnn : va_nd isN = true) (hk : ∀ q : Nat, q < H.size → ¬ va_A wc H.size q → H1[q]? = H[q]?) (hF : ∀ q, va_A wc H.size q → A0 q) (hP1 : va_P D cl w1 H1) (hD1 : va_D (va_A wc H.size) w1) : va_P D cl wn H1 ∧ va_D A0 wn := by
  obtain ⟨a, b⟩ := va_join hP hD isC isR hC hR hnd hdis hk hF hP1 hD1
  refine ⟨?_, b.sub isN hnn hNw⟩
  intro k q hq
  have h1 : (isN.map (fun i => (wr ++ w1)[i]?))[k]? = some (some q) := by rw [hNw, List.getElem?_map, hq]; rfl
  rw [List.getElem?_map] at h1
  cases hi : isN[k]? with
  | none => rw [hi] at h1; cases h1
  | some i => rw [hi] at h1; exact a i q (Option.some.inj h1)
/-- a call of a writing method -/
theorem g_wV (S : CallFix p m c cc nL s args Ts own) (hM : Met l y wsy rm (va_Pc (Value.ref b :: As) (gW D cl tys wc H.size)) (va_Qi (fun r _ => r = r0) (gE D cl tys w1 (va_A wc H.size)) (va_A wc H.size)) mc ms (va_A wc H.size)) (cw : CallW R s args own C index y bytes maxL ret wsy rm mc ms n) (hK : va_K D cl tys s) (hN : gNW s) (hP : va_P D cl ws H) (hD : va_D A0 ws) (hS : va_S A0 s.heap H locs) (hA : ∀ q, s.heap.size ≤ q → A0 q) (isC isR isN : List Nat) (hCf : isC.filterMap (fun i => ws[i]?) = wc) (hC : isC.map (fun i => ws[i]?) = wc.map some) (hndC : va_nd isC = true) (hR : isR.map (fun i => ws[i]?) = wr.map some) (hnd : va_nd isR = true) (hdis : ∀ i ∈ isR, i ∉ isC) (hNw : isN.map (fun i => (wr ++ w1)[i]?) = wn.map some) (hnn : va_nd isN = true)
    (hrec : ∃ cellB : Cell, H[b]? = some cellB ∧ cellB.vm.isStatics = false ∧ s.vm.findClass C = some cellB.cls) (hn : As.length = n) (hsize : ls.size = nL) (hst : st = As.reverse ++ .ref b :: rest) (hW : (rest.map fun v => v.category).sum ≤ 8) (hdg : decode cc pc = .ok (.invokevirtual index, 3)) (hcs : cells + mc ≤ R.cells ∧ slots + ms ≤ R.slots)
    (k : ∀ (H1 : Heap) (locs1 : List Loc), va_P D cl wn H1 → va_D A0 wn → va_S A0 s.heap H1 locs1 → W p l e R s m args below meth c H1 locs1 (cells + mc) (slots + ms) Q (F0 m (pc + 3) ls (.int r0 :: rest))) : W p l e R s m args below meth c H locs cells slots Q (F0 m pc ls st) := by
  have hF := va_free hD hS hA isC hC
  refine va_calli (va_runV S hM cw (gW_preV hK hN (hP.sub isC hCf) (hD.sub isC hndC hC) hrec) rfl hn hsize hst (lv_room hW) hdg hcs) hS (fun q _ h => hF q h) hF (fun r u t H1 locs1 ht hvm hw hB hz1 hk1 hS1 => ?_)
  obtain ⟨hP1, hK1, hD1⟩ := hB
  subst hw
  subst ht
  obtain ⟨hP2, hD2⟩ := g_back hP hD isC isR isN hC hR hnd hdis hNw hnn hk1 hF hP1 hD1
  exact k t.heap locs1 hP2 hD2 hS1
theorem g_wVl (S : CallFix p m c cc nL s args Ts own) (hM : Met l y wsy rm (va_Pc (Value.ref b :: As) (gW D cl tys wc H.size)) (va_Ql (fun r _ => r = r0L) (gE D cl tys w1 (va_A wc H.size)) (va_A wc H.size)) mc ms (va_A wc H.size)) (cw : CallW R s args own C index y bytes maxL ret wsy rm mc ms n) (hK : va_K D cl tys s) (hN : gNW s) (hP : va_P D cl ws H) (hD : va_D A0 ws) (hS : va_S A0 s.heap H locs) (hA : ∀ q, s.heap.size ≤ q → A0 q) (isC isR isN : List Nat) (hCf : isC.filterMap (fun i => ws[i]?) = wc) (hC : isC.map (fun i => ws[i]?) = wc.map some) (hndC : va_nd isC = true) (hR : isR.map (fun i => ws[i]?) = wr.map some) (hnd : va_nd isR = true) (hdis : ∀ i ∈ isR, i ∉ isC) (hNw : isN.map (fun i => (wr ++ w1)[i]?) = wn.map some) (hnn : va_nd isN = true)
    (hrec : ∃ cellB : Cell, H[b]? = some cellB ∧ cellB.vm.isStatics = false ∧ s.vm.findClass C = some cellB.cls) (hn : As.length = n) (hsize : ls.size = nL) (hst : st = As.reverse ++ .ref b :: rest) (hW : (rest.map fun v => v.category).sum ≤ 8) (hdg : decode cc pc = .ok (.invokevirtual index, 3)) (hcs : cells + mc ≤ R.cells ∧ slots + ms ≤ R.slots)
    (k : ∀ (H1 : Heap) (locs1 : List Loc), va_P D cl wn H1 → va_D A0 wn → va_S A0 s.heap H1 locs1 → W p l e R s m args below meth c H1 locs1 (cells + mc) (slots + ms) Q (F0 m (pc + 3) ls (.long r0L :: rest))) : W p l e R s m args below meth c H locs cells slots Q (F0 m pc ls st) := by
  have hF := va_free hD hS hA isC hC
  refine va_calll (va_runV S hM cw (gW_preV hK hN (hP.sub isC hCf) (hD.sub isC hndC hC) hrec) rfl hn hsize hst (lv_room hW) hdg hcs) hS (fun q _ h => hF q h) hF (fun r u t H1 locs1 ht hvm hw hB hz1 hk1 hS1 => ?_)
  obtain ⟨hP1, hK1, hD1⟩ := hB
  subst hw
  subst ht
  obtain ⟨hP2, hD2⟩ := g_back hP hD isC isR isN hC hR hnd hdis hNw hnn hk1 hF hP1 hD1
  exact k t.heap locs1 hP2 hD2 hS1
theorem g_wVv (S : CallFix p m c cc nL s args Ts own) (hM : Met l y wsy rm (va_Pc (Value.ref b :: As) (gW D cl tys wc H.size)) (va_Qv (fun _ => True) (gE D cl tys w1 (va_A wc H.size)) (va_A wc H.size)) mc ms (va_A wc H.size)) (cw : CallW R s args own C index y bytes maxL ret wsy rm mc ms n) (hK : va_K D cl tys s) (hN : gNW s) (hP : va_P D cl ws H) (hD : va_D A0 ws) (hS : va_S A0 s.heap H locs) (hA : ∀ q, s.heap.size ≤ q → A0 q) (isC isR isN : List Nat) (hCf : isC.filterMap (fun i => ws[i]?) = wc) (hC : isC.map (fun i => ws[i]?) = wc.map some) (hndC : va_nd isC = true) (hR : isR.map (fun i => ws[i]?) = wr.map some) (hnd : va_nd isR = true) (hdis : ∀ i ∈ isR, i ∉ isC) (hNw : isN.map (fun i => (wr ++ w1)[i]?) = wn.map some) (hnn : va_nd isN = true)
    (hrec : ∃ cellB : Cell, H[b]? = some cellB ∧ cellB.vm.isStatics = false ∧ s.vm.findClass C = some cellB.cls) (hn : As.length = n) (hsize : ls.size = nL) (hst : st = As.reverse ++ .ref b :: rest) (hW : (rest.map fun v => v.category).sum ≤ 8) (hdg : decode cc pc = .ok (.invokevirtual index, 3)) (hcs : cells + mc ≤ R.cells ∧ slots + ms ≤ R.slots)
    (k : ∀ (H1 : Heap) (locs1 : List Loc), va_P D cl wn H1 → va_D A0 wn → va_S A0 s.heap H1 locs1 → W p l e R s m args below meth c H1 locs1 (cells + mc) (slots + ms) Q (F0 m (pc + 3) ls rest)) : W p l e R s m args below meth c H locs cells slots Q (F0 m pc ls st) := by
  have hF := va_free hD hS hA isC hC
  refine va_callv (va_runV S hM cw (gW_preV hK hN (hP.sub isC hCf) (hD.sub isC hndC hC) hrec) rfl hn hsize hst (lv_room hW) hdg hcs) hS (fun q _ h => hF q h) hF (fun u t H1 locs1 ht hvm hw hB hz1 hk1 hS1 => ?_)
  obtain ⟨hP1, hK1, hD1⟩ := hB
  subst ht
  obtain ⟨hP2, hD2⟩ := g_back hP hD isC isR isN hC hR hnd hdis hNw hnn hk1 hF hP1 hD1
  exact k t.heap locs1 hP2 hD2 hS1
theorem g_wSv (S : CallFix p m c cc nL s args Ts own) (hM : Met l y wsy rm (va_Pc As (gW D cl tys wc H.size)) (va_Qv (fun _ => True) (gE D cl tys w1 (va_A wc H.size)) (va_A wc H.size)) mc ms (va_A wc H.size)) (cw : CallB R s args own index y bytes maxL ret wsy rm mc ms n ∧ (Cond.static y).before args s = true) (hK : va_K D cl tys s) (hN : gNW s) (hP : va_P D cl ws H) (hD : va_D A0 ws) (hS : va_S A0 s.heap H locs) (hA : ∀ q, s.heap.size ≤ q → A0 q) (isC isR isN : List Nat) (hCf : isC.filterMap (fun i => ws[i]?) = wc) (hC : isC.map (fun i => ws[i]?) = wc.map some) (hndC : va_nd isC = true) (hR : isR.map (fun i => ws[i]?) = wr.map some) (hnd : va_nd isR = true) (hdis : ∀ i ∈ isR, i ∉ isC) (hNw : isN.map (fun i => (wr ++ w1)[i]?) = wn.map some) (hnn : va_nd isN = true)
    (hn : As.length = n) (hsize : ls.size = nL) (hst : st = As.reverse ++ rest) (hW : (rest.map fun v => v.category).sum ≤ 8) (hdg : decode cc pc = .ok (.invokestatic index, 3)) (hcs : cells + mc ≤ R.cells ∧ slots + ms ≤ R.slots)
    (k : ∀ (H1 : Heap) (locs1 : List Loc), va_P D cl wn H1 → va_D A0 wn → va_S A0 s.heap H1 locs1 → W p l e R s m args below meth c H1 locs1 (cells + mc) (slots + ms) Q (F0 m (pc + 3) ls rest)) : W p l e R s m args below meth c H locs cells slots Q (F0 m pc ls st) := by
  have hF := va_free hD hS hA isC hC
  refine va_callv (va_runS S hM cw (gW_preS hK hN (hP.sub isC hCf) (hD.sub isC hndC hC)) rfl hn hsize hst (lv_room hW) hdg hcs) hS (fun q _ h => hF q h) hF (fun u t H1 locs1 ht hvm hw hB hz1 hk1 hS1 => ?_)
  obtain ⟨hP1, hK1, hD1⟩ := hB
  subst ht
  obtain ⟨hP2, hD2⟩ := g_back hP hD isC isR isN hC hR hnd hdis hNw hnn hk1 hF hP1 hD1
  exact k t.heap locs1 hP2 hD2 hS1
end GCALL
