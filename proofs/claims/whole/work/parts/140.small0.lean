abbrev rm_X1_make : Room := { frames := 1, cells := 0, slots := 0, locals := 25 }
abbrev w_X1_make (cI cZ cG : ClassId) (o : Nat) (v_above : Int32) (v_below : Int32) : va_W := [(o, .inr (1, [.int v_above, .int v_below]))]
set_option maxHeartbeats 4000000 in
set_option maxRecDepth 100000 in
theorem c_X1_make (l : Launch) (dC : Nat → ClassId) (dI : Nat → Nat → Nat) (cI cZ cG : ClassId) {N : Nat} (o : Nat) (sz : Nat) (v_above : Int32) (v_below : Int32) (a1 : Int32) (a2 : Int32) {n_above : Int32} {n_below : Int32} (hf : x1_make N v_above v_below a1 a2 = some (n_above, n_below)) : Met l yX1_make wsX1_make rm_X1_make (va_Pc [.ref o, .int a1, .int a2] (gW (dC, dI) vwCl (gT cI cZ cG) (w_X1_make cI cZ cG o v_above v_below) sz)) (va_Qv (fun _ => True) (gE (dC, dI) vwCl (gT cI cZ cG) (w_X1_make cI cZ cG o n_above n_below) (va_A (w_X1_make cI cZ cG o v_above v_below) sz)) (va_A (w_X1_make cI cZ cG o v_above v_below) sz)) 0 0 (va_A (w_X1_make cI cZ cG o v_above v_below) sz) := by
  refine Met.ofW (cc := cX1_make) (maxL := 4) (ret := none) (by decide) rfl ?_
  intro p e s m args below meth c s₁ B hml hv
  obtain ⟨rfl, hv⟩ := hv
  obtain ⟨hsz, hP, hK, hN, hD0⟩ := hv
  have hx := B.exec
  have hb := B.bytes
  have hr := B.returns
  have hts := atoms_spec (ws := wsX1_make) B.pre
  have hown : s.vm.findClass RX1 = some m.cls := findClass_of_methodNamed B.named
  have hlocks := B.notSynchronized
  have hiX1 : ∀ w ∈ u_ws RX1 TX1 2, w ∈ wsX1_make := fun w h => List.mem_cons_of_mem _ (List.mem_append_right _ h)
  subst hsz
  have hD := hD0.self (sz := s.heap.size)
  generalize hAe : va_A (w_X1_make cI cZ cG o v_above v_below) s.heap.size = A at hD ⊢
  have hA : ∀ q : Nat, s.heap.size ≤ q → A q := fun q h => by rw [← hAe]; exact Or.inr h
  clear hD0
  have hS : va_S A s.heap s.heap [] := va_S.rf
  have hP : va_P (dC, dI) vwCl (w_X1_make cI cZ cG o v_above v_below) s.heap := hP
  obtain ⟨Q, hQ⟩ : ∃ Q : State → Prop, Q = MQ below (va_Qv (fun _ => True) (gE (dC, dI) vwCl (gT cI cZ cG) (w_X1_make cI cZ cG o n_above n_below) A) A) (([Value.ref o, Value.int a1, Value.int a2] : List Value).toArray) s 0 0 A := ⟨_, rfl⟩
  have hl := lv_entry ([.ref o, .int a1, .int a2]) (n := 4) (Nat.le_of_ble_eq_true rfl)
  rw [← hQ, lg_entry_eq]
  generalize (lg_sl ([.ref o, .int a1, .int a2]) ++ List.replicate (4 - (lg_sl ([.ref o, .int a1, .int a2])).length) Slot.unset).toArray = ls at hl ⊢
  have hl : lv_has ls 4 [(0, .ref o), (1, .int a1), (2, .int a2)] := hl
  generalize hH : s.heap = H at hP hS ⊢
  have hS : va_S A s.heap H [] := by rw [hH]; exact hS
  generalize hlc : ([] : List Loc) = locs at hS ⊢
  show W p l e rm_X1_make s m (([Value.ref o, Value.int a1, Value.int a2] : List Value).toArray) below meth c H locs 0 0 Q (F0 m 0 ls [])
  have J36 : ∀ (t1 : Int32) (y_above : Int32) (y_below : Int32) (H : Heap) (locs : List Loc) (ls : Array Slot), x1_make_b36 N a1 a2 t1 y_above y_below = some (n_above, n_below) → lv_has ls 4 [] → va_P (dC, dI) vwCl (w_X1_make cI cZ cG o y_above y_below) H → va_D A (w_X1_make cI cZ cG o y_above y_below) → va_S A s.heap H locs → W p l e rm_X1_make s m (([Value.ref o, Value.int a1, Value.int a2] : List Value).toArray) below meth c H locs 0 0 Q (F0 m 36 ls [.int t1, .ref o]) := by
    intro t1 y_above y_below H locs ls hf hl hP hD hS
    unfold x1_make_b36 at hf
    refine va_put (D := (dC, dI)) (ci := 1) (v := .int t1) (ty := .int) (C := RX1) (T := TX1) (N := 2) hx hb hts hiX1 tyX1 tyX1_ok nmX1 hown hK hP hD hS 0 rfl rfl 1 (by decide) (hts (.fieldLink RX1 13 "GreenJars$Fraction" "below" "I") (by decide +kernel)) (fun _ h9 => h9) rfl (by decide +kernel) rfl rfl (Nat.le_of_ble_eq_true rfl) dX1_make_36 (fun H locs hP hD hS => ?_)
    have hP : va_P (dC, dI) vwCl (w_X1_make cI cZ cG o y_above t1) H := hP
    have hD : va_D A (w_X1_make cI cZ cG o y_above t1) := hD
    rw [hQ]
    cases hf
    exact W.vret hx hb hr (fun t ht hW => ⟨⟨(), rfl, trivial, by rw [ht]; exact hP, va_K.moved hW.alike hK, hD⟩, hS.F ht⟩) hS.2.2 dX1_make_39
  have J21 : ∀ (x3 : Int32) (t1 : Int32) (y_above : Int32) (y_below : Int32) (H : Heap) (locs : List Loc) (ls : Array Slot), x1_make_b21 N a1 a2 x3 t1 y_above y_below = some (n_above, n_below) → lv_has ls 4 [(0, .ref o), (2, .int a2), (3, .int x3)] → va_P (dC, dI) vwCl (w_X1_make cI cZ cG o y_above y_below) H → va_D A (w_X1_make cI cZ cG o y_above y_below) → va_S A s.heap H locs → W p l e rm_X1_make s m (([Value.ref o, Value.int a1, Value.int a2] : List Value).toArray) below meth c H locs 0 0 Q (F0 m 21 ls [.int t1, .ref o]) := by
    intro x3 t1 y_above y_below H locs ls hf hl hP hD hS
    unfold x1_make_b21 at hf
    refine va_put (D := (dC, dI)) (ci := 1) (v := .int t1) (ty := .int) (C := RX1) (T := TX1) (N := 2) hx hb hts hiX1 tyX1 tyX1_ok nmX1 hown hK hP hD hS 0 rfl rfl 0 (by decide) (hts (.fieldLink RX1 7 "GreenJars$Fraction" "above" "I") (by decide +kernel)) (fun _ h9 => h9) rfl (by decide +kernel) rfl rfl (Nat.le_of_ble_eq_true rfl) dX1_make_21 (fun H locs hP hD hS => ?_)
    have hP : va_P (dC, dI) vwCl (w_X1_make cI cZ cG o t1 y_below) H := hP
    have hD : va_D A (w_X1_make cI cZ cG o t1 y_below) := hD
    refine lv_aload_n hx hb dX1_make_24 rfl (lv_at hl 0 rfl) ?_
    refine lv_iload_n hx hb dX1_make_25 rfl (lv_at hl 2 rfl) ?_
    refine lv_if_le (tgt := 35) hx hb dX1_make_26 (by decide) (fun c1 => ?_) (fun c1 => ?_)
    · have hf := g_pos c1 hf
      refine lv_iload_n hx hb dX1_make_35 rfl (lv_at hl 1 rfl) ?_
      exact J36 a2 t1 y_below H locs ls hf (lv_sub hl [] rfl) hP hD hS
    · have hf := g_neg c1 hf
      refine lv_iload_n hx hb dX1_make_29 rfl (lv_at hl 1 rfl) ?_
      refine lv_iload_n hx hb dX1_make_30 rfl (lv_at hl 2 rfl) ?_
      obtain ⟨h2, hf⟩ := g_chk hf
      refine lv_idiv hx hb dX1_make_31 (gNz_ne h2) ?_
      refine lv_goto (tgt := 36) hx hb dX1_make_32 (by decide) ?_
      exact J36 (a2 / x3) t1 y_below H locs ls hf (lv_sub hl [] rfl) hP hD hS
  unfold x1_make at hf
  refine lv_iload_n hx hb dX1_make_0 rfl (lv_at hl 1 rfl) ?_
  refine va_mabs hx hb (hml.trans hl.1.symm) hown (hts (.methodLink RX1 16 Lib.Math.abs.name) (by decide +kernel)) (hts (.static Lib.Math.abs.name) (by decide +kernel)) (hts (.initialized "java/lang/Math") (by decide +kernel)) (hts (.code Lib.Math.abs.name Lib.Math.abs.code 1 (some .int)) (by decide +kernel)) (Nat.le_of_ble_eq_true rfl) (Nat.le_of_ble_eq_true rfl) (Nat.zero_le _) (Nat.zero_le _) dX1_make_1 ?_
  refine lv_iload_n hx hb dX1_make_4 rfl (lv_at hl 2 rfl) ?_
  obtain ⟨r3, hc4, hf⟩ := g_b1 hf
  refine g_rS (As := [.int (if (0 : Int32) ≤ a1 then a1 else (0 : Int32) - a1), .int a2]) (rest := []) ⟨hx, hb, hml, hown, hts⟩ (c_X1_commonOf l dC dI cI cZ cG    (if (0 : Int32) ≤ a1 then a1 else (0 : Int32) - a1) a2 hc4) (va_cwS 2 hts gX1_make_X1_commonOf rfl rfl rfl (by decide +kernel) ⟨Nat.le_of_ble_eq_true rfl, Nat.le_of_ble_eq_true rfl⟩) hK hN (hP.sub [] rfl) rfl hl.1 rfl (Nat.le_of_ble_eq_true rfl) dX1_make_5 ⟨Nat.zero_le _, Nat.zero_le _⟩ ?_
  refine lv_istore_n (lv' := [(3, .int r3), (0, .ref o), (1, .int a1), (2, .int a2)]) hx hb dX1_make_8 rfl hl (by decide) rfl (fun ls hl => ?_)
  refine lv_aload_n hx hb dX1_make_9 rfl (lv_at hl 1 rfl) ?_
  refine lv_iload_n hx hb dX1_make_10 rfl (lv_at hl 0 rfl) ?_
  refine lv_if_le (tgt := 20) hx hb dX1_make_11 (by decide) (fun c5 => ?_) (fun c5 => ?_)
  · have hf := g_pos c5 hf
    refine lv_iload_n hx hb dX1_make_20 rfl (lv_at hl 2 rfl) ?_
    exact J21 r3 a1 v_above v_below H locs ls hf (lv_sub hl [1, 3, 0] rfl) hP hD hS
  · have hf := g_neg c5 hf
    refine lv_iload_n hx hb dX1_make_14 rfl (lv_at hl 2 rfl) ?_
    refine lv_iload_n hx hb dX1_make_15 rfl (lv_at hl 0 rfl) ?_
    obtain ⟨h6, hf⟩ := g_chk hf
    refine lv_idiv hx hb dX1_make_16 (gNz_ne h6) ?_
    refine lv_goto (tgt := 21) hx hb dX1_make_17 (by decide) ?_
    exact J21 r3 (a1 / r3) v_above v_below H locs ls hf (lv_sub hl [1, 3, 0] rfl) hP hD hS
abbrev rm_X1_told : Room := { frames := 0, cells := 0, slots := 0, locals := 0 }
abbrev w_X1_told (cI cZ cG : ClassId) (o : Nat) (v_above : Int32) (v_below : Int32) : va_W := [(o, .inr (1, [.int v_above, .int v_below]))]
set_option maxHeartbeats 4000000 in
set_option maxRecDepth 100000 in
theorem c_X1_told (l : Launch) (dC : Nat → ClassId) (dI : Nat → Nat → Nat) (cI cZ cG : ClassId) (o : Nat) (v_above : Int32) (v_below : Int32) (a1 : Int32) {r0 : Int32} (hf : x1_told v_above v_below a1 = some r0) : Met l yX1_told wsX1_told rm_X1_told (va_Pc [.ref o, .int a1] (gR (dC, dI) vwCl (gT cI cZ cG) (w_X1_told cI cZ cG o v_above v_below))) (vp_Si (fun r => r = r0)) 0 0 (fun _ => False) := by
  refine Met.ofW (cc := cX1_told) (maxL := 2) (ret := (some .int)) (by decide) rfl ?_
  intro p e s m args below meth c s₁ B hml hv
  obtain ⟨rfl, hv⟩ := hv
  obtain ⟨hP, hK, hN⟩ := hv
  have hx := B.exec
  have hb := B.bytes
  have hr := B.returns
  have hts := atoms_spec (ws := wsX1_told) B.pre
  have hown : s.vm.findClass RX1 = some m.cls := findClass_of_methodNamed B.named
  have hlocks := B.notSynchronized
  have hiX1 : ∀ w ∈ u_ws RX1 TX1 2, w ∈ wsX1_told := fun w h => List.mem_cons_of_mem _ (List.mem_append_right _ h)
  obtain ⟨Q, hQ⟩ : ∃ Q : State → Prop, Q = MQ below (vp_Si (fun r => r = r0)) (([Value.ref o, Value.int a1] : List Value).toArray) s 0 0 (fun _ => False) := ⟨_, rfl⟩
  have hl := lv_entry ([.ref o, .int a1]) (n := 2) (Nat.le_of_ble_eq_true rfl)
  rw [← hQ, lg_entry_eq]
  generalize (lg_sl ([.ref o, .int a1]) ++ List.replicate (2 - (lg_sl ([.ref o, .int a1])).length) Slot.unset).toArray = ls at hl ⊢
  have hl : lv_has ls 2 [(0, .ref o), (1, .int a1)] := hl
  show W p l e rm_X1_told s m (([Value.ref o, Value.int a1] : List Value).toArray) below meth c s.heap [] 0 0 Q (F0 m 0 ls [])
  unfold x1_told at hf
  refine lv_iload_n hx hb dX1_told_0 rfl (lv_at hl 1 rfl) ?_
  refine lv_if_eq (tgt := 11) hx hb dX1_told_1 (by decide) (fun c1 => ?_) (fun c1 => ?_)
  · have hf := g_pos c1 hf
    refine lv_aload_n hx hb dX1_told_11 rfl (lv_at hl 0 rfl) ?_
    refine va_get (D := (dC, dI)) (ci := 1) (v := .int v_below) (C := RX1) (T := TX1) (N := 2) hx hb hts hiX1 hown hK hP 0 rfl rfl 1 (by decide) (hts (.fieldLink RX1 13 "GreenJars$Fraction" "below" "I") (by decide +kernel)) (fun _ h9 => h9) rfl dX1_told_12 ?_
    rw [hQ]
    exact W.iret (v := v_below) hx hb hr (fun t ht hW => ⟨_, rfl, Option.some.inj hf, ht⟩) (fun q h => by cases h) dX1_told_15
  · have hf := g_neg c1 hf
    refine lv_aload_n hx hb dX1_told_4 rfl (lv_at hl 0 rfl) ?_
    refine va_get (D := (dC, dI)) (ci := 1) (v := .int v_above) (C := RX1) (T := TX1) (N := 2) hx hb hts hiX1 hown hK hP 0 rfl rfl 0 (by decide) (hts (.fieldLink RX1 7 "GreenJars$Fraction" "above" "I") (by decide +kernel)) (fun _ h9 => h9) rfl dX1_told_5 ?_
    refine lv_goto (tgt := 15) hx hb dX1_told_8 (by decide) ?_
    rw [hQ]
    exact W.iret (v := v_above) hx hb hr (fun t ht hW => ⟨_, rfl, Option.some.inj hf, ht⟩) (fun q h => by cases h) dX1_told_15
abbrev rm_X4_count : Room := { frames := 0, cells := 0, slots := 0, locals := 0 }
abbrev w_X4_count (cI cZ cG : ClassId) (o : Nat) (o_went : Nat) (o_came : Nat) (v_count : Int32) : va_W := [(o, .inr (4, [.ref o_went, .ref o_came, .int v_count]))]
set_option maxHeartbeats 4000000 in
set_option maxRecDepth 100000 in
theorem c_X4_count (l : Launch) (dC : Nat → ClassId) (dI : Nat → Nat → Nat) (cI cZ cG : ClassId) (o : Nat) (o_went : Nat) (o_came : Nat) (v_count : Int32) {r0 : Int32} (hf : x4_count v_count = some r0) : Met l yX4_count wsX4_count rm_X4_count (va_Pc [.ref o] (gR (dC, dI) vwCl (gT cI cZ cG) (w_X4_count cI cZ cG o o_went o_came v_count))) (vp_Si (fun r => r = r0)) 0 0 (fun _ => False) := by
  refine Met.ofW (cc := cX4_count) (maxL := 1) (ret := (some .int)) (by decide) rfl ?_
  intro p e s m args below meth c s₁ B hml hv
  obtain ⟨rfl, hv⟩ := hv
  obtain ⟨hP, hK, hN⟩ := hv
  have hx := B.exec
  have hb := B.bytes
  have hr := B.returns
  have hts := atoms_spec (ws := wsX4_count) B.pre
  have hown : s.vm.findClass RX4 = some m.cls := findClass_of_methodNamed B.named
  have hlocks := B.notSynchronized
  have hiX4 : ∀ w ∈ u_ws RX4 TX4 3, w ∈ wsX4_count := fun w h => List.mem_cons_of_mem _ (List.mem_append_right _ h)
  obtain ⟨Q, hQ⟩ : ∃ Q : State → Prop, Q = MQ below (vp_Si (fun r => r = r0)) (([Value.ref o] : List Value).toArray) s 0 0 (fun _ => False) := ⟨_, rfl⟩
  have hl := lv_entry ([.ref o]) (n := 1) (Nat.le_of_ble_eq_true rfl)
  rw [← hQ, lg_entry_eq]
  generalize (lg_sl ([.ref o]) ++ List.replicate (1 - (lg_sl ([.ref o])).length) Slot.unset).toArray = ls at hl ⊢
  have hl : lv_has ls 1 [(0, .ref o)] := hl
  show W p l e rm_X4_count s m (([Value.ref o] : List Value).toArray) below meth c s.heap [] 0 0 Q (F0 m 0 ls [])
  unfold x4_count at hf
  refine lv_aload_n hx hb dX4_count_0 rfl (lv_at hl 0 rfl) ?_
  refine va_get (D := (dC, dI)) (ci := 4) (v := .int v_count) (C := RX4) (T := TX4) (N := 3) hx hb hts hiX4 hown hK hP 0 rfl rfl 2 (by decide) (hts (.fieldLink RX4 18 "GreenJars$Tastes" "count" "I") (by decide +kernel)) (fun _ h9 => h9) rfl dX4_count_1 ?_
  rw [hQ]
  exact W.iret (v := v_count) hx hb hr (fun t ht hW => ⟨_, rfl, Option.some.inj hf, ht⟩) (fun q h => by cases h) dX4_count_4
abbrev rm_X4_clear : Room := { frames := 0, cells := 0, slots := 0, locals := 0 }
abbrev w_X4_clear (cI cZ cG : ClassId) (o : Nat) (o_went : Nat) (o_came : Nat) (v_count : Int32) : va_W := [(o, .inr (4, [.ref o_went, .ref o_came, .int v_count]))]
set_option maxHeartbeats 4000000 in
set_option maxRecDepth 100000 in
theorem c_X4_clear (l : Launch) (dC : Nat → ClassId) (dI : Nat → Nat → Nat) (cI cZ cG : ClassId) (o : Nat) (o_went : Nat) (o_came : Nat) (sz : Nat) (v_count : Int32) {n_count : Int32} (hf : x4_clear v_count = some n_count) : Met l yX4_clear wsX4_clear rm_X4_clear (va_Pc [.ref o] (gW (dC, dI) vwCl (gT cI cZ cG) (w_X4_clear cI cZ cG o o_went o_came v_count) sz)) (va_Qv (fun _ => True) (gE (dC, dI) vwCl (gT cI cZ cG) (w_X4_clear cI cZ cG o o_went o_came n_count) (va_A (w_X4_clear cI cZ cG o o_went o_came v_count) sz)) (va_A (w_X4_clear cI cZ cG o o_went o_came v_count) sz)) 0 0 (va_A (w_X4_clear cI cZ cG o o_went o_came v_count) sz) := by
  refine Met.ofW (cc := cX4_clear) (maxL := 1) (ret := none) (by decide) rfl ?_
  intro p e s m args below meth c s₁ B hml hv
  obtain ⟨rfl, hv⟩ := hv
  obtain ⟨hsz, hP, hK, hN, hD0⟩ := hv
  have hx := B.exec
  have hb := B.bytes
  have hr := B.returns
  have hts := atoms_spec (ws := wsX4_clear) B.pre
  have hown : s.vm.findClass RX4 = some m.cls := findClass_of_methodNamed B.named
  have hlocks := B.notSynchronized
  have hiX4 : ∀ w ∈ u_ws RX4 TX4 3, w ∈ wsX4_clear := fun w h => List.mem_cons_of_mem _ (List.mem_append_right _ h)
  subst hsz
  have hD := hD0.self (sz := s.heap.size)
  generalize hAe : va_A (w_X4_clear cI cZ cG o o_went o_came v_count) s.heap.size = A at hD ⊢
  have hA : ∀ q : Nat, s.heap.size ≤ q → A q := fun q h => by rw [← hAe]; exact Or.inr h
  clear hD0
  have hS : va_S A s.heap s.heap [] := va_S.rf
  have hP : va_P (dC, dI) vwCl (w_X4_clear cI cZ cG o o_went o_came v_count) s.heap := hP
  obtain ⟨Q, hQ⟩ : ∃ Q : State → Prop, Q = MQ below (va_Qv (fun _ => True) (gE (dC, dI) vwCl (gT cI cZ cG) (w_X4_clear cI cZ cG o o_went o_came n_count) A) A) (([Value.ref o] : List Value).toArray) s 0 0 A := ⟨_, rfl⟩
  have hl := lv_entry ([.ref o]) (n := 1) (Nat.le_of_ble_eq_true rfl)
  rw [← hQ, lg_entry_eq]
  generalize (lg_sl ([.ref o]) ++ List.replicate (1 - (lg_sl ([.ref o])).length) Slot.unset).toArray = ls at hl ⊢
  have hl : lv_has ls 1 [(0, .ref o)] := hl
  generalize hH : s.heap = H at hP hS ⊢
  have hS : va_S A s.heap H [] := by rw [hH]; exact hS
  generalize hlc : ([] : List Loc) = locs at hS ⊢
  show W p l e rm_X4_clear s m (([Value.ref o] : List Value).toArray) below meth c H locs 0 0 Q (F0 m 0 ls [])
  unfold x4_clear at hf
  refine lv_aload_n hx hb dX4_clear_0 rfl (lv_at hl 0 rfl) ?_
  refine lv_iconst (v := (0 : Int32)) hx hb dX4_clear_1 (by decide) ?_
  refine va_put (D := (dC, dI)) (ci := 4) (v := .int (0 : Int32)) (ty := .int) (C := RX4) (T := TX4) (N := 3) hx hb hts hiX4 tyX4 tyX4_ok nmX4 hown hK hP hD hS 0 rfl rfl 2 (by decide) (hts (.fieldLink RX4 18 "GreenJars$Tastes" "count" "I") (by decide +kernel)) (fun _ h9 => h9) rfl (by decide +kernel) rfl rfl (Nat.le_of_ble_eq_true rfl) dX4_clear_2 (fun H locs hP hD hS => ?_)
  have hP : va_P (dC, dI) vwCl (w_X4_clear cI cZ cG o o_went o_came (0 : Int32)) H := hP
  have hD : va_D A (w_X4_clear cI cZ cG o o_went o_came (0 : Int32)) := hD
  rw [hQ]
  cases hf
  exact W.vret hx hb hr (fun t ht hW => ⟨⟨(), rfl, trivial, by rw [ht]; exact hP, va_K.moved hW.alike hK, hD⟩, hS.F ht⟩) hS.2.2 dX4_clear_5
abbrev rm_X4_add : Room := { frames := 0, cells := 0, slots := 0, locals := 0 }
abbrev w_X4_add (cI cZ cG : ClassId) (o : Nat) (o_went : Nat) (o_came : Nat) (v_count : Int32) (f_went : Nat → Int32) (f_came : Nat → Int32) : va_W := [(o, .inr (4, [.ref o_went, .ref o_came, .int v_count])), (o_went, .inl (cI, 6, .inl f_went)), (o_came, .inl (cI, 6, .inl f_came))]
set_option maxHeartbeats 4000000 in
set_option maxRecDepth 100000 in
theorem c_X4_add (l : Launch) (dC : Nat → ClassId) (dI : Nat → Nat → Nat) (cI cZ cG : ClassId) (o : Nat) (o_went : Nat) (o_came : Nat) (sz : Nat) (v_count : Int32) (f_went : Nat → Int32) (f_came : Nat → Int32) (a1 : Int32) (a2 : Int32) {r0 : Int32} {n_count : Int32} {n_went : Nat → Int32} {n_came : Nat → Int32} (hf : x4_add v_count f_went f_came a1 a2 = some (r0, n_count, n_went, n_came)) : Met l yX4_add wsX4_add rm_X4_add (va_Pc [.ref o, .int a1, .int a2] (gW (dC, dI) vwCl (gT cI cZ cG) (w_X4_add cI cZ cG o o_went o_came v_count f_went f_came) sz)) (va_Qi (fun r _ => r = r0) (gE (dC, dI) vwCl (gT cI cZ cG) (w_X4_add cI cZ cG o o_went o_came n_count n_went n_came) (va_A (w_X4_add cI cZ cG o o_went o_came v_count f_went f_came) sz)) (va_A (w_X4_add cI cZ cG o o_went o_came v_count f_went f_came) sz)) 0 0 (va_A (w_X4_add cI cZ cG o o_went o_came v_count f_went f_came) sz) := by
  refine Met.ofW (cc := cX4_add) (maxL := 3) (ret := (some .boolean)) (by decide) rfl ?_
  intro p e s m args below meth c s₁ B hml hv
  obtain ⟨rfl, hv⟩ := hv
  obtain ⟨hsz, hP, hK, hN, hD0⟩ := hv
  have hx := B.exec
  have hb := B.bytes
  have hr := B.returns
  have hts := atoms_spec (ws := wsX4_add) B.pre
  have hown : s.vm.findClass RX4 = some m.cls := findClass_of_methodNamed B.named
  have hlocks := B.notSynchronized
  have hiX4 : ∀ w ∈ u_ws RX4 TX4 3, w ∈ wsX4_add := fun w h => List.mem_cons_of_mem _ (List.mem_append_right _ h)
  subst hsz
  have hD := hD0.self (sz := s.heap.size)
  generalize hAe : va_A (w_X4_add cI cZ cG o o_went o_came v_count f_went f_came) s.heap.size = A at hD ⊢
  have hA : ∀ q : Nat, s.heap.size ≤ q → A q := fun q h => by rw [← hAe]; exact Or.inr h
  clear hD0
  have hS : va_S A s.heap s.heap [] := va_S.rf
  have hP : va_P (dC, dI) vwCl (w_X4_add cI cZ cG o o_went o_came v_count f_went f_came) s.heap := hP
  obtain ⟨Q, hQ⟩ : ∃ Q : State → Prop, Q = MQ below (va_Qi (fun r _ => r = r0) (gE (dC, dI) vwCl (gT cI cZ cG) (w_X4_add cI cZ cG o o_went o_came n_count n_went n_came) A) A) (([Value.ref o, Value.int a1, Value.int a2] : List Value).toArray) s 0 0 A := ⟨_, rfl⟩
  have hl := lv_entry ([.ref o, .int a1, .int a2]) (n := 3) (Nat.le_of_ble_eq_true rfl)
  rw [← hQ, lg_entry_eq]
  generalize (lg_sl ([.ref o, .int a1, .int a2]) ++ List.replicate (3 - (lg_sl ([.ref o, .int a1, .int a2])).length) Slot.unset).toArray = ls at hl ⊢
  have hl : lv_has ls 3 [(0, .ref o), (1, .int a1), (2, .int a2)] := hl
  generalize hH : s.heap = H at hP hS ⊢
  have hS : va_S A s.heap H [] := by rw [hH]; exact hS
  generalize hlc : ([] : List Loc) = locs at hS ⊢
  show W p l e rm_X4_add s m (([Value.ref o, Value.int a1, Value.int a2] : List Value).toArray) below meth c H locs 0 0 Q (F0 m 0 ls [])
  unfold x4_add at hf
  refine lv_aload_n hx hb dX4_add_0 rfl (lv_at hl 0 rfl) ?_
  refine va_get (D := (dC, dI)) (ci := 4) (v := .int v_count) (C := RX4) (T := TX4) (N := 3) hx hb hts hiX4 hown hK hP 0 rfl rfl 2 (by decide) (hts (.fieldLink RX4 18 "GreenJars$Tastes" "count" "I") (by decide +kernel)) (fun _ h9 => h9) rfl dX4_add_1 ?_
  refine lv_bipush (v := (6 : Int32)) hx hb dX4_add_4 (by decide +kernel) ?_
  refine lv_icmp_lt (tgt := 11) hx hb dX4_add_6 (by decide) (fun c1 => ?_) (fun c1 => ?_)
  · have hf := g_pos c1 hf
    refine lv_aload_n hx hb dX4_add_11 rfl (lv_at hl 0 rfl) ?_
    refine va_get (D := (dC, dI)) (ci := 4) (v := .ref o_went) (C := RX4) (T := TX4) (N := 3) hx hb hts hiX4 hown hK hP 0 rfl rfl 0 (by decide) (hts (.fieldLink RX4 9 "GreenJars$Tastes" "went" "[I") (by decide +kernel)) (fun _ h9 => h9) rfl dX4_add_12 ?_
    refine lv_aload_n hx hb dX4_add_15 rfl (lv_at hl 0 rfl) ?_
    refine va_get (D := (dC, dI)) (ci := 4) (v := .int v_count) (C := RX4) (T := TX4) (N := 3) hx hb hts hiX4 hown hK hP 0 rfl rfl 2 (by decide) (hts (.fieldLink RX4 18 "GreenJars$Tastes" "count" "I") (by decide +kernel)) (fun _ h9 => h9) rfl dX4_add_16 ?_
    refine lv_iload_n hx hb dX4_add_19 rfl (lv_at hl 1 rfl) ?_
    obtain ⟨h2, hf⟩ := g_chk hf
    refine va_iast hx hb hK hP hD hS 1 0 rfl rfl (gIn_vp h2) dX4_add_20 (fun H locs hP hD hS => ?_)
    have hP : va_P (dC, dI) vwCl (w_X4_add cI cZ cG o o_went o_came v_count (upd f_went v_count.toNatClampNeg a1) f_came) H := hP
    have hD : va_D A (w_X4_add cI cZ cG o o_went o_came v_count (upd f_went v_count.toNatClampNeg a1) f_came) := hD
    refine lv_aload_n hx hb dX4_add_21 rfl (lv_at hl 0 rfl) ?_
    refine va_get (D := (dC, dI)) (ci := 4) (v := .ref o_came) (C := RX4) (T := TX4) (N := 3) hx hb hts hiX4 hown hK hP 0 rfl rfl 1 (by decide) (hts (.fieldLink RX4 15 "GreenJars$Tastes" "came" "[I") (by decide +kernel)) (fun _ h9 => h9) rfl dX4_add_22 ?_
    refine lv_aload_n hx hb dX4_add_25 rfl (lv_at hl 0 rfl) ?_
    refine va_get (D := (dC, dI)) (ci := 4) (v := .int v_count) (C := RX4) (T := TX4) (N := 3) hx hb hts hiX4 hown hK hP 0 rfl rfl 2 (by decide) (hts (.fieldLink RX4 18 "GreenJars$Tastes" "count" "I") (by decide +kernel)) (fun _ h9 => h9) rfl dX4_add_26 ?_
    refine lv_iload_n hx hb dX4_add_29 rfl (lv_at hl 2 rfl) ?_
    obtain ⟨h3, hf⟩ := g_chk hf
    refine va_iast hx hb hK hP hD hS 2 0 rfl rfl (gIn_vp h3) dX4_add_30 (fun H locs hP hD hS => ?_)
    have hP : va_P (dC, dI) vwCl (w_X4_add cI cZ cG o o_went o_came v_count (upd f_went v_count.toNatClampNeg a1) (upd f_came v_count.toNatClampNeg a2)) H := hP
    have hD : va_D A (w_X4_add cI cZ cG o o_went o_came v_count (upd f_went v_count.toNatClampNeg a1) (upd f_came v_count.toNatClampNeg a2)) := hD
    refine lv_aload_n hx hb dX4_add_31 rfl (lv_at hl 0 rfl) ?_
    refine lv_dup hx hb dX4_add_32 rfl ?_
    refine va_get (D := (dC, dI)) (ci := 4) (v := .int v_count) (C := RX4) (T := TX4) (N := 3) hx hb hts hiX4 hown hK hP 0 rfl rfl 2 (by decide) (hts (.fieldLink RX4 18 "GreenJars$Tastes" "count" "I") (by decide +kernel)) (fun _ h9 => h9) rfl dX4_add_33 ?_
    refine lv_iconst (v := (1 : Int32)) hx hb dX4_add_36 (by decide) ?_
    refine lv_iadd hx hb dX4_add_37 ?_
    refine va_put (D := (dC, dI)) (ci := 4) (v := .int (v_count + (1 : Int32))) (ty := .int) (C := RX4) (T := TX4) (N := 3) hx hb hts hiX4 tyX4 tyX4_ok nmX4 hown hK hP hD hS 0 rfl rfl 2 (by decide) (hts (.fieldLink RX4 18 "GreenJars$Tastes" "count" "I") (by decide +kernel)) (fun _ h9 => h9) rfl (by decide +kernel) rfl rfl (Nat.le_of_ble_eq_true rfl) dX4_add_38 (fun H locs hP hD hS => ?_)
    have hP : va_P (dC, dI) vwCl (w_X4_add cI cZ cG o o_went o_came (v_count + (1 : Int32)) (upd f_went v_count.toNatClampNeg a1) (upd f_came v_count.toNatClampNeg a2)) H := hP
    have hD : va_D A (w_X4_add cI cZ cG o o_went o_came (v_count + (1 : Int32)) (upd f_went v_count.toNatClampNeg a1) (upd f_came v_count.toNatClampNeg a2)) := hD
    refine lv_iconst (v := (1 : Int32)) hx hb dX4_add_41 (by decide) ?_
    rw [hQ]
    cases hf
    exact W.zret hx hb hr (by decide +kernel) (fun t ht hW => ⟨⟨_, (), rfl, rfl, by rw [ht]; exact hP, va_K.moved hW.alike hK, hD⟩, hS.F ht⟩) hS.2.2 dX4_add_42
  · have hf := g_neg c1 hf
    refine lv_iconst (v := (0 : Int32)) hx hb dX4_add_9 (by decide) ?_
    rw [hQ]
    cases hf
    exact W.zret hx hb hr (by decide +kernel) (fun t ht hW => ⟨⟨_, (), rfl, rfl, by rw [ht]; exact hP, va_K.moved hW.alike hK, hD⟩, hS.F ht⟩) hS.2.2 dX4_add_10
abbrev rm_X4_fits : Room := { frames := 3, cells := 0, slots := 0, locals := 66 }
abbrev w_X4_fits (cI cZ cG : ClassId) (o : Nat) (o_went : Nat) (o_came : Nat) (v_count : Int32) (f_went : Nat → Int32) (f_came : Nat → Int32) : va_W := [(o, .inr (4, [.ref o_went, .ref o_came, .int v_count])), (o_went, .inl (cI, 6, .inl f_went)), (o_came, .inl (cI, 6, .inl f_came))]
set_option maxHeartbeats 4000000 in
set_option maxRecDepth 100000 in
theorem c_X4_fits (l : Launch) (dC : Nat → ClassId) (dI : Nat → Nat → Nat) (cI cZ cG : ClassId) {N : Nat} (o : Nat) (o_went : Nat) (o_came : Nat) (v_count : Int32) (f_went : Nat → Int32) (f_came : Nat → Int32) (a1 : Int32) {r0 : Int32} (hf : x4_fits N v_count f_went f_came a1 = some r0) : Met l yX4_fits wsX4_fits rm_X4_fits (va_Pc [.ref o, .int a1] (gR (dC, dI) vwCl (gT cI cZ cG) (w_X4_fits cI cZ cG o o_went o_came v_count f_went f_came))) (vp_Si (fun r => r = r0)) 0 0 (fun _ => False) := by
  refine Met.ofW (cc := cX4_fits) (maxL := 3) (ret := (some .boolean)) (by decide) rfl ?_
  intro p e s m args below meth c s₁ B hml hv
  obtain ⟨rfl, hv⟩ := hv
  obtain ⟨hP, hK, hN⟩ := hv
  have hx := B.exec
  have hb := B.bytes
  have hr := B.returns
  have hts := atoms_spec (ws := wsX4_fits) B.pre
  have hown : s.vm.findClass RX4 = some m.cls := findClass_of_methodNamed B.named
  have hlocks := B.notSynchronized
  have hiX4 : ∀ w ∈ u_ws RX4 TX4 3, w ∈ wsX4_fits := fun w h => List.mem_cons_of_mem _ (List.mem_append_right _ h)
  obtain ⟨Q, hQ⟩ : ∃ Q : State → Prop, Q = MQ below (vp_Si (fun r => r = r0)) (([Value.ref o, Value.int a1] : List Value).toArray) s 0 0 (fun _ => False) := ⟨_, rfl⟩
  have hl := lv_entry ([.ref o, .int a1]) (n := 3) (Nat.le_of_ble_eq_true rfl)
  rw [← hQ, lg_entry_eq]
  generalize (lg_sl ([.ref o, .int a1]) ++ List.replicate (3 - (lg_sl ([.ref o, .int a1])).length) Slot.unset).toArray = ls at hl ⊢
  have hl : lv_has ls 3 [(0, .ref o), (1, .int a1)] := hl
  show W p l e rm_X4_fits s m (([Value.ref o, Value.int a1] : List Value).toArray) below meth c s.heap [] 0 0 Q (F0 m 0 ls [])
  have L2 : ∀ (n2 : Nat), ∀ (x2 : Int32) (ls : Array Slot), x4_fits_b2 N v_count f_went f_came a1 n2 x2 = some r0 → lv_has ls 3 [(0, .ref o), (1, .int a1), (2, .int x2)] → W p l e rm_X4_fits s m (([Value.ref o, Value.int a1] : List Value).toArray) below meth c s.heap [] 0 0 Q (F0 m 2 ls []) := by
    intro n2
    induction n2 with
    | zero =>
      intro x2 ls hf hl
      exact g_no hf
    | succ n2 ih2 =>
      intro x2 ls hf hl
      unfold x4_fits_b2 at hf
      refine lv_iload_n hx hb dX4_fits_2 rfl (lv_at hl 2 rfl) ?_
      refine lv_aload_n hx hb dX4_fits_3 rfl (lv_at hl 0 rfl) ?_
      refine va_get (D := (dC, dI)) (ci := 4) (v := .int v_count) (C := RX4) (T := TX4) (N := 3) hx hb hts hiX4 hown hK hP 0 rfl rfl 2 (by decide) (hts (.fieldLink RX4 18 "GreenJars$Tastes" "count" "I") (by decide +kernel)) (fun _ h9 => h9) rfl dX4_fits_4 ?_
      refine lv_icmp_ge (tgt := 50) hx hb dX4_fits_7 (by decide) (fun c1 => ?_) (fun c1 => ?_)
      · have hf := g_pos c1 hf
        refine lv_iconst (v := (1 : Int32)) hx hb dX4_fits_50 (by decide) ?_
        rw [hQ]
        exact W.zret (v := (1 : Int32)) hx hb hr (by decide +kernel) (fun t ht hW => ⟨_, rfl, Option.some.inj hf, ht⟩) (fun q h => by cases h) dX4_fits_51
      · have hf := g_neg c1 hf
        refine lv_iload_n hx hb dX4_fits_10 rfl (lv_at hl 2 rfl) ?_
        refine lv_bipush (v := (6 : Int32)) hx hb dX4_fits_11 (by decide +kernel) ?_
        refine lv_icmp_ge (tgt := 50) hx hb dX4_fits_13 (by decide) (fun c2 => ?_) (fun c2 => ?_)
        · have hf := g_pos c2 hf
          refine lv_iconst (v := (1 : Int32)) hx hb dX4_fits_50 (by decide) ?_
          rw [hQ]
          exact W.zret (v := (1 : Int32)) hx hb hr (by decide +kernel) (fun t ht hW => ⟨_, rfl, Option.some.inj hf, ht⟩) (fun q h => by cases h) dX4_fits_51
        · have hf := g_neg c2 hf
          refine lv_aload_n hx hb dX4_fits_16 rfl (lv_at hl 0 rfl) ?_
          refine va_get (D := (dC, dI)) (ci := 4) (v := .ref o_went) (C := RX4) (T := TX4) (N := 3) hx hb hts hiX4 hown hK hP 0 rfl rfl 0 (by decide) (hts (.fieldLink RX4 9 "GreenJars$Tastes" "went" "[I") (by decide +kernel)) (fun _ h9 => h9) rfl dX4_fits_17 ?_
          refine lv_iload_n hx hb dX4_fits_20 rfl (lv_at hl 2 rfl) ?_
          obtain ⟨h3, hf⟩ := g_chk hf
          refine va_iald hx hb hK hP 1 0 rfl rfl (gIn_vp h3) dX4_fits_21 ?_
          refine lv_iload_n hx hb dX4_fits_22 rfl (lv_at hl 1 rfl) ?_
          refine lv_bipush (v := (10 : Int32)) hx hb dX4_fits_23 (by decide +kernel) ?_
          refine lv_idiv hx hb dX4_fits_25 (by decide) ?_
          refine lv_iload_n hx hb dX4_fits_26 rfl (lv_at hl 1 rfl) ?_
          refine lv_bipush (v := (10 : Int32)) hx hb dX4_fits_27 (by decide +kernel) ?_
          refine lv_irem hx hb dX4_fits_29 (by decide) ?_
          obtain ⟨r4, hc5, hf⟩ := g_b1 hf
          refine g_rS (As := [.int (f_went x2.toNatClampNeg), .int (a1 / (10 : Int32)), .int (a1 - a1 / (10 : Int32) * (10 : Int32))]) (rest := []) ⟨hx, hb, hml, hown, hts⟩ (c_X4_outOf l dC dI cI cZ cG    (f_went x2.toNatClampNeg) (a1 / (10 : Int32)) (a1 - a1 / (10 : Int32) * (10 : Int32)) hc5) (va_cwS 3 hts gX4_fits_X4_outOf rfl rfl rfl (by decide +kernel) ⟨Nat.le_of_ble_eq_true rfl, Nat.le_of_ble_eq_true rfl⟩) hK hN (hP.sub [] rfl) rfl hl.1 rfl (Nat.le_of_ble_eq_true rfl) dX4_fits_30 ⟨Nat.zero_le _, Nat.zero_le _⟩ ?_
          refine lv_aload_n hx hb dX4_fits_33 rfl (lv_at hl 0 rfl) ?_
          refine va_get (D := (dC, dI)) (ci := 4) (v := .ref o_came) (C := RX4) (T := TX4) (N := 3) hx hb hts hiX4 hown hK hP 0 rfl rfl 1 (by decide) (hts (.fieldLink RX4 15 "GreenJars$Tastes" "came" "[I") (by decide +kernel)) (fun _ h9 => h9) rfl dX4_fits_34 ?_
          refine lv_iload_n hx hb dX4_fits_37 rfl (lv_at hl 2 rfl) ?_
          obtain ⟨h6, hf⟩ := g_chk hf
          refine va_iald hx hb hK hP 2 0 rfl rfl (gIn_vp h6) dX4_fits_38 ?_
          refine lv_icmp_eq (tgt := 44) hx hb dX4_fits_39 (by decide) (fun c7 => ?_) (fun c7 => ?_)
          · have hf := g_pos c7 hf
            refine lv_iinc (v := (x2 + (1 : Int32))) (lv' := [(2, .int (x2 + (1 : Int32))), (0, .ref o), (1, .int a1)]) hx hb dX4_fits_44 hl (k := 2) rfl rfl (by decide) rfl (fun ls hl => ?_)
            refine lv_goto (tgt := 2) hx hb dX4_fits_47 (by decide) ?_
            exact ih2 (x2 + (1 : Int32)) ls hf (lv_sub hl [1, 2, 0] rfl)
          · have hf := g_neg c7 hf
            refine lv_iconst (v := (0 : Int32)) hx hb dX4_fits_42 (by decide) ?_
            rw [hQ]
            exact W.zret (v := (0 : Int32)) hx hb hr (by decide +kernel) (fun t ht hW => ⟨_, rfl, Option.some.inj hf, ht⟩) (fun q h => by cases h) dX4_fits_43
  unfold x4_fits at hf
  refine lv_iconst (v := (0 : Int32)) hx hb dX4_fits_0 (by decide) ?_
  refine lv_istore_n (lv' := [(2, .int (0 : Int32)), (0, .ref o), (1, .int a1)]) hx hb dX4_fits_1 rfl hl (by decide) rfl (fun ls hl => ?_)
  exact L2 N (0 : Int32) ls hf (lv_sub hl [1, 2, 0] rfl)
abbrev rm_X4_countFits : Room := { frames := 4, cells := 0, slots := 0, locals := 88 }
abbrev w_X4_countFits (cI cZ cG : ClassId) (o : Nat) (o_went : Nat) (o_came : Nat) (v_count : Int32) (f_went : Nat → Int32) (f_came : Nat → Int32) : va_W := [(o, .inr (4, [.ref o_went, .ref o_came, .int v_count])), (o_went, .inl (cI, 6, .inl f_went)), (o_came, .inl (cI, 6, .inl f_came))]
set_option maxHeartbeats 4000000 in
set_option maxRecDepth 100000 in
theorem c_X4_countFits (l : Launch) (dC : Nat → ClassId) (dI : Nat → Nat → Nat) (cI cZ cG : ClassId) {N : Nat} (o : Nat) (o_went : Nat) (o_came : Nat) (v_count : Int32) (f_went : Nat → Int32) (f_came : Nat → Int32) {r0 : Int32} (hf : x4_countFits N v_count f_went f_came = some r0) : Met l yX4_countFits wsX4_countFits rm_X4_countFits (va_Pc [.ref o] (gR (dC, dI) vwCl (gT cI cZ cG) (w_X4_countFits cI cZ cG o o_went o_came v_count f_went f_came))) (vp_Si (fun r => r = r0)) 0 0 (fun _ => False) := by
  refine Met.ofW (cc := cX4_countFits) (maxL := 3) (ret := (some .int)) (by decide) rfl ?_
  intro p e s m args below meth c s₁ B hml hv
  obtain ⟨rfl, hv⟩ := hv
  obtain ⟨hP, hK, hN⟩ := hv
  have hx := B.exec
  have hb := B.bytes
  have hr := B.returns
  have hts := atoms_spec (ws := wsX4_countFits) B.pre
  have hown : s.vm.findClass RX4 = some m.cls := findClass_of_methodNamed B.named
  have hlocks := B.notSynchronized
  have hiX4 : ∀ w ∈ u_ws RX4 TX4 3, w ∈ wsX4_countFits := fun w h => List.mem_cons_of_mem _ (List.mem_append_right _ h)
  obtain ⟨Q, hQ⟩ : ∃ Q : State → Prop, Q = MQ below (vp_Si (fun r => r = r0)) (([Value.ref o] : List Value).toArray) s 0 0 (fun _ => False) := ⟨_, rfl⟩
  have hl := lv_entry ([.ref o]) (n := 3) (Nat.le_of_ble_eq_true rfl)
  rw [← hQ, lg_entry_eq]
  generalize (lg_sl ([.ref o]) ++ List.replicate (3 - (lg_sl ([.ref o])).length) Slot.unset).toArray = ls at hl ⊢
  have hl : lv_has ls 3 [(0, .ref o)] := hl
  show W p l e rm_X4_countFits s m (([Value.ref o] : List Value).toArray) below meth c s.heap [] 0 0 Q (F0 m 0 ls [])
  have L4 : ∀ (n4 : Nat), ∀ (x1 : Int32) (x2 : Int32) (ls : Array Slot), x4_countFits_b4 N v_count f_went f_came n4 x1 x2 = some r0 → lv_has ls 3 [(0, .ref o), (1, .int x1), (2, .int x2)] → W p l e rm_X4_countFits s m (([Value.ref o] : List Value).toArray) below meth c s.heap [] 0 0 Q (F0 m 4 ls []) := by
    intro n4
    induction n4 with
    | zero =>
      intro x1 x2 ls hf hl
      exact g_no hf
    | succ n4 ih4 =>
      have J24 : ∀ (x2 : Int32) (t0 : Int32) (t1 : Int32) (ls : Array Slot), x4_countFits_b24 N v_count f_went f_came (x4_countFits_b4 N v_count f_went f_came n4) x2 t0 t1 = some r0 → lv_has ls 3 [(0, .ref o), (2, .int x2)] → W p l e rm_X4_countFits s m (([Value.ref o] : List Value).toArray) below meth c s.heap [] 0 0 Q (F0 m 24 ls [.int t1, .int t0]) := by
        intro x2 t0 t1 ls hf hl
        unfold x4_countFits_b24 at hf
        refine lv_iadd hx hb dX4_countFits_24 ?_
        refine lv_istore_n (lv' := [(1, .int (t0 + t1)), (0, .ref o), (2, .int x2)]) hx hb dX4_countFits_25 rfl hl (by decide) rfl (fun ls hl => ?_)
        refine lv_iinc (v := (x2 + (1 : Int32))) (lv' := [(2, .int (x2 + (1 : Int32))), (1, .int (t0 + t1)), (0, .ref o)]) hx hb dX4_countFits_26 hl (k := 2) rfl rfl (by decide) rfl (fun ls hl => ?_)
        refine lv_goto (tgt := 4) hx hb dX4_countFits_29 (by decide) ?_
        exact ih4 (t0 + t1) (x2 + (1 : Int32)) ls hf (lv_sub hl [2, 1, 0] rfl)
      intro x1 x2 ls hf hl
      unfold x4_countFits_b4 at hf
      refine lv_iload_n hx hb dX4_countFits_4 rfl (lv_at hl 2 rfl) ?_
      refine lv_bipush (v := (40 : Int32)) hx hb dX4_countFits_5 (by decide +kernel) ?_
      refine lv_icmp_ge (tgt := 32) hx hb dX4_countFits_7 (by decide) (fun c1 => ?_) (fun c1 => ?_)
      · have hf := g_pos c1 hf
        refine lv_iload_n hx hb dX4_countFits_32 rfl (lv_at hl 1 rfl) ?_
        rw [hQ]
        exact W.iret (v := x1) hx hb hr (fun t ht hW => ⟨_, rfl, Option.some.inj hf, ht⟩) (fun q h => by cases h) dX4_countFits_33
      · have hf := g_neg c1 hf
        refine lv_iload_n hx hb dX4_countFits_10 rfl (lv_at hl 1 rfl) ?_
        refine lv_aload_n hx hb dX4_countFits_11 rfl (lv_at hl 0 rfl) ?_
        refine lv_iload_n hx hb dX4_countFits_12 rfl (lv_at hl 2 rfl) ?_
        obtain ⟨r2, hc3, hf⟩ := g_b1 hf
        refine g_rV (As := [.int x2]) (rest := [.int x1]) ⟨hx, hb, hml, hown, hts⟩ (c_X4_fits l dC dI cI cZ cG o o_went o_came  v_count f_went f_came x2 hc3) (cwV 1 hts gX4_countFits_X4_fits rfl rfl rfl (by decide +kernel) ⟨Nat.le_of_ble_eq_true rfl, Nat.le_of_ble_eq_true rfl⟩) hK hN (hP.sub [0, 1, 2] rfl) (va_recv hK hP (ci := 4) (q0 := 0) rfl rfl) rfl hl.1 rfl (Nat.le_of_ble_eq_true rfl) dX4_countFits_13 ⟨Nat.zero_le _, Nat.zero_le _⟩ ?_
        refine lv_if_eq (tgt := 23) hx hb dX4_countFits_16 (by decide) (fun c4 => ?_) (fun c4 => ?_)
        · have hf := g_pos c4 hf
          refine lv_iconst (v := (0 : Int32)) hx hb dX4_countFits_23 (by decide) ?_
          exact J24 x2 x1 (0 : Int32) ls hf (lv_sub hl [0, 2] rfl)
        · have hf := g_neg c4 hf
          refine lv_iconst (v := (1 : Int32)) hx hb dX4_countFits_19 (by decide) ?_
          refine lv_goto (tgt := 24) hx hb dX4_countFits_20 (by decide) ?_
          exact J24 x2 x1 (1 : Int32) ls hf (lv_sub hl [0, 2] rfl)
  unfold x4_countFits at hf
  refine lv_iconst (v := (0 : Int32)) hx hb dX4_countFits_0 (by decide) ?_
  refine lv_istore_n (lv' := [(1, .int (0 : Int32)), (0, .ref o)]) hx hb dX4_countFits_1 rfl hl (by decide) rfl (fun ls hl => ?_)
  refine lv_iconst (v := (0 : Int32)) hx hb dX4_countFits_2 (by decide) ?_
  refine lv_istore_n (lv' := [(2, .int (0 : Int32)), (1, .int (0 : Int32)), (0, .ref o)]) hx hb dX4_countFits_3 rfl hl (by decide) rfl (fun ls hl => ?_)
  exact L4 N (0 : Int32) (0 : Int32) ls hf (lv_sub hl [2, 1, 0] rfl)
abbrev rm_X4_firstFit : Room := { frames := 4, cells := 0, slots := 0, locals := 88 }
abbrev w_X4_firstFit (cI cZ cG : ClassId) (o : Nat) (o_went : Nat) (o_came : Nat) (v_count : Int32) (f_went : Nat → Int32) (f_came : Nat → Int32) : va_W := [(o, .inr (4, [.ref o_went, .ref o_came, .int v_count])), (o_went, .inl (cI, 6, .inl f_went)), (o_came, .inl (cI, 6, .inl f_came))]
set_option maxHeartbeats 4000000 in
set_option maxRecDepth 100000 in
theorem c_X4_firstFit (l : Launch) (dC : Nat → ClassId) (dI : Nat → Nat → Nat) (cI cZ cG : ClassId) {N : Nat} (o : Nat) (o_went : Nat) (o_came : Nat) (v_count : Int32) (f_went : Nat → Int32) (f_came : Nat → Int32) {r0 : Int32} (hf : x4_firstFit N v_count f_went f_came = some r0) : Met l yX4_firstFit wsX4_firstFit rm_X4_firstFit (va_Pc [.ref o] (gR (dC, dI) vwCl (gT cI cZ cG) (w_X4_firstFit cI cZ cG o o_went o_came v_count f_went f_came))) (vp_Si (fun r => r = r0)) 0 0 (fun _ => False) := by
  refine Met.ofW (cc := cX4_firstFit) (maxL := 2) (ret := (some .int)) (by decide) rfl ?_
  intro p e s m args below meth c s₁ B hml hv
  obtain ⟨rfl, hv⟩ := hv
  obtain ⟨hP, hK, hN⟩ := hv
  have hx := B.exec
  have hb := B.bytes
  have hr := B.returns
  have hts := atoms_spec (ws := wsX4_firstFit) B.pre
  have hown : s.vm.findClass RX4 = some m.cls := findClass_of_methodNamed B.named
  have hlocks := B.notSynchronized
  have hiX4 : ∀ w ∈ u_ws RX4 TX4 3, w ∈ wsX4_firstFit := fun w h => List.mem_cons_of_mem _ (List.mem_append_right _ h)
  obtain ⟨Q, hQ⟩ : ∃ Q : State → Prop, Q = MQ below (vp_Si (fun r => r = r0)) (([Value.ref o] : List Value).toArray) s 0 0 (fun _ => False) := ⟨_, rfl⟩
  have hl := lv_entry ([.ref o]) (n := 2) (Nat.le_of_ble_eq_true rfl)
  rw [← hQ, lg_entry_eq]
  generalize (lg_sl ([.ref o]) ++ List.replicate (2 - (lg_sl ([.ref o])).length) Slot.unset).toArray = ls at hl ⊢
  have hl : lv_has ls 2 [(0, .ref o)] := hl
  show W p l e rm_X4_firstFit s m (([Value.ref o] : List Value).toArray) below meth c s.heap [] 0 0 Q (F0 m 0 ls [])
  have L2 : ∀ (n2 : Nat), ∀ (x1 : Int32) (ls : Array Slot), x4_firstFit_b2 N v_count f_went f_came n2 x1 = some r0 → lv_has ls 2 [(0, .ref o), (1, .int x1)] → W p l e rm_X4_firstFit s m (([Value.ref o] : List Value).toArray) below meth c s.heap [] 0 0 Q (F0 m 2 ls []) := by
    intro n2
    induction n2 with
    | zero =>
      intro x1 ls hf hl
      exact g_no hf
    | succ n2 ih2 =>
      intro x1 ls hf hl
      unfold x4_firstFit_b2 at hf
      refine lv_iload_n hx hb dX4_firstFit_2 rfl (lv_at hl 1 rfl) ?_
      refine lv_bipush (v := (40 : Int32)) hx hb dX4_firstFit_3 (by decide +kernel) ?_
      refine lv_icmp_ge (tgt := 24) hx hb dX4_firstFit_5 (by decide) (fun c1 => ?_) (fun c1 => ?_)
      · have hf := g_pos c1 hf
        refine lv_bipush (v := (-9 : Int32)) hx hb dX4_firstFit_24 (by decide +kernel) ?_
        rw [hQ]
        exact W.iret (v := (-9 : Int32)) hx hb hr (fun t ht hW => ⟨_, rfl, Option.some.inj hf, ht⟩) (fun q h => by cases h) dX4_firstFit_26
      · have hf := g_neg c1 hf
        refine lv_aload_n hx hb dX4_firstFit_8 rfl (lv_at hl 0 rfl) ?_
        refine lv_iload_n hx hb dX4_firstFit_9 rfl (lv_at hl 1 rfl) ?_
        obtain ⟨r2, hc3, hf⟩ := g_b1 hf
        refine g_rV (As := [.int x1]) (rest := []) ⟨hx, hb, hml, hown, hts⟩ (c_X4_fits l dC dI cI cZ cG o o_went o_came  v_count f_went f_came x1 hc3) (cwV 1 hts gX4_firstFit_X4_fits rfl rfl rfl (by decide +kernel) ⟨Nat.le_of_ble_eq_true rfl, Nat.le_of_ble_eq_true rfl⟩) hK hN (hP.sub [0, 1, 2] rfl) (va_recv hK hP (ci := 4) (q0 := 0) rfl rfl) rfl hl.1 rfl (Nat.le_of_ble_eq_true rfl) dX4_firstFit_10 ⟨Nat.zero_le _, Nat.zero_le _⟩ ?_
        refine lv_if_eq (tgt := 18) hx hb dX4_firstFit_13 (by decide) (fun c4 => ?_) (fun c4 => ?_)
        · have hf := g_pos c4 hf
          refine lv_iinc (v := (x1 + (1 : Int32))) (lv' := [(1, .int (x1 + (1 : Int32))), (0, .ref o)]) hx hb dX4_firstFit_18 hl (k := 1) rfl rfl (by decide) rfl (fun ls hl => ?_)
          refine lv_goto (tgt := 2) hx hb dX4_firstFit_21 (by decide) ?_
          exact ih2 (x1 + (1 : Int32)) ls hf (lv_sub hl [1, 0] rfl)
        · have hf := g_neg c4 hf
          refine lv_iload_n hx hb dX4_firstFit_16 rfl (lv_at hl 1 rfl) ?_
          rw [hQ]
          exact W.iret (v := x1) hx hb hr (fun t ht hW => ⟨_, rfl, Option.some.inj hf, ht⟩) (fun q h => by cases h) dX4_firstFit_17
  unfold x4_firstFit at hf
  refine lv_iconst (v := (0 : Int32)) hx hb dX4_firstFit_0 (by decide) ?_
  refine lv_istore_n (lv' := [(1, .int (0 : Int32)), (0, .ref o)]) hx hb dX4_firstFit_1 rfl hl (by decide) rfl (fun ls hl => ?_)
  exact L2 N (0 : Int32) ls hf (lv_sub hl [1, 0] rfl)
abbrev rm_X6_most : Room := { frames := 0, cells := 0, slots := 0, locals := 0 }
abbrev w_X6_most (cI cZ cG : ClassId) (o : Nat) (o_movers : Nat) (o_spots : Nat) (v_count : Int32) (v_most : Int32) (v_figures : Int32) : va_W := [(o, .inr (6, [.ref o_movers, .ref o_spots, .int v_count, .int v_most, .int v_figures]))]
set_option maxHeartbeats 4000000 in
set_option maxRecDepth 100000 in
theorem c_X6_most (l : Launch) (dC : Nat → ClassId) (dI : Nat → Nat → Nat) (cI cZ cG : ClassId) (o : Nat) (o_movers : Nat) (o_spots : Nat) (v_count : Int32) (v_most : Int32) (v_figures : Int32) {r0 : Int32} (hf : x6_most v_most = some r0) : Met l yX6_most wsX6_most rm_X6_most (va_Pc [.ref o] (gR (dC, dI) vwCl (gT cI cZ cG) (w_X6_most cI cZ cG o o_movers o_spots v_count v_most v_figures))) (vp_Si (fun r => r = r0)) 0 0 (fun _ => False) := by
  refine Met.ofW (cc := cX6_most) (maxL := 1) (ret := (some .int)) (by decide) rfl ?_
  intro p e s m args below meth c s₁ B hml hv
  obtain ⟨rfl, hv⟩ := hv
  obtain ⟨hP, hK, hN⟩ := hv
  have hx := B.exec
  have hb := B.bytes
  have hr := B.returns
  have hts := atoms_spec (ws := wsX6_most) B.pre
  have hown : s.vm.findClass RX6 = some m.cls := findClass_of_methodNamed B.named
  have hlocks := B.notSynchronized
  have hiX6 : ∀ w ∈ u_ws RX6 TX6 5, w ∈ wsX6_most := fun w h => List.mem_cons_of_mem _ (List.mem_append_right _ h)
  obtain ⟨Q, hQ⟩ : ∃ Q : State → Prop, Q = MQ below (vp_Si (fun r => r = r0)) (([Value.ref o] : List Value).toArray) s 0 0 (fun _ => False) := ⟨_, rfl⟩
  have hl := lv_entry ([.ref o]) (n := 1) (Nat.le_of_ble_eq_true rfl)
  rw [← hQ, lg_entry_eq]
  generalize (lg_sl ([.ref o]) ++ List.replicate (1 - (lg_sl ([.ref o])).length) Slot.unset).toArray = ls at hl ⊢
  have hl : lv_has ls 1 [(0, .ref o)] := hl
  show W p l e rm_X6_most s m (([Value.ref o] : List Value).toArray) below meth c s.heap [] 0 0 Q (F0 m 0 ls [])
  unfold x6_most at hf
  refine lv_aload_n hx hb dX6_most_0 rfl (lv_at hl 0 rfl) ?_
  refine va_get (D := (dC, dI)) (ci := 6) (v := .int v_most) (C := RX6) (T := TX6) (N := 5) hx hb hts hiX6 hown hK hP 0 rfl rfl 3 (by decide) (hts (.fieldLink RX6 22 "GreenJars$Ways" "most" "I") (by decide +kernel)) (fun _ h9 => h9) rfl dX6_most_1 ?_
  rw [hQ]
  exact W.iret (v := v_most) hx hb hr (fun t ht hW => ⟨_, rfl, Option.some.inj hf, ht⟩) (fun q h => by cases h) dX6_most_4
abbrev rm_X6_figures : Room := { frames := 0, cells := 0, slots := 0, locals := 0 }
abbrev w_X6_figures (cI cZ cG : ClassId) (o : Nat) (o_movers : Nat) (o_spots : Nat) (v_count : Int32) (v_most : Int32) (v_figures : Int32) : va_W := [(o, .inr (6, [.ref o_movers, .ref o_spots, .int v_count, .int v_most, .int v_figures]))]
set_option maxHeartbeats 4000000 in
set_option maxRecDepth 100000 in
theorem c_X6_figures (l : Launch) (dC : Nat → ClassId) (dI : Nat → Nat → Nat) (cI cZ cG : ClassId) (o : Nat) (o_movers : Nat) (o_spots : Nat) (v_count : Int32) (v_most : Int32) (v_figures : Int32) {r0 : Int32} (hf : x6_figures v_figures = some r0) : Met l yX6_figures wsX6_figures rm_X6_figures (va_Pc [.ref o] (gR (dC, dI) vwCl (gT cI cZ cG) (w_X6_figures cI cZ cG o o_movers o_spots v_count v_most v_figures))) (vp_Si (fun r => r = r0)) 0 0 (fun _ => False) := by
  refine Met.ofW (cc := cX6_figures) (maxL := 1) (ret := (some .int)) (by decide) rfl ?_
  intro p e s m args below meth c s₁ B hml hv
  obtain ⟨rfl, hv⟩ := hv
  obtain ⟨hP, hK, hN⟩ := hv
  have hx := B.exec
  have hb := B.bytes
  have hr := B.returns
  have hts := atoms_spec (ws := wsX6_figures) B.pre
  have hown : s.vm.findClass RX6 = some m.cls := findClass_of_methodNamed B.named
  have hlocks := B.notSynchronized
  have hiX6 : ∀ w ∈ u_ws RX6 TX6 5, w ∈ wsX6_figures := fun w h => List.mem_cons_of_mem _ (List.mem_append_right _ h)
  obtain ⟨Q, hQ⟩ : ∃ Q : State → Prop, Q = MQ below (vp_Si (fun r => r = r0)) (([Value.ref o] : List Value).toArray) s 0 0 (fun _ => False) := ⟨_, rfl⟩
  have hl := lv_entry ([.ref o]) (n := 1) (Nat.le_of_ble_eq_true rfl)
  rw [← hQ, lg_entry_eq]
  generalize (lg_sl ([.ref o]) ++ List.replicate (1 - (lg_sl ([.ref o])).length) Slot.unset).toArray = ls at hl ⊢
  have hl : lv_has ls 1 [(0, .ref o)] := hl
  show W p l e rm_X6_figures s m (([Value.ref o] : List Value).toArray) below meth c s.heap [] 0 0 Q (F0 m 0 ls [])
  unfold x6_figures at hf
  refine lv_aload_n hx hb dX6_figures_0 rfl (lv_at hl 0 rfl) ?_
  refine va_get (D := (dC, dI)) (ci := 6) (v := .int v_figures) (C := RX6) (T := TX6) (N := 5) hx hb hts hiX6 hown hK hP 0 rfl rfl 4 (by decide) (hts (.fieldLink RX6 25 "GreenJars$Ways" "figures" "I") (by decide +kernel)) (fun _ h9 => h9) rfl dX6_figures_1 ?_
  rw [hQ]
  exact W.iret (v := v_figures) hx hb hr (fun t ht hW => ⟨_, rfl, Option.some.inj hf, ht⟩) (fun q h => by cases h) dX6_figures_4
abbrev rm_X6_gather : Room := { frames := 2, cells := 0, slots := 0, locals := 44 }
abbrev w_X6_gather (cI cZ cG : ClassId) (o : Nat) (o_movers : Nat) (o_spots : Nat) (q1 : Nat) (q1_cells : Nat) (q1_standing : Nat) (v_count : Int32) (v_most : Int32) (v_figures : Int32) (f_movers : Nat → Int32) (f_spots : Nat → Int32) (v_q1_jars : Int32) (v_q1_weeks : Int32) (f_q1_cells : Nat → Int32) : va_W := [(o, .inr (6, [.ref o_movers, .ref o_spots, .int v_count, .int v_most, .int v_figures])), (o_movers, .inl (cI, 6, .inl f_movers)), (o_spots, .inl (cI, 6, .inl f_spots)), (q1, .inr (2, [.ref q1_cells, .ref q1_standing, .int v_q1_jars, .int v_q1_weeks])), (q1_cells, .inl (cI, 48, .inl f_q1_cells))]
set_option maxHeartbeats 4000000 in
set_option maxRecDepth 100000 in
theorem c_X6_gather (l : Launch) (dC : Nat → ClassId) (dI : Nat → Nat → Nat) (cI cZ cG : ClassId) {N : Nat} (o : Nat) (o_movers : Nat) (o_spots : Nat) (q1 : Nat) (q1_cells : Nat) (q1_standing : Nat) (sz : Nat) (v_count : Int32) (v_most : Int32) (v_figures : Int32) (f_movers : Nat → Int32) (f_spots : Nat → Int32) (v_q1_jars : Int32) (v_q1_weeks : Int32) (f_q1_cells : Nat → Int32) {n_count : Int32} {n_movers : Nat → Int32} {n_spots : Nat → Int32} (hf : x6_gather N v_count f_movers f_spots v_q1_jars f_q1_cells = some (n_count, n_movers, n_spots)) : Met l yX6_gather wsX6_gather rm_X6_gather (va_Pc [.ref o, .ref q1] (gW (dC, dI) vwCl (gT cI cZ cG) (w_X6_gather cI cZ cG o o_movers o_spots q1 q1_cells q1_standing v_count v_most v_figures f_movers f_spots v_q1_jars v_q1_weeks f_q1_cells) sz)) (va_Qv (fun _ => True) (gE (dC, dI) vwCl (gT cI cZ cG) (w_X6_gather cI cZ cG o o_movers o_spots q1 q1_cells q1_standing n_count v_most v_figures n_movers n_spots v_q1_jars v_q1_weeks f_q1_cells) (va_A (w_X6_gather cI cZ cG o o_movers o_spots q1 q1_cells q1_standing v_count v_most v_figures f_movers f_spots v_q1_jars v_q1_weeks f_q1_cells) sz)) (va_A (w_X6_gather cI cZ cG o o_movers o_spots q1 q1_cells q1_standing v_count v_most v_figures f_movers f_spots v_q1_jars v_q1_weeks f_q1_cells) sz)) 0 0 (va_A (w_X6_gather cI cZ cG o o_movers o_spots q1 q1_cells q1_standing v_count v_most v_figures f_movers f_spots v_q1_jars v_q1_weeks f_q1_cells) sz) := by
  refine Met.ofW (cc := cX6_gather) (maxL := 4) (ret := none) (by decide) rfl ?_
  intro p e s m args below meth c s₁ B hml hv
  obtain ⟨rfl, hv⟩ := hv
  obtain ⟨hsz, hP, hK, hN, hD0⟩ := hv
  have hx := B.exec
  have hb := B.bytes
  have hr := B.returns
  have hts := atoms_spec (ws := wsX6_gather) B.pre
  have hown : s.vm.findClass RX6 = some m.cls := findClass_of_methodNamed B.named
  have hlocks := B.notSynchronized
  have hiX2 : ∀ w ∈ u_ws RX2 TX2 4, w ∈ wsX6_gather := fun w h => List.mem_cons_of_mem _ (List.mem_append_right _ h)
  have hiX6 : ∀ w ∈ u_ws RX6 TX6 5, w ∈ wsX6_gather := fun w h => List.mem_cons_of_mem _ (List.mem_append_left _ (List.mem_append_right _ h))
  subst hsz
  have hD := hD0.self (sz := s.heap.size)
  generalize hAe : va_A (w_X6_gather cI cZ cG o o_movers o_spots q1 q1_cells q1_standing v_count v_most v_figures f_movers f_spots v_q1_jars v_q1_weeks f_q1_cells) s.heap.size = A at hD ⊢
  have hA : ∀ q : Nat, s.heap.size ≤ q → A q := fun q h => by rw [← hAe]; exact Or.inr h
  clear hD0
  have hS : va_S A s.heap s.heap [] := va_S.rf
  have hP : va_P (dC, dI) vwCl (w_X6_gather cI cZ cG o o_movers o_spots q1 q1_cells q1_standing v_count v_most v_figures f_movers f_spots v_q1_jars v_q1_weeks f_q1_cells) s.heap := hP
  obtain ⟨Q, hQ⟩ : ∃ Q : State → Prop, Q = MQ below (va_Qv (fun _ => True) (gE (dC, dI) vwCl (gT cI cZ cG) (w_X6_gather cI cZ cG o o_movers o_spots q1 q1_cells q1_standing n_count v_most v_figures n_movers n_spots v_q1_jars v_q1_weeks f_q1_cells) A) A) (([Value.ref o, Value.ref q1] : List Value).toArray) s 0 0 A := ⟨_, rfl⟩
  have hl := lv_entry ([.ref o, .ref q1]) (n := 4) (Nat.le_of_ble_eq_true rfl)
  rw [← hQ, lg_entry_eq]
  generalize (lg_sl ([.ref o, .ref q1]) ++ List.replicate (4 - (lg_sl ([.ref o, .ref q1])).length) Slot.unset).toArray = ls at hl ⊢
  have hl : lv_has ls 4 [(0, .ref o), (1, .ref q1)] := hl
  generalize hH : s.heap = H at hP hS ⊢
  have hS : va_S A s.heap H [] := by rw [hH]; exact hS
  generalize hlc : ([] : List Loc) = locs at hS ⊢
  show W p l e rm_X6_gather s m (([Value.ref o, Value.ref q1] : List Value).toArray) below meth c H locs 0 0 Q (F0 m 0 ls [])
  have L62 : ∀ (n62 : Nat), ∀ (x2 : Int32) (x3 : Int32) (y_count : Int32) (y_movers : Nat → Int32) (y_spots : Nat → Int32) (H : Heap) (locs : List Loc) (ls : Array Slot), x6_gather_b62 N v_q1_jars f_q1_cells n62 x2 x3 y_count y_movers y_spots = some (n_count, n_movers, n_spots) → lv_has ls 4 [(0, .ref o), (1, .ref q1), (2, .int x2), (3, .int x3)] → va_P (dC, dI) vwCl (w_X6_gather cI cZ cG o o_movers o_spots q1 q1_cells q1_standing y_count v_most v_figures y_movers y_spots v_q1_jars v_q1_weeks f_q1_cells) H → va_D A (w_X6_gather cI cZ cG o o_movers o_spots q1 q1_cells q1_standing y_count v_most v_figures y_movers y_spots v_q1_jars v_q1_weeks f_q1_cells) → va_S A s.heap H locs → W p l e rm_X6_gather s m (([Value.ref o, Value.ref q1] : List Value).toArray) below meth c H locs 0 0 Q (F0 m 62 ls []) := by
    intro n62
    induction n62 with
    | zero =>
      intro x2 x3 y_count y_movers y_spots H locs ls hf hl hP hD hS
      exact g_no hf
    | succ n62 ih62 =>
      intro x2 x3 y_count y_movers y_spots H locs ls hf hl hP hD hS
      unfold x6_gather_b62 at hf
      refine lv_iload_n hx hb dX6_gather_62 rfl (lv_at hl 3 rfl) ?_
      refine lv_bipush (v := (8 : Int32)) hx hb dX6_gather_63 (by decide +kernel) ?_
      refine lv_icmp_ge (tgt := 102) hx hb dX6_gather_65 (by decide) (fun c1 => ?_) (fun c1 => ?_)
      · have hf := g_pos c1 hf
        rw [hQ]
        cases hf
        exact W.vret hx hb hr (fun t ht hW => ⟨⟨(), rfl, trivial, by rw [ht]; exact hP, va_K.moved hW.alike hK, hD⟩, hS.F ht⟩) hS.2.2 dX6_gather_102
      · have hf := g_neg c1 hf
        refine lv_iload_n hx hb dX6_gather_68 rfl (lv_at hl 2 rfl) ?_
        refine lv_bipush (v := (6 : Int32)) hx hb dX6_gather_69 (by decide +kernel) ?_
        refine lv_icmp_ge (tgt := 102) hx hb dX6_gather_71 (by decide) (fun c2 => ?_) (fun c2 => ?_)
        · have hf := g_pos c2 hf
          rw [hQ]
          cases hf
          exact W.vret hx hb hr (fun t ht hW => ⟨⟨(), rfl, trivial, by rw [ht]; exact hP, va_K.moved hW.alike hK, hD⟩, hS.F ht⟩) hS.2.2 dX6_gather_102
        · have hf := g_neg c2 hf
          refine lv_aload_n hx hb dX6_gather_74 rfl (lv_at hl 1 rfl) ?_
          refine lv_aload_n hx hb dX6_gather_75 rfl (lv_at hl 1 rfl) ?_
          refine lv_iload_n hx hb dX6_gather_76 rfl (lv_at hl 3 rfl) ?_
          obtain ⟨r3, hc4, hf⟩ := g_b1 hf
          refine g_rV (As := [.int x3]) (rest := [.ref q1]) ⟨hx, hb, hml, hown, hts⟩ (c_X2_jarOn l dC dI cI cZ cG q1 q1_cells q1_standing  v_q1_jars v_q1_weeks f_q1_cells x3 hc4) (cwV 1 hts gX6_gather_X2_jarOn rfl rfl rfl (by decide +kernel) ⟨Nat.le_of_ble_eq_true rfl, Nat.le_of_ble_eq_true rfl⟩) hK hN (hP.sub [3, 4] rfl) (va_recv hK hP (ci := 2) (q0 := 3) rfl rfl) rfl hl.1 rfl (Nat.le_of_ble_eq_true rfl) dX6_gather_77 ⟨Nat.zero_le _, Nat.zero_le _⟩ ?_
          obtain ⟨r5, hc6, hf⟩ := g_b1 hf
          refine g_rV (As := [.int r3]) (rest := []) ⟨hx, hb, hml, hown, hts⟩ (c_X2_isWhole l dC dI cI cZ cG q1 q1_cells q1_standing  v_q1_jars v_q1_weeks f_q1_cells r3 hc6) (cwV 1 hts gX6_gather_X2_isWhole rfl rfl rfl (by decide +kernel) ⟨Nat.le_of_ble_eq_true rfl, Nat.le_of_ble_eq_true rfl⟩) hK hN (hP.sub [3, 4] rfl) (va_recv hK hP (ci := 2) (q0 := 3) rfl rfl) rfl hl.1 rfl (Nat.le_of_ble_eq_true rfl) dX6_gather_80 ⟨Nat.zero_le _, Nat.zero_le _⟩ ?_
          refine lv_if_eq (tgt := 96) hx hb dX6_gather_83 (by decide) (fun c7 => ?_) (fun c7 => ?_)
          · have hf := g_pos c7 hf
            refine lv_iinc (v := (x3 + (1 : Int32))) (lv' := [(3, .int (x3 + (1 : Int32))), (0, .ref o), (1, .ref q1), (2, .int x2)]) hx hb dX6_gather_96 hl (k := 3) rfl rfl (by decide) rfl (fun ls hl => ?_)
            refine lv_goto (tgt := 62) hx hb dX6_gather_99 (by decide) ?_
            exact ih62 x2 (x3 + (1 : Int32)) y_count y_movers y_spots H locs ls hf (lv_sub hl [1, 2, 3, 0] rfl) hP hD hS
          · have hf := g_neg c7 hf
            refine lv_aload_n hx hb dX6_gather_86 rfl (lv_at hl 0 rfl) ?_
            refine va_get (D := (dC, dI)) (ci := 6) (v := .ref o_spots) (C := RX6) (T := TX6) (N := 5) hx hb hts hiX6 hown hK hP 0 rfl rfl 1 (by decide) (hts (.fieldLink RX6 15 "GreenJars$Ways" "spots" "[I") (by decide +kernel)) (fun _ h9 => h9) rfl dX6_gather_87 ?_
            refine lv_iload_n hx hb dX6_gather_90 rfl (lv_at hl 2 rfl) ?_
            refine lv_iload_n hx hb dX6_gather_91 rfl (lv_at hl 3 rfl) ?_
            obtain ⟨h8, hf⟩ := g_chk hf
            refine va_iast hx hb hK hP hD hS 2 0 rfl rfl (gIn_vp h8) dX6_gather_92 (fun H locs hP hD hS => ?_)
            have hP : va_P (dC, dI) vwCl (w_X6_gather cI cZ cG o o_movers o_spots q1 q1_cells q1_standing y_count v_most v_figures y_movers (upd y_spots x2.toNatClampNeg x3) v_q1_jars v_q1_weeks f_q1_cells) H := hP
            have hD : va_D A (w_X6_gather cI cZ cG o o_movers o_spots q1 q1_cells q1_standing y_count v_most v_figures y_movers (upd y_spots x2.toNatClampNeg x3) v_q1_jars v_q1_weeks f_q1_cells) := hD
            refine lv_iinc (v := (x2 + (1 : Int32))) (lv' := [(2, .int (x2 + (1 : Int32))), (0, .ref o), (1, .ref q1), (3, .int x3)]) hx hb dX6_gather_93 hl (k := 2) rfl rfl (by decide) rfl (fun ls hl => ?_)
            refine lv_iinc (v := (x3 + (1 : Int32))) (lv' := [(3, .int (x3 + (1 : Int32))), (2, .int (x2 + (1 : Int32))), (0, .ref o), (1, .ref q1)]) hx hb dX6_gather_96 hl (k := 3) rfl rfl (by decide) rfl (fun ls hl => ?_)
            refine lv_goto (tgt := 62) hx hb dX6_gather_99 (by decide) ?_
            exact ih62 (x2 + (1 : Int32)) (x3 + (1 : Int32)) y_count y_movers (upd y_spots x2.toNatClampNeg x3) H locs ls hf (lv_sub hl [2, 3, 1, 0] rfl) hP hD hS
  have J58 : ∀ (y_count : Int32) (y_movers : Nat → Int32) (y_spots : Nat → Int32) (H : Heap) (locs : List Loc) (ls : Array Slot), x6_gather_b58 N v_q1_jars f_q1_cells y_count y_movers y_spots = some (n_count, n_movers, n_spots) → lv_has ls 4 [(0, .ref o), (1, .ref q1)] → va_P (dC, dI) vwCl (w_X6_gather cI cZ cG o o_movers o_spots q1 q1_cells q1_standing y_count v_most v_figures y_movers y_spots v_q1_jars v_q1_weeks f_q1_cells) H → va_D A (w_X6_gather cI cZ cG o o_movers o_spots q1 q1_cells q1_standing y_count v_most v_figures y_movers y_spots v_q1_jars v_q1_weeks f_q1_cells) → va_S A s.heap H locs → W p l e rm_X6_gather s m (([Value.ref o, Value.ref q1] : List Value).toArray) below meth c H locs 0 0 Q (F0 m 58 ls []) := by
    intro y_count y_movers y_spots H locs ls hf hl hP hD hS
    unfold x6_gather_b58 at hf
    refine lv_iconst (v := (0 : Int32)) hx hb dX6_gather_58 (by decide) ?_
    refine lv_istore_n (lv' := [(2, .int (0 : Int32)), (0, .ref o), (1, .ref q1)]) hx hb dX6_gather_59 rfl hl (by decide) rfl (fun ls hl => ?_)
    refine lv_iconst (v := (0 : Int32)) hx hb dX6_gather_60 (by decide) ?_
    refine lv_istore_n (lv' := [(3, .int (0 : Int32)), (2, .int (0 : Int32)), (0, .ref o), (1, .ref q1)]) hx hb dX6_gather_61 rfl hl (by decide) rfl (fun ls hl => ?_)
    exact L62 N (0 : Int32) (0 : Int32) y_count y_movers y_spots H locs ls hf (lv_sub hl [2, 3, 1, 0] rfl) hP hD hS
  have L7 : ∀ (n7 : Nat), ∀ (x2 : Int32) (y_count : Int32) (y_movers : Nat → Int32) (y_spots : Nat → Int32) (H : Heap) (locs : List Loc) (ls : Array Slot), x6_gather_b7 N v_q1_jars f_q1_cells n7 x2 y_count y_movers y_spots = some (n_count, n_movers, n_spots) → lv_has ls 4 [(0, .ref o), (1, .ref q1), (2, .int x2)] → va_P (dC, dI) vwCl (w_X6_gather cI cZ cG o o_movers o_spots q1 q1_cells q1_standing y_count v_most v_figures y_movers y_spots v_q1_jars v_q1_weeks f_q1_cells) H → va_D A (w_X6_gather cI cZ cG o o_movers o_spots q1 q1_cells q1_standing y_count v_most v_figures y_movers y_spots v_q1_jars v_q1_weeks f_q1_cells) → va_S A s.heap H locs → W p l e rm_X6_gather s m (([Value.ref o, Value.ref q1] : List Value).toArray) below meth c H locs 0 0 Q (F0 m 7 ls []) := by
    intro n7
    induction n7 with
    | zero =>
      intro x2 y_count y_movers y_spots H locs ls hf hl hP hD hS
      exact g_no hf
    | succ n7 ih7 =>
      intro x2 y_count y_movers y_spots H locs ls hf hl hP hD hS
      unfold x6_gather_b7 at hf
      refine lv_iload_n hx hb dX6_gather_7 rfl (lv_at hl 2 rfl) ?_
      refine lv_aload_n hx hb dX6_gather_8 rfl (lv_at hl 1 rfl) ?_
      obtain ⟨r9, hc10, hf⟩ := g_b1 hf
      refine g_rV (As := []) (rest := [.int x2]) ⟨hx, hb, hml, hown, hts⟩ (c_X2_jars l dC dI cI cZ cG q1 q1_cells q1_standing  v_q1_jars v_q1_weeks hc10) (cwV 0 hts gX6_gather_X2_jars rfl rfl rfl (by decide +kernel) ⟨Nat.le_of_ble_eq_true rfl, Nat.le_of_ble_eq_true rfl⟩) hK hN (hP.sub [3] rfl) (va_recv hK hP (ci := 2) (q0 := 3) rfl rfl) rfl hl.1 rfl (Nat.le_of_ble_eq_true rfl) dX6_gather_9 ⟨Nat.zero_le _, Nat.zero_le _⟩ ?_
      refine lv_icmp_ge (tgt := 58) hx hb dX6_gather_12 (by decide) (fun c11 => ?_) (fun c11 => ?_)
      · have hf := g_pos c11 hf
        exact J58 y_count y_movers y_spots H locs ls hf (lv_sub hl [0, 1] rfl) hP hD hS
      · have hf := g_neg c11 hf
        refine lv_aload_n hx hb dX6_gather_15 rfl (lv_at hl 0 rfl) ?_
        refine va_get (D := (dC, dI)) (ci := 6) (v := .int y_count) (C := RX6) (T := TX6) (N := 5) hx hb hts hiX6 hown hK hP 0 rfl rfl 2 (by decide) (hts (.fieldLink RX6 18 "GreenJars$Ways" "count" "I") (by decide +kernel)) (fun _ h9 => h9) rfl dX6_gather_16 ?_
        refine lv_bipush (v := (6 : Int32)) hx hb dX6_gather_19 (by decide +kernel) ?_
        refine lv_icmp_ge (tgt := 58) hx hb dX6_gather_21 (by decide) (fun c12 => ?_) (fun c12 => ?_)
        · have hf := g_pos c12 hf
          exact J58 y_count y_movers y_spots H locs ls hf (lv_sub hl [0, 1] rfl) hP hD hS
        · have hf := g_neg c12 hf
          refine lv_aload_n hx hb dX6_gather_24 rfl (lv_at hl 1 rfl) ?_
          refine lv_iload_n hx hb dX6_gather_25 rfl (lv_at hl 2 rfl) ?_
          obtain ⟨r13, hc14, hf⟩ := g_b1 hf
          refine g_rV (As := [.int x2]) (rest := []) ⟨hx, hb, hml, hown, hts⟩ (c_X2_isWhole l dC dI cI cZ cG q1 q1_cells q1_standing  v_q1_jars v_q1_weeks f_q1_cells x2 hc14) (cwV 1 hts gX6_gather_X2_isWhole rfl rfl rfl (by decide +kernel) ⟨Nat.le_of_ble_eq_true rfl, Nat.le_of_ble_eq_true rfl⟩) hK hN (hP.sub [3, 4] rfl) (va_recv hK hP (ci := 2) (q0 := 3) rfl rfl) rfl hl.1 rfl (Nat.le_of_ble_eq_true rfl) dX6_gather_26 ⟨Nat.zero_le _, Nat.zero_le _⟩ ?_
          refine lv_if_eq (tgt := 52) hx hb dX6_gather_29 (by decide) (fun c15 => ?_) (fun c15 => ?_)
          · have hf := g_pos c15 hf
            refine lv_iinc (v := (x2 + (1 : Int32))) (lv' := [(2, .int (x2 + (1 : Int32))), (0, .ref o), (1, .ref q1)]) hx hb dX6_gather_52 hl (k := 2) rfl rfl (by decide) rfl (fun ls hl => ?_)
            refine lv_goto (tgt := 7) hx hb dX6_gather_55 (by decide) ?_
            exact ih7 (x2 + (1 : Int32)) y_count y_movers y_spots H locs ls hf (lv_sub hl [1, 2, 0] rfl) hP hD hS
          · have hf := g_neg c15 hf
            refine lv_aload_n hx hb dX6_gather_32 rfl (lv_at hl 0 rfl) ?_
            refine va_get (D := (dC, dI)) (ci := 6) (v := .ref o_movers) (C := RX6) (T := TX6) (N := 5) hx hb hts hiX6 hown hK hP 0 rfl rfl 0 (by decide) (hts (.fieldLink RX6 9 "GreenJars$Ways" "movers" "[I") (by decide +kernel)) (fun _ h9 => h9) rfl dX6_gather_33 ?_
            refine lv_aload_n hx hb dX6_gather_36 rfl (lv_at hl 0 rfl) ?_
            refine va_get (D := (dC, dI)) (ci := 6) (v := .int y_count) (C := RX6) (T := TX6) (N := 5) hx hb hts hiX6 hown hK hP 0 rfl rfl 2 (by decide) (hts (.fieldLink RX6 18 "GreenJars$Ways" "count" "I") (by decide +kernel)) (fun _ h9 => h9) rfl dX6_gather_37 ?_
            refine lv_iload_n hx hb dX6_gather_40 rfl (lv_at hl 2 rfl) ?_
            obtain ⟨h16, hf⟩ := g_chk hf
            refine va_iast hx hb hK hP hD hS 1 0 rfl rfl (gIn_vp h16) dX6_gather_41 (fun H locs hP hD hS => ?_)
            have hP : va_P (dC, dI) vwCl (w_X6_gather cI cZ cG o o_movers o_spots q1 q1_cells q1_standing y_count v_most v_figures (upd y_movers y_count.toNatClampNeg x2) y_spots v_q1_jars v_q1_weeks f_q1_cells) H := hP
            have hD : va_D A (w_X6_gather cI cZ cG o o_movers o_spots q1 q1_cells q1_standing y_count v_most v_figures (upd y_movers y_count.toNatClampNeg x2) y_spots v_q1_jars v_q1_weeks f_q1_cells) := hD
            refine lv_aload_n hx hb dX6_gather_42 rfl (lv_at hl 0 rfl) ?_
            refine lv_dup hx hb dX6_gather_43 rfl ?_
            refine va_get (D := (dC, dI)) (ci := 6) (v := .int y_count) (C := RX6) (T := TX6) (N := 5) hx hb hts hiX6 hown hK hP 0 rfl rfl 2 (by decide) (hts (.fieldLink RX6 18 "GreenJars$Ways" "count" "I") (by decide +kernel)) (fun _ h9 => h9) rfl dX6_gather_44 ?_
            refine lv_iconst (v := (1 : Int32)) hx hb dX6_gather_47 (by decide) ?_
            refine lv_iadd hx hb dX6_gather_48 ?_
            refine va_put (D := (dC, dI)) (ci := 6) (v := .int (y_count + (1 : Int32))) (ty := .int) (C := RX6) (T := TX6) (N := 5) hx hb hts hiX6 tyX6 tyX6_ok nmX6 hown hK hP hD hS 0 rfl rfl 2 (by decide) (hts (.fieldLink RX6 18 "GreenJars$Ways" "count" "I") (by decide +kernel)) (fun _ h9 => h9) rfl (by decide +kernel) rfl rfl (Nat.le_of_ble_eq_true rfl) dX6_gather_49 (fun H locs hP hD hS => ?_)
            have hP : va_P (dC, dI) vwCl (w_X6_gather cI cZ cG o o_movers o_spots q1 q1_cells q1_standing (y_count + (1 : Int32)) v_most v_figures (upd y_movers y_count.toNatClampNeg x2) y_spots v_q1_jars v_q1_weeks f_q1_cells) H := hP
            have hD : va_D A (w_X6_gather cI cZ cG o o_movers o_spots q1 q1_cells q1_standing (y_count + (1 : Int32)) v_most v_figures (upd y_movers y_count.toNatClampNeg x2) y_spots v_q1_jars v_q1_weeks f_q1_cells) := hD
            refine lv_iinc (v := (x2 + (1 : Int32))) (lv' := [(2, .int (x2 + (1 : Int32))), (0, .ref o), (1, .ref q1)]) hx hb dX6_gather_52 hl (k := 2) rfl rfl (by decide) rfl (fun ls hl => ?_)
            refine lv_goto (tgt := 7) hx hb dX6_gather_55 (by decide) ?_
            exact ih7 (x2 + (1 : Int32)) (y_count + (1 : Int32)) (upd y_movers y_count.toNatClampNeg x2) y_spots H locs ls hf (lv_sub hl [1, 2, 0] rfl) hP hD hS
  unfold x6_gather at hf
  refine lv_aload_n hx hb dX6_gather_0 rfl (lv_at hl 0 rfl) ?_
  refine lv_iconst (v := (0 : Int32)) hx hb dX6_gather_1 (by decide) ?_
  refine va_put (D := (dC, dI)) (ci := 6) (v := .int (0 : Int32)) (ty := .int) (C := RX6) (T := TX6) (N := 5) hx hb hts hiX6 tyX6 tyX6_ok nmX6 hown hK hP hD hS 0 rfl rfl 2 (by decide) (hts (.fieldLink RX6 18 "GreenJars$Ways" "count" "I") (by decide +kernel)) (fun _ h9 => h9) rfl (by decide +kernel) rfl rfl (Nat.le_of_ble_eq_true rfl) dX6_gather_2 (fun H locs hP hD hS => ?_)
  have hP : va_P (dC, dI) vwCl (w_X6_gather cI cZ cG o o_movers o_spots q1 q1_cells q1_standing (0 : Int32) v_most v_figures f_movers f_spots v_q1_jars v_q1_weeks f_q1_cells) H := hP
  have hD : va_D A (w_X6_gather cI cZ cG o o_movers o_spots q1 q1_cells q1_standing (0 : Int32) v_most v_figures f_movers f_spots v_q1_jars v_q1_weeks f_q1_cells) := hD
  refine lv_iconst (v := (0 : Int32)) hx hb dX6_gather_5 (by decide) ?_
  refine lv_istore_n (lv' := [(2, .int (0 : Int32)), (0, .ref o), (1, .ref q1)]) hx hb dX6_gather_6 rfl hl (by decide) rfl (fun ls hl => ?_)
  exact L7 N (0 : Int32) (0 : Int32) f_movers f_spots H locs ls hf (lv_sub hl [1, 2, 0] rfl) hP hD hS
abbrev rm_X6_consider : Room := { frames := 4, cells := 0, slots := 0, locals := 92 }
abbrev w_X6_consider (cI cZ cG : ClassId) (o : Nat) (o_movers : Nat) (o_spots : Nat) (q1 : Nat) (q1_cells : Nat) (q1_standing : Nat) (v_count : Int32) (v_most : Int32) (v_figures : Int32) (f_movers : Nat → Int32) (f_spots : Nat → Int32) (v_q1_jars : Int32) (v_q1_weeks : Int32) (f_q1_cells : Nat → Int32) (f_q1_standing : Nat → Int32) : va_W := [(o, .inr (6, [.ref o_movers, .ref o_spots, .int v_count, .int v_most, .int v_figures])), (o_movers, .inl (cI, 6, .inl f_movers)), (o_spots, .inl (cI, 6, .inl f_spots)), (q1, .inr (2, [.ref q1_cells, .ref q1_standing, .int v_q1_jars, .int v_q1_weeks])), (q1_cells, .inl (cI, 48, .inl f_q1_cells)), (q1_standing, .inl (cI, 8, .inl f_q1_standing))]
set_option maxHeartbeats 4000000 in
set_option maxRecDepth 100000 in
theorem c_X6_consider (l : Launch) (dC : Nat → ClassId) (dI : Nat → Nat → Nat) (cI cZ cG : ClassId) {N : Nat} (o : Nat) (o_movers : Nat) (o_spots : Nat) (q1 : Nat) (q1_cells : Nat) (q1_standing : Nat) (sz : Nat) (v_count : Int32) (v_most : Int32) (v_figures : Int32) (f_movers : Nat → Int32) (f_spots : Nat → Int32) (v_q1_jars : Int32) (v_q1_weeks : Int32) (f_q1_cells : Nat → Int32) (f_q1_standing : Nat → Int32) {n_most : Int32} {n_figures : Int32} {n_q1_cells : Nat → Int32} {n_q1_standing : Nat → Int32} (hf : x6_consider N v_count v_most v_figures f_movers f_spots v_q1_jars f_q1_cells f_q1_standing = some (n_most, n_figures, n_q1_cells, n_q1_standing)) : Met l yX6_consider wsX6_consider rm_X6_consider (va_Pc [.ref o, .ref q1] (gW (dC, dI) vwCl (gT cI cZ cG) (w_X6_consider cI cZ cG o o_movers o_spots q1 q1_cells q1_standing v_count v_most v_figures f_movers f_spots v_q1_jars v_q1_weeks f_q1_cells f_q1_standing) sz)) (va_Qv (fun _ => True) (gE (dC, dI) vwCl (gT cI cZ cG) (w_X6_consider cI cZ cG o o_movers o_spots q1 q1_cells q1_standing v_count n_most n_figures f_movers f_spots v_q1_jars v_q1_weeks n_q1_cells n_q1_standing) (va_A (w_X6_consider cI cZ cG o o_movers o_spots q1 q1_cells q1_standing v_count v_most v_figures f_movers f_spots v_q1_jars v_q1_weeks f_q1_cells f_q1_standing) sz)) (va_A (w_X6_consider cI cZ cG o o_movers o_spots q1 q1_cells q1_standing v_count v_most v_figures f_movers f_spots v_q1_jars v_q1_weeks f_q1_cells f_q1_standing) sz)) 0 0 (va_A (w_X6_consider cI cZ cG o o_movers o_spots q1 q1_cells q1_standing v_count v_most v_figures f_movers f_spots v_q1_jars v_q1_weeks f_q1_cells f_q1_standing) sz) := by
  refine Met.ofW (cc := cX6_consider) (maxL := 4) (ret := none) (by decide) rfl ?_
  intro p e s m args below meth c s₁ B hml hv
  obtain ⟨rfl, hv⟩ := hv
  obtain ⟨hsz, hP, hK, hN, hD0⟩ := hv
  have hx := B.exec
  have hb := B.bytes
  have hr := B.returns
  have hts := atoms_spec (ws := wsX6_consider) B.pre
  have hown : s.vm.findClass RX6 = some m.cls := findClass_of_methodNamed B.named
  have hlocks := B.notSynchronized
  have hiX2 : ∀ w ∈ u_ws RX2 TX2 4, w ∈ wsX6_consider := fun w h => List.mem_cons_of_mem _ (List.mem_append_right _ h)
  have hiX6 : ∀ w ∈ u_ws RX6 TX6 5, w ∈ wsX6_consider := fun w h => List.mem_cons_of_mem _ (List.mem_append_left _ (List.mem_append_right _ h))
  subst hsz
  have hD := hD0.self (sz := s.heap.size)
  generalize hAe : va_A (w_X6_consider cI cZ cG o o_movers o_spots q1 q1_cells q1_standing v_count v_most v_figures f_movers f_spots v_q1_jars v_q1_weeks f_q1_cells f_q1_standing) s.heap.size = A at hD ⊢
  have hA : ∀ q : Nat, s.heap.size ≤ q → A q := fun q h => by rw [← hAe]; exact Or.inr h
  clear hD0
  have hS : va_S A s.heap s.heap [] := va_S.rf
  have hP : va_P (dC, dI) vwCl (w_X6_consider cI cZ cG o o_movers o_spots q1 q1_cells q1_standing v_count v_most v_figures f_movers f_spots v_q1_jars v_q1_weeks f_q1_cells f_q1_standing) s.heap := hP
  obtain ⟨Q, hQ⟩ : ∃ Q : State → Prop, Q = MQ below (va_Qv (fun _ => True) (gE (dC, dI) vwCl (gT cI cZ cG) (w_X6_consider cI cZ cG o o_movers o_spots q1 q1_cells q1_standing v_count n_most n_figures f_movers f_spots v_q1_jars v_q1_weeks n_q1_cells n_q1_standing) A) A) (([Value.ref o, Value.ref q1] : List Value).toArray) s 0 0 A := ⟨_, rfl⟩
  have hl := lv_entry ([.ref o, .ref q1]) (n := 4) (Nat.le_of_ble_eq_true rfl)
  rw [← hQ, lg_entry_eq]
  generalize (lg_sl ([.ref o, .ref q1]) ++ List.replicate (4 - (lg_sl ([.ref o, .ref q1])).length) Slot.unset).toArray = ls at hl ⊢
  have hl : lv_has ls 4 [(0, .ref o), (1, .ref q1)] := hl
  generalize hH : s.heap = H at hP hS ⊢
  have hS : va_S A s.heap H [] := by rw [hH]; exact hS
  generalize hlc : ([] : List Loc) = locs at hS ⊢
  show W p l e rm_X6_consider s m (([Value.ref o, Value.ref q1] : List Value).toArray) below meth c H locs 0 0 Q (F0 m 0 ls [])
  have L4 : ∀ (n4 : Nat), ∀ (x2 : Int32) (x3 : Int32) (y_most : Int32) (y_figures : Int32) (y_q1_cells : Nat → Int32) (y_q1_standing : Nat → Int32) (H : Heap) (locs : List Loc) (ls : Array Slot), x6_consider_b4 N v_count f_movers f_spots v_q1_jars n4 x2 x3 y_most y_figures y_q1_cells y_q1_standing = some (n_most, n_figures, n_q1_cells, n_q1_standing) → lv_has ls 4 [(0, .ref o), (1, .ref q1), (2, .int x2), (3, .int x3)] → va_P (dC, dI) vwCl (w_X6_consider cI cZ cG o o_movers o_spots q1 q1_cells q1_standing v_count y_most y_figures f_movers f_spots v_q1_jars v_q1_weeks y_q1_cells y_q1_standing) H → va_D A (w_X6_consider cI cZ cG o o_movers o_spots q1 q1_cells q1_standing v_count y_most y_figures f_movers f_spots v_q1_jars v_q1_weeks y_q1_cells y_q1_standing) → va_S A s.heap H locs → W p l e rm_X6_consider s m (([Value.ref o, Value.ref q1] : List Value).toArray) below meth c H locs 0 0 Q (F0 m 4 ls []) := by
    intro n4
    induction n4 with
    | zero =>
      intro x2 x3 y_most y_figures y_q1_cells y_q1_standing H locs ls hf hl hP hD hS
      exact g_no hf
    | succ n4 ih4 =>
      intro x2 x3 y_most y_figures y_q1_cells y_q1_standing H locs ls hf hl hP hD hS
      unfold x6_consider_b4 at hf
      refine lv_iload_n hx hb dX6_consider_4 rfl (lv_at hl 3 rfl) ?_
      refine lv_aload_n hx hb dX6_consider_5 rfl (lv_at hl 0 rfl) ?_
      refine va_get (D := (dC, dI)) (ci := 6) (v := .int v_count) (C := RX6) (T := TX6) (N := 5) hx hb hts hiX6 hown hK hP 0 rfl rfl 2 (by decide) (hts (.fieldLink RX6 18 "GreenJars$Ways" "count" "I") (by decide +kernel)) (fun _ h9 => h9) rfl dX6_consider_6 ?_
      refine lv_icmp_ge (tgt := 48) hx hb dX6_consider_9 (by decide) (fun c1 => ?_) (fun c1 => ?_)
      · have hf := g_pos c1 hf
        refine lv_aload_n hx hb dX6_consider_48 rfl (lv_at hl 1 rfl) ?_
        obtain ⟨r2, y3, hc4, hf⟩ := g_b2 hf
        refine g_wV (As := []) (rest := []) (wr := [(o, .inr (6, [.ref o_movers, .ref o_spots, .int v_count, .int y_most, .int y_figures])), (o_movers, .inl (cI, 6, .inl f_movers)), (o_spots, .inl (cI, 6, .inl f_spots))]) (wn := (w_X6_consider cI cZ cG o o_movers o_spots q1 q1_cells q1_standing v_count y_most y_figures f_movers f_spots v_q1_jars v_q1_weeks y_q1_cells y3)) ⟨hx, hb, hml, hown, hts⟩ (c_X2_pairs l dC dI cI cZ cG q1 q1_cells q1_standing H.size  v_q1_jars v_q1_weeks y_q1_cells y_q1_standing hc4) (cwV 0 hts gX6_consider_X2_pairs rfl rfl rfl (by decide +kernel) ⟨Nat.le_of_ble_eq_true rfl, Nat.le_of_ble_eq_true rfl⟩) hK hN hP hD hS hA [3, 4, 5] [0, 1, 2] [0, 1, 2, 3, 4, 5] rfl rfl (by decide) rfl (by decide) (by decide) rfl (by decide) (va_recv hK hP (ci := 2) (q0 := 3) rfl rfl) rfl hl.1 rfl (Nat.le_of_ble_eq_true rfl) dX6_consider_49 ⟨Nat.zero_le _, Nat.zero_le _⟩ (fun H locs hP hD hS => ?_)
        refine lv_istore_n (lv' := [(3, .int r2), (0, .ref o), (1, .ref q1), (2, .int x2)]) hx hb dX6_consider_52 rfl hl (by decide) rfl (fun ls hl => ?_)
        refine lv_iload_n hx hb dX6_consider_53 rfl (lv_at hl 0 rfl) ?_
        refine lv_aload_n hx hb dX6_consider_54 rfl (lv_at hl 1 rfl) ?_
        refine va_get (D := (dC, dI)) (ci := 6) (v := .int y_most) (C := RX6) (T := TX6) (N := 5) hx hb hts hiX6 hown hK hP 0 rfl rfl 3 (by decide) (hts (.fieldLink RX6 22 "GreenJars$Ways" "most" "I") (by decide +kernel)) (fun _ h9 => h9) rfl dX6_consider_55 ?_
        refine lv_icmp_le (tgt := 71) hx hb dX6_consider_58 (by decide) (fun c5 => ?_) (fun c5 => ?_)
        · have hf := g_pos c5 hf
          rw [hQ]
          cases hf
          exact W.vret hx hb hr (fun t ht hW => ⟨⟨(), rfl, trivial, by rw [ht]; exact hP, va_K.moved hW.alike hK, hD⟩, hS.F ht⟩) hS.2.2 dX6_consider_71
        · have hf := g_neg c5 hf
          refine lv_aload_n hx hb dX6_consider_61 rfl (lv_at hl 1 rfl) ?_
          refine lv_iload_n hx hb dX6_consider_62 rfl (lv_at hl 0 rfl) ?_
          refine va_put (D := (dC, dI)) (ci := 6) (v := .int r2) (ty := .int) (C := RX6) (T := TX6) (N := 5) hx hb hts hiX6 tyX6 tyX6_ok nmX6 hown hK hP hD hS 0 rfl rfl 3 (by decide) (hts (.fieldLink RX6 22 "GreenJars$Ways" "most" "I") (by decide +kernel)) (fun _ h9 => h9) rfl (by decide +kernel) rfl rfl (Nat.le_of_ble_eq_true rfl) dX6_consider_63 (fun H locs hP hD hS => ?_)
          have hP : va_P (dC, dI) vwCl (w_X6_consider cI cZ cG o o_movers o_spots q1 q1_cells q1_standing v_count r2 y_figures f_movers f_spots v_q1_jars v_q1_weeks y_q1_cells y3) H := hP
          have hD : va_D A (w_X6_consider cI cZ cG o o_movers o_spots q1 q1_cells q1_standing v_count r2 y_figures f_movers f_spots v_q1_jars v_q1_weeks y_q1_cells y3) := hD
          refine lv_aload_n hx hb dX6_consider_66 rfl (lv_at hl 1 rfl) ?_
          refine lv_iload_n hx hb dX6_consider_67 rfl (lv_at hl 3 rfl) ?_
          refine va_put (D := (dC, dI)) (ci := 6) (v := .int x2) (ty := .int) (C := RX6) (T := TX6) (N := 5) hx hb hts hiX6 tyX6 tyX6_ok nmX6 hown hK hP hD hS 0 rfl rfl 4 (by decide) (hts (.fieldLink RX6 25 "GreenJars$Ways" "figures" "I") (by decide +kernel)) (fun _ h9 => h9) rfl (by decide +kernel) rfl rfl (Nat.le_of_ble_eq_true rfl) dX6_consider_68 (fun H locs hP hD hS => ?_)
          have hP : va_P (dC, dI) vwCl (w_X6_consider cI cZ cG o o_movers o_spots q1 q1_cells q1_standing v_count r2 x2 f_movers f_spots v_q1_jars v_q1_weeks y_q1_cells y3) H := hP
          have hD : va_D A (w_X6_consider cI cZ cG o o_movers o_spots q1 q1_cells q1_standing v_count r2 x2 f_movers f_spots v_q1_jars v_q1_weeks y_q1_cells y3) := hD
          rw [hQ]
          cases hf
          exact W.vret hx hb hr (fun t ht hW => ⟨⟨(), rfl, trivial, by rw [ht]; exact hP, va_K.moved hW.alike hK, hD⟩, hS.F ht⟩) hS.2.2 dX6_consider_71
      · have hf := g_neg c1 hf
        refine lv_aload_n hx hb dX6_consider_12 rfl (lv_at hl 1 rfl) ?_
        refine lv_aload_n hx hb dX6_consider_13 rfl (lv_at hl 0 rfl) ?_
        refine va_get (D := (dC, dI)) (ci := 6) (v := .ref o_movers) (C := RX6) (T := TX6) (N := 5) hx hb hts hiX6 hown hK hP 0 rfl rfl 0 (by decide) (hts (.fieldLink RX6 9 "GreenJars$Ways" "movers" "[I") (by decide +kernel)) (fun _ h9 => h9) rfl dX6_consider_14 ?_
        refine lv_iload_n hx hb dX6_consider_17 rfl (lv_at hl 3 rfl) ?_
        obtain ⟨h6, hf⟩ := g_chk hf
        refine va_iald hx hb hK hP 1 0 rfl rfl (gIn_vp h6) dX6_consider_18 ?_
        refine lv_aload_n hx hb dX6_consider_19 rfl (lv_at hl 0 rfl) ?_
        refine va_get (D := (dC, dI)) (ci := 6) (v := .ref o_spots) (C := RX6) (T := TX6) (N := 5) hx hb hts hiX6 hown hK hP 0 rfl rfl 1 (by decide) (hts (.fieldLink RX6 15 "GreenJars$Ways" "spots" "[I") (by decide +kernel)) (fun _ h9 => h9) rfl dX6_consider_20 ?_
        refine lv_iload_n hx hb dX6_consider_23 rfl (lv_at hl 3 rfl) ?_
        obtain ⟨h7, hf⟩ := g_chk hf
        refine va_iald hx hb hK hP 2 0 rfl rfl (gIn_vp h7) dX6_consider_24 ?_
        obtain ⟨y8, hc9, hf⟩ := g_b1 hf
        refine g_wVv (As := [.int (f_movers x3.toNatClampNeg), .int (f_spots x3.toNatClampNeg)]) (rest := []) (wr := [(o, .inr (6, [.ref o_movers, .ref o_spots, .int v_count, .int y_most, .int y_figures])), (o_movers, .inl (cI, 6, .inl f_movers)), (o_spots, .inl (cI, 6, .inl f_spots)), (q1_standing, .inl (cI, 8, .inl y_q1_standing))]) (wn := (w_X6_consider cI cZ cG o o_movers o_spots q1 q1_cells q1_standing v_count y_most y_figures f_movers f_spots v_q1_jars v_q1_weeks y8 y_q1_standing)) ⟨hx, hb, hml, hown, hts⟩ (c_X2_stand l dC dI cI cZ cG q1 q1_cells q1_standing H.size  v_q1_jars v_q1_weeks y_q1_cells (f_movers x3.toNatClampNeg) (f_spots x3.toNatClampNeg) hc9) (cwV 2 hts gX6_consider_X2_stand rfl rfl rfl (by decide +kernel) ⟨Nat.le_of_ble_eq_true rfl, Nat.le_of_ble_eq_true rfl⟩) hK hN hP hD hS hA [3, 4] [0, 1, 2, 5] [0, 1, 2, 4, 5, 3] rfl rfl (by decide) rfl (by decide) (by decide) rfl (by decide) (va_recv hK hP (ci := 2) (q0 := 3) rfl rfl) rfl hl.1 rfl (Nat.le_of_ble_eq_true rfl) dX6_consider_25 ⟨Nat.zero_le _, Nat.zero_le _⟩ (fun H locs hP hD hS => ?_)
        refine lv_iload_n hx hb dX6_consider_28 rfl (lv_at hl 2 rfl) ?_
        refine lv_bipush (v := (10 : Int32)) hx hb dX6_consider_29 (by decide +kernel) ?_
        refine lv_imul hx hb dX6_consider_31 ?_
        refine lv_aload_n hx hb dX6_consider_32 rfl (lv_at hl 0 rfl) ?_
        refine va_get (D := (dC, dI)) (ci := 6) (v := .ref o_spots) (C := RX6) (T := TX6) (N := 5) hx hb hts hiX6 hown hK hP 0 rfl rfl 1 (by decide) (hts (.fieldLink RX6 15 "GreenJars$Ways" "spots" "[I") (by decide +kernel)) (fun _ h9 => h9) rfl dX6_consider_33 ?_
        refine lv_iload_n hx hb dX6_consider_36 rfl (lv_at hl 3 rfl) ?_
        obtain ⟨h10, hf⟩ := g_chk hf
        refine va_iald hx hb hK hP 2 0 rfl rfl (gIn_vp h10) dX6_consider_37 ?_
        refine lv_iadd hx hb dX6_consider_38 ?_
        refine lv_iconst (v := (1 : Int32)) hx hb dX6_consider_39 (by decide) ?_
        refine lv_iadd hx hb dX6_consider_40 ?_
        refine lv_istore_n (lv' := [(2, .int (((x2 * (10 : Int32)) + (f_spots x3.toNatClampNeg)) + (1 : Int32))), (0, .ref o), (1, .ref q1), (3, .int x3)]) hx hb dX6_consider_41 rfl hl (by decide) rfl (fun ls hl => ?_)
        refine lv_iinc (v := (x3 + (1 : Int32))) (lv' := [(3, .int (x3 + (1 : Int32))), (2, .int (((x2 * (10 : Int32)) + (f_spots x3.toNatClampNeg)) + (1 : Int32))), (0, .ref o), (1, .ref q1)]) hx hb dX6_consider_42 hl (k := 3) rfl rfl (by decide) rfl (fun ls hl => ?_)
        refine lv_goto (tgt := 4) hx hb dX6_consider_45 (by decide) ?_
        exact ih4 (((x2 * (10 : Int32)) + (f_spots x3.toNatClampNeg)) + (1 : Int32)) (x3 + (1 : Int32)) y_most y_figures y8 y_q1_standing H locs ls hf (lv_sub hl [2, 3, 1, 0] rfl) hP hD hS
  unfold x6_consider at hf
  refine lv_iconst (v := (0 : Int32)) hx hb dX6_consider_0 (by decide) ?_
  refine lv_istore_n (lv' := [(2, .int (0 : Int32)), (0, .ref o), (1, .ref q1)]) hx hb dX6_consider_1 rfl hl (by decide) rfl (fun ls hl => ?_)
  refine lv_iconst (v := (0 : Int32)) hx hb dX6_consider_2 (by decide) ?_
  refine lv_istore_n (lv' := [(3, .int (0 : Int32)), (2, .int (0 : Int32)), (0, .ref o), (1, .ref q1)]) hx hb dX6_consider_3 rfl hl (by decide) rfl (fun ls hl => ?_)
  exact L4 N (0 : Int32) (0 : Int32) v_most v_figures f_q1_cells f_q1_standing H locs ls hf (lv_sub hl [2, 3, 1, 0] rfl) hP hD hS
abbrev rm_X6_swap : Room := { frames := 0, cells := 0, slots := 0, locals := 0 }
abbrev w_X6_swap (cI cZ cG : ClassId) (o : Nat) (o_movers : Nat) (o_spots : Nat) (v_count : Int32) (v_most : Int32) (v_figures : Int32) (f_spots : Nat → Int32) : va_W := [(o, .inr (6, [.ref o_movers, .ref o_spots, .int v_count, .int v_most, .int v_figures])), (o_spots, .inl (cI, 6, .inl f_spots))]
set_option maxHeartbeats 4000000 in
set_option maxRecDepth 100000 in
theorem c_X6_swap (l : Launch) (dC : Nat → ClassId) (dI : Nat → Nat → Nat) (cI cZ cG : ClassId) (o : Nat) (o_movers : Nat) (o_spots : Nat) (sz : Nat) (v_count : Int32) (v_most : Int32) (v_figures : Int32) (f_spots : Nat → Int32) (a1 : Int32) (a2 : Int32) {n_spots : Nat → Int32} (hf : x6_swap f_spots a1 a2 = some n_spots) : Met l yX6_swap wsX6_swap rm_X6_swap (va_Pc [.ref o, .int a1, .int a2] (gW (dC, dI) vwCl (gT cI cZ cG) (w_X6_swap cI cZ cG o o_movers o_spots v_count v_most v_figures f_spots) sz)) (va_Qv (fun _ => True) (gE (dC, dI) vwCl (gT cI cZ cG) (w_X6_swap cI cZ cG o o_movers o_spots v_count v_most v_figures n_spots) (va_A (w_X6_swap cI cZ cG o o_movers o_spots v_count v_most v_figures f_spots) sz)) (va_A (w_X6_swap cI cZ cG o o_movers o_spots v_count v_most v_figures f_spots) sz)) 0 0 (va_A (w_X6_swap cI cZ cG o o_movers o_spots v_count v_most v_figures f_spots) sz) := by
  refine Met.ofW (cc := cX6_swap) (maxL := 4) (ret := none) (by decide) rfl ?_
  intro p e s m args below meth c s₁ B hml hv
  obtain ⟨rfl, hv⟩ := hv
  obtain ⟨hsz, hP, hK, hN, hD0⟩ := hv
  have hx := B.exec
  have hb := B.bytes
  have hr := B.returns
  have hts := atoms_spec (ws := wsX6_swap) B.pre
  have hown : s.vm.findClass RX6 = some m.cls := findClass_of_methodNamed B.named
  have hlocks := B.notSynchronized
  have hiX6 : ∀ w ∈ u_ws RX6 TX6 5, w ∈ wsX6_swap := fun w h => List.mem_cons_of_mem _ (List.mem_append_right _ h)
  subst hsz
  have hD := hD0.self (sz := s.heap.size)
  generalize hAe : va_A (w_X6_swap cI cZ cG o o_movers o_spots v_count v_most v_figures f_spots) s.heap.size = A at hD ⊢
  have hA : ∀ q : Nat, s.heap.size ≤ q → A q := fun q h => by rw [← hAe]; exact Or.inr h
  clear hD0
  have hS : va_S A s.heap s.heap [] := va_S.rf
  have hP : va_P (dC, dI) vwCl (w_X6_swap cI cZ cG o o_movers o_spots v_count v_most v_figures f_spots) s.heap := hP
  obtain ⟨Q, hQ⟩ : ∃ Q : State → Prop, Q = MQ below (va_Qv (fun _ => True) (gE (dC, dI) vwCl (gT cI cZ cG) (w_X6_swap cI cZ cG o o_movers o_spots v_count v_most v_figures n_spots) A) A) (([Value.ref o, Value.int a1, Value.int a2] : List Value).toArray) s 0 0 A := ⟨_, rfl⟩
  have hl := lv_entry ([.ref o, .int a1, .int a2]) (n := 4) (Nat.le_of_ble_eq_true rfl)
  rw [← hQ, lg_entry_eq]
  generalize (lg_sl ([.ref o, .int a1, .int a2]) ++ List.replicate (4 - (lg_sl ([.ref o, .int a1, .int a2])).length) Slot.unset).toArray = ls at hl ⊢
  have hl : lv_has ls 4 [(0, .ref o), (1, .int a1), (2, .int a2)] := hl
  generalize hH : s.heap = H at hP hS ⊢
  have hS : va_S A s.heap H [] := by rw [hH]; exact hS
  generalize hlc : ([] : List Loc) = locs at hS ⊢
  show W p l e rm_X6_swap s m (([Value.ref o, Value.int a1, Value.int a2] : List Value).toArray) below meth c H locs 0 0 Q (F0 m 0 ls [])
  unfold x6_swap at hf
  refine lv_aload_n hx hb dX6_swap_0 rfl (lv_at hl 0 rfl) ?_
  refine va_get (D := (dC, dI)) (ci := 6) (v := .ref o_spots) (C := RX6) (T := TX6) (N := 5) hx hb hts hiX6 hown hK hP 0 rfl rfl 1 (by decide) (hts (.fieldLink RX6 15 "GreenJars$Ways" "spots" "[I") (by decide +kernel)) (fun _ h9 => h9) rfl dX6_swap_1 ?_
  refine lv_iload_n hx hb dX6_swap_4 rfl (lv_at hl 1 rfl) ?_
  obtain ⟨h1, hf⟩ := g_chk hf
  refine va_iald hx hb hK hP 1 0 rfl rfl (gIn_vp h1) dX6_swap_5 ?_
  refine lv_istore_n (lv' := [(3, .int (f_spots a1.toNatClampNeg)), (0, .ref o), (1, .int a1), (2, .int a2)]) hx hb dX6_swap_6 rfl hl (by decide) rfl (fun ls hl => ?_)
  refine lv_aload_n hx hb dX6_swap_7 rfl (lv_at hl 1 rfl) ?_
  refine va_get (D := (dC, dI)) (ci := 6) (v := .ref o_spots) (C := RX6) (T := TX6) (N := 5) hx hb hts hiX6 hown hK hP 0 rfl rfl 1 (by decide) (hts (.fieldLink RX6 15 "GreenJars$Ways" "spots" "[I") (by decide +kernel)) (fun _ h9 => h9) rfl dX6_swap_8 ?_
  refine lv_iload_n hx hb dX6_swap_11 rfl (lv_at hl 2 rfl) ?_
  refine lv_aload_n hx hb dX6_swap_12 rfl (lv_at hl 1 rfl) ?_
  refine va_get (D := (dC, dI)) (ci := 6) (v := .ref o_spots) (C := RX6) (T := TX6) (N := 5) hx hb hts hiX6 hown hK hP 0 rfl rfl 1 (by decide) (hts (.fieldLink RX6 15 "GreenJars$Ways" "spots" "[I") (by decide +kernel)) (fun _ h9 => h9) rfl dX6_swap_13 ?_
  refine lv_iload_n hx hb dX6_swap_16 rfl (lv_at hl 3 rfl) ?_
  obtain ⟨h2, hf⟩ := g_chk hf
  refine va_iald hx hb hK hP 1 0 rfl rfl (gIn_vp h2) dX6_swap_17 ?_
  obtain ⟨h3, hf⟩ := g_chk hf
  refine va_iast hx hb hK hP hD hS 1 0 rfl rfl (gIn_vp h3) dX6_swap_18 (fun H locs hP hD hS => ?_)
  have hP : va_P (dC, dI) vwCl (w_X6_swap cI cZ cG o o_movers o_spots v_count v_most v_figures (upd f_spots a1.toNatClampNeg (f_spots a2.toNatClampNeg))) H := hP
  have hD : va_D A (w_X6_swap cI cZ cG o o_movers o_spots v_count v_most v_figures (upd f_spots a1.toNatClampNeg (f_spots a2.toNatClampNeg))) := hD
  refine lv_aload_n hx hb dX6_swap_19 rfl (lv_at hl 1 rfl) ?_
  refine va_get (D := (dC, dI)) (ci := 6) (v := .ref o_spots) (C := RX6) (T := TX6) (N := 5) hx hb hts hiX6 hown hK hP 0 rfl rfl 1 (by decide) (hts (.fieldLink RX6 15 "GreenJars$Ways" "spots" "[I") (by decide +kernel)) (fun _ h9 => h9) rfl dX6_swap_20 ?_
  refine lv_iload_n hx hb dX6_swap_23 rfl (lv_at hl 3 rfl) ?_
  refine lv_iload_n hx hb dX6_swap_24 rfl (lv_at hl 0 rfl) ?_
  obtain ⟨h4, hf⟩ := g_chk hf
  refine va_iast hx hb hK hP hD hS 1 0 rfl rfl (gIn_vp h4) dX6_swap_25 (fun H locs hP hD hS => ?_)
  have hP : va_P (dC, dI) vwCl (w_X6_swap cI cZ cG o o_movers o_spots v_count v_most v_figures (upd (upd f_spots a1.toNatClampNeg (f_spots a2.toNatClampNeg)) a2.toNatClampNeg (f_spots a1.toNatClampNeg))) H := hP
  have hD : va_D A (w_X6_swap cI cZ cG o o_movers o_spots v_count v_most v_figures (upd (upd f_spots a1.toNatClampNeg (f_spots a2.toNatClampNeg)) a2.toNatClampNeg (f_spots a1.toNatClampNeg))) := hD
  rw [hQ]
  cases hf
  exact W.vret hx hb hr (fun t ht hW => ⟨⟨(), rfl, trivial, by rw [ht]; exact hP, va_K.moved hW.alike hK, hD⟩, hS.F ht⟩) hS.2.2 dX6_swap_26
abbrev rm_X6_nextWay : Room := { frames := 1, cells := 0, slots := 0, locals := 23 }
abbrev w_X6_nextWay (cI cZ cG : ClassId) (o : Nat) (o_movers : Nat) (o_spots : Nat) (v_count : Int32) (v_most : Int32) (v_figures : Int32) (f_spots : Nat → Int32) : va_W := [(o, .inr (6, [.ref o_movers, .ref o_spots, .int v_count, .int v_most, .int v_figures])), (o_spots, .inl (cI, 6, .inl f_spots))]
set_option maxHeartbeats 4000000 in
set_option maxRecDepth 100000 in
theorem c_X6_nextWay (l : Launch) (dC : Nat → ClassId) (dI : Nat → Nat → Nat) (cI cZ cG : ClassId) {N : Nat} (o : Nat) (o_movers : Nat) (o_spots : Nat) (sz : Nat) (v_count : Int32) (v_most : Int32) (v_figures : Int32) (f_spots : Nat → Int32) {r0 : Int32} {n_spots : Nat → Int32} (hf : x6_nextWay N v_count f_spots = some (r0, n_spots)) : Met l yX6_nextWay wsX6_nextWay rm_X6_nextWay (va_Pc [.ref o] (gW (dC, dI) vwCl (gT cI cZ cG) (w_X6_nextWay cI cZ cG o o_movers o_spots v_count v_most v_figures f_spots) sz)) (va_Qi (fun r _ => r = r0) (gE (dC, dI) vwCl (gT cI cZ cG) (w_X6_nextWay cI cZ cG o o_movers o_spots v_count v_most v_figures n_spots) (va_A (w_X6_nextWay cI cZ cG o o_movers o_spots v_count v_most v_figures f_spots) sz)) (va_A (w_X6_nextWay cI cZ cG o o_movers o_spots v_count v_most v_figures f_spots) sz)) 0 0 (va_A (w_X6_nextWay cI cZ cG o o_movers o_spots v_count v_most v_figures f_spots) sz) := by
  refine Met.ofW (cc := cX6_nextWay) (maxL := 5) (ret := (some .boolean)) (by decide) rfl ?_
  intro p e s m args below meth c s₁ B hml hv
  obtain ⟨rfl, hv⟩ := hv
  obtain ⟨hsz, hP, hK, hN, hD0⟩ := hv
  have hx := B.exec
  have hb := B.bytes
  have hr := B.returns
  have hts := atoms_spec (ws := wsX6_nextWay) B.pre
  have hown : s.vm.findClass RX6 = some m.cls := findClass_of_methodNamed B.named
  have hlocks := B.notSynchronized
  have hiX6 : ∀ w ∈ u_ws RX6 TX6 5, w ∈ wsX6_nextWay := fun w h => List.mem_cons_of_mem _ (List.mem_append_right _ h)
  subst hsz
  have hD := hD0.self (sz := s.heap.size)
  generalize hAe : va_A (w_X6_nextWay cI cZ cG o o_movers o_spots v_count v_most v_figures f_spots) s.heap.size = A at hD ⊢
  have hA : ∀ q : Nat, s.heap.size ≤ q → A q := fun q h => by rw [← hAe]; exact Or.inr h
  clear hD0
  have hS : va_S A s.heap s.heap [] := va_S.rf
  have hP : va_P (dC, dI) vwCl (w_X6_nextWay cI cZ cG o o_movers o_spots v_count v_most v_figures f_spots) s.heap := hP
  obtain ⟨Q, hQ⟩ : ∃ Q : State → Prop, Q = MQ below (va_Qi (fun r _ => r = r0) (gE (dC, dI) vwCl (gT cI cZ cG) (w_X6_nextWay cI cZ cG o o_movers o_spots v_count v_most v_figures n_spots) A) A) (([Value.ref o] : List Value).toArray) s 0 0 A := ⟨_, rfl⟩
  have hl := lv_entry ([.ref o]) (n := 5) (Nat.le_of_ble_eq_true rfl)
  rw [← hQ, lg_entry_eq]
  generalize (lg_sl ([.ref o]) ++ List.replicate (5 - (lg_sl ([.ref o])).length) Slot.unset).toArray = ls at hl ⊢
  have hl : lv_has ls 5 [(0, .ref o)] := hl
  generalize hH : s.heap = H at hP hS ⊢
  have hS : va_S A s.heap H [] := by rw [hH]; exact hS
  generalize hlc : ([] : List Loc) = locs at hS ⊢
  show W p l e rm_X6_nextWay s m (([Value.ref o] : List Value).toArray) below meth c H locs 0 0 Q (F0 m 0 ls [])
  have L91 : ∀ (n91 : Nat), ∀ (x3 : Int32) (x4 : Int32) (y_spots : Nat → Int32) (H : Heap) (locs : List Loc) (ls : Array Slot), x6_nextWay_b91 N v_count n91 x3 x4 y_spots = some (r0, n_spots) → lv_has ls 5 [(0, .ref o), (3, .int x3), (4, .int x4)] → va_P (dC, dI) vwCl (w_X6_nextWay cI cZ cG o o_movers o_spots v_count v_most v_figures y_spots) H → va_D A (w_X6_nextWay cI cZ cG o o_movers o_spots v_count v_most v_figures y_spots) → va_S A s.heap H locs → W p l e rm_X6_nextWay s m (([Value.ref o] : List Value).toArray) below meth c H locs 0 0 Q (F0 m 91 ls []) := by
    intro n91
    induction n91 with
    | zero =>
      intro x3 x4 y_spots H locs ls hf hl hP hD hS
      exact g_no hf
    | succ n91 ih91 =>
      intro x3 x4 y_spots H locs ls hf hl hP hD hS
      unfold x6_nextWay_b91 at hf
      refine lv_iload_n hx hb dX6_nextWay_91 rfl (lv_at hl 1 rfl) ?_
      refine lv_iload hx hb dX6_nextWay_92 (lv_at hl 2 rfl) ?_
      refine lv_icmp_ge (tgt := 113) hx hb dX6_nextWay_94 (by decide) (fun c1 => ?_) (fun c1 => ?_)
      · have hf := g_pos c1 hf
        refine lv_iconst (v := (1 : Int32)) hx hb dX6_nextWay_113 (by decide) ?_
        rw [hQ]
        cases hf
        exact W.zret hx hb hr (by decide +kernel) (fun t ht hW => ⟨⟨_, (), rfl, rfl, by rw [ht]; exact hP, va_K.moved hW.alike hK, hD⟩, hS.F ht⟩) hS.2.2 dX6_nextWay_114
      · have hf := g_neg c1 hf
        refine lv_aload_n hx hb dX6_nextWay_97 rfl (lv_at hl 0 rfl) ?_
        refine lv_iload_n hx hb dX6_nextWay_98 rfl (lv_at hl 1 rfl) ?_
        refine lv_iload hx hb dX6_nextWay_99 (lv_at hl 2 rfl) ?_
        obtain ⟨y2, hc3, hf⟩ := g_b1 hf
        refine g_wVv (As := [.int x3, .int x4]) (rest := []) (wr := []) (wn := (w_X6_nextWay cI cZ cG o o_movers o_spots v_count v_most v_figures y2)) ⟨hx, hb, hml, hown, hts⟩ (c_X6_swap l dC dI cI cZ cG o o_movers o_spots H.size  v_count v_most v_figures y_spots x3 x4 hc3) (cwV 2 hts gX6_nextWay_X6_swap rfl rfl rfl (by decide +kernel) ⟨Nat.le_of_ble_eq_true rfl, Nat.le_of_ble_eq_true rfl⟩) hK hN hP hD hS hA [0, 1] [] [0, 1] rfl rfl (by decide) rfl (by decide) (by decide) rfl (by decide) (va_recv hK hP (ci := 6) (q0 := 0) rfl rfl) rfl hl.1 rfl (Nat.le_of_ble_eq_true rfl) dX6_nextWay_101 ⟨Nat.zero_le _, Nat.zero_le _⟩ (fun H locs hP hD hS => ?_)
        refine lv_iinc (v := (x3 + (1 : Int32))) (lv' := [(3, .int (x3 + (1 : Int32))), (0, .ref o), (4, .int x4)]) hx hb dX6_nextWay_104 hl (k := 1) rfl rfl (by decide) rfl (fun ls hl => ?_)
        refine lv_iinc (v := (x4 + (-1 : Int32))) (lv' := [(4, .int (x4 + (-1 : Int32))), (3, .int (x3 + (1 : Int32))), (0, .ref o)]) hx hb dX6_nextWay_107 hl (k := 2) rfl rfl (by decide) rfl (fun ls hl => ?_)
        refine lv_goto (tgt := 91) hx hb dX6_nextWay_110 (by decide) ?_
        exact ih91 (x3 + (1 : Int32)) (x4 + (-1 : Int32)) y2 H locs ls hf (lv_sub hl [2, 1, 0] rfl) hP hD hS
  have J73 : ∀ (x1 : Int32) (x2 : Int32) (y_spots : Nat → Int32) (H : Heap) (locs : List Loc) (ls : Array Slot), x6_nextWay_b73 N v_count x1 x2 y_spots = some (r0, n_spots) → lv_has ls 5 [(0, .ref o), (1, .int x1), (2, .int x2)] → va_P (dC, dI) vwCl (w_X6_nextWay cI cZ cG o o_movers o_spots v_count v_most v_figures y_spots) H → va_D A (w_X6_nextWay cI cZ cG o o_movers o_spots v_count v_most v_figures y_spots) → va_S A s.heap H locs → W p l e rm_X6_nextWay s m (([Value.ref o] : List Value).toArray) below meth c H locs 0 0 Q (F0 m 73 ls []) := by
    intro x1 x2 y_spots H locs ls hf hl hP hD hS
    unfold x6_nextWay_b73 at hf
    refine lv_aload_n hx hb dX6_nextWay_73 rfl (lv_at hl 0 rfl) ?_
    refine lv_iload_n hx hb dX6_nextWay_74 rfl (lv_at hl 1 rfl) ?_
    refine lv_iload_n hx hb dX6_nextWay_75 rfl (lv_at hl 2 rfl) ?_
    obtain ⟨y4, hc5, hf⟩ := g_b1 hf
    refine g_wVv (As := [.int x1, .int x2]) (rest := []) (wr := []) (wn := (w_X6_nextWay cI cZ cG o o_movers o_spots v_count v_most v_figures y4)) ⟨hx, hb, hml, hown, hts⟩ (c_X6_swap l dC dI cI cZ cG o o_movers o_spots H.size  v_count v_most v_figures y_spots x1 x2 hc5) (cwV 2 hts gX6_nextWay_X6_swap rfl rfl rfl (by decide +kernel) ⟨Nat.le_of_ble_eq_true rfl, Nat.le_of_ble_eq_true rfl⟩) hK hN hP hD hS hA [0, 1] [] [0, 1] rfl rfl (by decide) rfl (by decide) (by decide) rfl (by decide) (va_recv hK hP (ci := 6) (q0 := 0) rfl rfl) rfl hl.1 rfl (Nat.le_of_ble_eq_true rfl) dX6_nextWay_76 ⟨Nat.zero_le _, Nat.zero_le _⟩ (fun H locs hP hD hS => ?_)
    refine lv_iload_n hx hb dX6_nextWay_79 rfl (lv_at hl 1 rfl) ?_
    refine lv_iconst (v := (1 : Int32)) hx hb dX6_nextWay_80 (by decide) ?_
    refine lv_iadd hx hb dX6_nextWay_81 ?_
    refine lv_istore_n (lv' := [(3, .int (x1 + (1 : Int32))), (0, .ref o), (1, .int x1), (2, .int x2)]) hx hb dX6_nextWay_82 rfl hl (by decide) rfl (fun ls hl => ?_)
    refine lv_aload_n hx hb dX6_nextWay_83 rfl (lv_at hl 1 rfl) ?_
    refine va_get (D := (dC, dI)) (ci := 6) (v := .int v_count) (C := RX6) (T := TX6) (N := 5) hx hb hts hiX6 hown hK hP 0 rfl rfl 2 (by decide) (hts (.fieldLink RX6 18 "GreenJars$Ways" "count" "I") (by decide +kernel)) (fun _ h9 => h9) rfl dX6_nextWay_84 ?_
    refine lv_iconst (v := (1 : Int32)) hx hb dX6_nextWay_87 (by decide) ?_
    refine lv_isub hx hb dX6_nextWay_88 ?_
    refine lv_istore (lv' := [(4, .int (v_count - (1 : Int32))), (3, .int (x1 + (1 : Int32))), (0, .ref o), (1, .int x1), (2, .int x2)]) hx hb dX6_nextWay_89 hl (by decide) rfl (fun ls hl => ?_)
    exact L91 N (x1 + (1 : Int32)) (v_count - (1 : Int32)) y4 H locs ls hf (lv_sub hl [2, 1, 0] rfl) hP hD hS
  have L47 : ∀ (n47 : Nat), ∀ (x1 : Int32) (x2 : Int32) (y_spots : Nat → Int32) (H : Heap) (locs : List Loc) (ls : Array Slot), x6_nextWay_b47 N v_count n47 x1 x2 y_spots = some (r0, n_spots) → lv_has ls 5 [(0, .ref o), (1, .int x1), (2, .int x2)] → va_P (dC, dI) vwCl (w_X6_nextWay cI cZ cG o o_movers o_spots v_count v_most v_figures y_spots) H → va_D A (w_X6_nextWay cI cZ cG o o_movers o_spots v_count v_most v_figures y_spots) → va_S A s.heap H locs → W p l e rm_X6_nextWay s m (([Value.ref o] : List Value).toArray) below meth c H locs 0 0 Q (F0 m 47 ls []) := by
    intro n47
    induction n47 with
    | zero =>
      intro x1 x2 y_spots H locs ls hf hl hP hD hS
      exact g_no hf
    | succ n47 ih47 =>
      intro x1 x2 y_spots H locs ls hf hl hP hD hS
      unfold x6_nextWay_b47 at hf
      refine lv_iload_n hx hb dX6_nextWay_47 rfl (lv_at hl 2 rfl) ?_
      refine lv_iload_n hx hb dX6_nextWay_48 rfl (lv_at hl 1 rfl) ?_
      refine lv_icmp_le (tgt := 73) hx hb dX6_nextWay_49 (by decide) (fun c6 => ?_) (fun c6 => ?_)
      · have hf := g_pos c6 hf
        exact J73 x1 x2 y_spots H locs ls hf (lv_sub hl [0, 1, 2] rfl) hP hD hS
      · have hf := g_neg c6 hf
        refine lv_aload_n hx hb dX6_nextWay_52 rfl (lv_at hl 0 rfl) ?_
        refine va_get (D := (dC, dI)) (ci := 6) (v := .ref o_spots) (C := RX6) (T := TX6) (N := 5) hx hb hts hiX6 hown hK hP 0 rfl rfl 1 (by decide) (hts (.fieldLink RX6 15 "GreenJars$Ways" "spots" "[I") (by decide +kernel)) (fun _ h9 => h9) rfl dX6_nextWay_53 ?_
        refine lv_iload_n hx hb dX6_nextWay_56 rfl (lv_at hl 2 rfl) ?_
        obtain ⟨h7, hf⟩ := g_chk hf
        refine va_iald hx hb hK hP 1 0 rfl rfl (gIn_vp h7) dX6_nextWay_57 ?_
        refine lv_aload_n hx hb dX6_nextWay_58 rfl (lv_at hl 0 rfl) ?_
        refine va_get (D := (dC, dI)) (ci := 6) (v := .ref o_spots) (C := RX6) (T := TX6) (N := 5) hx hb hts hiX6 hown hK hP 0 rfl rfl 1 (by decide) (hts (.fieldLink RX6 15 "GreenJars$Ways" "spots" "[I") (by decide +kernel)) (fun _ h9 => h9) rfl dX6_nextWay_59 ?_
        refine lv_iload_n hx hb dX6_nextWay_62 rfl (lv_at hl 1 rfl) ?_
        obtain ⟨h8, hf⟩ := g_chk hf
        refine va_iald hx hb hK hP 1 0 rfl rfl (gIn_vp h8) dX6_nextWay_63 ?_
        refine lv_icmp_ge (tgt := 73) hx hb dX6_nextWay_64 (by decide) (fun c9 => ?_) (fun c9 => ?_)
        · have hf := g_pos c9 hf
          exact J73 x1 x2 y_spots H locs ls hf (lv_sub hl [0, 1, 2] rfl) hP hD hS
        · have hf := g_neg c9 hf
          refine lv_iinc (v := (x2 + (-1 : Int32))) (lv' := [(2, .int (x2 + (-1 : Int32))), (0, .ref o), (1, .int x1)]) hx hb dX6_nextWay_67 hl (k := 2) rfl rfl (by decide) rfl (fun ls hl => ?_)
          refine lv_goto (tgt := 47) hx hb dX6_nextWay_70 (by decide) ?_
          exact ih47 x1 (x2 + (-1 : Int32)) y_spots H locs ls hf (lv_sub hl [1, 2, 0] rfl) hP hD hS
  have J34 : ∀ (x1 : Int32) (y_spots : Nat → Int32) (H : Heap) (locs : List Loc) (ls : Array Slot), x6_nextWay_b34 N v_count x1 y_spots = some (r0, n_spots) → lv_has ls 5 [(0, .ref o), (1, .int x1)] → va_P (dC, dI) vwCl (w_X6_nextWay cI cZ cG o o_movers o_spots v_count v_most v_figures y_spots) H → va_D A (w_X6_nextWay cI cZ cG o o_movers o_spots v_count v_most v_figures y_spots) → va_S A s.heap H locs → W p l e rm_X6_nextWay s m (([Value.ref o] : List Value).toArray) below meth c H locs 0 0 Q (F0 m 34 ls []) := by
    intro x1 y_spots H locs ls hf hl hP hD hS
    unfold x6_nextWay_b34 at hf
    refine lv_iload_n hx hb dX6_nextWay_34 rfl (lv_at hl 1 rfl) ?_
    refine lv_if_ge (tgt := 40) hx hb dX6_nextWay_35 (by decide) (fun c10 => ?_) (fun c10 => ?_)
    · have hf := g_pos c10 hf
      refine lv_aload_n hx hb dX6_nextWay_40 rfl (lv_at hl 0 rfl) ?_
      refine va_get (D := (dC, dI)) (ci := 6) (v := .int v_count) (C := RX6) (T := TX6) (N := 5) hx hb hts hiX6 hown hK hP 0 rfl rfl 2 (by decide) (hts (.fieldLink RX6 18 "GreenJars$Ways" "count" "I") (by decide +kernel)) (fun _ h9 => h9) rfl dX6_nextWay_41 ?_
      refine lv_iconst (v := (1 : Int32)) hx hb dX6_nextWay_44 (by decide) ?_
      refine lv_isub hx hb dX6_nextWay_45 ?_
      refine lv_istore_n (lv' := [(2, .int (v_count - (1 : Int32))), (0, .ref o), (1, .int x1)]) hx hb dX6_nextWay_46 rfl hl (by decide) rfl (fun ls hl => ?_)
      exact L47 N x1 (v_count - (1 : Int32)) y_spots H locs ls hf (lv_sub hl [1, 2, 0] rfl) hP hD hS
    · have hf := g_neg c10 hf
      refine lv_iconst (v := (0 : Int32)) hx hb dX6_nextWay_38 (by decide) ?_
      rw [hQ]
      cases hf
      exact W.zret hx hb hr (by decide +kernel) (fun t ht hW => ⟨⟨_, (), rfl, rfl, by rw [ht]; exact hP, va_K.moved hW.alike hK, hD⟩, hS.F ht⟩) hS.2.2 dX6_nextWay_39
  have L7 : ∀ (n7 : Nat), ∀ (x1 : Int32) (y_spots : Nat → Int32) (H : Heap) (locs : List Loc) (ls : Array Slot), x6_nextWay_b7 N v_count n7 x1 y_spots = some (r0, n_spots) → lv_has ls 5 [(0, .ref o), (1, .int x1)] → va_P (dC, dI) vwCl (w_X6_nextWay cI cZ cG o o_movers o_spots v_count v_most v_figures y_spots) H → va_D A (w_X6_nextWay cI cZ cG o o_movers o_spots v_count v_most v_figures y_spots) → va_S A s.heap H locs → W p l e rm_X6_nextWay s m (([Value.ref o] : List Value).toArray) below meth c H locs 0 0 Q (F0 m 7 ls []) := by
    intro n7
    induction n7 with
    | zero =>
      intro x1 y_spots H locs ls hf hl hP hD hS
      exact g_no hf
    | succ n7 ih7 =>
      intro x1 y_spots H locs ls hf hl hP hD hS
      unfold x6_nextWay_b7 at hf
      refine lv_iload_n hx hb dX6_nextWay_7 rfl (lv_at hl 1 rfl) ?_
      refine lv_if_lt (tgt := 34) hx hb dX6_nextWay_8 (by decide) (fun c11 => ?_) (fun c11 => ?_)
      · have hf := g_pos c11 hf
        exact J34 x1 y_spots H locs ls hf (lv_sub hl [0, 1] rfl) hP hD hS
      · have hf := g_neg c11 hf
        refine lv_aload_n hx hb dX6_nextWay_11 rfl (lv_at hl 0 rfl) ?_
        refine va_get (D := (dC, dI)) (ci := 6) (v := .ref o_spots) (C := RX6) (T := TX6) (N := 5) hx hb hts hiX6 hown hK hP 0 rfl rfl 1 (by decide) (hts (.fieldLink RX6 15 "GreenJars$Ways" "spots" "[I") (by decide +kernel)) (fun _ h9 => h9) rfl dX6_nextWay_12 ?_
        refine lv_iload_n hx hb dX6_nextWay_15 rfl (lv_at hl 1 rfl) ?_
        obtain ⟨h12, hf⟩ := g_chk hf
        refine va_iald hx hb hK hP 1 0 rfl rfl (gIn_vp h12) dX6_nextWay_16 ?_
        refine lv_aload_n hx hb dX6_nextWay_17 rfl (lv_at hl 0 rfl) ?_
        refine va_get (D := (dC, dI)) (ci := 6) (v := .ref o_spots) (C := RX6) (T := TX6) (N := 5) hx hb hts hiX6 hown hK hP 0 rfl rfl 1 (by decide) (hts (.fieldLink RX6 15 "GreenJars$Ways" "spots" "[I") (by decide +kernel)) (fun _ h9 => h9) rfl dX6_nextWay_18 ?_
        refine lv_iload_n hx hb dX6_nextWay_21 rfl (lv_at hl 1 rfl) ?_
        refine lv_iconst (v := (1 : Int32)) hx hb dX6_nextWay_22 (by decide) ?_
        refine lv_iadd hx hb dX6_nextWay_23 ?_
        obtain ⟨h13, hf⟩ := g_chk hf
        refine va_iald hx hb hK hP 1 0 rfl rfl (gIn_vp h13) dX6_nextWay_24 ?_
        refine lv_icmp_le (tgt := 34) hx hb dX6_nextWay_25 (by decide) (fun c14 => ?_) (fun c14 => ?_)
        · have hf := g_pos c14 hf
          exact J34 x1 y_spots H locs ls hf (lv_sub hl [0, 1] rfl) hP hD hS
        · have hf := g_neg c14 hf
          refine lv_iinc (v := (x1 + (-1 : Int32))) (lv' := [(1, .int (x1 + (-1 : Int32))), (0, .ref o)]) hx hb dX6_nextWay_28 hl (k := 1) rfl rfl (by decide) rfl (fun ls hl => ?_)
          refine lv_goto (tgt := 7) hx hb dX6_nextWay_31 (by decide) ?_
          exact ih7 (x1 + (-1 : Int32)) y_spots H locs ls hf (lv_sub hl [1, 0] rfl) hP hD hS
  unfold x6_nextWay at hf
  refine lv_aload_n hx hb dX6_nextWay_0 rfl (lv_at hl 0 rfl) ?_
  refine va_get (D := (dC, dI)) (ci := 6) (v := .int v_count) (C := RX6) (T := TX6) (N := 5) hx hb hts hiX6 hown hK hP 0 rfl rfl 2 (by decide) (hts (.fieldLink RX6 18 "GreenJars$Ways" "count" "I") (by decide +kernel)) (fun _ h9 => h9) rfl dX6_nextWay_1 ?_
  refine lv_iconst (v := (2 : Int32)) hx hb dX6_nextWay_4 (by decide) ?_
  refine lv_isub hx hb dX6_nextWay_5 ?_
  refine lv_istore_n (lv' := [(1, .int (v_count - (2 : Int32))), (0, .ref o)]) hx hb dX6_nextWay_6 rfl hl (by decide) rfl (fun ls hl => ?_)
  exact L7 N (v_count - (2 : Int32)) f_spots H locs ls hf (lv_sub hl [1, 0] rfl) hP hD hS
abbrev rm_X6_search : Room := { frames := 5, cells := 0, slots := 0, locals := 115 }
abbrev w_X6_search (cI cZ cG : ClassId) (o : Nat) (o_movers : Nat) (o_spots : Nat) (q1 : Nat) (q1_cells : Nat) (q1_standing : Nat) (v_count : Int32) (v_most : Int32) (v_figures : Int32) (f_movers : Nat → Int32) (f_spots : Nat → Int32) (v_q1_jars : Int32) (v_q1_weeks : Int32) (f_q1_cells : Nat → Int32) (f_q1_standing : Nat → Int32) : va_W := [(o, .inr (6, [.ref o_movers, .ref o_spots, .int v_count, .int v_most, .int v_figures])), (o_movers, .inl (cI, 6, .inl f_movers)), (o_spots, .inl (cI, 6, .inl f_spots)), (q1, .inr (2, [.ref q1_cells, .ref q1_standing, .int v_q1_jars, .int v_q1_weeks])), (q1_cells, .inl (cI, 48, .inl f_q1_cells)), (q1_standing, .inl (cI, 8, .inl f_q1_standing))]
set_option maxHeartbeats 4000000 in
set_option maxRecDepth 100000 in
theorem c_X6_search (l : Launch) (dC : Nat → ClassId) (dI : Nat → Nat → Nat) (cI cZ cG : ClassId) {N : Nat} (o : Nat) (o_movers : Nat) (o_spots : Nat) (q1 : Nat) (q1_cells : Nat) (q1_standing : Nat) (sz : Nat) (v_count : Int32) (v_most : Int32) (v_figures : Int32) (f_movers : Nat → Int32) (f_spots : Nat → Int32) (v_q1_jars : Int32) (v_q1_weeks : Int32) (f_q1_cells : Nat → Int32) (f_q1_standing : Nat → Int32) {n_count : Int32} {n_most : Int32} {n_figures : Int32} {n_movers : Nat → Int32} {n_spots : Nat → Int32} {n_q1_cells : Nat → Int32} {n_q1_standing : Nat → Int32} (hf : x6_search N v_count v_most v_figures f_movers f_spots v_q1_jars f_q1_cells f_q1_standing = some (n_count, n_most, n_figures, n_movers, n_spots, n_q1_cells, n_q1_standing)) : Met l yX6_search wsX6_search rm_X6_search (va_Pc [.ref o, .ref q1] (gW (dC, dI) vwCl (gT cI cZ cG) (w_X6_search cI cZ cG o o_movers o_spots q1 q1_cells q1_standing v_count v_most v_figures f_movers f_spots v_q1_jars v_q1_weeks f_q1_cells f_q1_standing) sz)) (va_Qv (fun _ => True) (gE (dC, dI) vwCl (gT cI cZ cG) (w_X6_search cI cZ cG o o_movers o_spots q1 q1_cells q1_standing n_count n_most n_figures n_movers n_spots v_q1_jars v_q1_weeks n_q1_cells n_q1_standing) (va_A (w_X6_search cI cZ cG o o_movers o_spots q1 q1_cells q1_standing v_count v_most v_figures f_movers f_spots v_q1_jars v_q1_weeks f_q1_cells f_q1_standing) sz)) (va_A (w_X6_search cI cZ cG o o_movers o_spots q1 q1_cells q1_standing v_count v_most v_figures f_movers f_spots v_q1_jars v_q1_weeks f_q1_cells f_q1_standing) sz)) 0 0 (va_A (w_X6_search cI cZ cG o o_movers o_spots q1 q1_cells q1_standing v_count v_most v_figures f_movers f_spots v_q1_jars v_q1_weeks f_q1_cells f_q1_standing) sz) := by
  refine Met.ofW (cc := cX6_search) (maxL := 5) (ret := none) (by decide) rfl ?_
  intro p e s m args below meth c s₁ B hml hv
  obtain ⟨rfl, hv⟩ := hv
  obtain ⟨hsz, hP, hK, hN, hD0⟩ := hv
  have hx := B.exec
  have hb := B.bytes
  have hr := B.returns
  have hts := atoms_spec (ws := wsX6_search) B.pre
  have hown : s.vm.findClass RX6 = some m.cls := findClass_of_methodNamed B.named
  have hlocks := B.notSynchronized
  have hiX2 : ∀ w ∈ u_ws RX2 TX2 4, w ∈ wsX6_search := fun w h => List.mem_cons_of_mem _ (List.mem_append_right _ h)
  have hiX6 : ∀ w ∈ u_ws RX6 TX6 5, w ∈ wsX6_search := fun w h => List.mem_cons_of_mem _ (List.mem_append_left _ (List.mem_append_right _ h))
  subst hsz
  have hD := hD0.self (sz := s.heap.size)
  generalize hAe : va_A (w_X6_search cI cZ cG o o_movers o_spots q1 q1_cells q1_standing v_count v_most v_figures f_movers f_spots v_q1_jars v_q1_weeks f_q1_cells f_q1_standing) s.heap.size = A at hD ⊢
  have hA : ∀ q : Nat, s.heap.size ≤ q → A q := fun q h => by rw [← hAe]; exact Or.inr h
  clear hD0
  have hS : va_S A s.heap s.heap [] := va_S.rf
  have hP : va_P (dC, dI) vwCl (w_X6_search cI cZ cG o o_movers o_spots q1 q1_cells q1_standing v_count v_most v_figures f_movers f_spots v_q1_jars v_q1_weeks f_q1_cells f_q1_standing) s.heap := hP
  obtain ⟨Q, hQ⟩ : ∃ Q : State → Prop, Q = MQ below (va_Qv (fun _ => True) (gE (dC, dI) vwCl (gT cI cZ cG) (w_X6_search cI cZ cG o o_movers o_spots q1 q1_cells q1_standing n_count n_most n_figures n_movers n_spots v_q1_jars v_q1_weeks n_q1_cells n_q1_standing) A) A) (([Value.ref o, Value.ref q1] : List Value).toArray) s 0 0 A := ⟨_, rfl⟩
  have hl := lv_entry ([.ref o, .ref q1]) (n := 5) (Nat.le_of_ble_eq_true rfl)
  rw [← hQ, lg_entry_eq]
  generalize (lg_sl ([.ref o, .ref q1]) ++ List.replicate (5 - (lg_sl ([.ref o, .ref q1])).length) Slot.unset).toArray = ls at hl ⊢
  have hl : lv_has ls 5 [(0, .ref o), (1, .ref q1)] := hl
  generalize hH : s.heap = H at hP hS ⊢
  have hS : va_S A s.heap H [] := by rw [hH]; exact hS
  generalize hlc : ([] : List Loc) = locs at hS ⊢
  show W p l e rm_X6_search s m (([Value.ref o, Value.ref q1] : List Value).toArray) below meth c H locs 0 0 Q (F0 m 0 ls [])
  have L30 : ∀ (n30 : Nat), ∀ (x2 : Int32) (x3 : Int32) (x4 : Int32) (y_count : Int32) (y_most : Int32) (y_figures : Int32) (y_movers : Nat → Int32) (y_spots : Nat → Int32) (y_q1_cells : Nat → Int32) (y_q1_standing : Nat → Int32) (H : Heap) (locs : List Loc) (ls : Array Slot), x6_search_b30 N v_q1_jars n30 x2 x3 x4 y_count y_most y_figures y_movers y_spots y_q1_cells y_q1_standing = some (n_count, n_most, n_figures, n_movers, n_spots, n_q1_cells, n_q1_standing) → lv_has ls 5 [(0, .ref o), (1, .ref q1), (2, .int x2), (3, .int x3), (4, .int x4)] → va_P (dC, dI) vwCl (w_X6_search cI cZ cG o o_movers o_spots q1 q1_cells q1_standing y_count y_most y_figures y_movers y_spots v_q1_jars v_q1_weeks y_q1_cells y_q1_standing) H → va_D A (w_X6_search cI cZ cG o o_movers o_spots q1 q1_cells q1_standing y_count y_most y_figures y_movers y_spots v_q1_jars v_q1_weeks y_q1_cells y_q1_standing) → va_S A s.heap H locs → W p l e rm_X6_search s m (([Value.ref o, Value.ref q1] : List Value).toArray) below meth c H locs 0 0 Q (F0 m 30 ls []) := by
    intro n30
    induction n30 with
    | zero =>
      intro x2 x3 x4 y_count y_most y_figures y_movers y_spots y_q1_cells y_q1_standing H locs ls hf hl hP hD hS
      exact g_no hf
    | succ n30 ih30 =>
      have J66 : ∀ (x2 : Int32) (x4 : Int32) (y_count : Int32) (y_most : Int32) (y_figures : Int32) (y_movers : Nat → Int32) (y_spots : Nat → Int32) (y_q1_cells : Nat → Int32) (y_q1_standing : Nat → Int32) (H : Heap) (locs : List Loc) (ls : Array Slot), x6_search_b66 N v_q1_jars (x6_search_b30 N v_q1_jars n30) x2 x4 y_count y_most y_figures y_movers y_spots y_q1_cells y_q1_standing = some (n_count, n_most, n_figures, n_movers, n_spots, n_q1_cells, n_q1_standing) → lv_has ls 5 [(0, .ref o), (1, .ref q1), (2, .int x2), (4, .int x4)] → va_P (dC, dI) vwCl (w_X6_search cI cZ cG o o_movers o_spots q1 q1_cells q1_standing y_count y_most y_figures y_movers y_spots v_q1_jars v_q1_weeks y_q1_cells y_q1_standing) H → va_D A (w_X6_search cI cZ cG o o_movers o_spots q1 q1_cells q1_standing y_count y_most y_figures y_movers y_spots v_q1_jars v_q1_weeks y_q1_cells y_q1_standing) → va_S A s.heap H locs → W p l e rm_X6_search s m (([Value.ref o, Value.ref q1] : List Value).toArray) below meth c H locs 0 0 Q (F0 m 66 ls []) := by
        intro x2 x4 y_count y_most y_figures y_movers y_spots y_q1_cells y_q1_standing H locs ls hf hl hP hD hS
        unfold x6_search_b66 at hf
        refine lv_iconst (v := (0 : Int32)) hx hb dX6_search_66 (by decide) ?_
        refine lv_istore_n (lv' := [(3, .int (0 : Int32)), (0, .ref o), (1, .ref q1), (2, .int x2), (4, .int x4)]) hx hb dX6_search_67 rfl hl (by decide) rfl (fun ls hl => ?_)
        refine lv_iinc (v := (x4 + (1 : Int32))) (lv' := [(4, .int (x4 + (1 : Int32))), (3, .int (0 : Int32)), (0, .ref o), (1, .ref q1), (2, .int x2)]) hx hb dX6_search_68 hl (k := 4) rfl rfl (by decide) rfl (fun ls hl => ?_)
        refine lv_goto (tgt := 30) hx hb dX6_search_71 (by decide) ?_
        exact ih30 x2 (0 : Int32) (x4 + (1 : Int32)) y_count y_most y_figures y_movers y_spots y_q1_cells y_q1_standing H locs ls hf (lv_sub hl [2, 3, 4, 1, 0] rfl) hP hD hS
      intro x2 x3 x4 y_count y_most y_figures y_movers y_spots y_q1_cells y_q1_standing H locs ls hf hl hP hD hS
      unfold x6_search_b30 at hf
      refine lv_iload hx hb dX6_search_30 (lv_at hl 4 rfl) ?_
      refine lv_sipush (v := (720 : Int32)) hx hb dX6_search_32 (by decide +kernel) ?_
      refine lv_icmp_ge (tgt := 74) hx hb dX6_search_35 (by decide) (fun c1 => ?_) (fun c1 => ?_)
      · have hf := g_pos c1 hf
        rw [hQ]
        cases hf
        exact W.vret hx hb hr (fun t ht hW => ⟨⟨(), rfl, trivial, by rw [ht]; exact hP, va_K.moved hW.alike hK, hD⟩, hS.F ht⟩) hS.2.2 dX6_search_74
      · have hf := g_neg c1 hf
        refine lv_iload_n hx hb dX6_search_38 rfl (lv_at hl 3 rfl) ?_
        refine lv_if_eq (tgt := 74) hx hb dX6_search_39 (by decide) (fun c2 => ?_) (fun c2 => ?_)
        · have hf := g_pos c2 hf
          rw [hQ]
          cases hf
          exact W.vret hx hb hr (fun t ht hW => ⟨⟨(), rfl, trivial, by rw [ht]; exact hP, va_K.moved hW.alike hK, hD⟩, hS.F ht⟩) hS.2.2 dX6_search_74
        · have hf := g_neg c2 hf
          refine lv_aload_n hx hb dX6_search_42 rfl (lv_at hl 0 rfl) ?_
          refine lv_aload_n hx hb dX6_search_43 rfl (lv_at hl 1 rfl) ?_
          obtain ⟨y3, y4, y5, y6, hc7, hf⟩ := g_b4 hf
          refine g_wVv (As := [.ref q1]) (rest := []) (wr := []) (wn := (w_X6_search cI cZ cG o o_movers o_spots q1 q1_cells q1_standing y_count y3 y4 y_movers y_spots v_q1_jars v_q1_weeks y5 y6)) ⟨hx, hb, hml, hown, hts⟩ (c_X6_consider l dC dI cI cZ cG o o_movers o_spots q1 q1_cells q1_standing H.size  y_count y_most y_figures y_movers y_spots v_q1_jars v_q1_weeks y_q1_cells y_q1_standing hc7) (cwV 1 hts gX6_search_X6_consider rfl rfl rfl (by decide +kernel) ⟨Nat.le_of_ble_eq_true rfl, Nat.le_of_ble_eq_true rfl⟩) hK hN hP hD hS hA [0, 1, 2, 3, 4, 5] [] [0, 1, 2, 3, 4, 5] rfl rfl (by decide) rfl (by decide) (by decide) rfl (by decide) (va_recv hK hP (ci := 6) (q0 := 0) rfl rfl) rfl hl.1 rfl (Nat.le_of_ble_eq_true rfl) dX6_search_44 ⟨Nat.zero_le _, Nat.zero_le _⟩ (fun H locs hP hD hS => ?_)
          refine lv_aload_n hx hb dX6_search_47 rfl (lv_at hl 0 rfl) ?_
          refine va_get (D := (dC, dI)) (ci := 6) (v := .int y3) (C := RX6) (T := TX6) (N := 5) hx hb hts hiX6 hown hK hP 0 rfl rfl 3 (by decide) (hts (.fieldLink RX6 22 "GreenJars$Ways" "most" "I") (by decide +kernel)) (fun _ h9 => h9) rfl dX6_search_48 ?_
          refine lv_iload_n hx hb dX6_search_51 rfl (lv_at hl 2 rfl) ?_
          refine lv_icmp_ge (tgt := 66) hx hb dX6_search_52 (by decide) (fun c8 => ?_) (fun c8 => ?_)
          · have hf := g_pos c8 hf
            exact J66 x2 x4 y_count y3 y4 y_movers y_spots y5 y6 H locs ls hf (lv_sub hl [0, 1, 2, 4] rfl) hP hD hS
          · have hf := g_neg c8 hf
            refine lv_aload_n hx hb dX6_search_55 rfl (lv_at hl 0 rfl) ?_
            obtain ⟨r9, y10, hc11, hf⟩ := g_b2 hf
            refine g_wV (As := []) (rest := []) (wr := [(o_movers, .inl (cI, 6, .inl y_movers)), (q1, .inr (2, [.ref q1_cells, .ref q1_standing, .int v_q1_jars, .int v_q1_weeks])), (q1_cells, .inl (cI, 48, .inl y5)), (q1_standing, .inl (cI, 8, .inl y6))]) (wn := (w_X6_search cI cZ cG o o_movers o_spots q1 q1_cells q1_standing y_count y3 y4 y_movers y10 v_q1_jars v_q1_weeks y5 y6)) ⟨hx, hb, hml, hown, hts⟩ (c_X6_nextWay l dC dI cI cZ cG o o_movers o_spots H.size  y_count y3 y4 y_spots hc11) (cwV 0 hts gX6_search_X6_nextWay rfl rfl rfl (by decide +kernel) ⟨Nat.le_of_ble_eq_true rfl, Nat.le_of_ble_eq_true rfl⟩) hK hN hP hD hS hA [0, 2] [1, 3, 4, 5] [4, 0, 5, 1, 2, 3] rfl rfl (by decide) rfl (by decide) (by decide) rfl (by decide) (va_recv hK hP (ci := 6) (q0 := 0) rfl rfl) rfl hl.1 rfl (Nat.le_of_ble_eq_true rfl) dX6_search_56 ⟨Nat.zero_le _, Nat.zero_le _⟩ (fun H locs hP hD hS => ?_)
            refine lv_if_eq (tgt := 66) hx hb dX6_search_59 (by decide) (fun c12 => ?_) (fun c12 => ?_)
            · have hf := g_pos c12 hf
              exact J66 x2 x4 y_count y3 y4 y_movers y10 y5 y6 H locs ls hf (lv_sub hl [0, 1, 2, 4] rfl) hP hD hS
            · have hf := g_neg c12 hf
              refine lv_iconst (v := (1 : Int32)) hx hb dX6_search_62 (by decide) ?_
              refine lv_goto (tgt := 67) hx hb dX6_search_63 (by decide) ?_
              refine lv_istore_n (lv' := [(3, .int (1 : Int32)), (0, .ref o), (1, .ref q1), (2, .int x2), (4, .int x4)]) hx hb dX6_search_67 rfl hl (by decide) rfl (fun ls hl => ?_)
              refine lv_iinc (v := (x4 + (1 : Int32))) (lv' := [(4, .int (x4 + (1 : Int32))), (3, .int (1 : Int32)), (0, .ref o), (1, .ref q1), (2, .int x2)]) hx hb dX6_search_68 hl (k := 4) rfl rfl (by decide) rfl (fun ls hl => ?_)
              refine lv_goto (tgt := 30) hx hb dX6_search_71 (by decide) ?_
              exact ih30 x2 (1 : Int32) (x4 + (1 : Int32)) y_count y3 y4 y_movers y10 y5 y6 H locs ls hf (lv_sub hl [2, 3, 4, 1, 0] rfl) hP hD hS
  unfold x6_search at hf
  refine lv_aload_n hx hb dX6_search_0 rfl (lv_at hl 0 rfl) ?_
  refine lv_aload_n hx hb dX6_search_1 rfl (lv_at hl 1 rfl) ?_
  obtain ⟨y13, y14, y15, hc16, hf⟩ := g_b3 hf
  refine g_wVv (As := [.ref q1]) (rest := []) (wr := [(q1_standing, .inl (cI, 8, .inl f_q1_standing))]) (wn := (w_X6_search cI cZ cG o o_movers o_spots q1 q1_cells q1_standing y13 v_most v_figures y14 y15 v_q1_jars v_q1_weeks f_q1_cells f_q1_standing)) ⟨hx, hb, hml, hown, hts⟩ (c_X6_gather l dC dI cI cZ cG o o_movers o_spots q1 q1_cells q1_standing H.size  v_count v_most v_figures f_movers f_spots v_q1_jars v_q1_weeks f_q1_cells hc16) (cwV 1 hts gX6_search_X6_gather rfl rfl rfl (by decide +kernel) ⟨Nat.le_of_ble_eq_true rfl, Nat.le_of_ble_eq_true rfl⟩) hK hN hP hD hS hA [0, 1, 2, 3, 4] [5] [1, 2, 3, 4, 5, 0] rfl rfl (by decide) rfl (by decide) (by decide) rfl (by decide) (va_recv hK hP (ci := 6) (q0 := 0) rfl rfl) rfl hl.1 rfl (Nat.le_of_ble_eq_true rfl) dX6_search_2 ⟨Nat.zero_le _, Nat.zero_le _⟩ (fun H locs hP hD hS => ?_)
  refine lv_aload_n hx hb dX6_search_5 rfl (lv_at hl 1 rfl) ?_
  refine lv_iconst (v := (0 : Int32)) hx hb dX6_search_6 (by decide) ?_
  obtain ⟨r17, hc18, hf⟩ := g_b1 hf
  refine g_rV (As := [.int (0 : Int32)]) (rest := []) ⟨hx, hb, hml, hown, hts⟩ (c_X2_countLooking l dC dI cI cZ cG q1 q1_cells q1_standing  v_q1_jars v_q1_weeks f_q1_cells (0 : Int32) hc18) (cwV 1 hts gX6_search_X2_countLooking rfl rfl rfl (by decide +kernel) ⟨Nat.le_of_ble_eq_true rfl, Nat.le_of_ble_eq_true rfl⟩) hK hN (hP.sub [3, 4] rfl) (va_recv hK hP (ci := 2) (q0 := 3) rfl rfl) rfl hl.1 rfl (Nat.le_of_ble_eq_true rfl) dX6_search_7 ⟨Nat.zero_le _, Nat.zero_le _⟩ ?_
  refine lv_aload_n hx hb dX6_search_10 rfl (lv_at hl 1 rfl) ?_
  refine lv_iconst (v := (2 : Int32)) hx hb dX6_search_11 (by decide) ?_
  obtain ⟨r19, hc20, hf⟩ := g_b1 hf
  refine g_rV (As := [.int (2 : Int32)]) (rest := [.int r17]) ⟨hx, hb, hml, hown, hts⟩ (c_X2_countLooking l dC dI cI cZ cG q1 q1_cells q1_standing  v_q1_jars v_q1_weeks f_q1_cells (2 : Int32) hc20) (cwV 1 hts gX6_search_X2_countLooking rfl rfl rfl (by decide +kernel) ⟨Nat.le_of_ble_eq_true rfl, Nat.le_of_ble_eq_true rfl⟩) hK hN (hP.sub [3, 4] rfl) (va_recv hK hP (ci := 2) (q0 := 3) rfl rfl) rfl hl.1 rfl (Nat.le_of_ble_eq_true rfl) dX6_search_12 ⟨Nat.zero_le _, Nat.zero_le _⟩ ?_
  refine va_mmin hx hb (hml.trans hl.1.symm) hown (hts (.methodLink RX6 38 Lib.Math.min.name) (by decide +kernel)) (hts (.static Lib.Math.min.name) (by decide +kernel)) (hts (.initialized "java/lang/Math") (by decide +kernel)) (hts (.code Lib.Math.min.name Lib.Math.min.code 2 (some .int)) (by decide +kernel)) (Nat.le_of_ble_eq_true rfl) (Nat.le_of_ble_eq_true rfl) (Nat.zero_le _) (Nat.zero_le _) dX6_search_15 ?_
  refine lv_istore_n (lv' := [(2, .int (if r19 < r17 then r19 else r17)), (0, .ref o), (1, .ref q1)]) hx hb dX6_search_18 rfl hl (by decide) rfl (fun ls hl => ?_)
  refine lv_aload_n hx hb dX6_search_19 rfl (lv_at hl 1 rfl) ?_
  refine lv_bipush (v := (-9 : Int32)) hx hb dX6_search_20 (by decide +kernel) ?_
  refine va_put (D := (dC, dI)) (ci := 6) (v := .int (-9 : Int32)) (ty := .int) (C := RX6) (T := TX6) (N := 5) hx hb hts hiX6 tyX6 tyX6_ok nmX6 hown hK hP hD hS 0 rfl rfl 3 (by decide) (hts (.fieldLink RX6 22 "GreenJars$Ways" "most" "I") (by decide +kernel)) (fun _ h9 => h9) rfl (by decide +kernel) rfl rfl (Nat.le_of_ble_eq_true rfl) dX6_search_22 (fun H locs hP hD hS => ?_)
  have hP : va_P (dC, dI) vwCl (w_X6_search cI cZ cG o o_movers o_spots q1 q1_cells q1_standing y13 (-9 : Int32) v_figures y14 y15 v_q1_jars v_q1_weeks f_q1_cells f_q1_standing) H := hP
  have hD : va_D A (w_X6_search cI cZ cG o o_movers o_spots q1 q1_cells q1_standing y13 (-9 : Int32) v_figures y14 y15 v_q1_jars v_q1_weeks f_q1_cells f_q1_standing) := hD
  refine lv_iconst (v := (1 : Int32)) hx hb dX6_search_25 (by decide) ?_
  refine lv_istore_n (lv' := [(3, .int (1 : Int32)), (2, .int (if r19 < r17 then r19 else r17)), (0, .ref o), (1, .ref q1)]) hx hb dX6_search_26 rfl hl (by decide) rfl (fun ls hl => ?_)
  refine lv_iconst (v := (0 : Int32)) hx hb dX6_search_27 (by decide) ?_
  refine lv_istore (lv' := [(4, .int (0 : Int32)), (3, .int (1 : Int32)), (2, .int (if r19 < r17 then r19 else r17)), (0, .ref o), (1, .ref q1)]) hx hb dX6_search_28 hl (by decide) rfl (fun ls hl => ?_)
  exact L30 N (if r19 < r17 then r19 else r17) (1 : Int32) (0 : Int32) y13 (-9 : Int32) v_figures y14 y15 f_q1_cells f_q1_standing H locs ls hf (lv_sub hl [3, 4, 2, 1, 0] rfl) hP hD hS
